theorem CA.st {σ : hT} {u : Int → Int} {g : Nat} (hC : CA σ u g) (hw : wf u) {d r x : Int} (hr : isRv u d r) : CA (sI σ 802 (sn d r) 0 (zI x)) (uv u (1940 + 80 * (12 * d + r)) x) g ∧ fO d.toNat σ (sI σ 802 (sn d r) 0 (zI x)) := by
  obtain ⟨d0, d1, r0, r1⟩ := hr
  have h16 := hw.1
  have hD := hw.2.2.2.1 d d0 d1
  have hm := hD.1
  have cD := hC.2.2.2.1 d d0 d1
  have hsn := sn_v d0 r0
  have hO : fO d.toNat σ (sI σ 802 (sn d r) 0 (zI x)) := fO.rf.i (by omega)
  refine ⟨hC.upd hw d0 d1 hO (fun k h1 h2 => uv_n (by omega)) (hC.allR (rO (by decide)) (uv_n (by omega)) (fun e e0 e1 => uv_n (by omega))) ⟨cD.1, ?_, ?_, ?_, fun q q0 q1 => ?_⟩, hO⟩
  · rw [rO (by decide), uv_n (by omega)]; exact cD.2.1
  · rw [rO (by decide), uv_n (by omega)]; exact cD.2.2.1
  · refine cCp.v (v := u) ?_ hD.2.2.1 (fun k k0 k1 => uv_n (by omega))
    exact cD.2.2.2.1
  · rw [uv_n (by omega)] at q1
    have c := cD.2.2.2.2 q q0 q1
    have hsq := sn_v d0 q0
    by_cases e : q = r
    · subst e
      refine ⟨c.1, ?_, ?_, ?_⟩
      · rw [rO (by decide), uv_n (by omega)]; exact c.2.1
      · rw [rS, uv_s]
      · refine ct.v (v := u) ?_ (hD.2.2.2 q q0 q1).2.2.1 (fun k k0 k1 => uv_n (by omega))
        exact c.2.2.2
    · refine cRv.v (v := u) ⟨c.1, ?_, ?_, c.2.2.2⟩ (hD.2.2.2 q q0 q1).2.2.1 (fun k k0 k1 => uv_n (by omega))
      · rw [rO (by decide)]; exact c.2.1
      · rw [rJ (by omega)]; exact c.2.2.1
theorem eV_becomes {σ : hT} {s : zT} {g : Nat} (hS : CaS σ s g) (ho : okS s) (hf : s.2.2.1 = 0) {d r x why : Int} (hd : i32 d) (hr : i32 r) (hx : 0 ≤ x ∧ x ≤ 3) (hy : 0 ≤ why) (hy8 : why ≤ 8) {ok : Prop} (hok : ok ↔ why = 0) (hk : ok → isRv s.1 d r) {n : Nat} (hn : 993 ≤ n) :
    ClsC ok 1 (fun u => uv u (1940 + 80 * (12 * d + r)) x) s g g σ (V_becomes n σ (zI d) (zI r) (zI x) (zI why)) (fun acc => acc) := by
  by_cases h : isRv s.1 d r
  · refine ClsC.mk hf hS ho (fun _ _ _ => rfl) hy hy8 hok (by omega) (by omega) (fun ⟨y12o, σ13⟩ => ex9 y12o σ13 fun y12 => if y12 = 0 then some (some 0, σ13) else lt9 (sI σ13 802 (sn d r) 0 (zI x)) fun σ15 => Option.bind (V_finish n σ15 1) fun ⟨y18, σ19⟩ => some (some 1, σ19)) ?_ (fun σ1 => rfl) (fun σ1 => rfl) ?_
    · unfold V_becomes
      simp (disch := omega) only [l0, l1, l2, l3, l4, l5, l6, l7, l8, l10, l12, l16, l20, l24, l26, l40, l64, l80, l100, l255, l256, l288, l312, l400, l992, l1940, l24980, l25240, xI, xL, xR, zI_neg, zI_add, zI_sub, zI_mul, zI_le, zI_lt, zI_eq, zI_in, zI_nat, Option.bind_some, lt9, hq, Int.add_zero, Int.sub_self, true_or, or_true, true_and, and_true, false_or, or_false, Int.cast_ofNat_Int, ↓reduceIte, ex9, eV_revisionAt hS.1 ho.1 hd hr, if_pos h]
    · intro ha h17 hpl σ1 hC hP h8
      have hu := wf_mv (c := 1) ho.1 (by omega) h17
      have hr1 : isRv (mv s.1 1) d r := by
        obtain ⟨a, b, c, e⟩ := h
        exact ⟨a, by rw [mv_at (by omega) (by omega)]; exact b, c, by rw [mv_at (by omega) (by omega)]; exact e⟩
      obtain ⟨a2, a3⟩ := hC.st (x := x) hu hr1
      have hd0 := h.1
      have hr0 := h.2.2.1
      obtain ⟨σ3, q1, q2, q3, q4, q5⟩ := eV_finish a2 (wf_st hu hr1 hx) (hP.fr a3.p) hpl (by omega) (by rw [uv_n (by omega), mv_17]) (by rw [uv_n (by omega)]; exact uv_s) (by rw [uv_n (by omega), mv_at (by omega) (by omega)]) hn
      refine ⟨σ3, ?_, ⟨q2, q3, q4⟩, a3.f.tr q5.f⟩
      simp (disch := omega) only [l0, l1, l2, l3, l4, l5, l6, l7, l8, l10, l12, l16, l20, l24, l26, l40, l64, l80, l100, l255, l256, l288, l312, l400, l992, l1940, l24980, l25240, xI, xL, xR, zI_neg, zI_add, zI_sub, zI_mul, zI_le, zI_lt, zI_eq, zI_in, zI_nat, Option.bind_some, lt9, hq, Int.add_zero, Int.sub_self, true_or, or_true, true_and, and_true, false_or, or_false, Int.cast_ofNat_Int, ↓reduceIte, ex9, if_pos, if_neg]
      rw [q1]
      rfl
  · refine ClsC.mk hf hS ho (fun _ _ _ => rfl) hy hy8 hok (by omega) (by omega) (fun ⟨y7o, σ8⟩ => ex9 y7o σ8 fun y7 => if y7 = 0 then some (some 0, σ8) else some (some 0, σ8)) ?_ (fun σ1 => rfl) (fun σ1 => rfl) ?_
    · unfold V_becomes
      simp (disch := omega) only [l0, l1, l2, l3, l4, l5, l6, l7, l8, l10, l12, l16, l20, l24, l26, l40, l64, l80, l100, l255, l256, l288, l312, l400, l992, l1940, l24980, l25240, xI, xL, xR, zI_neg, zI_add, zI_sub, zI_mul, zI_le, zI_lt, zI_eq, zI_in, zI_nat, Option.bind_some, lt9, hq, Int.add_zero, Int.sub_self, true_or, or_true, true_and, and_true, false_or, or_false, Int.cast_ofNat_Int, ↓reduceIte, ex9, eV_revisionAt hS.1 ho.1 hd hr, if_neg h]
    · intro ha; exact absurd (hk ha) h
theorem Cm.a01 {ok : Prop} {c : Int} {f : (Int → Int) → Int → Int} {s s' : zT} {th acc : Int} (h : Cm ok c f s th acc s') : (acc = 0 ∨ acc = 1) ∧ (th = 0 ∨ th = 1) := by
  rcases h with ⟨p1, rfl, rfl, rfl⟩ | ⟨p1, p2, rfl, rfl, rfl⟩ | ⟨p1, p2, p3, p4, p5, rfl, rfl, rfl⟩ | ⟨p1, p2, p3, p4, rfl, rfl, rfl⟩ <;> omega
theorem ClsC.wrap {ok : Prop} {c : Int} {f : (Int → Int) → Int → Int} {s : zT} {g gn : Nat} {σ : hT} {V : Option (Option Int32 × hT)} (h : ClsC ok c f s g gn σ V (fun acc => acc)) : ClsC ok c f s g gn σ (Option.bind V fun ⟨y7o, σ8⟩ => ex9 y7o σ8 fun y7 => if y7 = 0 ∨ y7 = 1 then some (some y7, σ8) else none) (fun acc => acc) := by
  obtain ⟨th, acc, s', σ', h1, h2, h3⟩ := h
  refine ⟨th, acc, s', σ', h1, ?_, h3⟩
  rw [h2, Option.bind_some]
  obtain ⟨a, b⟩ := h1.a01
  rcases b with rfl | rfl
  · rw [if_neg (by decide)]
    rcases a with rfl | rfl <;> rfl
  · rw [if_pos rfl]; rfl
theorem eV_checkR {σ : hT} {v : Int → Int} {g : Nat} (hC : CA σ v g) (hw : wf v) {d r p : Int} (hd : i32 d) (hr : i32 r) (hp : i32 p) : ∃ why, V_checkRefusal σ (zI d) (zI r) (zI p) = some (zI why) ∧ 0 ≤ why ∧ why ≤ 8 ∧ (ckOk v d r p ↔ why = 0) := by
  have h16 := hw.1
  have hp' := hp
  obtain ⟨p1, p2⟩ := hp'
  have e2 : V_hasRight σ (zI p) (zI 2) = some (zI (if rts v p / 2 % 2 = 0 then 0 else 1)) := eV_hasRight (m := 2) hC hw hp (and2 (rts_rng hw p))
  unfold V_checkRefusal
  by_cases hR : rts v p / 2 % 2 = 0
  · refine ⟨1, ?_, by omega, by omega, ⟨fun z => absurd hR z.1, fun z => by omega⟩⟩
    rw [if_pos hR] at e2
    by_cases h : 0 ≤ d ∧ d < v 16
    · by_cases h2 : isRv v d r
      · simp (disch := omega) only [l0, l1, l2, l3, l4, l5, l6, l7, l8, l10, l12, l16, l20, l24, l26, l40, l64, l80, l100, l255, l256, l288, l312, l400, l992, l1940, l24980, l25240, xI, xL, xR, zI_neg, zI_add, zI_sub, zI_mul, zI_le, zI_lt, zI_eq, zI_in, zI_nat, Option.bind_some, lt9, hq, Int.add_zero, Int.sub_self, true_or, or_true, true_and, and_true, false_or, or_false, Int.cast_ofNat_Int, ↓reduceIte, eV_drawingAt hC hw hd, if_pos h, eV_revisionAt hC hw hd hr, if_pos h2, e2, if_pos, if_neg]
      · simp (disch := omega) only [l0, l1, l2, l3, l4, l5, l6, l7, l8, l10, l12, l16, l20, l24, l26, l40, l64, l80, l100, l255, l256, l288, l312, l400, l992, l1940, l24980, l25240, xI, xL, xR, zI_neg, zI_add, zI_sub, zI_mul, zI_le, zI_lt, zI_eq, zI_in, zI_nat, Option.bind_some, lt9, hq, Int.add_zero, Int.sub_self, true_or, or_true, true_and, and_true, false_or, or_false, Int.cast_ofNat_Int, ↓reduceIte, eV_drawingAt hC hw hd, if_pos h, eV_revisionAt hC hw hd hr, if_neg h2, e2, if_pos, if_neg]
    · have h2 : ¬ isRv v d r := fun z => h ⟨z.1, z.2.1⟩
      simp (disch := omega) only [l0, l1, l2, l3, l4, l5, l6, l7, l8, l10, l12, l16, l20, l24, l26, l40, l64, l80, l100, l255, l256, l288, l312, l400, l992, l1940, l24980, l25240, xI, xL, xR, zI_neg, zI_add, zI_sub, zI_mul, zI_le, zI_lt, zI_eq, zI_in, zI_nat, Option.bind_some, lt9, hq, Int.add_zero, Int.sub_self, true_or, or_true, true_and, and_true, false_or, or_false, Int.cast_ofNat_Int, ↓reduceIte, eV_drawingAt hC hw hd, if_neg h, eV_revisionAt hC hw hd hr, if_neg h2, e2, if_pos, if_neg]
  · rw [if_neg hR] at e2
    by_cases h2 : isRv v d r
    · have h : 0 ≤ d ∧ d < v 16 := ⟨h2.1, h2.2.1⟩
      have hD := hw.2.2.2.1 d h.1 h.2
      have hm := hD.1
      have hb := hD.2.1
      have hS := hD.2.2.2 r h2.2.2.1 h2.2.2.2
      have hs1 := hS.1
      have hs2 := hS.2.1
      have h23 := h2.2.2.1
      have h24 := h2.2.2.2
      have cD := hC.2.2.2.1 d h.1 h.2
      have cR := cD.2.2.2.2 r h2.2.2.1 h2.2.2.2
      have en := eD_newest hC h.1 h.2
      refine ⟨if v (20 + 80 * d + 1) - 1 = -1 then (if v (1940 + 80 * (12 * d + r)) = 0 then (if r = v (20 + 80 * d) - 1 then (if v (1940 + 80 * (12 * d + r) + 1) = p then 3 else 0) else 2) else 2) else 2, ?_, ?_, ?_, ?_⟩
      · simp (disch := omega) only [l0, l1, l2, l3, l4, l5, l6, l7, l8, l10, l12, l16, l20, l24, l26, l40, l64, l80, l100, l255, l256, l288, l312, l400, l992, l1940, l24980, l25240, xI, xL, xR, zI_neg, zI_add, zI_sub, zI_mul, zI_le, zI_lt, zI_eq, zI_in, zI_nat, Option.bind_some, lt9, hq, Int.add_zero, Int.sub_self, true_or, or_true, true_and, and_true, false_or, or_false, Int.cast_ofNat_Int, ↓reduceIte, eV_drawingAt hC hw hd, if_pos h, eV_revisionAt hC hw hd hr, if_pos h2, e2, cD.2.2.1, cR.2.1, cR.2.2.1, en]
        repeat' split
        all_goals first | rfl | (exfalso; omega)
      · repeat' split
        all_goals omega
      · repeat' split
        all_goals omega
      · unfold ckOk
        constructor
        · rintro ⟨a1, a2, a3, a4, a5, a6⟩
          rw [if_pos (by omega), if_pos a3, if_pos a4, if_neg a6]
        · intro z
          split at z
          · split at z
            · split at z
              · split at z
                · omega
                · rename_i b1 b2 b3 b4
                  exact ⟨hR, h2, b2, b3, by omega, b4⟩
              · omega
            · omega
          · omega
    · refine ⟨if 0 ≤ d ∧ d < v 16 then (if v (20 + 80 * d + 1) - 1 = -1 then 7 else 2) else 7, ?_, ?_, ?_, ⟨fun z => absurd z.2.1 h2, fun z => ?_⟩⟩
      · by_cases h : 0 ≤ d ∧ d < v 16
        · have hb := (hw.2.2.2.1 d h.1 h.2).2.1
          have cD := hC.2.2.2.1 d h.1 h.2
          simp (disch := omega) only [l0, l1, l2, l3, l4, l5, l6, l7, l8, l10, l12, l16, l20, l24, l26, l40, l64, l80, l100, l255, l256, l288, l312, l400, l992, l1940, l24980, l25240, xI, xL, xR, zI_neg, zI_add, zI_sub, zI_mul, zI_le, zI_lt, zI_eq, zI_in, zI_nat, Option.bind_some, lt9, hq, Int.add_zero, Int.sub_self, true_or, or_true, true_and, and_true, false_or, or_false, Int.cast_ofNat_Int, ↓reduceIte, eV_drawingAt hC hw hd, if_pos h, eV_revisionAt hC hw hd hr, if_neg h2, e2, cD.2.2.1]
          repeat' split
          all_goals first | rfl | (exfalso; omega)
        · simp (disch := omega) only [l0, l1, l2, l3, l4, l5, l6, l7, l8, l10, l12, l16, l20, l24, l26, l40, l64, l80, l100, l255, l256, l288, l312, l400, l992, l1940, l24980, l25240, xI, xL, xR, zI_neg, zI_add, zI_sub, zI_mul, zI_le, zI_lt, zI_eq, zI_in, zI_nat, Option.bind_some, lt9, hq, Int.add_zero, Int.sub_self, true_or, or_true, true_and, and_true, false_or, or_false, Int.cast_ofNat_Int, ↓reduceIte, eV_drawingAt hC hw hd, if_neg h, eV_revisionAt hC hw hd hr, if_neg h2, e2, if_pos, if_neg]
      · repeat' split
        all_goals omega
      · repeat' split
        all_goals omega
      · repeat' split at z
        all_goals omega
theorem eV_releaseR {σ : hT} {v : Int → Int} {g : Nat} (hC : CA σ v g) (hw : wf v) {d r p : Int} (hd : i32 d) (hr : i32 r) (hp : i32 p) {n : Nat} (hn : 13 ≤ n) : ∃ why, V_releaseRefusal n σ (zI d) (zI r) (zI p) = some (zI why) ∧ 0 ≤ why ∧ why ≤ 8 ∧ (rlOk v d r p ↔ why = 0) := by
  have h16 := hw.1
  have e2 : V_hasRight σ (zI p) (zI 4) = some (zI (if rts v p / 4 % 2 = 0 then 0 else 1)) := eV_hasRight (m := 4) hC hw hp (and4 (rts_rng hw p))
  unfold V_releaseRefusal
  by_cases hR : rts v p / 4 % 2 = 0
  · refine ⟨1, ?_, by omega, by omega, ⟨fun z => absurd hR z.1, fun z => by omega⟩⟩
    rw [if_pos hR] at e2
    by_cases h2 : isRv v d r
    · simp (disch := omega) only [l0, l1, l2, l3, l4, l5, l6, l7, l8, l10, l12, l16, l20, l24, l26, l40, l64, l80, l100, l255, l256, l288, l312, l400, l992, l1940, l24980, l25240, xI, xL, xR, zI_neg, zI_add, zI_sub, zI_mul, zI_le, zI_lt, zI_eq, zI_in, zI_nat, Option.bind_some, lt9, hq, Int.add_zero, Int.sub_self, true_or, or_true, true_and, and_true, false_or, or_false, Int.cast_ofNat_Int, ↓reduceIte, eV_revisionAt hC hw hd hr, if_pos h2, e2, if_pos, if_neg]
    · simp (disch := omega) only [l0, l1, l2, l3, l4, l5, l6, l7, l8, l10, l12, l16, l20, l24, l26, l40, l64, l80, l100, l255, l256, l288, l312, l400, l992, l1940, l24980, l25240, xI, xL, xR, zI_neg, zI_add, zI_sub, zI_mul, zI_le, zI_lt, zI_eq, zI_in, zI_nat, Option.bind_some, lt9, hq, Int.add_zero, Int.sub_self, true_or, or_true, true_and, and_true, false_or, or_false, Int.cast_ofNat_Int, ↓reduceIte, eV_revisionAt hC hw hd hr, if_neg h2, e2, if_pos, if_neg]
  · rw [if_neg hR] at e2
    by_cases h2 : isRv v d r
    · have hD := hw.2.2.2.1 d h2.1 h2.2.1
      have hS := hD.2.2.2 r h2.2.2.1 h2.2.2.2
      have hs1 := hS.1
      have cR := (hC.2.2.2.1 d h2.1 h2.2.1).2.2.2.2 r h2.2.2.1 h2.2.2.2
      by_cases e : v (1940 + 80 * (12 * d + r)) = 1
      · obtain ⟨y, q1, q2, q3⟩ := eV_allRes hC hw hS.2.2.1 hS.2.2.2 cR.2.2.2 hn
        rcases q2 with rfl | rfl
        · refine ⟨4, ?_, by omega, by omega, ⟨fun z => absurd (q3.mp rfl) z.2.2.2, fun z => by omega⟩⟩
          simp (disch := omega) only [l0, l1, l2, l3, l4, l5, l6, l7, l8, l10, l12, l16, l20, l24, l26, l40, l64, l80, l100, l255, l256, l288, l312, l400, l992, l1940, l24980, l25240, xI, xL, xR, zI_neg, zI_add, zI_sub, zI_mul, zI_le, zI_lt, zI_eq, zI_in, zI_nat, Option.bind_some, lt9, hq, Int.add_zero, Int.sub_self, true_or, or_true, true_and, and_true, false_or, or_false, Int.cast_ofNat_Int, ↓reduceIte, eV_revisionAt hC hw hd hr, if_pos h2, e2, cR.2.2.1, q1, if_pos, if_neg]
        · refine ⟨0, ?_, by omega, by omega, ⟨fun _ => rfl, fun _ => ⟨hR, h2, e, fun z => absurd (q3.mpr z) (by decide)⟩⟩⟩
          simp (disch := omega) only [l0, l1, l2, l3, l4, l5, l6, l7, l8, l10, l12, l16, l20, l24, l26, l40, l64, l80, l100, l255, l256, l288, l312, l400, l992, l1940, l24980, l25240, xI, xL, xR, zI_neg, zI_add, zI_sub, zI_mul, zI_le, zI_lt, zI_eq, zI_in, zI_nat, Option.bind_some, lt9, hq, Int.add_zero, Int.sub_self, true_or, or_true, true_and, and_true, false_or, or_false, Int.cast_ofNat_Int, ↓reduceIte, eV_revisionAt hC hw hd hr, if_pos h2, e2, cR.2.2.1, q1, if_pos, if_neg]
      · refine ⟨2, ?_, by omega, by omega, ⟨fun z => absurd z.2.2.1 e, fun z => by omega⟩⟩
        simp (disch := omega) only [l0, l1, l2, l3, l4, l5, l6, l7, l8, l10, l12, l16, l20, l24, l26, l40, l64, l80, l100, l255, l256, l288, l312, l400, l992, l1940, l24980, l25240, xI, xL, xR, zI_neg, zI_add, zI_sub, zI_mul, zI_le, zI_lt, zI_eq, zI_in, zI_nat, Option.bind_some, lt9, hq, Int.add_zero, Int.sub_self, true_or, or_true, true_and, and_true, false_or, or_false, Int.cast_ofNat_Int, ↓reduceIte, eV_revisionAt hC hw hd hr, if_pos h2, e2, cR.2.2.1, if_pos, if_neg]
    · refine ⟨7, ?_, by omega, by omega, ⟨fun z => absurd z.2.1 h2, fun z => by omega⟩⟩
      simp (disch := omega) only [l0, l1, l2, l3, l4, l5, l6, l7, l8, l10, l12, l16, l20, l24, l26, l40, l64, l80, l100, l255, l256, l288, l312, l400, l992, l1940, l24980, l25240, xI, xL, xR, zI_neg, zI_add, zI_sub, zI_mul, zI_le, zI_lt, zI_eq, zI_in, zI_nat, Option.bind_some, lt9, hq, Int.add_zero, Int.sub_self, true_or, or_true, true_and, and_true, false_or, or_false, Int.cast_ofNat_Int, ↓reduceIte, eV_revisionAt hC hw hd hr, if_neg h2, e2, if_pos, if_neg]
theorem eV_withdrawR {σ : hT} {v : Int → Int} {g : Nat} (hC : CA σ v g) (hw : wf v) {d r p : Int} (hd : i32 d) (hr : i32 r) (hp : i32 p) {n : Nat} (hn : 25 ≤ n) : ∃ why, V_withdrawRefusal n σ (zI d) (zI r) (zI p) = some (zI why) ∧ 0 ≤ why ∧ why ≤ 8 ∧ (wdOk v d r p ↔ why = 0) := by
  have h16 := hw.1
  have e2 : V_hasRight σ (zI p) (zI 4) = some (zI (if rts v p / 4 % 2 = 0 then 0 else 1)) := eV_hasRight (m := 4) hC hw hp (and4 (rts_rng hw p))
  unfold V_withdrawRefusal
  by_cases hR : rts v p / 4 % 2 = 0
  · refine ⟨1, ?_, by omega, by omega, ⟨fun z => absurd hR z.1, fun z => by omega⟩⟩
    rw [if_pos hR] at e2
    by_cases h2 : isRv v d r
    · simp (disch := omega) only [l0, l1, l2, l3, l4, l5, l6, l7, l8, l10, l12, l16, l20, l24, l26, l40, l64, l80, l100, l255, l256, l288, l312, l400, l992, l1940, l24980, l25240, xI, xL, xR, zI_neg, zI_add, zI_sub, zI_mul, zI_le, zI_lt, zI_eq, zI_in, zI_nat, Option.bind_some, lt9, hq, Int.add_zero, Int.sub_self, true_or, or_true, true_and, and_true, false_or, or_false, Int.cast_ofNat_Int, ↓reduceIte, eV_revisionAt hC hw hd hr, if_pos h2, e2, if_pos, if_neg]
    · simp (disch := omega) only [l0, l1, l2, l3, l4, l5, l6, l7, l8, l10, l12, l16, l20, l24, l26, l40, l64, l80, l100, l255, l256, l288, l312, l400, l992, l1940, l24980, l25240, xI, xL, xR, zI_neg, zI_add, zI_sub, zI_mul, zI_le, zI_lt, zI_eq, zI_in, zI_nat, Option.bind_some, lt9, hq, Int.add_zero, Int.sub_self, true_or, or_true, true_and, and_true, false_or, or_false, Int.cast_ofNat_Int, ↓reduceIte, eV_revisionAt hC hw hd hr, if_neg h2, e2, if_pos, if_neg]
  · rw [if_neg hR] at e2
    by_cases h2 : isRv v d r
    · have hD := hw.2.2.2.1 d h2.1 h2.2.1
      have hS := hD.2.2.2 r h2.2.2.1 h2.2.2.2
      have hs1 := hS.1
      have hd1 := h2.2.1
      have cR := (hC.2.2.2.1 d h2.1 h2.2.1).2.2.2.2 r h2.2.2.1 h2.2.2.2
      by_cases e : v (1940 + 80 * (12 * d + r)) = 3
      · refine ⟨2, ?_, by omega, by omega, ⟨fun z => absurd e z.2.2.1, fun z => by omega⟩⟩
        simp (disch := omega) only [l0, l1, l2, l3, l4, l5, l6, l7, l8, l10, l12, l16, l20, l24, l26, l40, l64, l80, l100, l255, l256, l288, l312, l400, l992, l1940, l24980, l25240, xI, xL, xR, zI_neg, zI_add, zI_sub, zI_mul, zI_le, zI_lt, zI_eq, zI_in, zI_nat, Option.bind_some, lt9, hq, Int.add_zero, Int.sub_self, true_or, or_true, true_and, and_true, false_or, or_false, Int.cast_ofNat_Int, ↓reduceIte, eV_revisionAt hC hw hd hr, if_pos h2, e2, cR.2.2.1, if_pos, if_neg]
      · obtain ⟨y, q1, q2, q3⟩ := eV_isInABaseline hC hw h2.1 (show d < 24 by omega) hr (show 11 ≤ n by omega)
        obtain ⟨z, r1, r2, r3⟩ := eV_isFixedBy hC hw hd hr hn
        rcases q2 with rfl | rfl
        · rcases r2 with rfl | rfl
          · refine ⟨0, ?_, by omega, by omega, ⟨fun _ => rfl, fun _ => ⟨hR, h2, e, fun z => z.elim (fun z => absurd (q3.mpr z) (by decide)) (fun z => absurd (r3.mpr z) (by decide))⟩⟩⟩
            simp (disch := omega) only [l0, l1, l2, l3, l4, l5, l6, l7, l8, l10, l12, l16, l20, l24, l26, l40, l64, l80, l100, l255, l256, l288, l312, l400, l992, l1940, l24980, l25240, xI, xL, xR, zI_neg, zI_add, zI_sub, zI_mul, zI_le, zI_lt, zI_eq, zI_in, zI_nat, Option.bind_some, lt9, hq, Int.add_zero, Int.sub_self, true_or, or_true, true_and, and_true, false_or, or_false, Int.cast_ofNat_Int, ↓reduceIte, eV_revisionAt hC hw hd hr, if_pos h2, e2, cR.2.2.1, q1, r1, if_pos, if_neg]
          · refine ⟨5, ?_, by omega, by omega, ⟨fun z => absurd (Or.inr (r3.mp rfl)) z.2.2.2, fun z => by omega⟩⟩
            simp (disch := omega) only [l0, l1, l2, l3, l4, l5, l6, l7, l8, l10, l12, l16, l20, l24, l26, l40, l64, l80, l100, l255, l256, l288, l312, l400, l992, l1940, l24980, l25240, xI, xL, xR, zI_neg, zI_add, zI_sub, zI_mul, zI_le, zI_lt, zI_eq, zI_in, zI_nat, Option.bind_some, lt9, hq, Int.add_zero, Int.sub_self, true_or, or_true, true_and, and_true, false_or, or_false, Int.cast_ofNat_Int, ↓reduceIte, eV_revisionAt hC hw hd hr, if_pos h2, e2, cR.2.2.1, q1, r1, if_pos, if_neg]
        · refine ⟨5, ?_, by omega, by omega, ⟨fun z => absurd (Or.inl (q3.mp rfl)) z.2.2.2, fun z => by omega⟩⟩
          simp (disch := omega) only [l0, l1, l2, l3, l4, l5, l6, l7, l8, l10, l12, l16, l20, l24, l26, l40, l64, l80, l100, l255, l256, l288, l312, l400, l992, l1940, l24980, l25240, xI, xL, xR, zI_neg, zI_add, zI_sub, zI_mul, zI_le, zI_lt, zI_eq, zI_in, zI_nat, Option.bind_some, lt9, hq, Int.add_zero, Int.sub_self, true_or, or_true, true_and, and_true, false_or, or_false, Int.cast_ofNat_Int, ↓reduceIte, eV_revisionAt hC hw hd hr, if_pos h2, e2, cR.2.2.1, q1, if_pos, if_neg]
    · refine ⟨7, ?_, by omega, by omega, ⟨fun z => absurd z.2.1 h2, fun z => by omega⟩⟩
      simp (disch := omega) only [l0, l1, l2, l3, l4, l5, l6, l7, l8, l10, l12, l16, l20, l24, l26, l40, l64, l80, l100, l255, l256, l288, l312, l400, l992, l1940, l24980, l25240, xI, xL, xR, zI_neg, zI_add, zI_sub, zI_mul, zI_le, zI_lt, zI_eq, zI_in, zI_nat, Option.bind_some, lt9, hq, Int.add_zero, Int.sub_self, true_or, or_true, true_and, and_true, false_or, or_false, Int.cast_ofNat_Int, ↓reduceIte, eV_revisionAt hC hw hd hr, if_neg h2, e2, if_pos, if_neg]
theorem eV_check {σ : hT} {s : zT} {g : Nat} (hS : CaS σ s g) (ho : okS s) {d r p : Int} (hd : i32 d) (hr : i32 r) (hp : i32 p) {n : Nat} (hn : 993 ≤ n) :
    ClsC (ckOk s.1 d r p) 1 (fun u => uv u (1940 + 80 * (12 * d + r)) 1) s g g σ (V_check n σ (zI d) (zI r) (zI p)) (fun acc => acc) := by
  have hpw := hS.2.2.2.2.2.1
  rcases ho.2.1 with hf | hf
  · rw [hf] at hpw
    obtain ⟨why, q1, q2, q3, q4⟩ := eV_checkR hS.1 ho.1 hd hr hp
    have := (eV_becomes hS ho hf (x := 1) hd hr (by omega) q2 q3 q4 (fun z => z.2.1) hn).wrap
    unfold V_check
    rw [nP0 hpw, Option.bind_some]
    show ClsC _ _ _ _ _ _ _ (Option.bind (V_checkRefusal σ (zI d) (zI r) (zI p)) _) _
    rw [q1]
    exact this
  · rw [hf] at hpw
    exact ClsC.off hf hS (by unfold V_check; rw [nP1 hpw]; rfl)
theorem eV_release {σ : hT} {s : zT} {g : Nat} (hS : CaS σ s g) (ho : okS s) {d r p : Int} (hd : i32 d) (hr : i32 r) (hp : i32 p) {n : Nat} (hn : 993 ≤ n) :
    ClsC (rlOk s.1 d r p) 1 (fun u => uv u (1940 + 80 * (12 * d + r)) 2) s g g σ (V_release n σ (zI d) (zI r) (zI p)) (fun acc => acc) := by
  have hpw := hS.2.2.2.2.2.1
  rcases ho.2.1 with hf | hf
  · rw [hf] at hpw
    obtain ⟨why, q1, q2, q3, q4⟩ := eV_releaseR hS.1 ho.1 hd hr hp (show 13 ≤ n by omega)
    have := (eV_becomes hS ho hf (x := 2) hd hr (by omega) q2 q3 q4 (fun z => z.2.1) hn).wrap
    unfold V_release
    rw [nP0 hpw, Option.bind_some]
    show ClsC _ _ _ _ _ _ _ (Option.bind (V_releaseRefusal n σ (zI d) (zI r) (zI p)) _) _
    rw [q1]
    exact this
  · rw [hf] at hpw
    exact ClsC.off hf hS (by unfold V_release; rw [nP1 hpw]; rfl)
theorem eV_withdraw {σ : hT} {s : zT} {g : Nat} (hS : CaS σ s g) (ho : okS s) {d r p : Int} (hd : i32 d) (hr : i32 r) (hp : i32 p) {n : Nat} (hn : 993 ≤ n) :
    ClsC (wdOk s.1 d r p) 1 (fun u => uv u (1940 + 80 * (12 * d + r)) 3) s g g σ (V_withdraw n σ (zI d) (zI r) (zI p)) (fun acc => acc) := by
  have hpw := hS.2.2.2.2.2.1
  rcases ho.2.1 with hf | hf
  · rw [hf] at hpw
    obtain ⟨why, q1, q2, q3, q4⟩ := eV_withdrawR hS.1 ho.1 hd hr hp (show 25 ≤ n by omega)
    have := (eV_becomes hS ho hf (x := 3) hd hr (by omega) q2 q3 q4 (fun z => z.2.1) hn).wrap
    unfold V_withdraw
    rw [nP0 hpw, Option.bind_some]
    show ClsC _ _ _ _ _ _ _ (Option.bind (V_withdrawRefusal n σ (zI d) (zI r) (zI p)) _) _
    rw [q1]
    exact this
  · rw [hf] at hpw
    exact ClsC.off hf hS (by unfold V_withdraw; rw [nP1 hpw]; rfl)
