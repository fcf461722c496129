theorem eV_right7 {σ : hT} {v : Int → Int} {g : Nat} (hC : CA σ v g) (hw : wf v) {p : Int} (hp : i32 p) : V_hasRight σ (zI p) (zI 7) = some (zI (if rts v p = 0 then 0 else 1)) := eV_hasRight (m := 7) hC hw hp (i32_and7 (rts_rng hw p))
theorem eV_outN {σ : hT} {v : Int → Int} {g : Nat} (hC : CA σ v g) (hw : wf v) {p : Int} (hp : i32 p) : V_outRefusal σ none (zI p) = some (zI (if rts v p = 0 then 1 else 7)) := by
  unfold V_outRefusal
  by_cases h : rts v p = 0
  · simp (disch := omega) only [l0, l1, l2, l3, l4, l5, l6, l7, l8, l10, l12, l16, l20, l24, l26, l40, l64, l80, l100, l255, l256, l288, l312, l400, l992, l1940, l24980, l25240, xI, xL, xR, zI_neg, zI_add, zI_sub, zI_mul, zI_le, zI_lt, zI_eq, zI_in, zI_nat, Option.bind_some, lt9, hq, Int.add_zero, Int.sub_self, true_or, or_true, true_and, and_true, false_or, or_false, Int.cast_ofNat_Int, ↓reduceIte, eV_right7 hC hw hp, if_pos h, if_pos, if_neg]
  · simp (disch := omega) only [l0, l1, l2, l3, l4, l5, l6, l7, l8, l10, l12, l16, l20, l24, l26, l40, l64, l80, l100, l255, l256, l288, l312, l400, l992, l1940, l24980, l25240, xI, xL, xR, zI_neg, zI_add, zI_sub, zI_mul, zI_le, zI_lt, zI_eq, zI_in, zI_nat, Option.bind_some, lt9, hq, Int.add_zero, Int.sub_self, true_or, or_true, true_and, and_true, false_or, or_false, Int.cast_ofNat_Int, ↓reduceIte, eV_right7 hC hw hp, if_neg h, if_pos, if_neg]
theorem eV_outS {σ : hT} {v : Int → Int} {g : Nat} (hC : CA σ v g) (hw : wf v) {d p : Int} (hp : i32 p) (d0 : 0 ≤ d) (d1 : d < v 16) : V_outRefusal σ (some d.toNat) (zI p) = some (zI (if rts v p = 0 then 1 else if v (20 + 80 * d + 1) - 1 < 0 then 0 else 2)) := by
  have hb := (hw.2.2.2.1 d d0 d1).2.1
  have c2 := (hC.2.2.2.1 d d0 d1).2.2.1
  unfold V_outRefusal
  by_cases h : rts v p = 0
  · simp (disch := omega) only [l0, l1, l2, l3, l4, l5, l6, l7, l8, l10, l12, l16, l20, l24, l26, l40, l64, l80, l100, l255, l256, l288, l312, l400, l992, l1940, l24980, l25240, xI, xL, xR, zI_neg, zI_add, zI_sub, zI_mul, zI_le, zI_lt, zI_eq, zI_in, zI_nat, Option.bind_some, lt9, hq, Int.add_zero, Int.sub_self, true_or, or_true, true_and, and_true, false_or, or_false, Int.cast_ofNat_Int, ↓reduceIte, eV_right7 hC hw hp, if_pos h, if_pos, if_neg]
  · by_cases h2 : v (20 + 80 * d + 1) - 1 < 0
    · simp (disch := omega) only [l0, l1, l2, l3, l4, l5, l6, l7, l8, l10, l12, l16, l20, l24, l26, l40, l64, l80, l100, l255, l256, l288, l312, l400, l992, l1940, l24980, l25240, xI, xL, xR, zI_neg, zI_add, zI_sub, zI_mul, zI_le, zI_lt, zI_eq, zI_in, zI_nat, Option.bind_some, lt9, hq, Int.add_zero, Int.sub_self, true_or, or_true, true_and, and_true, false_or, or_false, Int.cast_ofNat_Int, ↓reduceIte, eV_right7 hC hw hp, if_neg h, c2, if_pos, if_neg]
    · simp (disch := omega) only [l0, l1, l2, l3, l4, l5, l6, l7, l8, l10, l12, l16, l20, l24, l26, l40, l64, l80, l100, l255, l256, l288, l312, l400, l992, l1940, l24980, l25240, xI, xL, xR, zI_neg, zI_add, zI_sub, zI_mul, zI_le, zI_lt, zI_eq, zI_in, zI_nat, Option.bind_some, lt9, hq, Int.add_zero, Int.sub_self, true_or, or_true, true_and, and_true, false_or, or_false, Int.cast_ofNat_Int, ↓reduceIte, eV_right7 hC hw hp, if_neg h, c2, if_pos, if_neg]
theorem eV_copyN {σ : hT} {v : Int → Int} {g : Nat} (hC : CA σ v g) (hw : wf v) {p : Int} (hp : i32 p) : V_copyRefusal σ none (zI p) = some (zI (if rts v p = 0 then 1 else 7)) := by
  unfold V_copyRefusal
  by_cases h : rts v p = 0
  · simp (disch := omega) only [l0, l1, l2, l3, l4, l5, l6, l7, l8, l10, l12, l16, l20, l24, l26, l40, l64, l80, l100, l255, l256, l288, l312, l400, l992, l1940, l24980, l25240, xI, xL, xR, zI_neg, zI_add, zI_sub, zI_mul, zI_le, zI_lt, zI_eq, zI_in, zI_nat, Option.bind_some, lt9, hq, Int.add_zero, Int.sub_self, true_or, or_true, true_and, and_true, false_or, or_false, Int.cast_ofNat_Int, ↓reduceIte, eV_right7 hC hw hp, if_pos h, if_pos, if_neg]
  · simp (disch := omega) only [l0, l1, l2, l3, l4, l5, l6, l7, l8, l10, l12, l16, l20, l24, l26, l40, l64, l80, l100, l255, l256, l288, l312, l400, l992, l1940, l24980, l25240, xI, xL, xR, zI_neg, zI_add, zI_sub, zI_mul, zI_le, zI_lt, zI_eq, zI_in, zI_nat, Option.bind_some, lt9, hq, Int.add_zero, Int.sub_self, true_or, or_true, true_and, and_true, false_or, or_false, Int.cast_ofNat_Int, ↓reduceIte, eV_right7 hC hw hp, if_neg h, if_pos, if_neg]
theorem eV_copyS {σ : hT} {v : Int → Int} {g : Nat} (hC : CA σ v g) (hw : wf v) {d p : Int} (hp : i32 p) (d0 : 0 ≤ d) (d1 : d < v 16) : V_copyRefusal σ (some d.toNat) (zI p) = some (zI (if rts v p = 0 then 1 else if v (20 + 80 * d + 1) - 1 = p then 0 else 2)) := by
  have hp' := hp
  obtain ⟨p1, p2⟩ := hp'
  have hb := (hw.2.2.2.1 d d0 d1).2.1
  have c2 := (hC.2.2.2.1 d d0 d1).2.2.1
  unfold V_copyRefusal
  by_cases h : rts v p = 0
  · simp (disch := omega) only [l0, l1, l2, l3, l4, l5, l6, l7, l8, l10, l12, l16, l20, l24, l26, l40, l64, l80, l100, l255, l256, l288, l312, l400, l992, l1940, l24980, l25240, xI, xL, xR, zI_neg, zI_add, zI_sub, zI_mul, zI_le, zI_lt, zI_eq, zI_in, zI_nat, Option.bind_some, lt9, hq, Int.add_zero, Int.sub_self, true_or, or_true, true_and, and_true, false_or, or_false, Int.cast_ofNat_Int, ↓reduceIte, eV_right7 hC hw hp, if_pos h, if_pos, if_neg]
  · by_cases h2 : v (20 + 80 * d + 1) - 1 = p
    · simp (disch := omega) only [l0, l1, l2, l3, l4, l5, l6, l7, l8, l10, l12, l16, l20, l24, l26, l40, l64, l80, l100, l255, l256, l288, l312, l400, l992, l1940, l24980, l25240, xI, xL, xR, zI_neg, zI_add, zI_sub, zI_mul, zI_le, zI_lt, zI_eq, zI_in, zI_nat, Option.bind_some, lt9, hq, Int.add_zero, Int.sub_self, true_or, or_true, true_and, and_true, false_or, or_false, Int.cast_ofNat_Int, ↓reduceIte, eV_right7 hC hw hp, if_neg h, c2, if_pos h2, if_pos, if_neg]
    · simp (disch := omega) only [l0, l1, l2, l3, l4, l5, l6, l7, l8, l10, l12, l16, l20, l24, l26, l40, l64, l80, l100, l255, l256, l288, l312, l400, l992, l1940, l24980, l25240, xI, xL, xR, zI_neg, zI_add, zI_sub, zI_mul, zI_le, zI_lt, zI_eq, zI_in, zI_nat, Option.bind_some, lt9, hq, Int.add_zero, Int.sub_self, true_or, or_true, true_and, and_true, false_or, or_false, Int.cast_ofNat_Int, ↓reduceIte, eV_right7 hC hw hp, if_neg h, c2, if_neg h2, if_pos, if_neg]
theorem fOut_o {u : Int → Int} {d p k : Int} (h1 : k ≠ 20 + 80 * d + 1) (h2 : ¬ (20 + 80 * d + 2 ≤ k ∧ k < 20 + 80 * d + 80)) : fOut d p u k = u k := by
  unfold fOut cpv
  rw [if_neg h2, uv_n h1]
theorem fOut_1 {u : Int → Int} {d p : Int} : fOut d p u (20 + 80 * d + 1) = p + 1 := by
  unfold fOut cpv
  rw [if_neg (by omega), uv_s]
theorem fOut_c {u : Int → Int} {d p k : Int} (d0 : 0 ≤ d) (d1 : d < 24) (hm : 1 ≤ u (20 + 80 * d)) (h0 : 2 ≤ k) (h1 : k < 80) : fOut d p u (20 + 80 * d + k) = u (1940 + 80 * (12 * d + (u (20 + 80 * d) - 1)) + k) := by
  unfold fOut cpv
  rw [if_pos (by omega), uv_n (by omega)]
  congr 1; omega
theorem eD_lendTo {σ : hT} {u : Int → Int} {g : Nat} (hC : CA σ u g) (hw : wf u) {d p : Int} (d0 : 0 ≤ d) (d1 : d < u 16) : ∃ σ', D_lendTo σ d.toNat (zI p) = some ((), σ') ∧ (0 ≤ p → CA σ' (fOut d p u) g) ∧ fO d.toNat σ σ' := by
  have h16 := hw.1
  have hD := hw.2.2.2.1 d d0 d1
  have hm := hD.1
  have cD := hC.2.2.2.1 d d0 d1
  have cR := cD.2.2.2.2 (u (20 + 80 * d) - 1) (by omega) (by omega)
  have hR := hD.2.2.2 (u (20 + 80 * d) - 1) (by omega) (by omega)
  have hsn := sn_v (d := d) (r := u (20 + 80 * d) - 1) d0 (by omega)
  obtain ⟨σ1, q1, q2, q3, q4⟩ := eC_takeFrom (σ := sI σ 702 d.toNat 0 (zI p)) (c := 3 * d.toNat) (c1 := 3 * sn d (u (20 + 80 * d) - 1) + 2) (by omega)
  have hO1 : fO d.toNat σ (sI σ 702 d.toNat 0 (zI p)) := fO.rf.i (by omega)
  have hO : fO d.toNat σ σ1 := hO1.tr (q2.o (by omega))
  have en : D_newest (sI σ 702 d.toNat 0 (zI p)) d.toNat = zI (u (20 + 80 * d) - 1) := by
    unfold D_newest
    simp (disch := omega) only [l0, l1, l2, l3, l4, l5, l6, l7, l8, l10, l12, l16, l20, l24, l26, l40, l64, l80, l100, l255, l256, l288, l312, l400, l992, l1940, l24980, l25240, xI, xL, xR, zI_neg, zI_add, zI_sub, zI_mul, zI_le, zI_lt, zI_eq, zI_in, zI_nat, Option.bind_some, lt9, hq, Int.add_zero, Int.sub_self, true_or, or_true, true_and, and_true, false_or, or_false, Int.cast_ofNat_Int, ↓reduceIte, rO, cD.2.1, if_pos, if_neg]
  refine ⟨σ1, ?_, fun p0 => ?_, hO⟩
  · unfold D_lendTo lt9
    dsimp only
    rw [en]
    have c3 : (sI σ 702 d.toNat 0 (zI p)).2.2 23 d.toNat (u (20 + 80 * d) - 1).toNat = some (sn d (u (20 + 80 * d) - 1)) := cR.1
    simp (disch := omega) only [l0, l1, l2, l3, l4, l5, l6, l7, l8, l10, l12, l16, l20, l24, l26, l40, l64, l80, l100, l255, l256, l288, l312, l400, l992, l1940, l24980, l25240, xI, xL, xR, zI_neg, zI_add, zI_sub, zI_mul, zI_le, zI_lt, zI_eq, zI_in, zI_nat, Option.bind_some, lt9, hq, Int.add_zero, Int.sub_self, true_or, or_true, true_and, and_true, false_or, or_false, Int.cast_ofNat_Int, ↓reduceIte, c3, q1, if_pos, if_neg]
  · have ot : ∀ f j, f ≠ 601 → f ≠ 604 → f ≠ 21 → f ≠ 22 → f ≠ 702 → σ1.1 f j = σ.1 f j := fun f j a b c dd e => (q2.1 f j (by omega)).trans (rO e)
    refine hC.upd hw d0 d1 hO (fun k h1 h2 => fOut_o (by omega) (by omega)) (hC.allR (ot 103 0 (by decide) (by decide) (by decide) (by decide) (by decide)) (fOut_o (by omega) (by omega)) (fun e e0 e1 => fOut_o (by omega) (by omega))) ⟨?_, ?_, ?_, ⟨fun z => ?_, fun z => ?_⟩, fun r r0 r1 => ?_⟩
    · rw [q2.2.2]; exact cD.1
    · rw [ot 701 _ (by decide) (by decide) (by decide) (by decide) (by decide), fOut_o (by omega) (by omega)]; exact cD.2.1
    · rw [q2.1 702 _ (by omega), rS, fOut_1]; congr 1; omega
    · have := q3 u _ hR.2.2.1 cR.2.2.2
      exact this.to eqC.rf hR.2.2.1 (fun k k0 k1 => fOut_c d0 (by omega) hm.1 k0 k1)
    · rw [fOut_1] at z; omega
    · rw [fOut_o (by omega) (by omega)] at r1
      have c := cD.2.2.2.2 r r0 r1
      have hsr := sn_v (d := d) (r := r) d0 r0
      refine cRv.v (v := u) ⟨by rw [q2.2.2]; exact c.1, by rw [ot 801 _ (by decide) (by decide) (by decide) (by decide) (by decide)]; exact c.2.1, by rw [ot 802 _ (by decide) (by decide) (by decide) (by decide) (by decide)]; exact c.2.2.1, (q2.eq (by omega)).ct c.2.2.2⟩ (hD.2.2.2 r r0 r1).2.2.1 (fun k k0 k1 => fOut_o (by omega) (by omega))
theorem eV_out {σ : hT} {s : zT} {g : Nat} (hS : CaS σ s g) (ho : okS s) {d p : Int} (hd : i32 d) (hp : i32 p) {n : Nat} (hn : 993 ≤ n) :
    ClsC (outOk s.1 d p) 1 (fOut d p) s g g σ (V_out n σ (zI d) (zI p)) (fun acc => acc) := by
  have hpw := hS.2.2.2.2.2.1
  rcases ho.2.1 with hf | hf
  · rw [hf] at hpw
    by_cases h : 0 ≤ d ∧ d < s.1 16
    · refine ClsC.mk hf hS ho (fun _ _ _ => rfl) (why := if rts s.1 p = 0 then 1 else if s.1 (20 + 80 * d + 1) - 1 < 0 then 0 else 2) (by split <;> (try split) <;> omega) (by split <;> (try split) <;> omega) (by unfold outOk; split <;> (try split) <;> omega) (by omega) (by omega) (fun ⟨y19o, σ20⟩ => ex9 y19o σ20 fun y19 => if y19 = 0 then some (some 0, σ20) else Option.bind (D_lendTo σ20 d.toNat (zI p)) fun ⟨y23, σ24⟩ => Option.bind (V_finish n σ24 1) fun ⟨y26, σ27⟩ => some (some 1, σ27)) ?_ (fun σ1 => rfl) (fun σ1 => rfl) ?_
      · unfold V_out
        rw [nP0 hpw]
        simp (disch := omega) only [l0, l1, l2, l3, l4, l5, l6, l7, l8, l10, l12, l16, l20, l24, l26, l40, l64, l80, l100, l255, l256, l288, l312, l400, l992, l1940, l24980, l25240, xI, xL, xR, zI_neg, zI_add, zI_sub, zI_mul, zI_le, zI_lt, zI_eq, zI_in, zI_nat, Option.bind_some, lt9, hq, Int.add_zero, Int.sub_self, true_or, or_true, true_and, and_true, false_or, or_false, Int.cast_ofNat_Int, ↓reduceIte, ex9, eV_drawingAt hS.1 ho.1 hd, if_pos h, eV_outS hS.1 ho.1 hp h.1 h.2]
      · intro hk h17 hpl σ1 hC hP h8
        have hu := wf_mv (c := 1) ho.1 (by omega) h17
        have e16 : mv s.1 1 16 = s.1 16 := mv_at (by omega) (by omega)
        have ew : mv s.1 1 (20 + 80 * d + 1) = s.1 (20 + 80 * d + 1) := mv_at (by omega) (by omega)
        have pr : 0 ≤ p ∧ p < 16 := by
          apply Classical.byContradiction
          intro z
          apply hk.1
          unfold rts; rw [if_neg z]
        obtain ⟨σ2, a1, a2, a3⟩ := eD_lendTo (p := p) hC hu h.1 (by rw [e16]; exact h.2)
        obtain ⟨σ3, q1, q2, q3, q4, q5⟩ := eV_finish (a2 pr.1) (wf_out hu h.1 (by rw [e16]; exact h.2) (by rw [ew]; exact hk.2.2.2) pr) (hP.fr a3.p) hpl (by omega) (by rw [fOut_o (by omega) (by omega), mv_17]) (by rw [fOut_o (by omega) (by omega)]; exact uv_s) (by rw [fOut_o (by omega) (by omega), mv_at (by omega) (by omega)]) hn
        refine ⟨σ3, ?_, ⟨q2, q3, q4⟩, a3.f.tr q5.f⟩
        simp (disch := omega) only [l0, l1, l2, l3, l4, l5, l6, l7, l8, l10, l12, l16, l20, l24, l26, l40, l64, l80, l100, l255, l256, l288, l312, l400, l992, l1940, l24980, l25240, xI, xL, xR, zI_neg, zI_add, zI_sub, zI_mul, zI_le, zI_lt, zI_eq, zI_in, zI_nat, Option.bind_some, lt9, hq, Int.add_zero, Int.sub_self, true_or, or_true, true_and, and_true, false_or, or_false, Int.cast_ofNat_Int, ↓reduceIte, ex9, a1, if_pos, if_neg]
        rw [q1]
        rfl
    · refine ClsC.mk hf hS ho (fun _ _ _ => rfl) (why := if rts s.1 p = 0 then 1 else 7) (by split <;> omega) (by split <;> omega) (by unfold outOk; split <;> omega) (by omega) (by omega) (fun ⟨y12o, σ13⟩ => ex9 y12o σ13 fun y12 => if y12 = 0 then some (some 0, σ13) else none) ?_ (fun σ1 => rfl) (fun σ1 => rfl) ?_
      · unfold V_out
        rw [nP0 hpw]
        simp (disch := omega) only [l0, l1, l2, l3, l4, l5, l6, l7, l8, l10, l12, l16, l20, l24, l26, l40, l64, l80, l100, l255, l256, l288, l312, l400, l992, l1940, l24980, l25240, xI, xL, xR, zI_neg, zI_add, zI_sub, zI_mul, zI_le, zI_lt, zI_eq, zI_in, zI_nat, Option.bind_some, lt9, hq, Int.add_zero, Int.sub_self, true_or, or_true, true_and, and_true, false_or, or_false, Int.cast_ofNat_Int, ↓reduceIte, ex9, eV_drawingAt hS.1 ho.1 hd, if_neg h, eV_outN hS.1 ho.1 hp]
      · intro hk; exact absurd ⟨hk.2.1, hk.2.2.1⟩ h
  · rw [hf] at hpw
    exact ClsC.off hf hS (by unfold V_out; rw [nP1 hpw]; rfl)
theorem eD_endLoan {σ : hT} {u : Int → Int} {g : Nat} (hC : CA σ u g) (hw : wf u) {d : Int} (d0 : 0 ≤ d) (d1 : d < u 16) {n : Nat} (hn : 9 ≤ n) : ∃ σ', D_endLoan n σ d.toNat = some ((), σ') ∧ CA σ' (uv u (20 + 80 * d + 1) 0) g ∧ fO d.toNat σ σ' := by
  have h16 := hw.1
  have hD := hw.2.2.2.1 d d0 d1
  have hm := hD.1
  have cD := hC.2.2.2.1 d d0 d1
  obtain ⟨σ1, q1, q2, q3⟩ := eC_clear (σ := sI σ 702 d.toNat 0 (zI (-1))) (c := 3 * d.toNat) hn
  have hO1 : fO d.toNat σ (sI σ 702 d.toNat 0 (zI (-1))) := fO.rf.i (by omega)
  have hO : fO d.toNat σ σ1 := hO1.tr (q2.o (by omega))
  refine ⟨σ1, ?_, ?_, hO⟩
  · unfold D_endLoan lt9
    dsimp only
    rw [lm1, q1]
    rfl
  · have ot : ∀ f j, f ≠ 601 → f ≠ 604 → f ≠ 21 → f ≠ 22 → f ≠ 702 → σ1.1 f j = σ.1 f j := fun f j a b c dd e => (q2.1 f j (by omega)).trans (rO e)
    refine hC.upd hw d0 d1 hO (fun k h1 h2 => uv_n (by omega)) (hC.allR (ot 103 0 (by decide) (by decide) (by decide) (by decide) (by decide)) (uv_n (by omega)) (fun e e0 e1 => uv_n (by omega))) ⟨?_, ?_, ?_, ⟨fun z => ?_, fun z => q3⟩, fun r r0 r1 => ?_⟩
    · rw [q2.2.2]; exact cD.1
    · rw [ot 701 _ (by decide) (by decide) (by decide) (by decide) (by decide), uv_n (by omega)]; exact cD.2.1
    · rw [q2.1 702 _ (by omega), rS, uv_s]; rfl
    · rw [uv_s] at z; omega
    · rw [uv_n (by omega)] at r1
      have c := cD.2.2.2.2 r r0 r1
      have hsr := sn_v (d := d) (r := r) d0 r0
      refine cRv.v (v := u) ⟨by rw [q2.2.2]; exact c.1, by rw [ot 801 _ (by decide) (by decide) (by decide) (by decide) (by decide)]; exact c.2.1, by rw [ot 802 _ (by decide) (by decide) (by decide) (by decide) (by decide)]; exact c.2.2.1, (q2.eq (by omega)).ct c.2.2.2⟩ (hD.2.2.2 r r0 r1).2.2.1 (fun k k0 k1 => uv_n (by omega))
theorem eV_undo {σ : hT} {s : zT} {g : Nat} (hS : CaS σ s g) (ho : okS s) {d p : Int} (hd : i32 d) (hp : i32 p) {n : Nat} (hn : 993 ≤ n) :
    ClsC (cpOk s.1 d p) 1 (fun u => uv u (20 + 80 * d + 1) 0) s g g σ (V_undo n σ (zI d) (zI p)) (fun acc => acc) := by
  have hpw := hS.2.2.2.2.2.1
  rcases ho.2.1 with hf | hf
  · rw [hf] at hpw
    by_cases h : 0 ≤ d ∧ d < s.1 16
    · refine ClsC.mk hf hS ho (fun _ _ _ => rfl) (why := if rts s.1 p = 0 then 1 else if s.1 (20 + 80 * d + 1) - 1 = p then 0 else 2) (by split <;> (try split) <;> omega) (by split <;> (try split) <;> omega) (by unfold cpOk; split <;> (try split) <;> omega) (by omega) (by omega) (fun ⟨y19o, σ20⟩ => ex9 y19o σ20 fun y19 => if y19 = 0 then some (some 0, σ20) else Option.bind (D_endLoan n σ20 d.toNat) fun ⟨y23, σ24⟩ => Option.bind (V_finish n σ24 1) fun ⟨y26, σ27⟩ => some (some 1, σ27)) ?_ (fun σ1 => rfl) (fun σ1 => rfl) ?_
      · unfold V_undo
        rw [nP0 hpw]
        simp (disch := omega) only [l0, l1, l2, l3, l4, l5, l6, l7, l8, l10, l12, l16, l20, l24, l26, l40, l64, l80, l100, l255, l256, l288, l312, l400, l992, l1940, l24980, l25240, xI, xL, xR, zI_neg, zI_add, zI_sub, zI_mul, zI_le, zI_lt, zI_eq, zI_in, zI_nat, Option.bind_some, lt9, hq, Int.add_zero, Int.sub_self, true_or, or_true, true_and, and_true, false_or, or_false, Int.cast_ofNat_Int, ↓reduceIte, ex9, eV_drawingAt hS.1 ho.1 hd, if_pos h, eV_copyS hS.1 ho.1 hp h.1 h.2]
      · intro hk h17 hpl σ1 hC hP h8
        have hu := wf_mv (c := 1) ho.1 (by omega) h17
        have e16 : mv s.1 1 16 = s.1 16 := mv_at (by omega) (by omega)
        obtain ⟨σ2, a1, a2, a3⟩ := eD_endLoan hC hu h.1 (by rw [e16]; exact h.2) (show 9 ≤ n by omega)
        obtain ⟨σ3, q1, q2, q3, q4, q5⟩ := eV_finish a2 (wf_with hu h.1 (by rw [e16]; exact h.2) (by omega) (by omega)) (hP.fr a3.p) hpl (by omega) (by rw [uv_n (by omega), mv_17]) (by rw [uv_n (by omega)]; exact uv_s) (by rw [uv_n (by omega), mv_at (by omega) (by omega)]) hn
        refine ⟨σ3, ?_, ⟨q2, q3, q4⟩, a3.f.tr q5.f⟩
        simp (disch := omega) only [l0, l1, l2, l3, l4, l5, l6, l7, l8, l10, l12, l16, l20, l24, l26, l40, l64, l80, l100, l255, l256, l288, l312, l400, l992, l1940, l24980, l25240, xI, xL, xR, zI_neg, zI_add, zI_sub, zI_mul, zI_le, zI_lt, zI_eq, zI_in, zI_nat, Option.bind_some, lt9, hq, Int.add_zero, Int.sub_self, true_or, or_true, true_and, and_true, false_or, or_false, Int.cast_ofNat_Int, ↓reduceIte, ex9, a1, if_pos, if_neg]
        rw [q1]
        rfl
    · refine ClsC.mk hf hS ho (fun _ _ _ => rfl) (why := if rts s.1 p = 0 then 1 else 7) (by split <;> omega) (by split <;> omega) (by unfold cpOk; split <;> omega) (by omega) (by omega) (fun ⟨y12o, σ13⟩ => ex9 y12o σ13 fun y12 => if y12 = 0 then some (some 0, σ13) else none) ?_ (fun σ1 => rfl) (fun σ1 => rfl) ?_
      · unfold V_undo
        rw [nP0 hpw]
        simp (disch := omega) only [l0, l1, l2, l3, l4, l5, l6, l7, l8, l10, l12, l16, l20, l24, l26, l40, l64, l80, l100, l255, l256, l288, l312, l400, l992, l1940, l24980, l25240, xI, xL, xR, zI_neg, zI_add, zI_sub, zI_mul, zI_le, zI_lt, zI_eq, zI_in, zI_nat, Option.bind_some, lt9, hq, Int.add_zero, Int.sub_self, true_or, or_true, true_and, and_true, false_or, or_false, Int.cast_ofNat_Int, ↓reduceIte, ex9, eV_drawingAt hS.1 ho.1 hd, if_neg h, eV_copyN hS.1 ho.1 hp]
      · intro hk; exact absurd ⟨hk.2.1, hk.2.2.1⟩ h
  · rw [hf] at hpw
    exact ClsC.off hf hS (by unfold V_undo; rw [nP1 hpw]; rfl)
