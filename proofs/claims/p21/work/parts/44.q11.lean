theorem i32_and7 {x : Int} (h : 0 ≤ x ∧ x ≤ 7) : (zI x &&& 7 = 0) = (x = 0) := by
  have : x = 0 ∨ x = 1 ∨ x = 2 ∨ x = 3 ∨ x = 4 ∨ x = 5 ∨ x = 6 ∨ x = 7 := by omega
  rcases this with rfl | rfl | rfl | rfl | rfl | rfl | rfl | rfl <;> decide
def rts (v : Int → Int) (p : Int) : Int := if 0 ≤ p ∧ p < 16 then v p else 0
theorem rts_rng {v : Int → Int} (hw : wf v) (p : Int) : 0 ≤ rts v p ∧ rts v p ≤ 7 := by
  unfold rts; split
  · rename_i h; exact hw.2.1 p h.1 h.2
  · omega
abbrev cpOk (v : Int → Int) (d p : Int) : Prop := rts v p ≠ 0 ∧ 0 ≤ d ∧ d < v 16 ∧ v (20 + 80 * d + 1) - 1 = p
def whyC (v : Int → Int) (d p : Int) : Int := if rts v p = 0 then 1 else if 0 ≤ d ∧ d < v 16 then (if v (20 + 80 * d + 1) - 1 = p then 0 else 2) else 7
theorem eM_least {a b c : Int} (ha : a = 0 ∨ a = 1) (hb : i32 b) (hc : i32 c) : M_least (zI a) (zI b) (zI c) = zI (if a = 0 then c else if c = 0 then b else if c ≤ b then c else b) := by
  obtain ⟨hb1, hb2⟩ := hb
  obtain ⟨hc1, hc2⟩ := hc
  unfold M_least
  rcases ha with rfl | rfl
  · simp (disch := omega) only [l0, l1, l2, l3, l4, l5, l6, l7, l8, l10, l12, l16, l20, l24, l26, l40, l64, l80, l100, l255, l256, l288, l312, l400, l992, l1940, l24980, l25240, xI, xL, xR, zI_neg, zI_add, zI_sub, zI_mul, zI_le, zI_lt, zI_eq, zI_in, zI_nat, Option.bind_some, lt9, hq, Int.add_zero, Int.sub_self, true_or, or_true, true_and, and_true, false_or, or_false, Int.cast_ofNat_Int, ↓reduceIte, if_pos, if_neg]
  · simp (disch := omega) only [l0, l1, l2, l3, l4, l5, l6, l7, l8, l10, l12, l16, l20, l24, l26, l40, l64, l80, l100, l255, l256, l288, l312, l400, l992, l1940, l24980, l25240, xI, xL, xR, zI_neg, zI_add, zI_sub, zI_mul, zI_le, zI_lt, zI_eq, zI_in, zI_nat, Option.bind_some, lt9, hq, Int.add_zero, Int.sub_self, true_or, or_true, true_and, and_true, false_or, or_false, Int.cast_ofNat_Int, ↓reduceIte]
    repeat' split
    all_goals first | rfl | (exfalso; omega)
theorem eM_whyNot {σ : hT} {v : Int → Int} (hN : mN σ v) (hw : wf v) {d p : Int} (hd : i32 d) (hp : i32 p) : M_whyNot σ (zI d) (zI p) = some (zI (whyC v d p)) := by
  obtain ⟨hd1, hd2⟩ := hd
  obtain ⟨hp1, hp2⟩ := hp
  have h16 := hw.1
  have hr := rts_rng hw p
  have er : M_rights σ (zI p) = some (zI (rts v p)) := eM_rights hN hp1 hp2
  unfold M_whyNot whyC
  rw [er, eM_isDrawing hN hw hd1 hd2]
  by_cases h1 : rts v p = 0
  · by_cases h2 : 0 ≤ d ∧ d < v 16
    · have h3 := (hw.2.2.2.1 d h2.1 h2.2).2.1
      simp (disch := omega) only [l0, l1, l2, l3, l4, l5, l6, l7, l8, l10, l12, l16, l20, l24, l26, l40, l64, l80, l100, l255, l256, l288, l312, l400, l992, l1940, l24980, l25240, xI, xL, xR, zI_neg, zI_add, zI_sub, zI_mul, zI_le, zI_lt, zI_eq, zI_in, zI_nat, Option.bind_some, lt9, hq, Int.add_zero, Int.sub_self, true_or, or_true, true_and, and_true, false_or, or_false, Int.cast_ofNat_Int, ↓reduceIte, h1, eM_with hN, if_pos, if_neg]
      repeat' split
      all_goals rfl
    · simp (disch := omega) only [l0, l1, l2, l3, l4, l5, l6, l7, l8, l10, l12, l16, l20, l24, l26, l40, l64, l80, l100, l255, l256, l288, l312, l400, l992, l1940, l24980, l25240, xI, xL, xR, zI_neg, zI_add, zI_sub, zI_mul, zI_le, zI_lt, zI_eq, zI_in, zI_nat, Option.bind_some, lt9, hq, Int.add_zero, Int.sub_self, true_or, or_true, true_and, and_true, false_or, or_false, Int.cast_ofNat_Int, ↓reduceIte, h1, eM_with hN, if_pos, if_neg]
      rfl
  · by_cases h2 : 0 ≤ d ∧ d < v 16
    · have h3 := (hw.2.2.2.1 d h2.1 h2.2).2.1
      simp (disch := omega) only [l0, l1, l2, l3, l4, l5, l6, l7, l8, l10, l12, l16, l20, l24, l26, l40, l64, l80, l100, l255, l256, l288, l312, l400, l992, l1940, l24980, l25240, xI, xL, xR, zI_neg, zI_add, zI_sub, zI_mul, zI_le, zI_lt, zI_eq, zI_in, zI_nat, Option.bind_some, lt9, hq, Int.add_zero, Int.sub_self, true_or, or_true, true_and, and_true, false_or, or_false, Int.cast_ofNat_Int, ↓reduceIte, eM_with hN, if_pos, if_neg]
      repeat' split
      all_goals rfl
    · simp (disch := omega) only [l0, l1, l2, l3, l4, l5, l6, l7, l8, l10, l12, l16, l20, l24, l26, l40, l64, l80, l100, l255, l256, l288, l312, l400, l992, l1940, l24980, l25240, xI, xL, xR, zI_neg, zI_add, zI_sub, zI_mul, zI_le, zI_lt, zI_eq, zI_in, zI_nat, Option.bind_some, lt9, hq, Int.add_zero, Int.sub_self, true_or, or_true, true_and, and_true, false_or, or_false, Int.cast_ofNat_Int, ↓reduceIte, eM_with hN, if_pos, if_neg]
      rfl
theorem whyC_ok {v : Int → Int} {d p : Int} : cpOk v d p ↔ whyC v d p = 0 := by
  unfold whyC
  repeat' split
  all_goals first | (constructor <;> intro z <;> first | omega | (exact ⟨by assumption, by omega, by omega, by omega⟩)) 
theorem whyC_rng {v : Int → Int} {d p : Int} : 0 ≤ whyC v d p ∧ whyC v d p ≤ 8 := by
  unfold whyC
  repeat' split
  all_goals omega
theorem wf_with {v : Int → Int} {d x : Int} (h : wf v) (hd : 0 ≤ d) (hd2 : d < v 16) (hx : 0 ≤ x ∧ x ≤ 16) (hc : 0 < x → cw v (20 + 80 * d)) : wf (uv v (20 + 80 * d + 1) x) := by
  obtain ⟨g1, g2, g3, g4, g5, g6⟩ := h
  have e16 : uv v (20 + 80 * d + 1) x 16 = v 16 := uv_n (by omega)
  refine ⟨by rw [e16]; exact g1, fun p p0 p1 => by rw [uv_n (by omega)]; exact g2 p p0 p1, by rw [uv_n (by omega)]; exact g3, fun e e0 e1 => ?_, ?_, fun b b0 b1 => wfB_c b0 (fun k k0 k1 => uv_n (by omega)) (g6 b b0 b1)⟩
  · rw [e16] at e1
    by_cases he : e = d
    · subst he
      obtain ⟨k1, k2, k3, k4⟩ := g4 e e0 e1
      have hm : ∀ d', 0 ≤ d' → d' < v 16 → v (20 + 80 * d') ≤ uv v (20 + 80 * e + 1) x (20 + 80 * d') := fun d' a b => by rw [uv_n (by omega)]; omega
      refine ⟨by rw [uv_n (by omega)]; exact k1, by rw [uv_s]; exact hx, fun z => ?_, fun r r0 r1 => ?_⟩
      · rw [uv_s] at z
        exact cw_c (by omega) (fun k k0 k1 => uv_n (by omega)) (hc z)
      · rw [uv_n (by omega)] at r1
        obtain ⟨q1, q2, q3, q4⟩ := k4 r r0 r1
        exact ⟨by rw [uv_n (by omega)]; exact q1, by rw [uv_n (by omega)]; exact q2, cw_c (by omega) (fun k k0 k1 => uv_n (by omega)) q3, fx_c hm (fun k k0 k1 => uv_n (by omega)) q3 q4⟩
    · exact wfD_c e0 (by omega) (fun d' a b => by rw [uv_n (by omega)]; omega) (fun k k0 k1 => uv_n (by omega)) (fun r k r0 r1 k0 k1 => uv_n (by omega)) (g4 e e0 e1)
  · rw [e16, allR_c _ (fun d' a b => uv_n (by omega))]; exact g5
theorem eM_undo {σ : hT} {s : zT} (hs : MSt σ s) (ho : okS s) {d p : Int} (hd : i32 d) (hp : i32 p) {n : Nat} (hn : 25241 ≤ n) :
    RefC (cpOk s.1 d p) 1 (fun u => uv u (20 + 80 * d + 1) 0) s σ (M_undo n σ (zI d) (zI p)) (fun _ acc => acc) := by
  have := Cm_ref (ok := cpOk s.1 d p) (c := 1) (f := fun u => uv u (20 + 80 * d + 1) 0) hs ho (why := whyC s.1 d p) whyC_rng.1 whyC_rng.2 whyC_ok (by omega) (by omega)
    (fun σ5 y4 => if y4 = 0 then some (0, σ5) else if in9 (M_drawingAt (zI d) + 1) 25240 then lt9 (sI σ5 15 0 (M_drawingAt (zI d) + 1).toNatClampNeg 0) fun σ9 => Option.bind (M_close n σ9) fun ⟨y13, σ14⟩ => some (1, σ14) else none) (fun _ acc => acc)
    (fun σ1 th h1 h2 => ⟨σ1, rfl, rfl⟩)
    (fun hk h17 σ1 pl hM hf ht => by
      have h16 := ho.1.1
      have e16 : mv s.1 1 16 = s.1 16 := mv_at (by decide) (by decide)
      obtain ⟨k1, k2, k3, k4⟩ := hk
      obtain ⟨σ3, q1, q2, q3, q4, q5⟩ := body_close hn hM (mN_s (k := 20 + 80 * d + 1) hM.1 (by omega) _ rfl) (fr.rf.s (P := fun f => f = 15) rfl) (wf_with (x := 0) (wf_mv ho.1 (by omega) h17) k2 (by omega) (by omega) (by omega)) ht
      refine ⟨σ3, ?_, q2, q3, q4, q5⟩
      simp (disch := omega) only [l0, l1, l2, l3, l4, l5, l6, l7, l8, l10, l12, l16, l20, l24, l26, l40, l64, l80, l100, l255, l256, l288, l312, l400, l992, l1940, l24980, l25240, xI, xL, xR, zI_neg, zI_add, zI_sub, zI_mul, zI_le, zI_lt, zI_eq, zI_in, zI_nat, Option.bind_some, lt9, hq, Int.add_zero, Int.sub_self, true_or, or_true, true_and, and_true, false_or, or_false, Int.cast_ofNat_Int, ↓reduceIte, eM_drawingAt, if_pos, if_neg]
      rw [q1]
      rfl)
  obtain ⟨th, acc, s', σ', a1, a2, a3⟩ := this
  refine ⟨th, acc, s', σ', a1, ?_, a3⟩
  rw [← a2]
  unfold M_undo
  rw [eM_whyNot hs.1 ho.1 hd hp]
  rfl
