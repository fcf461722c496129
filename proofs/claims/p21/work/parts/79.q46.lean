theorem eV_byteOf0 {σ : hT} {c : Nat} {k : Int} (hct : ct0 σ c) (hk : i32 k) : V_byteOf σ c (zI k) = some (none, σ) := by
  obtain ⟨k1, k2⟩ := hk
  unfold V_byteOf
  by_cases h : 8 ≤ k
  · have e := eC_hasByte hct.1 (by omega) (i := k - 8) ⟨by omega, by omega⟩
    rw [if_neg (by omega)] at e
    simp (disch := omega) only [l0, l1, l2, l3, l4, l5, l6, l7, l8, l10, l12, l16, l20, l24, l26, l40, l64, l80, l100, l255, l256, l288, l312, l400, l992, l1940, l24980, l25240, xI, xL, xR, zI_neg, zI_add, zI_sub, zI_mul, zI_le, zI_lt, zI_eq, zI_in, zI_nat, Option.bind_some, lt9, hq, Int.add_zero, Int.sub_self, true_or, or_true, true_and, and_true, false_or, or_false, Int.cast_ofNat_Int, ↓reduceIte, e, if_pos, if_neg]
  · simp (disch := omega) only [l0, l1, l2, l3, l4, l5, l6, l7, l8, l10, l12, l16, l20, l24, l26, l40, l64, l80, l100, l255, l256, l288, l312, l400, l992, l1940, l24980, l25240, xI, xL, xR, zI_neg, zI_add, zI_sub, zI_mul, zI_le, zI_lt, zI_eq, zI_in, zI_nat, Option.bind_some, lt9, hq, Int.add_zero, Int.sub_self, true_or, or_true, true_and, and_true, false_or, or_false, Int.cast_ofNat_Int, ↓reduceIte, if_pos, if_neg]
theorem eV_refP {σ : hT} {c : Nat} {v : Int → Int} {a k : Int} (hct : ct σ c v a) (hc : cw v a) (hk : 200 ≤ k ∧ k < 2147483648) : V_referencePart σ c (zI k) = some (if k - 200 < 2 * v (a + 3) then some (zI (v (a + 4 + (k - 200)))) else none, σ) := by
  obtain ⟨k1, k2⟩ := hk
  have hb := hc.2.1
  unfold V_referencePart
  have ed : zI (k - 200) / zI 2 = zI ((k - 200) / 2) := zI_div (by omega) (by omega) (by omega) (by omega)
  have e := eC_hasReference hct.2.1 hb (i := (k - 200) / 2) ⟨by omega, by omega⟩
  by_cases h : k - 200 < 2 * v (a + 3)
  · rw [if_pos (show 0 ≤ (k - 200) / 2 ∧ (k - 200) / 2 < v (a + 3) by omega)] at e
    obtain ⟨c1, c2⟩ := hct.2.2.1 ((k - 200) / 2) (by omega) (by omega)
    rw [if_pos h]
    by_cases g : (k - 200) % 2 = 0
    · rw [show a + 4 + (k - 200) = a + 4 + 2 * ((k - 200) / 2) by omega]
      simp (disch := omega) only [l0, l1, l2, l3, l4, l5, l6, l7, l8, l10, l12, l16, l20, l24, l26, l40, l64, l80, l100, l255, l256, l288, l312, l400, l992, l1940, l24980, l25240, xI, xL, xR, zI_neg, zI_add, zI_sub, zI_mul, zI_le, zI_lt, zI_eq, zI_in, zI_nat, Option.bind_some, lt9, hq, Int.add_zero, Int.sub_self, true_or, or_true, true_and, and_true, false_or, or_false, Int.cast_ofNat_Int, ↓reduceIte, l200, ed, e, c1, c2, if_pos, if_neg]
    · rw [show a + 4 + (k - 200) = a + 4 + 2 * ((k - 200) / 2) + 1 by omega]
      simp (disch := omega) only [l0, l1, l2, l3, l4, l5, l6, l7, l8, l10, l12, l16, l20, l24, l26, l40, l64, l80, l100, l255, l256, l288, l312, l400, l992, l1940, l24980, l25240, xI, xL, xR, zI_neg, zI_add, zI_sub, zI_mul, zI_le, zI_lt, zI_eq, zI_in, zI_nat, Option.bind_some, lt9, hq, Int.add_zero, Int.sub_self, true_or, or_true, true_and, and_true, false_or, or_false, Int.cast_ofNat_Int, ↓reduceIte, l200, ed, e, c1, c2, if_pos, if_neg]
  · rw [if_neg (show ¬ (0 ≤ (k - 200) / 2 ∧ (k - 200) / 2 < v (a + 3)) by omega)] at e
    rw [if_neg h]
    simp (disch := omega) only [l0, l1, l2, l3, l4, l5, l6, l7, l8, l10, l12, l16, l20, l24, l26, l40, l64, l80, l100, l255, l256, l288, l312, l400, l992, l1940, l24980, l25240, xI, xL, xR, zI_neg, zI_add, zI_sub, zI_mul, zI_le, zI_lt, zI_eq, zI_in, zI_nat, Option.bind_some, lt9, hq, Int.add_zero, Int.sub_self, true_or, or_true, true_and, and_true, false_or, or_false, Int.cast_ofNat_Int, ↓reduceIte, l200, ed, e, if_pos, if_neg]
theorem eV_refP0 {σ : hT} {c : Nat} {k : Int} (hct : ct0 σ c) (hk : 200 ≤ k ∧ k < 2147483648) : V_referencePart σ c (zI k) = some (none, σ) := by
  obtain ⟨k1, k2⟩ := hk
  unfold V_referencePart
  have ed : zI (k - 200) / zI 2 = zI ((k - 200) / 2) := zI_div (by omega) (by omega) (by omega) (by omega)
  have e := eC_hasReference hct.2.1 (by omega) (i := (k - 200) / 2) ⟨by omega, by omega⟩
  rw [if_neg (by omega)] at e
  simp (disch := omega) only [l0, l1, l2, l3, l4, l5, l6, l7, l8, l10, l12, l16, l20, l24, l26, l40, l64, l80, l100, l255, l256, l288, l312, l400, l992, l1940, l24980, l25240, xI, xL, xR, zI_neg, zI_add, zI_sub, zI_mul, zI_le, zI_lt, zI_eq, zI_in, zI_nat, Option.bind_some, lt9, hq, Int.add_zero, Int.sub_self, true_or, or_true, true_and, and_true, false_or, or_false, Int.cast_ofNat_Int, ↓reduceIte, l200, ed, e, if_pos, if_neg]
theorem eV_about {σ : hT} {s : zT} {g : Nat} (hS : CaS σ s g) (ho : okS s) {d k : Int} (hd : i32 d) (hk : i32 k) {n : Nat} (hn : 13 ≤ n) : ClsQ (qAb s.1 d k) s g σ (V_about n σ (zI d) (zI k)) := by
  have hk' := hk
  obtain ⟨k1, k2⟩ := hk'
  unfold V_about qAb
  rw [eV_drawingAt hS.1 ho.1 hd]
  by_cases h : 0 ≤ d ∧ d < s.1 16
  · have hD := ho.1.2.2.2.1 d h.1 h.2
    have cD := hS.1.2.2.2.1 d h.1 h.2
    rw [if_pos h, if_pos h, Option.bind_some]
    dsimp only [hq]
    by_cases g0 : k = 0
    · subst g0
      rw [if_pos rfl]
      refine ClsQ.y hS ?_
      simp (disch := omega) only [l0, l1, l2, l3, l4, l5, l6, l7, l8, l10, l12, l16, l20, l24, l26, l40, l64, l80, l100, l255, l256, l288, l312, l400, l992, l1940, l24980, l25240, xI, xL, xR, zI_neg, zI_add, zI_sub, zI_mul, zI_le, zI_lt, zI_eq, zI_in, zI_nat, Option.bind_some, lt9, hq, Int.add_zero, Int.sub_self, true_or, or_true, true_and, and_true, false_or, or_false, Int.cast_ofNat_Int, ↓reduceIte, eD_newest hS.1 h.1 h.2, if_pos, if_neg]
    rw [if_neg g0]
    by_cases g1 : k = 1
    · subst g1
      rw [if_pos rfl]
      refine ClsQ.y hS ?_
      simp (disch := omega) only [l0, l1, l2, l3, l4, l5, l6, l7, l8, l10, l12, l16, l20, l24, l26, l40, l64, l80, l100, l255, l256, l288, l312, l400, l992, l1940, l24980, l25240, xI, xL, xR, zI_neg, zI_add, zI_sub, zI_mul, zI_le, zI_lt, zI_eq, zI_in, zI_nat, Option.bind_some, lt9, hq, Int.add_zero, Int.sub_self, true_or, or_true, true_and, and_true, false_or, or_false, Int.cast_ofNat_Int, ↓reduceIte, eD_latestReleased hS.1 ho.1 h.1 h.2 hn, if_pos, if_neg]
    rw [if_neg g1]
    by_cases g2 : k = 2
    · subst g2
      rw [if_pos rfl]
      refine ClsQ.y hS ?_
      simp (disch := omega) only [l0, l1, l2, l3, l4, l5, l6, l7, l8, l10, l12, l16, l20, l24, l26, l40, l64, l80, l100, l255, l256, l288, l312, l400, l992, l1940, l24980, l25240, xI, xL, xR, zI_neg, zI_add, zI_sub, zI_mul, zI_le, zI_lt, zI_eq, zI_in, zI_nat, Option.bind_some, lt9, hq, Int.add_zero, Int.sub_self, true_or, or_true, true_and, and_true, false_or, or_false, Int.cast_ofNat_Int, ↓reduceIte, cD.2.2.1, if_pos, if_neg]
    rw [if_neg g2]
    by_cases hout : 0 < s.1 (drA d + 1)
    · have hct := cD.2.2.2.1.1 hout
      have hc := hD.2.2.1 hout
      have hb := hc.1
      have hb3 := hc.2.1
      by_cases g3 : k = 3
      · subst g3
        rw [if_pos rfl, if_pos hout]
        refine ClsQ.y hS ?_
        simp (disch := omega) only [l0, l1, l2, l3, l4, l5, l6, l7, l8, l10, l12, l16, l20, l24, l26, l40, l64, l80, l100, l255, l256, l288, l312, l400, l992, l1940, l24980, l25240, xI, xL, xR, zI_neg, zI_add, zI_sub, zI_mul, zI_le, zI_lt, zI_eq, zI_in, zI_nat, Option.bind_some, lt9, hq, Int.add_zero, Int.sub_self, true_or, or_true, true_and, and_true, false_or, or_false, Int.cast_ofNat_Int, ↓reduceIte, hct.1, if_pos, if_neg]
      rw [if_neg g3]
      by_cases g4 : k = 4
      · subst g4
        rw [if_pos rfl, if_pos hout]
        refine ClsQ.y hS ?_
        simp (disch := omega) only [l0, l1, l2, l3, l4, l5, l6, l7, l8, l10, l12, l16, l20, l24, l26, l40, l64, l80, l100, l255, l256, l288, l312, l400, l992, l1940, l24980, l25240, xI, xL, xR, zI_neg, zI_add, zI_sub, zI_mul, zI_le, zI_lt, zI_eq, zI_in, zI_nat, Option.bind_some, lt9, hq, Int.add_zero, Int.sub_self, true_or, or_true, true_and, and_true, false_or, or_false, Int.cast_ofNat_Int, ↓reduceIte, hct.2.1, if_pos, if_neg]
      rw [if_neg g4]
      by_cases g5 : k < 200
      · have e := eV_byteOf hct hc hk
        by_cases g6 : 8 ≤ k ∧ k - 8 < s.1 (drA d + 2)
        · rw [if_pos ⟨hout, g6⟩]
          rw [if_pos g6] at e
          refine ClsQ.y hS ?_
          simp (disch := omega) only [l0, l1, l2, l3, l4, l5, l6, l7, l8, l10, l12, l16, l20, l24, l26, l40, l64, l80, l100, l255, l256, l288, l312, l400, l992, l1940, l24980, l25240, xI, xL, xR, zI_neg, zI_add, zI_sub, zI_mul, zI_le, zI_lt, zI_eq, zI_in, zI_nat, Option.bind_some, lt9, hq, Int.add_zero, Int.sub_self, true_or, or_true, true_and, and_true, false_or, or_false, Int.cast_ofNat_Int, ↓reduceIte, l200, e, ex9, if_pos, if_neg]
        · rw [if_neg (fun z => g6 z.2), if_neg (by omega)]
          rw [if_neg g6] at e
          refine ClsQ.n hS ?_
          simp (disch := omega) only [l0, l1, l2, l3, l4, l5, l6, l7, l8, l10, l12, l16, l20, l24, l26, l40, l64, l80, l100, l255, l256, l288, l312, l400, l992, l1940, l24980, l25240, xI, xL, xR, zI_neg, zI_add, zI_sub, zI_mul, zI_le, zI_lt, zI_eq, zI_in, zI_nat, Option.bind_some, lt9, hq, Int.add_zero, Int.sub_self, true_or, or_true, true_and, and_true, false_or, or_false, Int.cast_ofNat_Int, ↓reduceIte, l200, e, ex9, if_pos, if_neg]
      · have e := eV_refP hct hc ⟨by omega, k2⟩
        rw [if_neg (show ¬ (0 < s.1 (drA d + 1) ∧ 8 ≤ k ∧ k - 8 < s.1 (drA d + 2)) from fun z => by have := z.2.2; have : s.1 (drA d + 2) ≤ 64 := hb.2; omega)]
        by_cases g6 : k - 200 < 2 * s.1 (drA d + 3)
        · rw [if_pos ⟨hout, by omega, g6⟩]
          rw [if_pos g6] at e
          refine ClsQ.y hS ?_
          simp (disch := omega) only [l0, l1, l2, l3, l4, l5, l6, l7, l8, l10, l12, l16, l20, l24, l26, l40, l64, l80, l100, l255, l256, l288, l312, l400, l992, l1940, l24980, l25240, xI, xL, xR, zI_neg, zI_add, zI_sub, zI_mul, zI_le, zI_lt, zI_eq, zI_in, zI_nat, Option.bind_some, lt9, hq, Int.add_zero, Int.sub_self, true_or, or_true, true_and, and_true, false_or, or_false, Int.cast_ofNat_Int, ↓reduceIte, l200, e, ex9, if_pos, if_neg]
        · rw [if_neg (fun z => g6 z.2.2)]
          rw [if_neg g6] at e
          refine ClsQ.n hS ?_
          simp (disch := omega) only [l0, l1, l2, l3, l4, l5, l6, l7, l8, l10, l12, l16, l20, l24, l26, l40, l64, l80, l100, l255, l256, l288, l312, l400, l992, l1940, l24980, l25240, xI, xL, xR, zI_neg, zI_add, zI_sub, zI_mul, zI_le, zI_lt, zI_eq, zI_in, zI_nat, Option.bind_some, lt9, hq, Int.add_zero, Int.sub_self, true_or, or_true, true_and, and_true, false_or, or_false, Int.cast_ofNat_Int, ↓reduceIte, l200, e, ex9, if_pos, if_neg]
    · have hct := cD.2.2.2.1.2 hout
      by_cases g3 : k = 3
      · subst g3
        rw [if_pos rfl, if_neg hout]
        refine ClsQ.y hS ?_
        simp (disch := omega) only [l0, l1, l2, l3, l4, l5, l6, l7, l8, l10, l12, l16, l20, l24, l26, l40, l64, l80, l100, l255, l256, l288, l312, l400, l992, l1940, l24980, l25240, xI, xL, xR, zI_neg, zI_add, zI_sub, zI_mul, zI_le, zI_lt, zI_eq, zI_in, zI_nat, Option.bind_some, lt9, hq, Int.add_zero, Int.sub_self, true_or, or_true, true_and, and_true, false_or, or_false, Int.cast_ofNat_Int, ↓reduceIte, hct.1, if_pos, if_neg]
      rw [if_neg g3]
      by_cases g4 : k = 4
      · subst g4
        rw [if_pos rfl, if_neg hout]
        refine ClsQ.y hS ?_
        simp (disch := omega) only [l0, l1, l2, l3, l4, l5, l6, l7, l8, l10, l12, l16, l20, l24, l26, l40, l64, l80, l100, l255, l256, l288, l312, l400, l992, l1940, l24980, l25240, xI, xL, xR, zI_neg, zI_add, zI_sub, zI_mul, zI_le, zI_lt, zI_eq, zI_in, zI_nat, Option.bind_some, lt9, hq, Int.add_zero, Int.sub_self, true_or, or_true, true_and, and_true, false_or, or_false, Int.cast_ofNat_Int, ↓reduceIte, hct.2.1, if_pos, if_neg]
      rw [if_neg g4, if_neg (fun z => hout z.1), if_neg (fun z => hout z.1)]
      refine ClsQ.n hS ?_
      by_cases g5 : k < 200
      · have e := eV_byteOf0 hct hk
        simp (disch := omega) only [l0, l1, l2, l3, l4, l5, l6, l7, l8, l10, l12, l16, l20, l24, l26, l40, l64, l80, l100, l255, l256, l288, l312, l400, l992, l1940, l24980, l25240, xI, xL, xR, zI_neg, zI_add, zI_sub, zI_mul, zI_le, zI_lt, zI_eq, zI_in, zI_nat, Option.bind_some, lt9, hq, Int.add_zero, Int.sub_self, true_or, or_true, true_and, and_true, false_or, or_false, Int.cast_ofNat_Int, ↓reduceIte, l200, e, ex9, if_pos, if_neg]
      · have e := eV_refP0 hct ⟨by omega, k2⟩
        simp (disch := omega) only [l0, l1, l2, l3, l4, l5, l6, l7, l8, l10, l12, l16, l20, l24, l26, l40, l64, l80, l100, l255, l256, l288, l312, l400, l992, l1940, l24980, l25240, xI, xL, xR, zI_neg, zI_add, zI_sub, zI_mul, zI_le, zI_lt, zI_eq, zI_in, zI_nat, Option.bind_some, lt9, hq, Int.add_zero, Int.sub_self, true_or, or_true, true_and, and_true, false_or, or_false, Int.cast_ofNat_Int, ↓reduceIte, l200, e, ex9, if_pos, if_neg]
  · rw [if_neg h, if_neg h]
    refine ClsQ.n hS ?_
    simp (disch := omega) only [l0, l1, l2, l3, l4, l5, l6, l7, l8, l10, l12, l16, l20, l24, l26, l40, l64, l80, l100, l255, l256, l288, l312, l400, l992, l1940, l24980, l25240, xI, xL, xR, zI_neg, zI_add, zI_sub, zI_mul, zI_le, zI_lt, zI_eq, zI_in, zI_nat, Option.bind_some, lt9, hq, Int.add_zero, Int.sub_self, true_or, or_true, true_and, and_true, false_or, or_false, Int.cast_ofNat_Int, ↓reduceIte, if_pos, if_neg]
