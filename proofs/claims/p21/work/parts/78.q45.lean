theorem l200 : (200 : Int32) = zI 200 := rfl
def aB (n : Nat) (σ : hT) (a1 a2 s4 s8 s14 : Int32) : Option (Int32 × hT) := lt9 (α := Int32 → Option (Int32 × hT)) (fun (s91 : Int32) => lt9 (sI σ 500 0 0 s91) fun σ93 => if s14 = 0 then some (0, σ93) else if a2 = 0 then Option.bind (M_made σ93 a1) fun y98 => some ((y98 - 1), σ93) else if a2 = 1 then Option.bind (M_released n σ93 a1) fun y101 => some (y101, σ93) else if a2 = 2 then Option.bind (M_with σ93 a1) fun y104 => some (y104, σ93) else if a2 = 3 then if s8 = 0 then some (0, σ93) else if in9 (s4 + 2) 25240 then some ((xI σ93 15 0 ((s4 + 2)).toNatClampNeg), σ93) else none else if a2 = 4 then if s8 = 0 then some (0, σ93) else if in9 (s4 + 3) 25240 then some ((xI σ93 15 0 ((s4 + 3)).toNatClampNeg), σ93) else none else if 200 ≤ a2 then if in9 (((s4 + 4) + a2) - 200) 25240 then some ((xI σ93 15 0 ((((s4 + 4) + a2) - 200)).toNatClampNeg), σ93) else none else if in9 (((s4 + 16) + a2) - 8) 25240 then some ((xI σ93 15 0 ((((s4 + 16) + a2) - 8)).toNatClampNeg), σ93) else none) fun x90 => if s14 = 0 then x90 1 else x90 0
def aC (σ : hT) (y2 a2 s4 s8 : Int32) (x13 : Int32 → Option (Int32 × hT)) : Option (Int32 × hT) := if y2 = 0 then if s8 = 0 then if s8 = 0 then x13 0 else if a2 < 200 then x13 0 else if in9 (s4 + 3) 25240 then if (2 * (xI σ 15 0 ((s4 + 3)).toNatClampNeg)) ≤ (a2 - 200) then x13 0 else x13 1 else none else if a2 < 8 then if s8 = 0 then x13 0 else if a2 < 200 then x13 0 else if in9 (s4 + 3) 25240 then if (2 * (xI σ 15 0 ((s4 + 3)).toNatClampNeg)) ≤ (a2 - 200) then x13 0 else x13 1 else none else if in9 (s4 + 2) 25240 then if (a2 - 8) < (xI σ 15 0 ((s4 + 2)).toNatClampNeg) then x13 1 else if s8 = 0 then x13 0 else if a2 < 200 then x13 0 else if in9 (s4 + 3) 25240 then if (2 * (xI σ 15 0 ((s4 + 3)).toNatClampNeg)) ≤ (a2 - 200) then x13 0 else x13 1 else none else none else if a2 < 0 then if s8 = 0 then if s8 = 0 then x13 0 else if a2 < 200 then x13 0 else if in9 (s4 + 3) 25240 then if (2 * (xI σ 15 0 ((s4 + 3)).toNatClampNeg)) ≤ (a2 - 200) then x13 0 else x13 1 else none else if a2 < 8 then if s8 = 0 then x13 0 else if a2 < 200 then x13 0 else if in9 (s4 + 3) 25240 then if (2 * (xI σ 15 0 ((s4 + 3)).toNatClampNeg)) ≤ (a2 - 200) then x13 0 else x13 1 else none else if in9 (s4 + 2) 25240 then if (a2 - 8) < (xI σ 15 0 ((s4 + 2)).toNatClampNeg) then x13 1 else if s8 = 0 then x13 0 else if a2 < 200 then x13 0 else if in9 (s4 + 3) 25240 then if (2 * (xI σ 15 0 ((s4 + 3)).toNatClampNeg)) ≤ (a2 - 200) then x13 0 else x13 1 else none else none else if a2 < 5 then x13 1 else if s8 = 0 then if s8 = 0 then x13 0 else if a2 < 200 then x13 0 else if in9 (s4 + 3) 25240 then if (2 * (xI σ 15 0 ((s4 + 3)).toNatClampNeg)) ≤ (a2 - 200) then x13 0 else x13 1 else none else if a2 < 8 then if s8 = 0 then x13 0 else if a2 < 200 then x13 0 else if in9 (s4 + 3) 25240 then if (2 * (xI σ 15 0 ((s4 + 3)).toNatClampNeg)) ≤ (a2 - 200) then x13 0 else x13 1 else none else if in9 (s4 + 2) 25240 then if (a2 - 8) < (xI σ 15 0 ((s4 + 2)).toNatClampNeg) then x13 1 else if s8 = 0 then x13 0 else if a2 < 200 then x13 0 else if in9 (s4 + 3) 25240 then if (2 * (xI σ 15 0 ((s4 + 3)).toNatClampNeg)) ≤ (a2 - 200) then x13 0 else x13 1 else none else none
theorem sM_about {n : Nat} {σ : hT} {a1 a2 : Int32} : M_about n σ a1 a2 = Option.bind (M_isDrawing σ a1) fun y2 => lt9 (α := Int32 → Option (Int32 × hT)) (fun s4 => lt9 (α := Int32 → Option (Int32 × hT)) (fun s8 => aC σ y2 a2 s4 s8 (aB n σ a1 a2 s4 s8)) fun x7 => if y2 = 0 then x7 0 else Option.bind (M_with σ a1) fun y11 => if y11 < 0 then x7 0 else x7 1) fun x3 => if y2 = 0 then x3 20 else x3 (M_drawingAt a1) := rfl
theorem eaC {σ : hT} {v : Int → Int} (hN : mN σ v) {A k o : Int} (a0 : 0 ≤ A) (a1 : A + 80 ≤ 25240) (ho : o = 0 ∨ o = 1) (hc : o = 1 → cw v A) (hk : i32 k) (X : Int32 → Option (Int32 × hT)) : aC σ (zI 1) (zI k) (zI A) (zI o) X = X (zI (if (0 ≤ k ∧ k < 5) ∨ (o = 1 ∧ 8 ≤ k ∧ k - 8 < v (A + 2)) ∨ (o = 1 ∧ 200 ≤ k ∧ k - 200 < 2 * v (A + 3)) then 1 else 0)) := by
  obtain ⟨k1, k2⟩ := hk
  unfold aC
  have key : (0 ≤ k ∧ k < 5) ∨ ¬ (0 ≤ k ∧ k < 5) := by omega
  rcases ho with rfl | rfl
  · rcases key with h | h
    · rw [if_pos (show (0 ≤ k ∧ k < 5) ∨ ((0 : Int) = 1 ∧ 8 ≤ k ∧ k - 8 < v (A + 2)) ∨ ((0 : Int) = 1 ∧ 200 ≤ k ∧ k - 200 < 2 * v (A + 3)) by omega)]
      simp (disch := omega) only [l0, l1, l2, l3, l4, l5, l6, l7, l8, l10, l12, l16, l20, l24, l26, l40, l64, l80, l100, l255, l256, l288, l312, l400, l992, l1940, l24980, l25240, xI, xL, xR, zI_neg, zI_add, zI_sub, zI_mul, zI_le, zI_lt, zI_eq, zI_in, zI_nat, Option.bind_some, lt9, hq, Int.add_zero, Int.sub_self, true_or, or_true, true_and, and_true, false_or, or_false, Int.cast_ofNat_Int, ↓reduceIte, l200, if_pos, if_neg]
    · rw [if_neg (show ¬ ((0 ≤ k ∧ k < 5) ∨ ((0 : Int) = 1 ∧ 8 ≤ k ∧ k - 8 < v (A + 2)) ∨ ((0 : Int) = 1 ∧ 200 ≤ k ∧ k - 200 < 2 * v (A + 3))) by omega)]
      by_cases h0 : k < 0
      · simp (disch := omega) only [l0, l1, l2, l3, l4, l5, l6, l7, l8, l10, l12, l16, l20, l24, l26, l40, l64, l80, l100, l255, l256, l288, l312, l400, l992, l1940, l24980, l25240, xI, xL, xR, zI_neg, zI_add, zI_sub, zI_mul, zI_le, zI_lt, zI_eq, zI_in, zI_nat, Option.bind_some, lt9, hq, Int.add_zero, Int.sub_self, true_or, or_true, true_and, and_true, false_or, or_false, Int.cast_ofNat_Int, ↓reduceIte, l200, if_pos, if_neg]
      · simp (disch := omega) only [l0, l1, l2, l3, l4, l5, l6, l7, l8, l10, l12, l16, l20, l24, l26, l40, l64, l80, l100, l255, l256, l288, l312, l400, l992, l1940, l24980, l25240, xI, xL, xR, zI_neg, zI_add, zI_sub, zI_mul, zI_le, zI_lt, zI_eq, zI_in, zI_nat, Option.bind_some, lt9, hq, Int.add_zero, Int.sub_self, true_or, or_true, true_and, and_true, false_or, or_false, Int.cast_ofNat_Int, ↓reduceIte, l200, if_pos, if_neg]
  · have hc := hc rfl
    have b1 := hc.1
    have b2 := hc.2.1
    have n2 := hN (A + 2) (by omega) (by omega)
    have n3 := hN (A + 3) (by omega) (by omega)
    rcases key with h | h
    · rw [if_pos (show (0 ≤ k ∧ k < 5) ∨ ((1 : Int) = 1 ∧ 8 ≤ k ∧ k - 8 < v (A + 2)) ∨ ((1 : Int) = 1 ∧ 200 ≤ k ∧ k - 200 < 2 * v (A + 3)) by omega)]
      simp (disch := omega) only [l0, l1, l2, l3, l4, l5, l6, l7, l8, l10, l12, l16, l20, l24, l26, l40, l64, l80, l100, l255, l256, l288, l312, l400, l992, l1940, l24980, l25240, xI, xL, xR, zI_neg, zI_add, zI_sub, zI_mul, zI_le, zI_lt, zI_eq, zI_in, zI_nat, Option.bind_some, lt9, hq, Int.add_zero, Int.sub_self, true_or, or_true, true_and, and_true, false_or, or_false, Int.cast_ofNat_Int, ↓reduceIte, l200, if_pos, if_neg]
    · by_cases h8 : 8 ≤ k
      · by_cases h9 : k - 8 < v (A + 2)
        · rw [if_pos (show (0 ≤ k ∧ k < 5) ∨ ((1 : Int) = 1 ∧ 8 ≤ k ∧ k - 8 < v (A + 2)) ∨ ((1 : Int) = 1 ∧ 200 ≤ k ∧ k - 200 < 2 * v (A + 3)) by omega)]
          simp (disch := omega) only [l0, l1, l2, l3, l4, l5, l6, l7, l8, l10, l12, l16, l20, l24, l26, l40, l64, l80, l100, l255, l256, l288, l312, l400, l992, l1940, l24980, l25240, xI, xL, xR, zI_neg, zI_add, zI_sub, zI_mul, zI_le, zI_lt, zI_eq, zI_in, zI_nat, Option.bind_some, lt9, hq, Int.add_zero, Int.sub_self, true_or, or_true, true_and, and_true, false_or, or_false, Int.cast_ofNat_Int, ↓reduceIte, n2, n3, l200, if_pos, if_neg]
        · by_cases h10 : k < 200
          · rw [if_neg (show ¬ ((0 ≤ k ∧ k < 5) ∨ ((1 : Int) = 1 ∧ 8 ≤ k ∧ k - 8 < v (A + 2)) ∨ ((1 : Int) = 1 ∧ 200 ≤ k ∧ k - 200 < 2 * v (A + 3))) by omega)]
            simp (disch := omega) only [l0, l1, l2, l3, l4, l5, l6, l7, l8, l10, l12, l16, l20, l24, l26, l40, l64, l80, l100, l255, l256, l288, l312, l400, l992, l1940, l24980, l25240, xI, xL, xR, zI_neg, zI_add, zI_sub, zI_mul, zI_le, zI_lt, zI_eq, zI_in, zI_nat, Option.bind_some, lt9, hq, Int.add_zero, Int.sub_self, true_or, or_true, true_and, and_true, false_or, or_false, Int.cast_ofNat_Int, ↓reduceIte, n2, n3, l200, if_pos, if_neg]
          · by_cases h11 : k - 200 < 2 * v (A + 3)
            · rw [if_pos (show (0 ≤ k ∧ k < 5) ∨ ((1 : Int) = 1 ∧ 8 ≤ k ∧ k - 8 < v (A + 2)) ∨ ((1 : Int) = 1 ∧ 200 ≤ k ∧ k - 200 < 2 * v (A + 3)) by omega)]
              simp (disch := omega) only [l0, l1, l2, l3, l4, l5, l6, l7, l8, l10, l12, l16, l20, l24, l26, l40, l64, l80, l100, l255, l256, l288, l312, l400, l992, l1940, l24980, l25240, xI, xL, xR, zI_neg, zI_add, zI_sub, zI_mul, zI_le, zI_lt, zI_eq, zI_in, zI_nat, Option.bind_some, lt9, hq, Int.add_zero, Int.sub_self, true_or, or_true, true_and, and_true, false_or, or_false, Int.cast_ofNat_Int, ↓reduceIte, n2, n3, l200, if_pos, if_neg]
            · rw [if_neg (show ¬ ((0 ≤ k ∧ k < 5) ∨ ((1 : Int) = 1 ∧ 8 ≤ k ∧ k - 8 < v (A + 2)) ∨ ((1 : Int) = 1 ∧ 200 ≤ k ∧ k - 200 < 2 * v (A + 3))) by omega)]
              simp (disch := omega) only [l0, l1, l2, l3, l4, l5, l6, l7, l8, l10, l12, l16, l20, l24, l26, l40, l64, l80, l100, l255, l256, l288, l312, l400, l992, l1940, l24980, l25240, xI, xL, xR, zI_neg, zI_add, zI_sub, zI_mul, zI_le, zI_lt, zI_eq, zI_in, zI_nat, Option.bind_some, lt9, hq, Int.add_zero, Int.sub_self, true_or, or_true, true_and, and_true, false_or, or_false, Int.cast_ofNat_Int, ↓reduceIte, n2, n3, l200, if_pos, if_neg]
      · rw [if_neg (show ¬ ((0 ≤ k ∧ k < 5) ∨ ((1 : Int) = 1 ∧ 8 ≤ k ∧ k - 8 < v (A + 2)) ∨ ((1 : Int) = 1 ∧ 200 ≤ k ∧ k - 200 < 2 * v (A + 3))) by omega)]
        by_cases h0 : k < 0
        · simp (disch := omega) only [l0, l1, l2, l3, l4, l5, l6, l7, l8, l10, l12, l16, l20, l24, l26, l40, l64, l80, l100, l255, l256, l288, l312, l400, l992, l1940, l24980, l25240, xI, xL, xR, zI_neg, zI_add, zI_sub, zI_mul, zI_le, zI_lt, zI_eq, zI_in, zI_nat, Option.bind_some, lt9, hq, Int.add_zero, Int.sub_self, true_or, or_true, true_and, and_true, false_or, or_false, Int.cast_ofNat_Int, ↓reduceIte, n2, n3, l200, if_pos, if_neg]
        · simp (disch := omega) only [l0, l1, l2, l3, l4, l5, l6, l7, l8, l10, l12, l16, l20, l24, l26, l40, l64, l80, l100, l255, l256, l288, l312, l400, l992, l1940, l24980, l25240, xI, xL, xR, zI_neg, zI_add, zI_sub, zI_mul, zI_le, zI_lt, zI_eq, zI_in, zI_nat, Option.bind_some, lt9, hq, Int.add_zero, Int.sub_self, true_or, or_true, true_and, and_true, false_or, or_false, Int.cast_ofNat_Int, ↓reduceIte, n2, n3, l200, if_pos, if_neg]
abbrev drA (d : Int) : Int := 20 + 80 * d
def qAb (v : Int → Int) (d k : Int) : Option Int := if 0 ≤ d ∧ d < v 16 then (if k = 0 then some (v (drA d) - 1) else if k = 1 then some (rel v d) else if k = 2 then some (v (drA d + 1) - 1) else if k = 3 then some (if 0 < v (drA d + 1) then v (drA d + 2) else 0) else if k = 4 then some (if 0 < v (drA d + 1) then v (drA d + 3) else 0) else if 0 < v (drA d + 1) ∧ 8 ≤ k ∧ k - 8 < v (drA d + 2) then some (v (drA d + 16 + (k - 8))) else if 0 < v (drA d + 1) ∧ 200 ≤ k ∧ k - 200 < 2 * v (drA d + 3) then some (v (drA d + 4 + (k - 200))) else none) else none
theorem eM_about {σ : hT} {s : zT} (hs : MSt σ s) (ho : okS s) {d k : Int} (hd : i32 d) (hk : i32 k) {n : Nat} (hn : 13 ≤ n) : RefQ (qAb s.1 d k) s σ (M_about n σ (zI d) (zI k)) := by
  have hk' := hk
  obtain ⟨k1, k2⟩ := hk'
  have hN := hs.1
  have h16 := ho.1.1
  rw [sM_about, eM_isDrawing hN ho.1 hd.1 hd.2]
  unfold qAb
  by_cases h : 0 ≤ d ∧ d < s.1 16
  · have hD := ho.1.2.2.2.1 d h.1 h.2
    have hm := hD.1
    have hb := hD.2.1
    have eA : M_drawingAt (zI d) = zI (drA d) := eM_drawingAt
    have a0 : 0 ≤ drA d := by show 0 ≤ 20 + 80 * d; omega
    have a1 : drA d + 80 ≤ 25240 := by show 20 + 80 * d + 80 ≤ 25240; omega
    have c15 : mN (sI σ 500 0 0 (zI 0)) s.1 := (MSt.r5 hs).1
    have e0 : ∀ o : Int, (o = 0 ∨ o = 1) → (o = 1 ↔ 0 < s.1 (drA d + 1)) → RefQ (if k = 0 then some (s.1 (drA d) - 1) else if k = 1 then some (rel s.1 d) else if k = 2 then some (s.1 (drA d + 1) - 1) else if k = 3 then some (if 0 < s.1 (drA d + 1) then s.1 (drA d + 2) else 0) else if k = 4 then some (if 0 < s.1 (drA d + 1) then s.1 (drA d + 3) else 0) else if 0 < s.1 (drA d + 1) ∧ 8 ≤ k ∧ k - 8 < s.1 (drA d + 2) then some (s.1 (drA d + 16 + (k - 8))) else if 0 < s.1 (drA d + 1) ∧ 200 ≤ k ∧ k - 200 < 2 * s.1 (drA d + 3) then some (s.1 (drA d + 4 + (k - 200))) else none) s σ (aC σ (zI 1) (zI k) (zI (drA d)) (zI o) (aB n σ (zI d) (zI k) (zI (drA d)) (zI o))) := by
      intro o o1 o2
      have hcw : o = 1 → cw s.1 (drA d) := fun z => hD.2.2.1 (o2.mp z)
      rw [eaC hN a0 a1 o1 hcw hk]
      by_cases hv : (0 ≤ k ∧ k < 5) ∨ (o = 1 ∧ 8 ≤ k ∧ k - 8 < s.1 (drA d + 2)) ∨ (o = 1 ∧ 200 ≤ k ∧ k - 200 < 2 * s.1 (drA d + 3))
      · rw [if_pos hv]
        unfold aB
        by_cases g0 : k = 0
        · subst g0
          rw [if_pos rfl]
          refine RefQ.y hs ?_
          simp (disch := omega) only [l0, l1, l2, l3, l4, l5, l6, l7, l8, l10, l12, l16, l20, l24, l26, l40, l64, l80, l100, l255, l256, l288, l312, l400, l992, l1940, l24980, l25240, xI, xL, xR, zI_neg, zI_add, zI_sub, zI_mul, zI_le, zI_lt, zI_eq, zI_in, zI_nat, Option.bind_some, lt9, hq, Int.add_zero, Int.sub_self, true_or, or_true, true_and, and_true, false_or, or_false, Int.cast_ofNat_Int, ↓reduceIte, eM_made c15, l200, if_pos, if_neg]
        by_cases g1 : k = 1
        · subst g1
          rw [if_neg (by decide), if_pos rfl]
          refine RefQ.y hs ?_
          simp (disch := omega) only [l0, l1, l2, l3, l4, l5, l6, l7, l8, l10, l12, l16, l20, l24, l26, l40, l64, l80, l100, l255, l256, l288, l312, l400, l992, l1940, l24980, l25240, xI, xL, xR, zI_neg, zI_add, zI_sub, zI_mul, zI_le, zI_lt, zI_eq, zI_in, zI_nat, Option.bind_some, lt9, hq, Int.add_zero, Int.sub_self, true_or, or_true, true_and, and_true, false_or, or_false, Int.cast_ofNat_Int, ↓reduceIte, eM_released c15 ho.1 h.1 h.2 hn, if_pos, if_neg]
        by_cases g2 : k = 2
        · subst g2
          rw [if_neg (by decide), if_neg (by decide), if_pos rfl]
          refine RefQ.y hs ?_
          simp (disch := omega) only [l0, l1, l2, l3, l4, l5, l6, l7, l8, l10, l12, l16, l20, l24, l26, l40, l64, l80, l100, l255, l256, l288, l312, l400, l992, l1940, l24980, l25240, xI, xL, xR, zI_neg, zI_add, zI_sub, zI_mul, zI_le, zI_lt, zI_eq, zI_in, zI_nat, Option.bind_some, lt9, hq, Int.add_zero, Int.sub_self, true_or, or_true, true_and, and_true, false_or, or_false, Int.cast_ofNat_Int, ↓reduceIte, eM_with c15, l200, if_pos, if_neg]
        by_cases g3 : k = 3
        · subst g3
          rw [if_neg (by decide), if_neg (by decide), if_neg (by decide), if_pos rfl]
          refine RefQ.y hs ?_
          rcases o1 with rfl | rfl
          · rw [if_neg (fun z => absurd (o2.mpr z) (by decide))]
            simp (disch := omega) only [l0, l1, l2, l3, l4, l5, l6, l7, l8, l10, l12, l16, l20, l24, l26, l40, l64, l80, l100, l255, l256, l288, l312, l400, l992, l1940, l24980, l25240, xI, xL, xR, zI_neg, zI_add, zI_sub, zI_mul, zI_le, zI_lt, zI_eq, zI_in, zI_nat, Option.bind_some, lt9, hq, Int.add_zero, Int.sub_self, true_or, or_true, true_and, and_true, false_or, or_false, Int.cast_ofNat_Int, ↓reduceIte, l200, if_pos, if_neg]
          · rw [if_pos (o2.mp rfl)]
            simp (disch := omega) only [l0, l1, l2, l3, l4, l5, l6, l7, l8, l10, l12, l16, l20, l24, l26, l40, l64, l80, l100, l255, l256, l288, l312, l400, l992, l1940, l24980, l25240, xI, xL, xR, zI_neg, zI_add, zI_sub, zI_mul, zI_le, zI_lt, zI_eq, zI_in, zI_nat, Option.bind_some, lt9, hq, Int.add_zero, Int.sub_self, true_or, or_true, true_and, and_true, false_or, or_false, Int.cast_ofNat_Int, ↓reduceIte, c15 _, l200, if_pos, if_neg]
        by_cases g4 : k = 4
        · subst g4
          rw [if_neg (by decide), if_neg (by decide), if_neg (by decide), if_neg (by decide), if_pos rfl]
          refine RefQ.y hs ?_
          rcases o1 with rfl | rfl
          · rw [if_neg (fun z => absurd (o2.mpr z) (by decide))]
            simp (disch := omega) only [l0, l1, l2, l3, l4, l5, l6, l7, l8, l10, l12, l16, l20, l24, l26, l40, l64, l80, l100, l255, l256, l288, l312, l400, l992, l1940, l24980, l25240, xI, xL, xR, zI_neg, zI_add, zI_sub, zI_mul, zI_le, zI_lt, zI_eq, zI_in, zI_nat, Option.bind_some, lt9, hq, Int.add_zero, Int.sub_self, true_or, or_true, true_and, and_true, false_or, or_false, Int.cast_ofNat_Int, ↓reduceIte, l200, if_pos, if_neg]
          · rw [if_pos (o2.mp rfl)]
            simp (disch := omega) only [l0, l1, l2, l3, l4, l5, l6, l7, l8, l10, l12, l16, l20, l24, l26, l40, l64, l80, l100, l255, l256, l288, l312, l400, l992, l1940, l24980, l25240, xI, xL, xR, zI_neg, zI_add, zI_sub, zI_mul, zI_le, zI_lt, zI_eq, zI_in, zI_nat, Option.bind_some, lt9, hq, Int.add_zero, Int.sub_self, true_or, or_true, true_and, and_true, false_or, or_false, Int.cast_ofNat_Int, ↓reduceIte, c15 _, l200, if_pos, if_neg]
        rw [if_neg g0, if_neg g1, if_neg g2, if_neg g3, if_neg g4]
        have ho1 : o = 1 := by omega
        have hout := o2.mp ho1
        have hc := hcw ho1
        have b1 := hc.1
        have b2 := hc.2.1
        by_cases g5 : 8 ≤ k ∧ k - 8 < s.1 (drA d + 2)
        · rw [if_pos ⟨hout, g5⟩]
          refine RefQ.y hs ?_
          simp (disch := omega) only [l0, l1, l2, l3, l4, l5, l6, l7, l8, l10, l12, l16, l20, l24, l26, l40, l64, l80, l100, l255, l256, l288, l312, l400, l992, l1940, l24980, l25240, xI, xL, xR, zI_neg, zI_add, zI_sub, zI_mul, zI_le, zI_lt, zI_eq, zI_in, zI_nat, Option.bind_some, lt9, hq, Int.add_zero, Int.sub_self, true_or, or_true, true_and, and_true, false_or, or_false, Int.cast_ofNat_Int, ↓reduceIte, c15 _, l200, if_pos, if_neg]
          rw [show drA d + 16 + k - 8 = drA d + 16 + (k - 8) by omega]
        · rw [if_neg (fun z => g5 z.2), if_pos ⟨hout, by omega, by omega⟩]
          refine RefQ.y hs ?_
          simp (disch := omega) only [l0, l1, l2, l3, l4, l5, l6, l7, l8, l10, l12, l16, l20, l24, l26, l40, l64, l80, l100, l255, l256, l288, l312, l400, l992, l1940, l24980, l25240, xI, xL, xR, zI_neg, zI_add, zI_sub, zI_mul, zI_le, zI_lt, zI_eq, zI_in, zI_nat, Option.bind_some, lt9, hq, Int.add_zero, Int.sub_self, true_or, or_true, true_and, and_true, false_or, or_false, Int.cast_ofNat_Int, ↓reduceIte, c15 _, l200, if_pos, if_neg]
          rw [show drA d + 4 + k - 200 = drA d + 4 + (k - 200) by omega]
      · rw [if_neg hv, if_neg (by omega), if_neg (by omega), if_neg (by omega), if_neg (by omega), if_neg (by omega), if_neg (fun z => hv (Or.inr (Or.inl ⟨o2.mpr z.1, z.2⟩))), if_neg (fun z => hv (Or.inr (Or.inr ⟨o2.mpr z.1, z.2⟩)))]
        refine RefQ.n hs ?_
        exact rfl
    rw [if_pos h, if_pos h, Option.bind_some]
    have ew := eM_with hN h.1 (show d < 24 by omega)
    by_cases hout : 0 < s.1 (20 + 80 * d + 1)
    · have := e0 1 (Or.inr rfl) ⟨fun _ => hout, fun _ => rfl⟩
      have e : (lt9 (α := Int32 → Option (Int32 × hT)) (fun s4 => lt9 (α := Int32 → Option (Int32 × hT)) (fun s8 => aC σ (zI 1) (zI k) s4 s8 (aB n σ (zI d) (zI k) s4 s8)) fun x7 => if zI 1 = 0 then x7 0 else Option.bind (M_with σ (zI d)) fun y11 => if y11 < 0 then x7 0 else x7 1) fun x3 => if zI 1 = 0 then x3 20 else x3 (M_drawingAt (zI d))) = aC σ (zI 1) (zI k) (zI (drA d)) (zI 1) (aB n σ (zI d) (zI k) (zI (drA d)) (zI 1)) := by
        simp (disch := omega) only [l0, l1, l2, l3, l4, l5, l6, l7, l8, l10, l12, l16, l20, l24, l26, l40, l64, l80, l100, l255, l256, l288, l312, l400, l992, l1940, l24980, l25240, xI, xL, xR, zI_neg, zI_add, zI_sub, zI_mul, zI_le, zI_lt, zI_eq, zI_in, zI_nat, Option.bind_some, lt9, hq, Int.add_zero, Int.sub_self, true_or, or_true, true_and, and_true, false_or, or_false, Int.cast_ofNat_Int, ↓reduceIte, eA, ew, if_pos, if_neg]
      rw [e]; exact this
    · have := e0 0 (Or.inl rfl) ⟨fun z => absurd z (by decide), fun z => absurd z hout⟩
      have e : (lt9 (α := Int32 → Option (Int32 × hT)) (fun s4 => lt9 (α := Int32 → Option (Int32 × hT)) (fun s8 => aC σ (zI 1) (zI k) s4 s8 (aB n σ (zI d) (zI k) s4 s8)) fun x7 => if zI 1 = 0 then x7 0 else Option.bind (M_with σ (zI d)) fun y11 => if y11 < 0 then x7 0 else x7 1) fun x3 => if zI 1 = 0 then x3 20 else x3 (M_drawingAt (zI d))) = aC σ (zI 1) (zI k) (zI (drA d)) (zI 0) (aB n σ (zI d) (zI k) (zI (drA d)) (zI 0)) := by
        simp (disch := omega) only [l0, l1, l2, l3, l4, l5, l6, l7, l8, l10, l12, l16, l20, l24, l26, l40, l64, l80, l100, l255, l256, l288, l312, l400, l992, l1940, l24980, l25240, xI, xL, xR, zI_neg, zI_add, zI_sub, zI_mul, zI_le, zI_lt, zI_eq, zI_in, zI_nat, Option.bind_some, lt9, hq, Int.add_zero, Int.sub_self, true_or, or_true, true_and, and_true, false_or, or_false, Int.cast_ofNat_Int, ↓reduceIte, eA, ew, if_pos, if_neg]
      rw [e]; exact this
  · rw [if_neg h, if_neg h]
    refine RefQ.n hs ?_
    exact rfl
