theorem l0 : (0 : Int32) = zI 0 := rfl
theorem l1 : (1 : Int32) = zI 1 := rfl
theorem l2 : (2 : Int32) = zI 2 := rfl
theorem l3 : (3 : Int32) = zI 3 := rfl
theorem l4 : (4 : Int32) = zI 4 := rfl
theorem l5 : (5 : Int32) = zI 5 := rfl
theorem l6 : (6 : Int32) = zI 6 := rfl
theorem l7 : (7 : Int32) = zI 7 := rfl
theorem l8 : (8 : Int32) = zI 8 := rfl
theorem l10 : (10 : Int32) = zI 10 := rfl
theorem l12 : (12 : Int32) = zI 12 := rfl
theorem l16 : (16 : Int32) = zI 16 := rfl
theorem l20 : (20 : Int32) = zI 20 := rfl
theorem l24 : (24 : Int32) = zI 24 := rfl
theorem l26 : (26 : Int32) = zI 26 := rfl
theorem l40 : (40 : Int32) = zI 40 := rfl
theorem l64 : (64 : Int32) = zI 64 := rfl
theorem l80 : (80 : Int32) = zI 80 := rfl
theorem l100 : (100 : Int32) = zI 100 := rfl
theorem l255 : (255 : Int32) = zI 255 := rfl
theorem l256 : (256 : Int32) = zI 256 := rfl
theorem l288 : (288 : Int32) = zI 288 := rfl
theorem l312 : (312 : Int32) = zI 312 := rfl
theorem l400 : (400 : Int32) = zI 400 := rfl
theorem l992 : (992 : Int32) = zI 992 := rfl
theorem l1940 : (1940 : Int32) = zI 1940 := rfl
theorem l24980 : (24980 : Int32) = zI 24980 := rfl
theorem l25240 : (25240 : Int32) = zI 25240 := rfl
theorem lm1 : (-1 : Int32) = zI (-1) := rfl
def mN (σ : hT) (v : Int → Int) : Prop := ∀ k : Int, 0 ≤ k → k < 25240 → σ.1 15 0 k.toNat = zI (v k)
def mK (σ : hT) (w : Int → Int) : Prop := ∀ k : Int, 0 ≤ k → k < 25240 → σ.1 16 0 k.toNat = zI (w k)
theorem mN.lit {σ : hT} {v : Int → Int} (h : mN σ v) (k : Nat) (hk : k < 25240) : σ.1 15 0 k = zI (v k) := by
  have := h k (by omega) (by omega)
  simpa using this
def cw (v : Int → Int) (a : Int) : Prop := (0 ≤ v (a + 2) ∧ v (a + 2) ≤ 64) ∧ (0 ≤ v (a + 3) ∧ v (a + 3) ≤ 6) ∧ (∀ k, 0 ≤ k → k < v (a + 3) → 0 ≤ v (a + 4 + 2 * k) ∧ v (a + 4 + 2 * k) < v 16 ∧ -1 ≤ v (a + 4 + 2 * k + 1) ∧ v (a + 4 + 2 * k + 1) < 2147483648) ∧ (∀ i, 0 ≤ i → i < v (a + 2) → 0 ≤ v (a + 16 + i) ∧ v (a + 16 + i) ≤ 255)
def fx (v : Int → Int) (a : Int) : Prop := ∀ k, 0 ≤ k → k < v (a + 3) → v (a + 4 + 2 * k + 1) < v (20 + 80 * v (a + 4 + 2 * k))
def allR (v : Int → Int) : Nat → Int
  | 0 => 0
  | n + 1 => allR v n + v (20 + 80 * n)
def wfD (v : Int → Int) (d : Int) : Prop := (1 ≤ v (20 + 80 * d) ∧ v (20 + 80 * d) ≤ 12) ∧ (0 ≤ v (20 + 80 * d + 1) ∧ v (20 + 80 * d + 1) ≤ 16) ∧ (0 < v (20 + 80 * d + 1) → cw v (20 + 80 * d)) ∧ ∀ r, 0 ≤ r → r < v (20 + 80 * d) → (0 ≤ v (1940 + 80 * (12 * d + r)) ∧ v (1940 + 80 * (12 * d + r)) ≤ 3) ∧ (0 ≤ v (1940 + 80 * (12 * d + r) + 1) ∧ v (1940 + 80 * (12 * d + r) + 1) < 16) ∧ cw v (1940 + 80 * (12 * d + r)) ∧ fx v (1940 + 80 * (12 * d + r))
def cntE (v : Int → Int) (a : Int) : Nat → Int
  | 0 => 0
  | n + 1 => cntE v a n + if v (a + n) ≤ 0 then 0 else 1
def wfB (v : Int → Int) (b : Int) : Prop := (v (24980 + 26 * b) = 0 ∨ v (24980 + 26 * b) = 1) ∧ (0 ≤ v (24980 + 26 * b + 1) ∧ v (24980 + 26 * b + 1) ≤ 24) ∧ (∀ k, 0 ≤ k → k < 24 → 0 ≤ v (24980 + 26 * b + 2 + k) ∧ v (24980 + 26 * b + 2 + k) ≤ 12) ∧ (v (24980 + 26 * b) = 1 → v (24980 + 26 * b + 1) = cntE v (24980 + 26 * b + 2) 24)
def wf (v : Int → Int) : Prop := (0 ≤ v 16 ∧ v 16 ≤ 24) ∧ (∀ p, 0 ≤ p → p < 16 → 0 ≤ v p ∧ v p ≤ 7) ∧ (0 ≤ v 17 ∧ v 17 ≤ 400) ∧ (∀ d, 0 ≤ d → d < v 16 → wfD v d) ∧ (0 ≤ allR v (v 16).toNat ∧ allR v (v 16).toNat ≤ 100) ∧ ∀ b, 0 ≤ b → b < 10 → wfB v b
theorem eM_isPerson {p : Int} (h1 : -2147483648 ≤ p) (h2 : p < 2147483648) : M_isPerson (zI p) = zI (if 0 ≤ p ∧ p < 16 then 1 else 0) := by
  simp (disch := omega) only [l0, l1, l2, l3, l4, l5, l6, l7, l8, l10, l12, l16, l20, l24, l26, l40, l64, l80, l100, l255, l256, l288, l312, l400, l992, l1940, l24980, l25240, xI, xL, xR, zI_neg, zI_add, zI_sub, zI_mul, zI_le, zI_lt, zI_eq, zI_in, zI_nat, Option.bind_some, lt9, hq, Int.add_zero, Int.sub_self, true_or, or_true, true_and, and_true, false_or, or_false, Int.cast_ofNat_Int, ↓reduceIte, M_isPerson, if_pos, if_neg]
  repeat' split
  all_goals first | rfl | (exfalso; omega)
theorem eM_rights {σ : hT} {v : Int → Int} (hN : mN σ v) {p : Int} (h1 : -2147483648 ≤ p) (h2 : p < 2147483648) : M_rights σ (zI p) = some (zI (if 0 ≤ p ∧ p < 16 then v p else 0)) := by
  unfold M_rights
  rw [eM_isPerson h1 h2]
  by_cases h : 0 ≤ p ∧ p < 16
  · simp (disch := omega) only [l0, l1, l2, l3, l4, l5, l6, l7, l8, l10, l12, l16, l20, l24, l26, l40, l64, l80, l100, l255, l256, l288, l312, l400, l992, l1940, l24980, l25240, xI, xL, xR, zI_neg, zI_add, zI_sub, zI_mul, zI_le, zI_lt, zI_eq, zI_in, zI_nat, Option.bind_some, lt9, hq, Int.add_zero, Int.sub_self, true_or, or_true, true_and, and_true, false_or, or_false, Int.cast_ofNat_Int, ↓reduceIte, if_pos h, hN _, if_pos, if_neg]
  · simp (disch := omega) only [l0, l1, l2, l3, l4, l5, l6, l7, l8, l10, l12, l16, l20, l24, l26, l40, l64, l80, l100, l255, l256, l288, l312, l400, l992, l1940, l24980, l25240, xI, xL, xR, zI_neg, zI_add, zI_sub, zI_mul, zI_le, zI_lt, zI_eq, zI_in, zI_nat, Option.bind_some, lt9, hq, Int.add_zero, Int.sub_self, true_or, or_true, true_and, and_true, false_or, or_false, Int.cast_ofNat_Int, ↓reduceIte, if_neg h, if_pos, if_neg]
theorem eM_isDrawing {σ : hT} {v : Int → Int} (hN : mN σ v) (hw : wf v) {d : Int} (h1 : -2147483648 ≤ d) (h2 : d < 2147483648) : M_isDrawing σ (zI d) = some (zI (if 0 ≤ d ∧ d < v 16 then 1 else 0)) := by
  have h16 := hw.1
  simp (disch := omega) only [l0, l1, l2, l3, l4, l5, l6, l7, l8, l10, l12, l16, l20, l24, l26, l40, l64, l80, l100, l255, l256, l288, l312, l400, l992, l1940, l24980, l25240, xI, xL, xR, zI_neg, zI_add, zI_sub, zI_mul, zI_le, zI_lt, zI_eq, zI_in, zI_nat, Option.bind_some, lt9, hq, Int.add_zero, Int.sub_self, true_or, or_true, true_and, and_true, false_or, or_false, Int.cast_ofNat_Int, ↓reduceIte, M_isDrawing, hN.lit, if_pos, if_neg]
  repeat' split
  all_goals first | rfl | (exfalso; omega)
theorem eM_made {σ : hT} {v : Int → Int} (hN : mN σ v) {d : Int} (h0 : 0 ≤ d) (h1 : d < 24) : M_made σ (zI d) = some (zI (v (20 + 80 * d))) := by
  simp (disch := omega) only [l0, l1, l2, l3, l4, l5, l6, l7, l8, l10, l12, l16, l20, l24, l26, l40, l64, l80, l100, l255, l256, l288, l312, l400, l992, l1940, l24980, l25240, xI, xL, xR, zI_neg, zI_add, zI_sub, zI_mul, zI_le, zI_lt, zI_eq, zI_in, zI_nat, Option.bind_some, lt9, hq, Int.add_zero, Int.sub_self, true_or, or_true, true_and, and_true, false_or, or_false, Int.cast_ofNat_Int, ↓reduceIte, M_made, M_drawingAt, hN _, if_pos, if_neg]
theorem eM_with {σ : hT} {v : Int → Int} (hN : mN σ v) {d : Int} (h0 : 0 ≤ d) (h1 : d < 24) : M_with σ (zI d) = some (zI (v (20 + 80 * d + 1) - 1)) := by
  simp (disch := omega) only [l0, l1, l2, l3, l4, l5, l6, l7, l8, l10, l12, l16, l20, l24, l26, l40, l64, l80, l100, l255, l256, l288, l312, l400, l992, l1940, l24980, l25240, xI, xL, xR, zI_neg, zI_add, zI_sub, zI_mul, zI_le, zI_lt, zI_eq, zI_in, zI_nat, Option.bind_some, lt9, hq, Int.add_zero, Int.sub_self, true_or, or_true, true_and, and_true, false_or, or_false, Int.cast_ofNat_Int, ↓reduceIte, M_with, M_drawingAt, hN _, if_pos, if_neg]
theorem eM_isRevision {σ : hT} {v : Int → Int} (hN : mN σ v) (hw : wf v) {d r : Int} (h1 : -2147483648 ≤ d) (h2 : d < 2147483648) (h3 : -2147483648 ≤ r) (h4 : r < 2147483648) : M_isRevision σ (zI d) (zI r) = some (zI (if 0 ≤ d ∧ d < v 16 ∧ 0 ≤ r ∧ r < v (20 + 80 * d) then 1 else 0)) := by
  have h16 := hw.1
  unfold M_isRevision
  rw [eM_isDrawing hN hw h1 h2, Option.bind_some]
  by_cases h : 0 ≤ d ∧ d < v 16
  · have hd := (hw.2.2.2.1 d h.1 h.2).1
    simp (disch := omega) only [l0, l1, l2, l3, l4, l5, l6, l7, l8, l10, l12, l16, l20, l24, l26, l40, l64, l80, l100, l255, l256, l288, l312, l400, l992, l1940, l24980, l25240, xI, xL, xR, zI_neg, zI_add, zI_sub, zI_mul, zI_le, zI_lt, zI_eq, zI_in, zI_nat, Option.bind_some, lt9, hq, Int.add_zero, Int.sub_self, true_or, or_true, true_and, and_true, false_or, or_false, Int.cast_ofNat_Int, ↓reduceIte, if_pos h, eM_made hN, if_pos, if_neg]
    repeat' split
    all_goals first | rfl | (exfalso; omega)
  · simp (disch := omega) only [l0, l1, l2, l3, l4, l5, l6, l7, l8, l10, l12, l16, l20, l24, l26, l40, l64, l80, l100, l255, l256, l288, l312, l400, l992, l1940, l24980, l25240, xI, xL, xR, zI_neg, zI_add, zI_sub, zI_mul, zI_le, zI_lt, zI_eq, zI_in, zI_nat, Option.bind_some, lt9, hq, Int.add_zero, Int.sub_self, true_or, or_true, true_and, and_true, false_or, or_false, Int.cast_ofNat_Int, ↓reduceIte, if_neg h, if_pos, if_neg]
theorem eM_revisionAt {d r : Int} : M_revisionAt (zI d) (zI r) = zI (1940 + 80 * (12 * d + r)) := by
  simp only [M_revisionAt, l1940, l80, l12, zI_add, zI_mul]
theorem eM_drawingAt {d : Int} : M_drawingAt (zI d) = zI (20 + 80 * d) := by
  simp only [M_drawingAt, l20, l80, zI_add, zI_mul]
theorem eM_baselineAt {b : Int} : M_baselineAt (zI b) = zI (24980 + 26 * b) := by
  simp only [M_baselineAt, l24980, l26, zI_add, zI_mul]
theorem eM_stateOf {σ : hT} {v : Int → Int} (hN : mN σ v) {d r : Int} (h0 : 0 ≤ d) (h1 : d < 24) (h2 : 0 ≤ r) (h3 : r < 12) : M_stateOf σ (zI d) (zI r) = some (zI (v (1940 + 80 * (12 * d + r)))) := by
  simp (disch := omega) only [l0, l1, l2, l3, l4, l5, l6, l7, l8, l10, l12, l16, l20, l24, l26, l40, l64, l80, l100, l255, l256, l288, l312, l400, l992, l1940, l24980, l25240, xI, xL, xR, zI_neg, zI_add, zI_sub, zI_mul, zI_le, zI_lt, zI_eq, zI_in, zI_nat, Option.bind_some, lt9, hq, Int.add_zero, Int.sub_self, true_or, or_true, true_and, and_true, false_or, or_false, Int.cast_ofNat_Int, ↓reduceIte, M_stateOf, M_revisionAt, hN _, if_pos, if_neg]
theorem eM_refDrawing {σ : hT} {v : Int → Int} (hN : mN σ v) {a k : Int} (h0 : 0 ≤ a) (h1 : a + 80 ≤ 25240) (h2 : 0 ≤ k) (h3 : k < 6) : M_refDrawing σ (zI a) (zI k) = some (zI (v (a + 4 + 2 * k))) := by
  simp (disch := omega) only [l0, l1, l2, l3, l4, l5, l6, l7, l8, l10, l12, l16, l20, l24, l26, l40, l64, l80, l100, l255, l256, l288, l312, l400, l992, l1940, l24980, l25240, xI, xL, xR, zI_neg, zI_add, zI_sub, zI_mul, zI_le, zI_lt, zI_eq, zI_in, zI_nat, Option.bind_some, lt9, hq, Int.add_zero, Int.sub_self, true_or, or_true, true_and, and_true, false_or, or_false, Int.cast_ofNat_Int, ↓reduceIte, M_refDrawing, hN _, if_pos, if_neg]
theorem eM_refRevision {σ : hT} {v : Int → Int} (hN : mN σ v) {a k : Int} (h0 : 0 ≤ a) (h1 : a + 80 ≤ 25240) (h2 : 0 ≤ k) (h3 : k < 6) : M_refRevision σ (zI a) (zI k) = some (zI (v (a + 4 + 2 * k + 1))) := by
  simp (disch := omega) only [l0, l1, l2, l3, l4, l5, l6, l7, l8, l10, l12, l16, l20, l24, l26, l40, l64, l80, l100, l255, l256, l288, l312, l400, l992, l1940, l24980, l25240, xI, xL, xR, zI_neg, zI_add, zI_sub, zI_mul, zI_le, zI_lt, zI_eq, zI_in, zI_nat, Option.bind_some, lt9, hq, Int.add_zero, Int.sub_self, true_or, or_true, true_and, and_true, false_or, or_false, Int.cast_ofNat_Int, ↓reduceIte, M_refRevision, hN _, if_pos, if_neg]
