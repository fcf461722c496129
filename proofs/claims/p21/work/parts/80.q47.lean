def hitE (v : Int → Int) (a i : Int) (e : Nat) : Prop := 0 < v (a + e) ∧ cntE v a e = i
theorem cntE_s {v : Int → Int} {a : Int} {n : Nat} : cntE v a (n + 1) = cntE v a n + if v (a + n) ≤ 0 then 0 else 1 := rfl
theorem cntE_mono {v : Int → Int} {a : Int} (m : Nat) : ∀ k, cntE v a m ≤ cntE v a (m + k) := by
  intro k
  induction k with
  | zero => exact Int.le_refl _
  | succ k ih =>
    show _ ≤ cntE v a (m + k) + (if v (a + ((m + k : Nat) : Int)) ≤ 0 then 0 else 1)
    split <;> omega
theorem cntE_nn {v : Int → Int} {a : Int} (m : Nat) : 0 ≤ cntE v a m ∧ cntE v a m ≤ m := by
  induction m with
  | zero => exact ⟨Int.le_refl _, Int.le_refl _⟩
  | succ k ih => rw [cntE_s]; split <;> omega
theorem hitE_u {v : Int → Int} {a i : Int} {e f : Nat} (h1 : hitE v a i e) (h2 : hitE v a i f) : e = f := by
  have key : ∀ e f : Nat, e < f → hitE v a i e → ¬ hitE v a i f := by
    intro e f hlt h1 h2
    have q := cntE_mono (v := v) (a := a) (e + 1) (f - (e + 1))
    rw [show e + 1 + (f - (e + 1)) = f by omega, cntE_s, if_neg (by have := h1.1; omega), h1.2, h2.2] at q
    omega
  apply Classical.byContradiction
  intro hne
  by_cases h : e < f
  · exact key e f h h1 h2
  · exact key f e (by omega) h2 h1
def nE (v : Int → Int) (a i : Int) : Nat → Int
  | 0 => -1
  | n + 1 => if 0 < v (a + n) ∧ cntE v a n = i then n else nE v a i n
theorem nE_hit {v : Int → Int} {a i : Int} {e : Nat} (h : hitE v a i e) (N : Nat) (hN : e < N) : nE v a i N = e := by
  induction N with
  | zero => omega
  | succ N ih =>
    unfold nE
    by_cases h2 : 0 < v (a + N) ∧ cntE v a N = i
    · rw [if_pos h2, hitE_u h h2]
    · rw [if_neg h2]
      exact ih (by
        apply Classical.byContradiction
        intro z
        exact h2 (show hitE v a i N by rw [show N = e by omega]; exact h))
theorem nE_no {v : Int → Int} {a i : Int} (N : Nat) (h : ∀ e, e < N → ¬ hitE v a i e) : nE v a i N = -1 := by
  induction N with
  | zero => rfl
  | succ N ih =>
    unfold nE
    rw [if_neg (show ¬ (0 < v (a + N) ∧ cntE v a N = i) from h N (by omega))]
    exact ih (fun e he => h e (by omega))
theorem exE {v : Int → Int} {a i : Int} (i0 : 0 ≤ i) (N : Nat) (h : i < cntE v a N) : ∃ e, e < N ∧ hitE v a i e := by
  induction N with
  | zero => have : i < 0 := h; omega
  | succ N ih =>
    rw [cntE_s] at h
    by_cases h2 : i < cntE v a N
    · obtain ⟨e, a1, a2⟩ := ih h2
      exact ⟨e, by omega, a2⟩
    · split at h
      · omega
      · exact ⟨N, by omega, by omega, by omega⟩
def qIB (v : Int → Int) (b i k : Int) : Option Int := if (0 ≤ b ∧ b < 10) ∧ v (24980 + 26 * b) = 1 then (if i = -1 ∧ k = 0 then some (v (24980 + 26 * b + 1)) else if 0 ≤ i ∧ i < v (24980 + 26 * b + 1) ∧ 0 ≤ k ∧ k < 2 then some (if k = 0 then nE v (24980 + 26 * b + 2) i 24 else v (24980 + 26 * b + 2 + nE v (24980 + 26 * b + 2) i 24) - 1) else none) else none
theorem eM_ib_L {σ : hT} {v : Int → Int} (hN : mN σ v) {B i : Int} (b0 : 0 ≤ B) (b1 : B + 26 ≤ 25240) (hx : ∀ k, 0 ≤ k → k < 24 → 0 ≤ v (B + 2 + k) ∧ v (B + 2 + k) ≤ 12) {e : Nat} (he : e < 24) (hh : hitE v (B + 2) i e) (n : Nat) (x1 x2 x3 x4 x5 : Int32) (kx : hT → Int32 → Int32 → Int32 → Int32 → Int32 → Int32 → Int32 → Int32 → Option (Int32 × hT)) (K : Nat) : ∀ (p : Nat), p ≤ e → e - p < K →
    ∃ l, M_inBaseline_L154 n kx K σ (zI p) (zI (i - cntE v (B + 2) p)) x1 (zI B) x2 x3 x4 x5 = kx σ (zI e) l x1 (zI B) x2 x3 x4 x5 := by
  have hi := cntE_nn (v := v) (a := B + 2) e
  induction K with
  | zero => intro p _ h; omega
  | succ K ih =>
    intro p hp hK
    have hr := hx p (by omega) (by omega)
    have hcp := cntE_nn (v := v) (a := B + 2) p
    have hm := cntE_mono (v := v) (a := B + 2) p (e - p)
    rw [show p + (e - p) = e by omega, hh.2] at hm
    have hie := hh.2
    by_cases ee : p = e
    · subst ee
      refine ⟨zI (i - cntE v (B + 2) p), ?_⟩
      conv => lhs; unfold M_inBaseline_L154
      have := hh.1
      simp (disch := omega) only [l0, l1, l2, l3, l4, l5, l6, l7, l8, l10, l12, l16, l20, l24, l26, l40, l64, l80, l100, l255, l256, l288, l312, l400, l992, l1940, l24980, l25240, xI, xL, xR, zI_neg, zI_add, zI_sub, zI_mul, zI_le, zI_lt, zI_eq, zI_in, zI_nat, Option.bind_some, lt9, hq, Int.add_zero, Int.sub_self, true_or, or_true, true_and, and_true, false_or, or_false, Int.cast_ofNat_Int, ↓reduceIte, hN _, if_pos, if_neg]
    · obtain ⟨l, q⟩ := ih (p + 1) (by omega) (by omega)
      refine ⟨l, ?_⟩
      rw [← q]
      conv => lhs; unfold M_inBaseline_L154
      rw [cntE_s, Int.natCast_add, Int.cast_ofNat_Int]
      by_cases h0 : v (B + 2 + p) ≤ 0
      · rw [if_pos h0]
        simp (disch := omega) only [l0, l1, l2, l3, l4, l5, l6, l7, l8, l10, l12, l16, l20, l24, l26, l40, l64, l80, l100, l255, l256, l288, l312, l400, l992, l1940, l24980, l25240, xI, xL, xR, zI_neg, zI_add, zI_sub, zI_mul, zI_le, zI_lt, zI_eq, zI_in, zI_nat, Option.bind_some, lt9, hq, Int.add_zero, Int.sub_self, true_or, or_true, true_and, and_true, false_or, or_false, Int.cast_ofNat_Int, ↓reduceIte, hN _, Int.sub_zero, if_pos, if_neg]
      · rw [if_neg h0]
        have hne : cntE v (B + 2) p ≠ i := fun z => ee (hitE_u ⟨by omega, z⟩ hh)
        simp (disch := omega) only [l0, l1, l2, l3, l4, l5, l6, l7, l8, l10, l12, l16, l20, l24, l26, l40, l64, l80, l100, l255, l256, l288, l312, l400, l992, l1940, l24980, l25240, xI, xL, xR, zI_neg, zI_add, zI_sub, zI_mul, zI_le, zI_lt, zI_eq, zI_in, zI_nat, Option.bind_some, lt9, hq, Int.add_zero, Int.sub_self, true_or, or_true, true_and, and_true, false_or, or_false, Int.cast_ofNat_Int, ↓reduceIte, hN _, if_pos, if_neg]
        rw [show i - cntE v (B + 2) p - 1 = i - (cntE v (B + 2) p + 1) by omega]
def iA (n : Nat) (σ : hT) (a1 a2 a3 s2 s15 s19 : Int32) : Option (Int32 × hT) := lt9 (α := Int32 → Option (Int32 × hT)) (fun (s31 : Int32) => lt9 (sI σ 500 0 0 s31) fun σ33 => if s19 = 0 then some (0, σ33) else if a2 = (-1) then if in9 (s15 + 1) 25240 then some ((xI σ33 15 0 ((s15 + 1)).toNatClampNeg), σ33) else none else lt9 (α := hT → Int32 → Int32 → Int32 → Int32 → Int32 → Int32 → Int32 → Int32 → Option (Int32 × hT)) (fun (σ37 : hT) (p38 : Int32) (p39 : Int32) (p40 : Int32) (p41 : Int32) (p42 : Int32) (p43 : Int32) (p44 : Int32) (p45 : Int32) => if p45 = 0 then some (p38, σ37) else if in9 ((p41 + 2) + p38) 25240 then some (((xI σ37 15 0 (((p41 + 2) + p38)).toNatClampNeg) - 1), σ37) else none) fun kx46 => M_inBaseline_L154 n kx46 n (σ33) 0 a2 s19 s15 s2 a1 a2 a3) fun x30 => if s19 = 0 then x30 1 else x30 0
def iB (σ : hT) (a2 a3 s2 s15 : Int32) (x18 : Int32 → Option (Int32 × hT)) : Option (Int32 × hT) := if s2 = 0 then x18 0 else if a2 = (-1) then if a3 = 0 then x18 1 else x18 0 else if a2 < 0 then x18 0 else if in9 (s15 + 1) 25240 then if (xI σ 15 0 ((s15 + 1)).toNatClampNeg) ≤ a2 then x18 0 else if a3 < 0 then x18 0 else if 2 ≤ a3 then x18 0 else x18 1 else none
def iM (n : Nat) (σ : hT) (a1 a2 a3 s2 : Int32) : Option (Int32 × hT) := lt9 (α := Int32 → Option (Int32 × hT)) (fun s15 => iB σ a2 a3 s2 s15 (iA n σ a1 a2 a3 s2 s15)) fun x14 => if s2 = 0 then x14 24980 else x14 (M_baselineAt a1)
def iO (σ : hT) (a1 : Int32) (x1 : Int32 → Option (Int32 × hT)) : Option (Int32 × hT) := if a1 < 0 then x1 0 else if 10 ≤ a1 then x1 0 else lt9 (α := Int32 → Option (Int32 × hT)) (fun (s7 : Int32) => if in9 (M_baselineAt s7) 25240 then if (xI σ 15 0 ((M_baselineAt s7)).toNatClampNeg) ≤ 0 then x1 0 else x1 1 else none) fun x6 => if a1 < 0 then x6 0 else if 10 ≤ a1 then x6 0 else x6 a1
theorem cM_ib {n : Nat} {σ : hT} {a1 a2 a3 : Int32} : M_inBaseline n σ a1 a2 a3 = iO σ a1 (iM n σ a1 a2 a3) := rfl
theorem eiO {σ : hT} {v : Int → Int} (hN : mN σ v) (hw : wf v) {b : Int} (hb : i32 b) (X : Int32 → Option (Int32 × hT)) : iO σ (zI b) X = X (zI (if (0 ≤ b ∧ b < 10) ∧ v (24980 + 26 * b) = 1 then 1 else 0)) := by
  obtain ⟨b1, b2⟩ := hb
  unfold iO
  by_cases h : 0 ≤ b ∧ b < 10
  · have hB := (hw.2.2.2.2.2 b h.1 h.2).1
    have hn := hN (24980 + 26 * b) (by omega) (by omega)
    by_cases h1 : v (24980 + 26 * b) = 1
    · rw [if_pos (show (0 ≤ b ∧ b < 10) ∧ v (24980 + 26 * b) = 1 from ⟨h, h1⟩)]
      simp (disch := omega) only [l0, l1, l2, l3, l4, l5, l6, l7, l8, l10, l12, l16, l20, l24, l26, l40, l64, l80, l100, l255, l256, l288, l312, l400, l992, l1940, l24980, l25240, xI, xL, xR, zI_neg, zI_add, zI_sub, zI_mul, zI_le, zI_lt, zI_eq, zI_in, zI_nat, Option.bind_some, lt9, hq, Int.add_zero, Int.sub_self, true_or, or_true, true_and, and_true, false_or, or_false, Int.cast_ofNat_Int, ↓reduceIte, eM_baselineAt, hn, if_pos, if_neg]
    · rw [if_neg (show ¬ ((0 ≤ b ∧ b < 10) ∧ v (24980 + 26 * b) = 1) from fun z => h1 z.2)]
      simp (disch := omega) only [l0, l1, l2, l3, l4, l5, l6, l7, l8, l10, l12, l16, l20, l24, l26, l40, l64, l80, l100, l255, l256, l288, l312, l400, l992, l1940, l24980, l25240, xI, xL, xR, zI_neg, zI_add, zI_sub, zI_mul, zI_le, zI_lt, zI_eq, zI_in, zI_nat, Option.bind_some, lt9, hq, Int.add_zero, Int.sub_self, true_or, or_true, true_and, and_true, false_or, or_false, Int.cast_ofNat_Int, ↓reduceIte, eM_baselineAt, hn, if_pos, if_neg]
  · rw [if_neg (show ¬ ((0 ≤ b ∧ b < 10) ∧ v (24980 + 26 * b) = 1) from fun z => h z.1)]
    by_cases h1 : b < 0
    · simp (disch := omega) only [l0, l1, l2, l3, l4, l5, l6, l7, l8, l10, l12, l16, l20, l24, l26, l40, l64, l80, l100, l255, l256, l288, l312, l400, l992, l1940, l24980, l25240, xI, xL, xR, zI_neg, zI_add, zI_sub, zI_mul, zI_le, zI_lt, zI_eq, zI_in, zI_nat, Option.bind_some, lt9, hq, Int.add_zero, Int.sub_self, true_or, or_true, true_and, and_true, false_or, or_false, Int.cast_ofNat_Int, ↓reduceIte, if_pos, if_neg]
    · simp (disch := omega) only [l0, l1, l2, l3, l4, l5, l6, l7, l8, l10, l12, l16, l20, l24, l26, l40, l64, l80, l100, l255, l256, l288, l312, l400, l992, l1940, l24980, l25240, xI, xL, xR, zI_neg, zI_add, zI_sub, zI_mul, zI_le, zI_lt, zI_eq, zI_in, zI_nat, Option.bind_some, lt9, hq, Int.add_zero, Int.sub_self, true_or, or_true, true_and, and_true, false_or, or_false, Int.cast_ofNat_Int, ↓reduceIte, if_pos, if_neg]
theorem eiB {σ : hT} {v : Int → Int} (hN : mN σ v) {B i k : Int} (b0 : 0 ≤ B) (b1 : B + 26 ≤ 25240) (hc : 0 ≤ v (B + 1) ∧ v (B + 1) ≤ 24) (hi : i32 i) (hk : i32 k) (X : Int32 → Option (Int32 × hT)) : iB σ (zI i) (zI k) (zI 1) (zI B) X = X (zI (if (i = -1 ∧ k = 0) ∨ (0 ≤ i ∧ i < v (B + 1) ∧ 0 ≤ k ∧ k < 2) then 1 else 0)) := by
  obtain ⟨i1, i2⟩ := hi
  obtain ⟨k1, k2⟩ := hk
  have hn := hN (B + 1) (by omega) (by omega)
  unfold iB
  by_cases g0 : i = -1
  · by_cases g1 : k = 0
    · rw [if_pos (show (i = -1 ∧ k = 0) ∨ (0 ≤ i ∧ i < v (B + 1) ∧ 0 ≤ k ∧ k < 2) by omega)]
      simp (disch := omega) only [l0, l1, l2, l3, l4, l5, l6, l7, l8, l10, l12, l16, l20, l24, l26, l40, l64, l80, l100, l255, l256, l288, l312, l400, l992, l1940, l24980, l25240, xI, xL, xR, zI_neg, zI_add, zI_sub, zI_mul, zI_le, zI_lt, zI_eq, zI_in, zI_nat, Option.bind_some, lt9, hq, Int.add_zero, Int.sub_self, true_or, or_true, true_and, and_true, false_or, or_false, Int.cast_ofNat_Int, ↓reduceIte, hn, if_pos, if_neg]
    · rw [if_neg (show ¬ ((i = -1 ∧ k = 0) ∨ (0 ≤ i ∧ i < v (B + 1) ∧ 0 ≤ k ∧ k < 2)) by omega)]
      simp (disch := omega) only [l0, l1, l2, l3, l4, l5, l6, l7, l8, l10, l12, l16, l20, l24, l26, l40, l64, l80, l100, l255, l256, l288, l312, l400, l992, l1940, l24980, l25240, xI, xL, xR, zI_neg, zI_add, zI_sub, zI_mul, zI_le, zI_lt, zI_eq, zI_in, zI_nat, Option.bind_some, lt9, hq, Int.add_zero, Int.sub_self, true_or, or_true, true_and, and_true, false_or, or_false, Int.cast_ofNat_Int, ↓reduceIte, hn, if_pos, if_neg]
  · by_cases g2 : i < 0
    · rw [if_neg (show ¬ ((i = -1 ∧ k = 0) ∨ (0 ≤ i ∧ i < v (B + 1) ∧ 0 ≤ k ∧ k < 2)) by omega)]
      simp (disch := omega) only [l0, l1, l2, l3, l4, l5, l6, l7, l8, l10, l12, l16, l20, l24, l26, l40, l64, l80, l100, l255, l256, l288, l312, l400, l992, l1940, l24980, l25240, xI, xL, xR, zI_neg, zI_add, zI_sub, zI_mul, zI_le, zI_lt, zI_eq, zI_in, zI_nat, Option.bind_some, lt9, hq, Int.add_zero, Int.sub_self, true_or, or_true, true_and, and_true, false_or, or_false, Int.cast_ofNat_Int, ↓reduceIte, hn, if_pos, if_neg]
    · by_cases g3 : i < v (B + 1)
      · by_cases g4 : k < 0
        · rw [if_neg (show ¬ ((i = -1 ∧ k = 0) ∨ (0 ≤ i ∧ i < v (B + 1) ∧ 0 ≤ k ∧ k < 2)) by omega)]
          simp (disch := omega) only [l0, l1, l2, l3, l4, l5, l6, l7, l8, l10, l12, l16, l20, l24, l26, l40, l64, l80, l100, l255, l256, l288, l312, l400, l992, l1940, l24980, l25240, xI, xL, xR, zI_neg, zI_add, zI_sub, zI_mul, zI_le, zI_lt, zI_eq, zI_in, zI_nat, Option.bind_some, lt9, hq, Int.add_zero, Int.sub_self, true_or, or_true, true_and, and_true, false_or, or_false, Int.cast_ofNat_Int, ↓reduceIte, hn, if_pos, if_neg]
        · by_cases g5 : k < 2
          · rw [if_pos (show (i = -1 ∧ k = 0) ∨ (0 ≤ i ∧ i < v (B + 1) ∧ 0 ≤ k ∧ k < 2) by omega)]
            simp (disch := omega) only [l0, l1, l2, l3, l4, l5, l6, l7, l8, l10, l12, l16, l20, l24, l26, l40, l64, l80, l100, l255, l256, l288, l312, l400, l992, l1940, l24980, l25240, xI, xL, xR, zI_neg, zI_add, zI_sub, zI_mul, zI_le, zI_lt, zI_eq, zI_in, zI_nat, Option.bind_some, lt9, hq, Int.add_zero, Int.sub_self, true_or, or_true, true_and, and_true, false_or, or_false, Int.cast_ofNat_Int, ↓reduceIte, hn, if_pos, if_neg]
          · rw [if_neg (show ¬ ((i = -1 ∧ k = 0) ∨ (0 ≤ i ∧ i < v (B + 1) ∧ 0 ≤ k ∧ k < 2)) by omega)]
            simp (disch := omega) only [l0, l1, l2, l3, l4, l5, l6, l7, l8, l10, l12, l16, l20, l24, l26, l40, l64, l80, l100, l255, l256, l288, l312, l400, l992, l1940, l24980, l25240, xI, xL, xR, zI_neg, zI_add, zI_sub, zI_mul, zI_le, zI_lt, zI_eq, zI_in, zI_nat, Option.bind_some, lt9, hq, Int.add_zero, Int.sub_self, true_or, or_true, true_and, and_true, false_or, or_false, Int.cast_ofNat_Int, ↓reduceIte, hn, if_pos, if_neg]
      · rw [if_neg (show ¬ ((i = -1 ∧ k = 0) ∨ (0 ≤ i ∧ i < v (B + 1) ∧ 0 ≤ k ∧ k < 2)) by omega)]
        simp (disch := omega) only [l0, l1, l2, l3, l4, l5, l6, l7, l8, l10, l12, l16, l20, l24, l26, l40, l64, l80, l100, l255, l256, l288, l312, l400, l992, l1940, l24980, l25240, xI, xL, xR, zI_neg, zI_add, zI_sub, zI_mul, zI_le, zI_lt, zI_eq, zI_in, zI_nat, Option.bind_some, lt9, hq, Int.add_zero, Int.sub_self, true_or, or_true, true_and, and_true, false_or, or_false, Int.cast_ofNat_Int, ↓reduceIte, hn, if_pos, if_neg]
theorem eM_inBaseline {σ : hT} {s : zT} (hs : MSt σ s) (ho : okS s) {b i k : Int} (hb : i32 b) (hi : i32 i) (hk : i32 k) {n : Nat} (hn : 25 ≤ n) : RefQ (qIB s.1 b i k) s σ (M_inBaseline n σ (zI b) (zI i) (zI k)) := by
  have hN := hs.1
  have c15 : mN (sI σ 500 0 0 (zI 0)) s.1 := (MSt.r5 hs).1
  rw [cM_ib, eiO hN ho.1 hb]
  unfold qIB
  by_cases h : (0 ≤ b ∧ b < 10) ∧ s.1 (24980 + 26 * b) = 1
  · rw [if_pos h, if_pos h]
    have hB := ho.1.2.2.2.2.2 b h.1.1 h.1.2
    have hce := hB.2.2.2 h.2
    have h1 := h.1
    have eM : iM n σ (zI b) (zI i) (zI k) (zI 1) = iB σ (zI i) (zI k) (zI 1) (zI (24980 + 26 * b)) (iA n σ (zI b) (zI i) (zI k) (zI 1) (zI (24980 + 26 * b))) := by
      unfold iM
      simp (disch := omega) only [l0, l1, l2, l3, l4, l5, l6, l7, l8, l10, l12, l16, l20, l24, l26, l40, l64, l80, l100, l255, l256, l288, l312, l400, l992, l1940, l24980, l25240, xI, xL, xR, zI_neg, zI_add, zI_sub, zI_mul, zI_le, zI_lt, zI_eq, zI_in, zI_nat, Option.bind_some, lt9, hq, Int.add_zero, Int.sub_self, true_or, or_true, true_and, and_true, false_or, or_false, Int.cast_ofNat_Int, ↓reduceIte, eM_baselineAt, if_pos, if_neg]
    rw [eM, eiB hN (by omega) (by omega) hB.2.1 hi hk]
    obtain ⟨i1, i2⟩ := hi
    obtain ⟨k1, k2⟩ := hk
    by_cases g0 : i = -1 ∧ k = 0
    · rw [if_pos g0, if_pos (Or.inl g0)]
      obtain ⟨rfl, rfl⟩ := g0
      refine RefQ.y hs ?_
      unfold iA
      simp (disch := omega) only [l0, l1, l2, l3, l4, l5, l6, l7, l8, l10, l12, l16, l20, l24, l26, l40, l64, l80, l100, l255, l256, l288, l312, l400, l992, l1940, l24980, l25240, xI, xL, xR, zI_neg, zI_add, zI_sub, zI_mul, zI_le, zI_lt, zI_eq, zI_in, zI_nat, Option.bind_some, lt9, hq, Int.add_zero, Int.sub_self, true_or, or_true, true_and, and_true, false_or, or_false, Int.cast_ofNat_Int, ↓reduceIte, c15 _, if_pos, if_neg]
    · rw [if_neg g0]
      by_cases g2 : 0 ≤ i ∧ i < s.1 (24980 + 26 * b + 1) ∧ 0 ≤ k ∧ k < 2
      · rw [if_pos g2, if_pos (Or.inr g2)]
        obtain ⟨e, e1, e2⟩ := exE (v := s.1) (a := 24980 + 26 * b + 2) g2.1 24 (by omega)
        have en := nE_hit e2 24 e1
        have hxx := hB.2.2.1 e (by omega) (by omega)
        rw [en]
        refine RefQ.y hs ?_
        obtain ⟨l, hl⟩ := eM_ib_L c15 (B := 24980 + 26 * b) (i := i) (by omega) (by omega) hB.2.2.1 e1 e2 n (zI 1) (zI 1) (zI b) (zI i) (zI k) (fun (σ37 : hT) (p38 : Int32) (p39 : Int32) (p40 : Int32) (p41 : Int32) (p42 : Int32) (p43 : Int32) (p44 : Int32) (p45 : Int32) => if p45 = 0 then some (p38, σ37) else if in9 ((p41 + 2) + p38) 25240 then some (((xI σ37 15 0 (((p41 + 2) + p38)).toNatClampNeg) - 1), σ37) else none) n 0 (by omega) (by omega)
        have c0 : cntE s.1 (24980 + 26 * b + 2) 0 = 0 := rfl
        rw [c0, Int.sub_zero] at hl
        unfold iA
        have hne : ¬ (zI i = -1) := by rw [lm1, zI_eq (by omega) (by omega) (by omega) (by omega)]; omega
        dsimp only [lt9]
        rw [if_neg (show ¬ (zI 1 = 0) by decide), if_neg (show ¬ (zI 1 = 0) by decide), if_neg hne]
        refine Eq.trans hl ?_
        by_cases g4 : k = 0
        · simp (disch := omega) only [l0, l1, l2, l3, l4, l5, l6, l7, l8, l10, l12, l16, l20, l24, l26, l40, l64, l80, l100, l255, l256, l288, l312, l400, l992, l1940, l24980, l25240, xI, xL, xR, zI_neg, zI_add, zI_sub, zI_mul, zI_le, zI_lt, zI_eq, zI_in, zI_nat, Option.bind_some, lt9, hq, Int.add_zero, Int.sub_self, true_or, or_true, true_and, and_true, false_or, or_false, Int.cast_ofNat_Int, ↓reduceIte, if_pos, if_neg]
        · simp (disch := omega) only [l0, l1, l2, l3, l4, l5, l6, l7, l8, l10, l12, l16, l20, l24, l26, l40, l64, l80, l100, l255, l256, l288, l312, l400, l992, l1940, l24980, l25240, xI, xL, xR, zI_neg, zI_add, zI_sub, zI_mul, zI_le, zI_lt, zI_eq, zI_in, zI_nat, Option.bind_some, lt9, hq, Int.add_zero, Int.sub_self, true_or, or_true, true_and, and_true, false_or, or_false, Int.cast_ofNat_Int, ↓reduceIte, c15 _, if_pos, if_neg]
      · rw [if_neg g2, if_neg (fun z => z.elim g0 g2)]
        refine RefQ.n hs ?_
        exact rfl
  · rw [if_neg h, if_neg h]
    refine RefQ.n hs ?_
    exact rfl
theorem eB_num_L {σ : hT} {v : Int → Int} {j : Nat} {a i : Int} (hi : i32 i) (hj : ∀ k : Int, 0 ≤ k → k < 24 → σ.1 11 j k.toNat = zI (v (a + k) - 1)) (hx : ∀ k, 0 ≤ k → k < 24 → 0 ≤ v (a + k) ∧ v (a + k) ≤ 12) (n : Nat) (kx : Int32 → Int32 → Nat → Int32 → Option Int32) (hk : ∀ a b c d, kx a b c d = some (zI (-1))) (K : Nat) : ∀ (p : Nat), (∀ q, q < p → ¬ hitE v a i q) → p ≤ 24 → 24 - p < K →
    B_drawingByNumber_L4 n σ kx K (zI p) (zI (cntE v a p)) j (zI i) = some (zI (nE v a i 24)) := by
  obtain ⟨i1, i2⟩ := hi
  induction K with
  | zero => intro p _ _ h; omega
  | succ K ih =>
    intro p hq hp hK
    conv => lhs; unfold B_drawingByNumber_L4
    by_cases hc : 24 ≤ p
    · rw [nE_no 24 (fun e he => hq e (by omega))]
      simp (disch := omega) only [l0, l1, l2, l3, l4, l5, l6, l7, l8, l10, l12, l16, l20, l24, l26, l40, l64, l80, l100, l255, l256, l288, l312, l400, l992, l1940, l24980, l25240, xI, xL, xR, zI_neg, zI_add, zI_sub, zI_mul, zI_le, zI_lt, zI_eq, zI_in, zI_nat, Option.bind_some, lt9, hq, Int.add_zero, Int.sub_self, true_or, or_true, true_and, and_true, false_or, or_false, Int.cast_ofNat_Int, ↓reduceIte, if_pos, if_neg]
      exact hk _ _ _ _
    · have e11 := hj p (by omega) (by omega)
      have hr := hx p (by omega) (by omega)
      have hcp := cntE_nn (v := v) (a := a) p
      rw [Int.toNat_natCast] at e11
      by_cases h0 : v (a + p) ≤ 0
      · have := ih (p + 1) (fun q z => by
          by_cases e : q = p
          · subst e; exact fun y => by have := y.1; omega
          · exact hq q (by omega)) (by omega) (by omega)
        rw [cntE_s, if_pos h0, Int.add_zero, Int.natCast_add, Int.cast_ofNat_Int] at this
        rw [← this]
        simp (disch := omega) only [l0, l1, l2, l3, l4, l5, l6, l7, l8, l10, l12, l16, l20, l24, l26, l40, l64, l80, l100, l255, l256, l288, l312, l400, l992, l1940, l24980, l25240, xI, xL, xR, zI_neg, zI_add, zI_sub, zI_mul, zI_le, zI_lt, zI_eq, zI_in, zI_nat, Option.bind_some, lt9, hq, Int.add_zero, Int.sub_self, true_or, or_true, true_and, and_true, false_or, or_false, Int.cast_ofNat_Int, ↓reduceIte, Int.toNat_natCast, e11, if_pos, if_neg]
      · by_cases h2 : cntE v a p = i
        · have hit : hitE v a i p := ⟨by omega, h2⟩
          rw [nE_hit hit 24 (by omega)]
          simp (disch := omega) only [l0, l1, l2, l3, l4, l5, l6, l7, l8, l10, l12, l16, l20, l24, l26, l40, l64, l80, l100, l255, l256, l288, l312, l400, l992, l1940, l24980, l25240, xI, xL, xR, zI_neg, zI_add, zI_sub, zI_mul, zI_le, zI_lt, zI_eq, zI_in, zI_nat, Option.bind_some, lt9, hq, Int.add_zero, Int.sub_self, true_or, or_true, true_and, and_true, false_or, or_false, Int.cast_ofNat_Int, ↓reduceIte, Int.toNat_natCast, e11, if_pos, if_neg]
        · have := ih (p + 1) (fun q z => by
            by_cases e : q = p
            · subst e; exact fun y => h2 y.2
            · exact hq q (by omega)) (by omega) (by omega)
          rw [cntE_s, if_neg h0, Int.natCast_add, Int.cast_ofNat_Int] at this
          rw [← this]
          simp (disch := omega) only [l0, l1, l2, l3, l4, l5, l6, l7, l8, l10, l12, l16, l20, l24, l26, l40, l64, l80, l100, l255, l256, l288, l312, l400, l992, l1940, l24980, l25240, xI, xL, xR, zI_neg, zI_add, zI_sub, zI_mul, zI_le, zI_lt, zI_eq, zI_in, zI_nat, Option.bind_some, lt9, hq, Int.add_zero, Int.sub_self, true_or, or_true, true_and, and_true, false_or, or_false, Int.cast_ofNat_Int, ↓reduceIte, Int.toNat_natCast, e11, if_pos, if_neg]
theorem eV_inBaseline {σ : hT} {s : zT} {g : Nat} (hS : CaS σ s g) (ho : okS s) {b i k : Int} (hb : i32 b) (hi : i32 i) (hk : i32 k) {n : Nat} (hn : 25 ≤ n) : ClsQ (qIB s.1 b i k) s g σ (V_inBaseline n σ (zI b) (zI i) (zI k)) := by
  have hb' := hb
  have hi' := hi
  obtain ⟨b1, b2⟩ := hb'
  obtain ⟨i1, i2⟩ := hi'
  obtain ⟨k1, k2⟩ := hk
  unfold V_inBaseline qIB
  rw [eV_baselineAt hS.1 hb]
  by_cases h : 0 ≤ b ∧ b < 10
  · have hB := ho.1.2.2.2.2.2 b h.1 h.2
    rw [if_pos h]
    rcases hS.1.2.2.2.2.1 b h.1 h.2 with ⟨h1, h2⟩ | ⟨h1, j, h2, h3, h4, h5⟩
    · rw [if_neg (show ¬ ((0 ≤ b ∧ b < 10) ∧ s.1 (24980 + 26 * b) = 1) from fun z => by have := z.2; omega), h2]
      refine ClsQ.n hS ?_
      simp (disch := omega) only [l0, l1, l2, l3, l4, l5, l6, l7, l8, l10, l12, l16, l20, l24, l26, l40, l64, l80, l100, l255, l256, l288, l312, l400, l992, l1940, l24980, l25240, xI, xL, xR, zI_neg, zI_add, zI_sub, zI_mul, zI_le, zI_lt, zI_eq, zI_in, zI_nat, Option.bind_some, lt9, hq, Int.add_zero, Int.sub_self, true_or, or_true, true_and, and_true, false_or, or_false, Int.cast_ofNat_Int, ↓reduceIte, if_pos, if_neg]
    · rw [if_pos (show (0 ≤ b ∧ b < 10) ∧ s.1 (24980 + 26 * b) = 1 from ⟨h, h1⟩), h3]
      have hce := hB.2.2.2 h1
      have hBc := hB.2.1
      have en : B_drawingByNumber n σ j (zI i) = some (zI (nE s.1 (24980 + 26 * b + 2) i 24)) := by
        unfold B_drawingByNumber lt9
        exact eB_num_L hi h5 hB.2.2.1 n (fun (p1 : Int32) (p2 : Int32) (j3 : Nat) (p5 : Int32) => some (-1)) (fun _ _ _ _ => rfl) n 0 (fun q z => by omega) (by omega) (by omega)
      by_cases g2 : 0 ≤ i ∧ i < s.1 (24980 + 26 * b + 1)
      · obtain ⟨e, e1, e2⟩ := exE (v := s.1) (a := 24980 + 26 * b + 2) g2.1 24 (by omega)
        have en2 := nE_hit e2 24 e1
        have e11 := h5 e (by omega) (by omega)
        rw [en2] at en ⊢
        rw [Int.toNat_natCast] at e11
        rw [if_neg (show ¬ (i = -1 ∧ k = 0) by omega)]
        by_cases g3 : 0 ≤ k ∧ k < 2
        · rw [if_pos (show 0 ≤ i ∧ i < s.1 (24980 + 26 * b + 1) ∧ 0 ≤ k ∧ k < 2 from ⟨g2.1, g2.2, g3⟩)]
          refine ClsQ.y hS ?_
          by_cases g4 : k = 0
          · simp (disch := omega) only [l0, l1, l2, l3, l4, l5, l6, l7, l8, l10, l12, l16, l20, l24, l26, l40, l64, l80, l100, l255, l256, l288, l312, l400, l992, l1940, l24980, l25240, xI, xL, xR, zI_neg, zI_add, zI_sub, zI_mul, zI_le, zI_lt, zI_eq, zI_in, zI_nat, Option.bind_some, lt9, hq, Int.add_zero, Int.sub_self, true_or, or_true, true_and, and_true, false_or, or_false, Int.cast_ofNat_Int, ↓reduceIte, en, if_pos, if_neg]
          · simp (disch := omega) only [l0, l1, l2, l3, l4, l5, l6, l7, l8, l10, l12, l16, l20, l24, l26, l40, l64, l80, l100, l255, l256, l288, l312, l400, l992, l1940, l24980, l25240, xI, xL, xR, zI_neg, zI_add, zI_sub, zI_mul, zI_le, zI_lt, zI_eq, zI_in, zI_nat, Option.bind_some, lt9, hq, Int.add_zero, Int.sub_self, true_or, or_true, true_and, and_true, false_or, or_false, Int.cast_ofNat_Int, ↓reduceIte, en, Int.toNat_natCast, e11, if_pos, if_neg]
        · rw [if_neg (show ¬ (0 ≤ i ∧ i < s.1 (24980 + 26 * b + 1) ∧ 0 ≤ k ∧ k < 2) from fun z => g3 z.2.2)]
          refine ClsQ.n hS ?_
          by_cases g4 : k < 0
          · simp (disch := omega) only [l0, l1, l2, l3, l4, l5, l6, l7, l8, l10, l12, l16, l20, l24, l26, l40, l64, l80, l100, l255, l256, l288, l312, l400, l992, l1940, l24980, l25240, xI, xL, xR, zI_neg, zI_add, zI_sub, zI_mul, zI_le, zI_lt, zI_eq, zI_in, zI_nat, Option.bind_some, lt9, hq, Int.add_zero, Int.sub_self, true_or, or_true, true_and, and_true, false_or, or_false, Int.cast_ofNat_Int, ↓reduceIte, en, if_pos, if_neg]
          · simp (disch := omega) only [l0, l1, l2, l3, l4, l5, l6, l7, l8, l10, l12, l16, l20, l24, l26, l40, l64, l80, l100, l255, l256, l288, l312, l400, l992, l1940, l24980, l25240, xI, xL, xR, zI_neg, zI_add, zI_sub, zI_mul, zI_le, zI_lt, zI_eq, zI_in, zI_nat, Option.bind_some, lt9, hq, Int.add_zero, Int.sub_self, true_or, or_true, true_and, and_true, false_or, or_false, Int.cast_ofNat_Int, ↓reduceIte, en, if_pos, if_neg]
      · have en2 : nE s.1 (24980 + 26 * b + 2) i 24 = -1 := nE_no 24 (fun e he z => by
          have q1 := cntE_nn (v := s.1) (a := 24980 + 26 * b + 2) e
          have q2 := cntE_mono (v := s.1) (a := 24980 + 26 * b + 2) (e + 1) (24 - (e + 1))
          rw [show e + 1 + (24 - (e + 1)) = 24 by omega, cntE_s, if_neg (by have := z.1; omega)] at q2
          have := z.2
          omega)
        rw [en2] at en
        rw [if_neg (show ¬ (0 ≤ i ∧ i < s.1 (24980 + 26 * b + 1) ∧ 0 ≤ k ∧ k < 2) from fun z => g2 ⟨z.1, z.2.1⟩)]
        by_cases g0 : i = -1
        · by_cases g1 : k = 0
          · rw [if_pos (show i = -1 ∧ k = 0 from ⟨g0, g1⟩)]
            refine ClsQ.y hS ?_
            simp (disch := omega) only [l0, l1, l2, l3, l4, l5, l6, l7, l8, l10, l12, l16, l20, l24, l26, l40, l64, l80, l100, l255, l256, l288, l312, l400, l992, l1940, l24980, l25240, xI, xL, xR, zI_neg, zI_add, zI_sub, zI_mul, zI_le, zI_lt, zI_eq, zI_in, zI_nat, Option.bind_some, lt9, hq, Int.add_zero, Int.sub_self, true_or, or_true, true_and, and_true, false_or, or_false, Int.cast_ofNat_Int, ↓reduceIte, h4, if_pos, if_neg]
          · rw [if_neg (show ¬ (i = -1 ∧ k = 0) from fun z => g1 z.2)]
            refine ClsQ.n hS ?_
            simp (disch := omega) only [l0, l1, l2, l3, l4, l5, l6, l7, l8, l10, l12, l16, l20, l24, l26, l40, l64, l80, l100, l255, l256, l288, l312, l400, l992, l1940, l24980, l25240, xI, xL, xR, zI_neg, zI_add, zI_sub, zI_mul, zI_le, zI_lt, zI_eq, zI_in, zI_nat, Option.bind_some, lt9, hq, Int.add_zero, Int.sub_self, true_or, or_true, true_and, and_true, false_or, or_false, Int.cast_ofNat_Int, ↓reduceIte, en, if_pos, if_neg]
        · rw [if_neg (show ¬ (i = -1 ∧ k = 0) from fun z => g0 z.1)]
          refine ClsQ.n hS ?_
          simp (disch := omega) only [l0, l1, l2, l3, l4, l5, l6, l7, l8, l10, l12, l16, l20, l24, l26, l40, l64, l80, l100, l255, l256, l288, l312, l400, l992, l1940, l24980, l25240, xI, xL, xR, zI_neg, zI_add, zI_sub, zI_mul, zI_le, zI_lt, zI_eq, zI_in, zI_nat, Option.bind_some, lt9, hq, Int.add_zero, Int.sub_self, true_or, or_true, true_and, and_true, false_or, or_false, Int.cast_ofNat_Int, ↓reduceIte, en, if_pos, if_neg]
  · rw [if_neg h, if_neg (show ¬ ((0 ≤ b ∧ b < 10) ∧ s.1 (24980 + 26 * b) = 1) from fun z => h z.1)]
    refine ClsQ.n hS ?_
    simp (disch := omega) only [l0, l1, l2, l3, l4, l5, l6, l7, l8, l10, l12, l16, l20, l24, l26, l40, l64, l80, l100, l255, l256, l288, l312, l400, l992, l1940, l24980, l25240, xI, xL, xR, zI_neg, zI_add, zI_sub, zI_mul, zI_le, zI_lt, zI_eq, zI_in, zI_nat, Option.bind_some, lt9, hq, Int.add_zero, Int.sub_self, true_or, or_true, true_and, and_true, false_or, or_false, Int.cast_ofNat_Int, ↓reduceIte, if_pos, if_neg]
