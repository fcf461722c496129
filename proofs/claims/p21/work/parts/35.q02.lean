def relN (v : Int → Int) (d : Int) : Nat → Int
  | 0 => -1
  | n + 1 => if v (1940 + 80 * (12 * d + n)) = 2 then n else relN v d n
theorem relN_rng (v : Int → Int) (d : Int) (n : Nat) : -1 ≤ relN v d n ∧ relN v d n < n := by
  induction n with
  | zero => exact ⟨Int.le_refl _, by show (-1 : Int) < 0; decide⟩
  | succ n ih => unfold relN; split <;> omega
abbrev rel (v : Int → Int) (d : Int) : Int := relN v d (v (20 + 80 * d)).toNat
theorem rel_rng {v : Int → Int} (hw : wf v) {d : Int} (h0 : 0 ≤ d) (h1 : d < v 16) : -1 ≤ rel v d ∧ rel v d < v (20 + 80 * d) := by
  have hd := (hw.2.2.2.1 d h0 h1).1
  have := relN_rng v d (v (20 + 80 * d)).toNat
  unfold rel; omega
theorem relN_is (v : Int → Int) (d : Int) (n : Nat) (h : 0 ≤ relN v d n) : v (1940 + 80 * (12 * d + relN v d n)) = 2 := by
  induction n with
  | zero => exact absurd (show (0 : Int) ≤ -1 from h) (by decide)
  | succ n ih =>
    by_cases e : v (1940 + 80 * (12 * d + n)) = 2
    · have : relN v d (n + 1) = n := by unfold relN; rw [if_pos e]
      rw [this]; exact e
    · have : relN v d (n + 1) = relN v d n := by show (if _ then _ else _) = _; rw [if_neg e]
      rw [this] at h ⊢; exact ih h
theorem eM_released_L {σ : hT} {v : Int → Int} (hN : mN σ v) (hw : wf v) {d : Int} (h0 : 0 ≤ d) (h1 : d < v 16) (n : Nat) (kx : Int32 → Int32 → Int32 → Option Int32) (k : Nat) (i : Nat) (hi : (i : Int) ≤ v (20 + 80 * d)) (hk : v (20 + 80 * d) - i < k) :
    M_released_L4 n σ kx k (zI i) (zI (relN v d i)) (zI d) = kx (zI (v (20 + 80 * d))) (zI (rel v d)) (zI d) := by
  have hd := hw.2.2.2.1 d h0 h1
  have hm := hd.1
  have h16 := hw.1
  induction k generalizing i with
  | zero => omega
  | succ k ih =>
    unfold M_released_L4
    simp (disch := omega) only [l0, l1, l2, l3, l4, l5, l6, l7, l8, l10, l12, l16, l20, l24, l26, l40, l64, l80, l100, l255, l256, l288, l312, l400, l992, l1940, l24980, l25240, xI, xL, xR, zI_neg, zI_add, zI_sub, zI_mul, zI_le, zI_lt, zI_eq, zI_in, zI_nat, Option.bind_some, lt9, hq, Int.add_zero, Int.sub_self, true_or, or_true, true_and, and_true, false_or, or_false, Int.cast_ofNat_Int, ↓reduceIte, eM_made hN]
    by_cases hc : v (20 + 80 * d) ≤ i
    · rw [if_pos hc]
      have e : v (20 + 80 * d) = i := by omega
      unfold rel; rw [e]; simp
    · rw [if_neg hc]
      have h9 := (hd.2.2.2 i (by omega) (by omega)).1
      simp (disch := omega) only [l0, l1, l2, l3, l4, l5, l6, l7, l8, l10, l12, l16, l20, l24, l26, l40, l64, l80, l100, l255, l256, l288, l312, l400, l992, l1940, l24980, l25240, xI, xL, xR, zI_neg, zI_add, zI_sub, zI_mul, zI_le, zI_lt, zI_eq, zI_in, zI_nat, Option.bind_some, lt9, hq, Int.add_zero, Int.sub_self, true_or, or_true, true_and, and_true, false_or, or_false, Int.cast_ofNat_Int, ↓reduceIte, eM_stateOf hN]
      have e := ih (i + 1) (by omega) (by omega)
      simp only [relN, Int.natCast_add, Int.cast_ofNat_Int] at e
      by_cases h2 : v (1940 + 80 * (12 * d + i)) = 2
      · rw [if_pos h2]; rw [if_pos h2] at e; exact e
      · rw [if_neg h2]; rw [if_neg h2] at e; exact e
theorem eM_released {σ : hT} {v : Int → Int} (hN : mN σ v) (hw : wf v) {d : Int} (h0 : 0 ≤ d) (h1 : d < v 16) {n : Nat} (hn : 13 ≤ n) : M_released n σ (zI d) = some (zI (rel v d)) := by
  have hm := (hw.2.2.2.1 d h0 h1).1
  unfold M_released lt9
  exact eM_released_L hN hw h0 h1 n _ n 0 (by omega) (by omega)
def resv (v : Int → Int) (a k : Int) : Int := if v (a + 4 + 2 * k + 1) = -1 then rel v (v (a + 4 + 2 * k)) else v (a + 4 + 2 * k + 1)
theorem eM_resolved {σ : hT} {v : Int → Int} (hN : mN σ v) (hw : wf v) {a k : Int} (h0 : 0 ≤ a) (h1 : a + 80 ≤ 25240) (hc : cw v a) (h2 : 0 ≤ k) (h3 : k < v (a + 3)) {n : Nat} (hn : 13 ≤ n) : M_resolved n σ (zI a) (zI k) = some (zI (resv v a k)) := by
  have hr := hc.2.1
  have hk := hc.2.2.1 k h2 h3
  have h16 := hw.1
  unfold M_resolved resv
  simp (disch := omega) only [l0, l1, l2, l3, l4, l5, l6, l7, l8, l10, l12, l16, l20, l24, l26, l40, l64, l80, l100, l255, l256, l288, l312, l400, l992, l1940, l24980, l25240, xI, xL, xR, zI_neg, zI_add, zI_sub, zI_mul, zI_le, zI_lt, zI_eq, zI_in, zI_nat, Option.bind_some, lt9, hq, Int.add_zero, Int.sub_self, true_or, or_true, true_and, and_true, false_or, or_false, Int.cast_ofNat_Int, ↓reduceIte, eM_refRevision hN, eM_refDrawing hN, eM_released hN hw]
  repeat' split
  all_goals first | rfl | (exfalso; omega)
abbrev isRel (v : Int → Int) (a k : Int) : Prop := 0 ≤ resv v a k ∧ v (1940 + 80 * (12 * v (a + 4 + 2 * k) + resv v a k)) = 2
theorem resv_rng {v : Int → Int} (hw : wf v) {a k : Int} (hc : cw v a) (hf : fx v a) (h2 : 0 ≤ k) (h3 : k < v (a + 3)) : -1 ≤ resv v a k ∧ resv v a k < v (20 + 80 * v (a + 4 + 2 * k)) := by
  have hk := hc.2.2.1 k h2 h3
  have hff := hf k h2 h3
  have := rel_rng hw hk.1 hk.2.1
  unfold resv; split <;> omega
theorem eM_isReleased {σ : hT} {v : Int → Int} (hN : mN σ v) (hw : wf v) {a k : Int} (h0 : 0 ≤ a) (h1 : a + 80 ≤ 25240) (hc : cw v a) (hf : fx v a) (h2 : 0 ≤ k) (h3 : k < v (a + 3)) {n : Nat} (hn : 13 ≤ n) : M_isReleased n σ (zI a) (zI k) = some (zI (if isRel v a k then 1 else 0)) := by
  have hr := hc.2.1
  have hk := hc.2.2.1 k h2 h3
  have h16 := hw.1
  have hrr := resv_rng hw hc hf h2 h3
  have hd := hw.2.2.2.1 _ hk.1 hk.2.1
  have hd1 := hd.1
  unfold M_isReleased
  rw [eM_resolved hN hw h0 h1 hc h2 h3 hn]
  by_cases h9 : resv v a k < 0
  · simp (disch := omega) only [l0, l1, l2, l3, l4, l5, l6, l7, l8, l10, l12, l16, l20, l24, l26, l40, l64, l80, l100, l255, l256, l288, l312, l400, l992, l1940, l24980, l25240, xI, xL, xR, zI_neg, zI_add, zI_sub, zI_mul, zI_le, zI_lt, zI_eq, zI_in, zI_nat, Option.bind_some, lt9, hq, Int.add_zero, Int.sub_self, true_or, or_true, true_and, and_true, false_or, or_false, Int.cast_ofNat_Int, ↓reduceIte]
    repeat' split
    all_goals first | rfl | (exfalso; omega)
  · have hs := (hd.2.2.2 _ (by omega : 0 ≤ resv v a k) hrr.2).1
    simp (disch := omega) only [l0, l1, l2, l3, l4, l5, l6, l7, l8, l10, l12, l16, l20, l24, l26, l40, l64, l80, l100, l255, l256, l288, l312, l400, l992, l1940, l24980, l25240, xI, xL, xR, zI_neg, zI_add, zI_sub, zI_mul, zI_le, zI_lt, zI_eq, zI_in, zI_nat, Option.bind_some, lt9, hq, Int.add_zero, Int.sub_self, true_or, or_true, true_and, and_true, false_or, or_false, Int.cast_ofNat_Int, ↓reduceIte, eM_refDrawing hN, eM_stateOf hN]
    repeat' split
    all_goals first | rfl | (exfalso; omega)
theorem eM_allRevisions_L {σ : hT} {v : Int → Int} (hN : mN σ v) (hw : wf v) (n : Nat) (kx : Int32 → Int32 → Option Int32) (k i : Nat) (hi : (i : Int) ≤ v 16) (hk : v 16 - i < k) :
    M_allRevisions_L4 n σ kx k (zI i) (zI (allR v i)) = kx (zI (v 16)) (zI (allR v (v 16).toNat)) := by
  have h16 := hw.1
  induction k generalizing i with
  | zero => omega
  | succ k ih =>
    unfold M_allRevisions_L4
    simp (disch := omega) only [l0, l1, l2, l3, l4, l5, l6, l7, l8, l10, l12, l16, l20, l24, l26, l40, l64, l80, l100, l255, l256, l288, l312, l400, l992, l1940, l24980, l25240, xI, xL, xR, zI_neg, zI_add, zI_sub, zI_mul, zI_le, zI_lt, zI_eq, zI_in, zI_nat, Option.bind_some, lt9, hq, Int.add_zero, Int.sub_self, true_or, or_true, true_and, and_true, false_or, or_false, Int.cast_ofNat_Int, ↓reduceIte, hN.lit]
    by_cases hc : v 16 ≤ i
    · rw [if_pos hc]
      have e : v 16 = i := by omega
      rw [e]; simp
    · rw [if_neg hc]
      simp (disch := omega) only [l0, l1, l2, l3, l4, l5, l6, l7, l8, l10, l12, l16, l20, l24, l26, l40, l64, l80, l100, l255, l256, l288, l312, l400, l992, l1940, l24980, l25240, xI, xL, xR, zI_neg, zI_add, zI_sub, zI_mul, zI_le, zI_lt, zI_eq, zI_in, zI_nat, Option.bind_some, lt9, hq, Int.add_zero, Int.sub_self, true_or, or_true, true_and, and_true, false_or, or_false, Int.cast_ofNat_Int, ↓reduceIte, eM_made hN]
      have e := ih (i + 1) (by omega) (by omega)
      simp only [allR, Int.natCast_add, Int.cast_ofNat_Int] at e
      exact e
theorem eM_allRevisions {σ : hT} {v : Int → Int} (hN : mN σ v) (hw : wf v) {n : Nat} (hn : 25 ≤ n) : M_allRevisions n σ = some (zI (allR v (v 16).toNat)) := by
  have h16 := hw.1
  unfold M_allRevisions lt9
  exact eM_allRevisions_L hN hw n _ n 0 (by omega) (by omega)
theorem eM_parts {b : Int} (h0 : 0 ≤ b) (h1 : b ≤ 1000) : M_parts (zI b) = zI ((b + 7) / 8) := by
  unfold M_parts
  rw [show (7 : Int32) = zI 7 from rfl, show (8 : Int32) = zI 8 from rfl, zI_add, zI_div (by omega) (by omega) (by omega) (by omega)]
def plen (b j : Int) : Int := if b - 8 * j > 8 then 8 else if b - 8 * j < 0 then 0 else b - 8 * j
theorem plen_rng (b j : Int) : 0 ≤ plen b j ∧ plen b j ≤ 8 := by unfold plen; split <;> (try split) <;> omega
theorem eM_pieceLength {σ : hT} {v : Int → Int} (hN : mN σ v) {a j : Int} (h0 : 0 ≤ a) (h1 : a + 80 ≤ 25240) (hb : 0 ≤ v (a + 2) ∧ v (a + 2) ≤ 64) (h2 : 0 ≤ j) (h3 : j ≤ 8) : M_pieceLength σ (zI a) (zI j) = some (zI (plen (v (a + 2)) j)) := by
  unfold M_pieceLength plen
  simp (disch := omega) only [l0, l1, l2, l3, l4, l5, l6, l7, l8, l10, l12, l16, l20, l24, l26, l40, l64, l80, l100, l255, l256, l288, l312, l400, l992, l1940, l24980, l25240, xI, xL, xR, zI_neg, zI_add, zI_sub, zI_mul, zI_le, zI_lt, zI_eq, zI_in, zI_nat, Option.bind_some, lt9, hq, Int.add_zero, Int.sub_self, true_or, or_true, true_and, and_true, false_or, or_false, Int.cast_ofNat_Int, ↓reduceIte, hN _, if_pos, if_neg]
  repeat' split
  all_goals first | rfl | (exfalso; omega)
