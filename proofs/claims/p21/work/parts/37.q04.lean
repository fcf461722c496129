abbrev KT : Type := Int × List Int
def pcs (v : Int → Int) (a : Int) : Nat → List KT
  | 0 => []
  | n + 1 => pk v a n :: pcs v a n
theorem mem_pcs {v : Int → Int} {a : Int} {x : KT} {n : Nat} : x ∈ pcs v a n ↔ ∃ i : Int, 0 ≤ i ∧ i < n ∧ x = pk v a i := by
  induction n with
  | zero => simp only [pcs, List.not_mem_nil, false_iff]; rintro ⟨i, h1, h2, -⟩; omega
  | succ n ih =>
    simp only [pcs, List.mem_cons, ih]
    constructor
    · rintro (h | ⟨i, h1, h2, h3⟩)
      · exact ⟨n, by omega, by omega, h⟩
      · exact ⟨i, h1, by omega, h3⟩
    · rintro ⟨i, h1, h2, h3⟩
      by_cases e : i = n
      · subst e; exact Or.inl h3
      · exact Or.inr ⟨i, h1, by omega, h3⟩
def dcR : List KT → Int
  | [] => 0
  | x :: r => dcR r + if x ∈ r then 0 else 1
theorem dcR_rng : ∀ l : List KT, 0 ≤ dcR l ∧ dcR l ≤ l.length
  | [] => ⟨Int.le_refl _, Int.le_refl _⟩
  | x :: r => by
    have := dcR_rng r
    unfold dcR
    rw [List.length_cons]
    split <;> omega
theorem eM_stands_L {σ : hT} {v : Int → Int} (hN : mN σ v) {a j o m : Int} (ha : 0 ≤ a) (ha2 : a + 80 ≤ 25240) (ho : 0 ≤ o) (ho2 : o + 80 ≤ 25240) (hj : 0 ≤ j) (hj8 : j ≤ 8) (hm : 0 ≤ m) (hm8 : m ≤ 8) (hca : cb v a) (hco : cb v o) {n : Nat} (hn : 9 ≤ n)
    (kx : Int32 → Int32 → Int32 → Int32 → Int32 → Int32 → Option Int32) (K : Nat) (i : Nat) (hi : (i : Int) ≤ m) (hK : m - i < K) :
    ∃ e : Int, M_stands_L6 n σ kx K (zI i) (zI (if pk v a j ∈ pcs v o i then 1 else 0)) (zI a) (zI j) (zI o) (zI m) = kx (zI e) (zI (if pk v a j ∈ pcs v o m.toNat then 1 else 0)) (zI a) (zI j) (zI o) (zI m) := by
  induction K generalizing i with
  | zero => omega
  | succ K ih =>
    by_cases hc : m ≤ i
    · refine ⟨i, ?_⟩
      have e : m.toNat = i := by omega
      rw [e]
      unfold M_stands_L6
      simp (disch := omega) only [l0, l1, l2, l3, l4, l5, l6, l7, l8, l10, l12, l16, l20, l24, l26, l40, l64, l80, l100, l255, l256, l288, l312, l400, l992, l1940, l24980, l25240, xI, xL, xR, zI_neg, zI_add, zI_sub, zI_mul, zI_le, zI_lt, zI_eq, zI_in, zI_nat, Option.bind_some, lt9, hq, Int.add_zero, Int.sub_self, true_or, or_true, true_and, and_true, false_or, or_false, Int.cast_ofNat_Int, ↓reduceIte, if_pos, if_neg]
    · by_cases hs : pk v a j ∈ pcs v o i
      · refine ⟨i, ?_⟩
        have hs2 : pk v a j ∈ pcs v o m.toNat := by
          rw [mem_pcs] at hs ⊢
          obtain ⟨t, h1, h2, h3⟩ := hs
          exact ⟨t, h1, by omega, h3⟩
        rw [if_pos hs, if_pos hs2]
        unfold M_stands_L6
        simp (disch := omega) only [l0, l1, l2, l3, l4, l5, l6, l7, l8, l10, l12, l16, l20, l24, l26, l40, l64, l80, l100, l255, l256, l288, l312, l400, l992, l1940, l24980, l25240, xI, xL, xR, zI_neg, zI_add, zI_sub, zI_mul, zI_le, zI_lt, zI_eq, zI_in, zI_nat, Option.bind_some, lt9, hq, Int.add_zero, Int.sub_self, true_or, or_true, true_and, and_true, false_or, or_false, Int.cast_ofNat_Int, ↓reduceIte, if_pos, if_neg]
      · rw [if_neg hs]
        obtain ⟨e, q⟩ := ih (i + 1) (by omega) (by omega)
        refine ⟨e, ?_⟩
        rw [← q]
        conv => lhs; unfold M_stands_L6
        simp (disch := omega) only [l0, l1, l2, l3, l4, l5, l6, l7, l8, l10, l12, l16, l20, l24, l26, l40, l64, l80, l100, l255, l256, l288, l312, l400, l992, l1940, l24980, l25240, xI, xL, xR, zI_neg, zI_add, zI_sub, zI_mul, zI_le, zI_lt, zI_eq, zI_in, zI_nat, Option.bind_some, lt9, hq, Int.add_zero, Int.sub_self, true_or, or_true, true_and, and_true, false_or, or_false, Int.cast_ofNat_Int, ↓reduceIte, eM_isSame hN ha ha2 ho ho2 hj hj8 _ _ hca hco hn, if_pos, if_neg]
        simp only [pcs, List.mem_cons, hs, or_false, Int.natCast_add, Int.cast_ofNat_Int]
theorem eM_stands {σ : hT} {v : Int → Int} (hN : mN σ v) {a j o m : Int} (ha : 0 ≤ a) (ha2 : a + 80 ≤ 25240) (ho : 0 ≤ o) (ho2 : o + 80 ≤ 25240) (hj : 0 ≤ j) (hj8 : j ≤ 8) (hm : 0 ≤ m) (hm8 : m ≤ 8) (hca : cb v a) (hco : cb v o) {n : Nat} (hn : 9 ≤ n) : M_stands n σ (zI a) (zI j) (zI o) (zI m) = some (zI (if pk v a j ∈ pcs v o m.toNat then 1 else 0)) := by
  unfold M_stands
  obtain ⟨e, q⟩ := eM_stands_L hN ha ha2 ho ho2 hj hj8 hm hm8 hca hco hn (fun (p1 : Int32) (p2 : Int32) (p3 : Int32) (p4 : Int32) (p5 : Int32) (p6 : Int32) => if p2 = 0 ∨ p2 = 1 then some p2 else none) n 0 (by omega) (by omega)
  refine Eq.trans q ?_
  split <;> simp (disch := omega) only [l0, l1, l2, l3, l4, l5, l6, l7, l8, l10, l12, l16, l20, l24, l26, l40, l64, l80, l100, l255, l256, l288, l312, l400, l992, l1940, l24980, l25240, xI, xL, xR, zI_neg, zI_add, zI_sub, zI_mul, zI_le, zI_lt, zI_eq, zI_in, zI_nat, Option.bind_some, lt9, hq, Int.add_zero, Int.sub_self, true_or, or_true, true_and, and_true, false_or, or_false, Int.cast_ofNat_Int, ↓reduceIte, if_pos, if_neg]
theorem eM_ownChunks_L {σ : hT} {v : Int → Int} (hN : mN σ v) {a : Int} (ha : 0 ≤ a) (ha2 : a + 80 ≤ 25240) (hca : cb v a) {n : Nat} (hn : 9 ≤ n)
    (kx : Int32 → Int32 → Int32 → Option Int32) (K : Nat) (j : Nat) (hj : (j : Int) ≤ (v (a + 2) + 7) / 8) (hK : (v (a + 2) + 7) / 8 - j < K) :
    M_ownChunks_L4 n σ kx K (zI j) (zI (dcR (pcs v a j))) (zI a) = kx (zI ((v (a + 2) + 7) / 8)) (zI (dcR (pcs v a ((v (a + 2) + 7) / 8).toNat))) (zI a) := by
  have hb := hca.1
  induction K generalizing j with
  | zero => omega
  | succ K ih =>
    by_cases hc : (v (a + 2) + 7) / 8 ≤ j
    · have e : (v (a + 2) + 7) / 8 = j := by omega
      unfold M_ownChunks_L4
      simp (disch := omega) only [l0, l1, l2, l3, l4, l5, l6, l7, l8, l10, l12, l16, l20, l24, l26, l40, l64, l80, l100, l255, l256, l288, l312, l400, l992, l1940, l24980, l25240, xI, xL, xR, zI_neg, zI_add, zI_sub, zI_mul, zI_le, zI_lt, zI_eq, zI_in, zI_nat, Option.bind_some, lt9, hq, Int.add_zero, Int.sub_self, true_or, or_true, true_and, and_true, false_or, or_false, Int.cast_ofNat_Int, ↓reduceIte, hN _, eM_parts, if_pos, if_neg]
      rw [e]; simp
    · have q := ih (j + 1) (by omega) (by omega)
      rw [← q]
      conv => lhs; unfold M_ownChunks_L4
      simp (disch := omega) only [l0, l1, l2, l3, l4, l5, l6, l7, l8, l10, l12, l16, l20, l24, l26, l40, l64, l80, l100, l255, l256, l288, l312, l400, l992, l1940, l24980, l25240, xI, xL, xR, zI_neg, zI_add, zI_sub, zI_mul, zI_le, zI_lt, zI_eq, zI_in, zI_nat, Option.bind_some, lt9, hq, Int.add_zero, Int.sub_self, true_or, or_true, true_and, and_true, false_or, or_false, Int.cast_ofNat_Int, ↓reduceIte, hN _, eM_parts, eM_stands hN ha ha2 ha ha2 _ _ _ _ hca hca hn, if_pos, if_neg]
      simp only [pcs, dcR, Int.natCast_add, Int.cast_ofNat_Int, Int.toNat_natCast]
      split <;> simp (disch := omega) only [l0, l1, l2, l3, l4, l5, l6, l7, l8, l10, l12, l16, l20, l24, l26, l40, l64, l80, l100, l255, l256, l288, l312, l400, l992, l1940, l24980, l25240, xI, xL, xR, zI_neg, zI_add, zI_sub, zI_mul, zI_le, zI_lt, zI_eq, zI_in, zI_nat, Option.bind_some, lt9, hq, Int.add_zero, Int.sub_self, true_or, or_true, true_and, and_true, false_or, or_false, Int.cast_ofNat_Int, ↓reduceIte, if_pos, if_neg]
theorem eM_ownChunks {σ : hT} {v : Int → Int} (hN : mN σ v) {a : Int} (ha : 0 ≤ a) (ha2 : a + 80 ≤ 25240) (hca : cb v a) {n : Nat} (hn : 9 ≤ n) : M_ownChunks n σ (zI a) = some (zI (dcR (pcs v a ((v (a + 2) + 7) / 8).toNat))) := by
  have hb := hca.1
  unfold M_ownChunks
  exact eM_ownChunks_L hN ha ha2 hca hn _ n 0 (by omega) (by omega)
def cAt (v : Int → Int) (k : Int) : Int := if k < 24 then (if k < v 16 ∧ 1 ≤ v (20 + 80 * k + 1) then 20 + 80 * k else -1) else (if (k - 24) / 12 < v 16 ∧ (k - 24) % 12 < v (20 + 80 * ((k - 24) / 12)) then 1940 + 80 * (k - 24) else -1)
theorem eM_contentAt {σ : hT} {v : Int → Int} (hN : mN σ v) (hw : wf v) {k : Int} (h0 : 0 ≤ k) (h1 : k < 312) : M_contentAt σ (zI k) = some (zI (cAt v k)) := by
  have h16 := hw.1
  unfold M_contentAt cAt
  by_cases h : k < 24
  · by_cases hd : k < v 16
    · have hwd := (hw.2.2.2.1 k h0 hd).2.1
      simp (disch := omega) only [l0, l1, l2, l3, l4, l5, l6, l7, l8, l10, l12, l16, l20, l24, l26, l40, l64, l80, l100, l255, l256, l288, l312, l400, l992, l1940, l24980, l25240, xI, xL, xR, zI_neg, zI_add, zI_sub, zI_mul, zI_le, zI_lt, zI_eq, zI_in, zI_nat, Option.bind_some, lt9, hq, Int.add_zero, Int.sub_self, true_or, or_true, true_and, and_true, false_or, or_false, Int.cast_ofNat_Int, ↓reduceIte, eM_isDrawing hN hw, eM_with hN, eM_drawingAt, if_pos, if_neg]
      repeat' split
      all_goals first | rfl | (exfalso; omega)
    · simp (disch := omega) only [l0, l1, l2, l3, l4, l5, l6, l7, l8, l10, l12, l16, l20, l24, l26, l40, l64, l80, l100, l255, l256, l288, l312, l400, l992, l1940, l24980, l25240, xI, xL, xR, zI_neg, zI_add, zI_sub, zI_mul, zI_le, zI_lt, zI_eq, zI_in, zI_nat, Option.bind_some, lt9, hq, Int.add_zero, Int.sub_self, true_or, or_true, true_and, and_true, false_or, or_false, Int.cast_ofNat_Int, ↓reduceIte, eM_isDrawing hN hw, eM_with hN, eM_drawingAt, if_pos, if_neg]
  · have e1 : zI (k - 24) / zI 12 = zI ((k - 24) / 12) := zI_div (by omega) (by omega) (by omega) (by omega)
    have e2 : k - 24 - (k - 24) / 12 * 12 = (k - 24) % 12 := by omega
    have e3 : 1940 + 80 * (12 * ((k - 24) / 12) + (k - 24) % 12) = 1940 + 80 * (k - 24) := by omega
    simp (disch := omega) only [l0, l1, l2, l3, l4, l5, l6, l7, l8, l10, l12, l16, l20, l24, l26, l40, l64, l80, l100, l255, l256, l288, l312, l400, l992, l1940, l24980, l25240, xI, xL, xR, zI_neg, zI_add, zI_sub, zI_mul, zI_le, zI_lt, zI_eq, zI_in, zI_nat, Option.bind_some, lt9, hq, Int.add_zero, Int.sub_self, true_or, or_true, true_and, and_true, false_or, or_false, Int.cast_ofNat_Int, ↓reduceIte, e1, e2, eM_isRevision hN hw, eM_revisionAt, e3, if_pos, if_neg]
    repeat' split
    all_goals first | rfl | (exfalso; omega)
