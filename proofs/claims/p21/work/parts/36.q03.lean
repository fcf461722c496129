def pk (v : Int → Int) (a j : Int) : Int × List Int := (plen (v (a + 2)) j, (List.range (plen (v (a + 2)) j).toNat).map (fun (k : Nat) => v (a + 16 + 8 * j + (k : Int))))
theorem pk_iff9 {v : Int → Int} {a j o i : Int} : pk v a j = pk v o i ↔ plen (v (a + 2)) j = plen (v (o + 2)) i ∧ ∀ t : Int, 0 ≤ t → t < plen (v (a + 2)) j → v (a + 16 + 8 * j + t) = v (o + 16 + 8 * i + t) := by
  unfold pk
  rw [Prod.mk.injEq]
  constructor
  · rintro ⟨h1, h2⟩
    refine ⟨h1, fun t h0 ht => ?_⟩
    rw [← h1, List.map_inj_left] at h2
    have := h2 t.toNat (List.mem_range.mpr (by omega))
    rw [show ((t.toNat : Nat) : Int) = t by omega] at this
    exact this
  · rintro ⟨h1, h2⟩
    refine ⟨h1, ?_⟩
    rw [← h1, List.map_inj_left]
    intro b hb
    have := List.mem_range.mp hb
    exact h2 b (by omega) (by omega)
theorem eM_isSame_L {σ : hT} {v : Int → Int} (hN : mN σ v) {a j o i m : Int} (ha : 0 ≤ a) (ha2 : a + 80 ≤ 25240) (ho : 0 ≤ o) (ho2 : o + 80 ≤ 25240) (hj : 0 ≤ j) (hj8 : 8 * j + m ≤ 64) (hi : 0 ≤ i) (hi8 : 8 * i + m ≤ 64) (hm : 0 ≤ m) (hm8 : m ≤ 8) (hca : ∀ t, 0 ≤ t → t < m → 0 ≤ v (a + 16 + 8 * j + t) ∧ v (a + 16 + 8 * j + t) ≤ 255) (hco : ∀ t, 0 ≤ t → t < m → 0 ≤ v (o + 16 + 8 * i + t) ∧ v (o + 16 + 8 * i + t) ≤ 255)
    (n : Nat) (kx : Int32 → Int32 → Int32 → Int32 → Int32 → Int32 → Int32 → Option Int32) (K : Nat) (k s : Int) (h0 : 0 ≤ k) (hk : k ≤ m) (hs : s = 0 ∨ s = 1) (hK : m - k < K) :
    ∃ e s' : Int, M_isSame_L30 n σ kx K (zI k) (zI s) (zI m) (zI a) (zI j) (zI o) (zI i) = kx (zI e) (zI s') (zI m) (zI a) (zI j) (zI o) (zI i) ∧ (s' = 0 ∨ s' = 1) ∧ (s' = 1 ↔ s = 1 ∧ ∀ t, k ≤ t → t < m → v (a + 16 + 8 * j + t) = v (o + 16 + 8 * i + t)) := by
  induction K generalizing k s with
  | zero => omega
  | succ K ih =>
    by_cases hc : m ≤ k
    · have st : M_isSame_L30 n σ kx (K + 1) (zI k) (zI s) (zI m) (zI a) (zI j) (zI o) (zI i) = kx (zI k) (zI s) (zI m) (zI a) (zI j) (zI o) (zI i) := by
        unfold M_isSame_L30
        simp (disch := omega) only [l0, l1, l2, l3, l4, l5, l6, l7, l8, l10, l12, l16, l20, l24, l26, l40, l64, l80, l100, l255, l256, l288, l312, l400, l992, l1940, l24980, l25240, xI, xL, xR, zI_neg, zI_add, zI_sub, zI_mul, zI_le, zI_lt, zI_eq, zI_in, zI_nat, Option.bind_some, lt9, hq, Int.add_zero, Int.sub_self, true_or, or_true, true_and, and_true, false_or, or_false, Int.cast_ofNat_Int, ↓reduceIte, if_pos, if_neg]
      exact ⟨k, s, st, hs, ⟨fun z => ⟨z, fun t h1 h2 => by omega⟩, fun z => z.1⟩⟩
    · rcases hs with rfl | rfl
      · have st : M_isSame_L30 n σ kx (K + 1) (zI k) (zI 0) (zI m) (zI a) (zI j) (zI o) (zI i) = kx (zI k) (zI 0) (zI m) (zI a) (zI j) (zI o) (zI i) := by
          unfold M_isSame_L30
          simp (disch := omega) only [l0, l1, l2, l3, l4, l5, l6, l7, l8, l10, l12, l16, l20, l24, l26, l40, l64, l80, l100, l255, l256, l288, l312, l400, l992, l1940, l24980, l25240, xI, xL, xR, zI_neg, zI_add, zI_sub, zI_mul, zI_le, zI_lt, zI_eq, zI_in, zI_nat, Option.bind_some, lt9, hq, Int.add_zero, Int.sub_self, true_or, or_true, true_and, and_true, false_or, or_false, Int.cast_ofNat_Int, ↓reduceIte, if_pos, if_neg]
        exact ⟨k, 0, st, Or.inl rfl, ⟨fun z => absurd z (by decide), fun z => absurd z.1 (by decide)⟩⟩
      · have e1 := hca k h0 (by omega)
        have e2 := hco k h0 (by omega)
        have st : M_isSame_L30 n σ kx (K + 1) (zI k) (zI 1) (zI m) (zI a) (zI j) (zI o) (zI i) = if v (a + 16 + 8 * j + k) = v (o + 16 + 8 * i + k) then M_isSame_L30 n σ kx K (zI (k + 1)) (zI 1) (zI m) (zI a) (zI j) (zI o) (zI i) else M_isSame_L30 n σ kx K (zI (k + 1)) (zI 0) (zI m) (zI a) (zI j) (zI o) (zI i) := by
          conv => lhs; unfold M_isSame_L30
          simp (disch := omega) only [l0, l1, l2, l3, l4, l5, l6, l7, l8, l10, l12, l16, l20, l24, l26, l40, l64, l80, l100, l255, l256, l288, l312, l400, l992, l1940, l24980, l25240, xI, xL, xR, zI_neg, zI_add, zI_sub, zI_mul, zI_le, zI_lt, zI_eq, zI_in, zI_nat, Option.bind_some, lt9, hq, Int.add_zero, Int.sub_self, true_or, or_true, true_and, and_true, false_or, or_false, Int.cast_ofNat_Int, ↓reduceIte, hN _, if_pos, if_neg]
        rw [st]
        by_cases he : v (a + 16 + 8 * j + k) = v (o + 16 + 8 * i + k)
        · rw [if_pos he]
          obtain ⟨e, s', q1, q2, q3⟩ := ih (k + 1) 1 (by omega) (by omega) (Or.inr rfl) (by omega)
          refine ⟨e, s', q1, q2, q3.trans ⟨fun z => ⟨rfl, fun t h1 h2 => ?_⟩, fun z => ⟨rfl, fun t h1 h2 => z.2 t (by omega) h2⟩⟩⟩
          by_cases ht : t = k
          · subst ht; exact he
          · exact z.2 t (by omega) h2
        · rw [if_neg he]
          obtain ⟨e, s', q1, q2, q3⟩ := ih (k + 1) 0 (by omega) (by omega) (Or.inl rfl) (by omega)
          refine ⟨e, s', q1, q2, q3.trans ⟨fun z => absurd z.1 (by decide), fun z => absurd (z.2 k (by omega) (by omega)) he⟩⟩
def cb (v : Int → Int) (a : Int) : Prop := (0 ≤ v (a + 2) ∧ v (a + 2) ≤ 64) ∧ (∀ i, 0 ≤ i → i < v (a + 2) → 0 ≤ v (a + 16 + i) ∧ v (a + 16 + i) ≤ 255)
theorem cw.cb {v : Int → Int} {a : Int} (h : cw v a) : cb v a := ⟨h.1, h.2.2.2⟩
theorem plen_in {b j t : Int} (hb : b ≤ 64) (h2 : 0 ≤ j) (h3 : t < plen b j) (h0 : 0 ≤ t) : 8 * j + t < b := by
  unfold plen at h3
  split at h3
  · omega
  · split at h3 <;> omega
theorem plen_top {b j : Int} (hb : b ≤ 64) (h2 : 0 ≤ j) (h3 : j ≤ 8) : 8 * j + plen b j ≤ 64 := by
  unfold plen; split
  · omega
  · split <;> omega
theorem eM_isSame {σ : hT} {v : Int → Int} (hN : mN σ v) {a j o i : Int} (ha : 0 ≤ a) (ha2 : a + 80 ≤ 25240) (ho : 0 ≤ o) (ho2 : o + 80 ≤ 25240) (hj : 0 ≤ j) (hj8 : j ≤ 8) (hi : 0 ≤ i) (hi8 : i ≤ 8) (hca : cb v a) (hco : cb v o) {n : Nat} (hn : 9 ≤ n) : M_isSame n σ (zI a) (zI j) (zI o) (zI i) = some (zI (if pk v a j = pk v o i then 1 else 0)) := by
  have h1 := plen_rng (v (a + 2)) j
  have h2 := plen_rng (v (o + 2)) i
  have c1 := hca.1
  have c2 := hco.1
  unfold M_isSame
  simp (disch := omega) only [l0, l1, l2, l3, l4, l5, l6, l7, l8, l10, l12, l16, l20, l24, l26, l40, l64, l80, l100, l255, l256, l288, l312, l400, l992, l1940, l24980, l25240, xI, xL, xR, zI_neg, zI_add, zI_sub, zI_mul, zI_le, zI_lt, zI_eq, zI_in, zI_nat, Option.bind_some, lt9, hq, Int.add_zero, Int.sub_self, true_or, or_true, true_and, and_true, false_or, or_false, Int.cast_ofNat_Int, ↓reduceIte, eM_pieceLength hN]
  by_cases he : plen (v (a + 2)) j = plen (v (o + 2)) i
  · rw [if_pos he]
    obtain ⟨e, s', q1, q2, q3⟩ := eM_isSame_L hN (m := plen (v (a + 2)) j) ha ha2 ho ho2 hj (plen_top c1.2 hj hj8) hi (by rw [he]; exact plen_top c2.2 hi hi8) h1.1 h1.2 (fun t h0 ht => by have := hca.2 (8 * j + t) (by omega) (plen_in c1.2 hj ht h0); rw [← Int.add_assoc] at this; exact this) (fun t h0 ht => by have := hco.2 (8 * i + t) (by omega) (plen_in c2.2 hi (by rw [← he]; exact ht) h0); rw [← Int.add_assoc] at this; exact this) n _ n 0 1 (by omega) (by omega) (Or.inr rfl) (by omega)
    rw [q1]
    have hp : pk v a j = pk v o i ↔ s' = 1 := by
      rw [pk_iff9, q3]
      exact ⟨fun z => ⟨rfl, z.2⟩, fun z => ⟨he, z.2⟩⟩
    rcases q2 with rfl | rfl
    · rw [if_neg (by rw [hp]; decide)]; simp (disch := omega) only [l0, l1, l2, l3, l4, l5, l6, l7, l8, l10, l12, l16, l20, l24, l26, l40, l64, l80, l100, l255, l256, l288, l312, l400, l992, l1940, l24980, l25240, xI, xL, xR, zI_neg, zI_add, zI_sub, zI_mul, zI_le, zI_lt, zI_eq, zI_in, zI_nat, Option.bind_some, lt9, hq, Int.add_zero, Int.sub_self, true_or, or_true, true_and, and_true, false_or, or_false, Int.cast_ofNat_Int, ↓reduceIte, if_pos, if_neg]
    · rw [if_pos (hp.mpr rfl)]; simp (disch := omega) only [l0, l1, l2, l3, l4, l5, l6, l7, l8, l10, l12, l16, l20, l24, l26, l40, l64, l80, l100, l255, l256, l288, l312, l400, l992, l1940, l24980, l25240, xI, xL, xR, zI_neg, zI_add, zI_sub, zI_mul, zI_le, zI_lt, zI_eq, zI_in, zI_nat, Option.bind_some, lt9, hq, Int.add_zero, Int.sub_self, true_or, or_true, true_and, and_true, false_or, or_false, Int.cast_ofNat_Int, ↓reduceIte, if_pos, if_neg]
  · rw [if_neg he]
    obtain ⟨e, s', q1, q2, q3⟩ := eM_isSame_L hN (m := 0) ha ha2 ho ho2 hj (by omega) hi (by omega) (by omega) (by omega) (fun t h0 ht => by omega) (fun t h0 ht => by omega) n (fun p8 p9 p10 p11 p12 p13 p14 => some p9) n 0 0 (by omega) (by omega) (Or.inl rfl) (by omega)
    rw [if_neg (fun z => he (pk_iff9.mp z).1)]
    cases n with
    | zero => omega
    | succ n =>
      unfold M_isSame_L30
      simp (disch := omega) only [l0, l1, l2, l3, l4, l5, l6, l7, l8, l10, l12, l16, l20, l24, l26, l40, l64, l80, l100, l255, l256, l288, l312, l400, l992, l1940, l24980, l25240, xI, xL, xR, zI_neg, zI_add, zI_sub, zI_mul, zI_le, zI_lt, zI_eq, zI_in, zI_nat, Option.bind_some, lt9, hq, Int.add_zero, Int.sub_self, true_or, or_true, true_and, and_true, false_or, or_false, Int.cast_ofNat_Int, ↓reduceIte]
      split <;> simp (disch := omega) only [l0, l1, l2, l3, l4, l5, l6, l7, l8, l10, l12, l16, l20, l24, l26, l40, l64, l80, l100, l255, l256, l288, l312, l400, l992, l1940, l24980, l25240, xI, xL, xR, zI_neg, zI_add, zI_sub, zI_mul, zI_le, zI_lt, zI_eq, zI_in, zI_nat, Option.bind_some, lt9, hq, Int.add_zero, Int.sub_self, true_or, or_true, true_and, and_true, false_or, or_false, Int.cast_ofNat_Int, ↓reduceIte, if_pos, if_neg]
