theorem eV_inB_L {σ : hT} {v : Int → Int} {g : Nat} (hC : CA σ v g) (hw : wf v) {d r : Int} (d0 : 0 ≤ d) (d1 : d < 24) (hr : i32 r) (n : Nat) (kx : Int32 → Int32 → Int32 → Option Int32) (K : Nat) : ∀ (i : Int), 0 ≤ i → i ≤ 10 → 10 - i < K →
    ((∃ b, i ≤ b ∧ b < 10 ∧ inBl v d r b) ∧ V_isInABaseline_L2 n σ kx K (zI i) (zI d) (zI r) = some (zI 1)) ∨ ((¬ ∃ b, i ≤ b ∧ b < 10 ∧ inBl v d r b) ∧ V_isInABaseline_L2 n σ kx K (zI i) (zI d) (zI r) = kx (zI 10) (zI d) (zI r)) := by
  obtain ⟨r1, r2⟩ := hr
  induction K with
  | zero => intro i _ _ h; omega
  | succ K ih =>
    intro i i0 i1 hK
    by_cases hx : 10 ≤ i
    · obtain rfl : i = 10 := by omega
      refine Or.inr ⟨ex_end (P := fun b => inBl v d r b) hx, ?_⟩
      unfold V_isInABaseline_L2
      simp (disch := omega) only [l0, l1, l2, l3, l4, l5, l6, l7, l8, l10, l12, l16, l20, l24, l26, l40, l64, l80, l100, l255, l256, l288, l312, l400, l992, l1940, l24980, l25240, xI, xL, xR, zI_neg, zI_add, zI_sub, zI_mul, zI_le, zI_lt, zI_eq, zI_in, zI_nat, Option.bind_some, lt9, hq, Int.add_zero, Int.sub_self, true_or, or_true, true_and, and_true, false_or, or_false, Int.cast_ofNat_Int, ↓reduceIte, if_pos, if_neg]
    · rw [ex_step (P := fun b => inBl v d r b) (show i < 10 by omega)]
      have hB := hw.2.2.2.2.2 i i0 (by omega)
      have hb := hB.2.2.1 d d0 d1
      have key : (inBl v d r i ∧ V_isInABaseline_L2 n σ kx (K + 1) (zI i) (zI d) (zI r) = some (zI 1)) ∨ (¬ inBl v d r i ∧ V_isInABaseline_L2 n σ kx (K + 1) (zI i) (zI d) (zI r) = V_isInABaseline_L2 n σ kx K (zI (i + 1)) (zI d) (zI r)) := by
        rcases hC.2.2.2.2.1 i i0 (by omega) with ⟨h1, h2⟩ | ⟨h1, j, h2, h3, h4, h5⟩
        · refine Or.inr ⟨fun z => by have := z.1; omega, ?_⟩
          conv => lhs; unfold V_isInABaseline_L2
          simp (disch := omega) only [l0, l1, l2, l3, l4, l5, l6, l7, l8, l10, l12, l16, l20, l24, l26, l40, l64, l80, l100, l255, l256, l288, l312, l400, l992, l1940, l24980, l25240, xI, xL, xR, zI_neg, zI_add, zI_sub, zI_mul, zI_le, zI_lt, zI_eq, zI_in, zI_nat, Option.bind_some, lt9, hq, Int.add_zero, Int.sub_self, true_or, or_true, true_and, and_true, false_or, or_false, Int.cast_ofNat_Int, ↓reduceIte, h2, if_pos, if_neg]
        · by_cases e : v (24980 + 26 * i + 2 + d) = r + 1
          · refine Or.inl ⟨⟨by omega, e⟩, ?_⟩
            conv => lhs; unfold V_isInABaseline_L2
            simp (disch := omega) only [l0, l1, l2, l3, l4, l5, l6, l7, l8, l10, l12, l16, l20, l24, l26, l40, l64, l80, l100, l255, l256, l288, l312, l400, l992, l1940, l24980, l25240, xI, xL, xR, zI_neg, zI_add, zI_sub, zI_mul, zI_le, zI_lt, zI_eq, zI_in, zI_nat, Option.bind_some, lt9, hq, Int.add_zero, Int.sub_self, true_or, or_true, true_and, and_true, false_or, or_false, Int.cast_ofNat_Int, ↓reduceIte, h3, h5 d d0 d1, if_pos, if_neg]
          · refine Or.inr ⟨fun z => e z.2, ?_⟩
            conv => lhs; unfold V_isInABaseline_L2
            simp (disch := omega) only [l0, l1, l2, l3, l4, l5, l6, l7, l8, l10, l12, l16, l20, l24, l26, l40, l64, l80, l100, l255, l256, l288, l312, l400, l992, l1940, l24980, l25240, xI, xL, xR, zI_neg, zI_add, zI_sub, zI_mul, zI_le, zI_lt, zI_eq, zI_in, zI_nat, Option.bind_some, lt9, hq, Int.add_zero, Int.sub_self, true_or, or_true, true_and, and_true, false_or, or_false, Int.cast_ofNat_Int, ↓reduceIte, h3, h5 d d0 d1, if_pos, if_neg]
      rcases key with ⟨k1, k2⟩ | ⟨k1, k2⟩
      · exact Or.inl ⟨Or.inl k1, k2⟩
      · rw [k2]
        rcases ih (i + 1) (by omega) (by omega) (by omega) with ⟨q1, q2⟩ | ⟨q1, q2⟩
        · exact Or.inl ⟨Or.inr q1, q2⟩
        · exact Or.inr ⟨fun z => z.elim k1 q1, q2⟩
theorem eV_isInABaseline {σ : hT} {v : Int → Int} {g : Nat} (hC : CA σ v g) (hw : wf v) {d r : Int} (d0 : 0 ≤ d) (d1 : d < 24) (hr : i32 r) {n : Nat} (hn : 11 ≤ n) : ∃ y, V_isInABaseline n σ (zI d) (zI r) = some (zI y) ∧ (y = 0 ∨ y = 1) ∧ (y = 1 ↔ ∃ b, 0 ≤ b ∧ b < 10 ∧ inBl v d r b) := by
  unfold V_isInABaseline lt9
  rcases eV_inB_L hC hw d0 d1 hr n (fun (p1 : Int32) (p2 : Int32) (p3 : Int32) => some 0) n 0 (by omega) (by omega) (by omega) with ⟨q1, q2⟩ | ⟨q1, q2⟩
  · exact ⟨1, q2, Or.inr rfl, fun _ => q1, fun _ => rfl⟩
  · exact ⟨0, q2, Or.inl rfl, fun z => absurd z (by decide), fun z => absurd z q1⟩
theorem eV_fixBy_L13 {σ : hT} {v : Int → Int} {g : Nat} (hC : CA σ v g) (hw : wf v) {d r e : Int} (hd : i32 d) (hr : i32 r) (e0 : 0 ≤ e) (e1 : e < v 16) {n : Nat} (hn : 7 ≤ n) (kx : Int32 → Int32 → Int32 → Int32 → Option Int32) (K : Nat) : ∀ (i : Int), 0 ≤ i → i ≤ v (20 + 80 * e) → v (20 + 80 * e) - i < K →
    ((∃ k, i ≤ k ∧ k < v (20 + 80 * e) ∧ fixR v d r e k) ∧ V_isFixedByAReleasedOne_L13 n σ kx K (zI i) (zI e) (zI d) (zI r) = some (zI 1)) ∨ ((¬ ∃ k, i ≤ k ∧ k < v (20 + 80 * e) ∧ fixR v d r e k) ∧ V_isFixedByAReleasedOne_L13 n σ kx K (zI i) (zI e) (zI d) (zI r) = kx (zI (v (20 + 80 * e))) (zI e) (zI d) (zI r)) := by
  have h16 := hw.1
  have hD := hw.2.2.2.1 e e0 e1
  have hm := hD.1
  have cD := hC.2.2.2.1 e e0 e1
  induction K with
  | zero => intro i _ _ h; omega
  | succ K ih =>
    intro i i0 i1 hK
    by_cases hx : v (20 + 80 * e) ≤ i
    · obtain rfl : i = v (20 + 80 * e) := by omega
      refine Or.inr ⟨ex_end (P := fun k => fixR v d r e k) hx, ?_⟩
      unfold V_isFixedByAReleasedOne_L13
      simp (disch := omega) only [l0, l1, l2, l3, l4, l5, l6, l7, l8, l10, l12, l16, l20, l24, l26, l40, l64, l80, l100, l255, l256, l288, l312, l400, l992, l1940, l24980, l25240, xI, xL, xR, zI_neg, zI_add, zI_sub, zI_mul, zI_le, zI_lt, zI_eq, zI_in, zI_nat, Option.bind_some, lt9, hq, Int.add_zero, Int.sub_self, true_or, or_true, true_and, and_true, false_or, or_false, Int.cast_ofNat_Int, ↓reduceIte, cD.1, cD.2.1, if_pos, if_neg]
    · rw [ex_step (P := fun k => fixR v d r e k) (show i < v (20 + 80 * e) by omega)]
      have hR := hD.2.2.2 i i0 (by omega)
      have cR := cD.2.2.2.2 i i0 (by omega)
      have key : (fixR v d r e i ∧ V_isFixedByAReleasedOne_L13 n σ kx (K + 1) (zI i) (zI e) (zI d) (zI r) = some (zI 1)) ∨ (¬ fixR v d r e i ∧ V_isFixedByAReleasedOne_L13 n σ kx (K + 1) (zI i) (zI e) (zI d) (zI r) = V_isFixedByAReleasedOne_L13 n σ kx K (zI (i + 1)) (zI e) (zI d) (zI r)) := by
        by_cases hs : v (1940 + 80 * (12 * e + i)) = 2
        · obtain ⟨y, q1, q2, q3⟩ := eC_names h16.2 hR.2.2.1 cR.2.2.2 hd hr hn
          rcases q2 with rfl | rfl
          · refine Or.inr ⟨fun ⟨k, k0, k1, k2⟩ => absurd (q3.mpr ⟨k, k0, k1, k2.2⟩) (by decide), ?_⟩
            conv => lhs; unfold V_isFixedByAReleasedOne_L13
            simp (disch := omega) only [l0, l1, l2, l3, l4, l5, l6, l7, l8, l10, l12, l16, l20, l24, l26, l40, l64, l80, l100, l255, l256, l288, l312, l400, l992, l1940, l24980, l25240, xI, xL, xR, zI_neg, zI_add, zI_sub, zI_mul, zI_le, zI_lt, zI_eq, zI_in, zI_nat, Option.bind_some, lt9, hq, Int.add_zero, Int.sub_self, true_or, or_true, true_and, and_true, false_or, or_false, Int.cast_ofNat_Int, ↓reduceIte, cD.1, cD.2.1, cR.1, cR.2.2.1, q1, if_pos, if_neg]
          · obtain ⟨k, k0, k1, k2⟩ := q3.mp rfl
            refine Or.inl ⟨⟨k, k0, k1, hs, k2⟩, ?_⟩
            conv => lhs; unfold V_isFixedByAReleasedOne_L13
            simp (disch := omega) only [l0, l1, l2, l3, l4, l5, l6, l7, l8, l10, l12, l16, l20, l24, l26, l40, l64, l80, l100, l255, l256, l288, l312, l400, l992, l1940, l24980, l25240, xI, xL, xR, zI_neg, zI_add, zI_sub, zI_mul, zI_le, zI_lt, zI_eq, zI_in, zI_nat, Option.bind_some, lt9, hq, Int.add_zero, Int.sub_self, true_or, or_true, true_and, and_true, false_or, or_false, Int.cast_ofNat_Int, ↓reduceIte, cD.1, cD.2.1, cR.1, cR.2.2.1, q1, if_pos, if_neg]
        · refine Or.inr ⟨fun ⟨k, k0, k1, k2⟩ => hs k2.1, ?_⟩
          conv => lhs; unfold V_isFixedByAReleasedOne_L13
          simp (disch := omega) only [l0, l1, l2, l3, l4, l5, l6, l7, l8, l10, l12, l16, l20, l24, l26, l40, l64, l80, l100, l255, l256, l288, l312, l400, l992, l1940, l24980, l25240, xI, xL, xR, zI_neg, zI_add, zI_sub, zI_mul, zI_le, zI_lt, zI_eq, zI_in, zI_nat, Option.bind_some, lt9, hq, Int.add_zero, Int.sub_self, true_or, or_true, true_and, and_true, false_or, or_false, Int.cast_ofNat_Int, ↓reduceIte, cD.1, cD.2.1, cR.1, cR.2.2.1, if_pos, if_neg]
      rcases key with ⟨k1, k2⟩ | ⟨k1, k2⟩
      · exact Or.inl ⟨Or.inl k1, k2⟩
      · rw [k2]
        rcases ih (i + 1) (by omega) (by omega) (by omega) with ⟨q1, q2⟩ | ⟨q1, q2⟩
        · exact Or.inl ⟨Or.inr q1, q2⟩
        · exact Or.inr ⟨fun z => z.elim k1 q1, q2⟩
theorem eV_fixBy_L2 {σ : hT} {v : Int → Int} {g : Nat} (hC : CA σ v g) (hw : wf v) {d r : Int} (hd : i32 d) (hr : i32 r) {n : Nat} (hn : 13 ≤ n) (kx : Int32 → Int32 → Int32 → Option Int32) (K : Nat) : ∀ (i : Int), 0 ≤ i → i ≤ v 16 → v 16 - i < K →
    ((∃ e, i ≤ e ∧ e < v 16 ∧ fixD v d r e) ∧ V_isFixedByAReleasedOne_L2 n σ kx K (zI i) (zI d) (zI r) = some (zI 1)) ∨ ((¬ ∃ e, i ≤ e ∧ e < v 16 ∧ fixD v d r e) ∧ V_isFixedByAReleasedOne_L2 n σ kx K (zI i) (zI d) (zI r) = kx (zI (v 16)) (zI d) (zI r)) := by
  have h16 := hw.1
  induction K with
  | zero => intro i _ _ h; omega
  | succ K ih =>
    intro i i0 i1 hK
    by_cases hx : v 16 ≤ i
    · obtain rfl : i = v 16 := by omega
      refine Or.inr ⟨ex_end (P := fun e => fixD v d r e) hx, ?_⟩
      unfold V_isFixedByAReleasedOne_L2
      simp (disch := omega) only [l0, l1, l2, l3, l4, l5, l6, l7, l8, l10, l12, l16, l20, l24, l26, l40, l64, l80, l100, l255, l256, l288, l312, l400, l992, l1940, l24980, l25240, xI, xL, xR, zI_neg, zI_add, zI_sub, zI_mul, zI_le, zI_lt, zI_eq, zI_in, zI_nat, Option.bind_some, lt9, hq, Int.add_zero, Int.sub_self, true_or, or_true, true_and, and_true, false_or, or_false, Int.cast_ofNat_Int, ↓reduceIte, hC.2.1, if_pos, if_neg]
    · rw [ex_step (P := fun e => fixD v d r e) (show i < v 16 by omega)]
      have hm := (hw.2.2.2.1 i i0 (by omega)).1
      have e0 : V_isFixedByAReleasedOne_L2 n σ kx (K + 1) (zI i) (zI d) (zI r) = V_isFixedByAReleasedOne_L13 n σ (fun (p8 : Int32) (p9 : Int32) (p10 : Int32) (p11 : Int32) => V_isFixedByAReleasedOne_L2 n σ kx K (p9 + 1) p10 p11) n (zI 0) (zI i) (zI d) (zI r) := by
        conv => lhs; unfold V_isFixedByAReleasedOne_L2
        simp (disch := omega) only [l0, l1, l2, l3, l4, l5, l6, l7, l8, l10, l12, l16, l20, l24, l26, l40, l64, l80, l100, l255, l256, l288, l312, l400, l992, l1940, l24980, l25240, xI, xL, xR, zI_neg, zI_add, zI_sub, zI_mul, zI_le, zI_lt, zI_eq, zI_in, zI_nat, Option.bind_some, lt9, hq, Int.add_zero, Int.sub_self, true_or, or_true, true_and, and_true, false_or, or_false, Int.cast_ofNat_Int, ↓reduceIte, hC.2.1, if_pos, if_neg]
      rw [e0]
      rcases eV_fixBy_L13 hC hw hd hr i0 (by omega) (show 7 ≤ n by omega) (fun (p8 : Int32) (p9 : Int32) (p10 : Int32) (p11 : Int32) => V_isFixedByAReleasedOne_L2 n σ kx K (p9 + 1) p10 p11) n 0 (by omega) (by omega) (by omega) with ⟨k1, k2⟩ | ⟨k1, k2⟩
      · exact Or.inl ⟨Or.inl k1, k2⟩
      · rw [k2, l1, zI_add]
        rcases ih (i + 1) (by omega) (by omega) (by omega) with ⟨q1, q2⟩ | ⟨q1, q2⟩
        · exact Or.inl ⟨Or.inr q1, q2⟩
        · exact Or.inr ⟨fun z => z.elim k1 q1, q2⟩
theorem eV_isFixedBy {σ : hT} {v : Int → Int} {g : Nat} (hC : CA σ v g) (hw : wf v) {d r : Int} (hd : i32 d) (hr : i32 r) {n : Nat} (hn : 25 ≤ n) : ∃ y, V_isFixedByAReleasedOne n σ (zI d) (zI r) = some (zI y) ∧ (y = 0 ∨ y = 1) ∧ (y = 1 ↔ ∃ e, 0 ≤ e ∧ e < v 16 ∧ fixD v d r e) := by
  have h16 := hw.1
  unfold V_isFixedByAReleasedOne lt9
  rcases eV_fixBy_L2 hC hw hd hr (show 13 ≤ n by omega) (fun (p1 : Int32) (p2 : Int32) (p3 : Int32) => some 0) n 0 (by omega) (by omega) (by omega) with ⟨q1, q2⟩ | ⟨q1, q2⟩
  · exact ⟨1, q2, Or.inr rfl, fun _ => q1, fun _ => rfl⟩
  · exact ⟨0, q2, Or.inl rfl, fun z => absurd z (by decide), fun z => absurd z q1⟩
def bt (x : Int32) (μ : Int → Prop) : Prop := ∀ k : Nat, k < 32 → (x.toBitVec.getLsbD k = true ↔ μ k)
theorem bit_bv {d : Int} (d0 : 0 ≤ d) (d1 : d < 24) (k : Nat) (hk : k < 32) : (V_bit (zI d)).toBitVec.getLsbD k = true ↔ (k : Int) = d := by
  obtain ⟨n, rfl⟩ : ∃ n : Nat, d = n := ⟨d.toNat, by omega⟩
  have hn : n < 24 := by omega
  have e : ∀ n : Nat, n < 24 → ∀ k : Nat, k < 32 → (V_bit (Int32.ofInt (n : Int))).toBitVec.getLsbD k = decide (k = n) := by decide +kernel
  unfold zI
  rw [e n hn k hk]
  simp
  omega
theorem bt_0 : bt (zI 0) (fun _ => False) := by
  intro k hk
  constructor
  · intro h; exact absurd h (by show ¬ ((0 : Int32).toBitVec.getLsbD k = true); simp)
  · intro h; exact h.elim
theorem bt_or {x y : Int32} {μ ν : Int → Prop} (h1 : bt x μ) (h2 : bt y ν) : bt (x ||| y) (fun k => μ k ∨ ν k) := by
  intro k hk
  rw [Int32.toBitVec_or, BitVec.getLsbD_or, Bool.or_eq_true, h1 k hk, h2 k hk]
theorem bt_and {x y : Int32} {μ ν : Int → Prop} (h1 : bt x μ) (h2 : bt y ν) : (x &&& y = 0) ↔ ∀ k : Int, 0 ≤ k → k < 32 → ¬ (μ k ∧ ν k) := by
  constructor
  · intro h k k0 k1 ⟨a, b⟩
    obtain ⟨n, rfl⟩ : ∃ n : Nat, k = n := ⟨k.toNat, by omega⟩
    have q : (x &&& y).toBitVec.getLsbD n = true := by
      rw [Int32.toBitVec_and, BitVec.getLsbD_and, Bool.and_eq_true]
      exact ⟨(h1 n (by omega)).mpr a, (h2 n (by omega)).mpr b⟩
    rw [h] at q
    exact absurd q (by simp)
  · intro h
    apply Int32.toBitVec_inj.mp
    apply BitVec.eq_of_getLsbD_eq
    intro i hi
    have e0 : (0 : Int32).toBitVec.getLsbD i = false := by simp
    rw [e0, Bool.eq_false_iff]
    intro q
    rw [Int32.toBitVec_and, BitVec.getLsbD_and, Bool.and_eq_true] at q
    exact h i (by omega) (by omega) ⟨(h1 i hi).mp q.1, (h2 i hi).mp q.2⟩
theorem bt_eq {x y : Int32} {μ ν : Int → Prop} (h1 : bt x μ) (h2 : bt y ν) : x = y ↔ ∀ k : Int, 0 ≤ k → k < 32 → (μ k ↔ ν k) := by
  constructor
  · intro h k k0 k1
    subst h
    obtain ⟨n, rfl⟩ : ∃ n : Nat, k = n := ⟨k.toNat, by omega⟩
    exact (h1 n (by omega)).symm.trans (h2 n (by omega))
  · intro h
    apply Int32.toBitVec_inj.mp
    apply BitVec.eq_of_getLsbD_eq
    intro i hi
    have := ((h1 i hi).trans (h i (by omega) (by omega))).trans (h2 i hi).symm
    rw [Bool.eq_iff_iff]; exact this
theorem bt.w {x : Int32} {μ ν : Int → Prop} (h : bt x μ) (he : ∀ k : Int, 0 ≤ k → k < 32 → (μ k ↔ ν k)) : bt x ν := fun k hk => (h k hk).trans (he k (by omega) (by omega))
theorem eC_tb_L {σ : hT} {v : Int → Int} {c : Nat} {a : Int} (h16 : v 16 ≤ 24) (hc : cw v a) (hct : ct σ c v a) (n : Nat) (kx : Int32 → Int32 → Nat → Option Int32) (K : Nat) : ∀ (i : Nat) (x : Int32), bt x (fun t => rfN v a t i = true) → (i : Int) ≤ v (a + 3) → v (a + 3) - i < K →
    ∃ y, C_targetBits_L4 n σ kx K (zI i) x c = kx (zI (v (a + 3))) y c ∧ bt y (fun t => rf v a t = true) := by
  have h3 := hc.2.1
  induction K with
  | zero => intro i x _ _ h; omega
  | succ K ih =>
    intro i x hb hi hK
    by_cases hx : v (a + 3) ≤ i
    · have e : v (a + 3) = i := by omega
      refine ⟨x, ?_, ?_⟩
      · unfold C_targetBits_L4
        have h4 := hct.2.1
        rw [e] at h4 ⊢
        simp (disch := omega) only [l0, l1, l2, l3, l4, l5, l6, l7, l8, l10, l12, l16, l20, l24, l26, l40, l64, l80, l100, l255, l256, l288, l312, l400, l992, l1940, l24980, l25240, xI, xL, xR, zI_neg, zI_add, zI_sub, zI_mul, zI_le, zI_lt, zI_eq, zI_in, zI_nat, Option.bind_some, lt9, hq, Int.add_zero, Int.sub_self, true_or, or_true, true_and, and_true, false_or, or_false, Int.cast_ofNat_Int, ↓reduceIte, h4, if_pos, if_neg]
      · unfold rf; rw [e]; exact hb
    · have hk := (hct.2.2.1 i (by omega) (by omega)).1
      have hki := hc.2.2.1 i (by omega) (by omega)
      obtain ⟨y, q1, q2⟩ := ih (i + 1) (x ||| V_bit (zI (v (a + 4 + 2 * i)))) ((bt_or hb (fun k hk => bit_bv hki.1 (by omega) k hk)).w (fun k k0 k1 => by
        show (rfN v a k i = true ∨ k = v (a + 4 + 2 * i)) ↔ (rfN v a k i || decide (v (a + 4 + 2 * i) = k)) = true
        rw [Bool.or_eq_true, decide_eq_true_eq]
        exact ⟨fun z => z.imp id Eq.symm, fun z => z.imp id Eq.symm⟩)) (by omega) (by omega)
      refine ⟨y, ?_, q2⟩
      rw [← q1]
      conv => lhs; unfold C_targetBits_L4
      rw [Int.toNat_natCast] at hk
      simp (disch := omega) only [l0, l1, l2, l3, l4, l5, l6, l7, l8, l10, l12, l16, l20, l24, l26, l40, l64, l80, l100, l255, l256, l288, l312, l400, l992, l1940, l24980, l25240, xI, xL, xR, zI_neg, zI_add, zI_sub, zI_mul, zI_le, zI_lt, zI_eq, zI_in, zI_nat, Option.bind_some, lt9, hq, Int.add_zero, Int.sub_self, true_or, or_true, true_and, and_true, false_or, or_false, Int.cast_ofNat_Int, ↓reduceIte, hct.2.1, Int.toNat_natCast, hk, if_pos, if_neg]
      rfl
theorem eC_targetBits {σ : hT} {v : Int → Int} {c : Nat} {a : Int} (h16 : v 16 ≤ 24) (hc : cw v a) (hct : ct σ c v a) {n : Nat} (hn : 7 ≤ n) : ∃ y, C_targetBits n σ c = some y ∧ bt y (fun t => rf v a t = true) := by
  have h3 := hc.2.1
  unfold C_targetBits lt9
  obtain ⟨y, q1, q2⟩ := eC_tb_L h16 hc hct n (fun (p1 : Int32) (p2 : Int32) (j3 : Nat) => some p2) n 0 0 (bt_0.w (fun k _ _ => ⟨fun z => z.elim, fun z => (nomatch z)⟩)) (by omega) (by omega)
  exact ⟨y, q1, q2⟩
