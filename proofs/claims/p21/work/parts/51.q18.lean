theorem ex_step {P : Int → Prop} {i N : Int} (h : i < N) : (∃ k, i ≤ k ∧ k < N ∧ P k) ↔ P i ∨ ∃ k, i + 1 ≤ k ∧ k < N ∧ P k := by
  constructor
  · rintro ⟨k, h1, h2, h3⟩
    by_cases e : k = i
    · subst e; exact Or.inl h3
    · exact Or.inr ⟨k, by omega, h2, h3⟩
  · rintro (h1 | ⟨k, h1, h2, h3⟩)
    · exact ⟨i, Int.le_refl _, h, h1⟩
    · exact ⟨k, by omega, h2, h3⟩
theorem ex_end {P : Int → Prop} {i N : Int} (h : N ≤ i) : ¬ ∃ k, i ≤ k ∧ k < N ∧ P k := by
  rintro ⟨k, h1, h2, -⟩; omega
def lrP (v : Int → Int) (a : Int) : Prop := ∃ k : Int, 0 ≤ k ∧ k < v (a + 3) ∧ ¬ isRel v a k
theorem eM_lrel_L {σ : hT} {v : Int → Int} (hN : mN σ v) (hw : wf v) {a : Int} (ha : 0 ≤ a) (ha2 : a + 80 ≤ 25240) (hc : cw v a) (hf : fx v a) {n : Nat} (hn : 13 ≤ n) (kx : Int32 → Int32 → Int32 → Option Int32) (K : Nat) : ∀ (i s : Int), 0 ≤ i → i ≤ v (a + 3) → v (a + 3) - i < K → (s = 0 ∨ s = 1) →
    ∃ e y : Int, M_lacksReleased_L4 n σ kx K (zI i) (zI s) (zI a) = kx (zI e) (zI y) (zI a) ∧ (y = 0 ∨ y = 1) ∧ (y = 1 ↔ s = 1 ∨ ∃ k, i ≤ k ∧ k < v (a + 3) ∧ ¬ isRel v a k) := by
  have h3 := hc.2.1
  induction K with
  | zero => intro i s _ _ h; omega
  | succ K ih =>
    intro i s hi hi2 hK hs
    by_cases hx : v (a + 3) ≤ i
    · refine ⟨i, s, ?_, hs, ⟨fun z => Or.inl z, fun z => z.elim id (fun z => absurd z (ex_end hx))⟩⟩
      unfold M_lacksReleased_L4
      simp (disch := omega) only [l0, l1, l2, l3, l4, l5, l6, l7, l8, l10, l12, l16, l20, l24, l26, l40, l64, l80, l100, l255, l256, l288, l312, l400, l992, l1940, l24980, l25240, xI, xL, xR, zI_neg, zI_add, zI_sub, zI_mul, zI_le, zI_lt, zI_eq, zI_in, zI_nat, Option.bind_some, lt9, hq, Int.add_zero, Int.sub_self, true_or, or_true, true_and, and_true, false_or, or_false, Int.cast_ofNat_Int, ↓reduceIte, hN _, if_pos, if_neg]
    · have er := eM_isReleased hN hw ha ha2 hc hf hi (by omega) hn
      rw [ex_step (P := fun k => ¬ isRel v a k) (show i < v (a + 3) by omega)]
      rcases hs with rfl | rfl
      · by_cases hr : isRel v a i
        · obtain ⟨e, y, q1, q2, q3⟩ := ih (i + 1) 0 (by omega) (by omega) (by omega) (Or.inl rfl)
          refine ⟨e, y, ?_, q2, q3.trans ⟨fun z => z.elim Or.inl (fun z => Or.inr (Or.inr z)), fun z => z.elim Or.inl (fun z => z.elim (fun z => absurd hr z) Or.inr)⟩⟩
          rw [← q1]
          conv => lhs; unfold M_lacksReleased_L4
          rw [if_pos hr] at er
          simp (disch := omega) only [l0, l1, l2, l3, l4, l5, l6, l7, l8, l10, l12, l16, l20, l24, l26, l40, l64, l80, l100, l255, l256, l288, l312, l400, l992, l1940, l24980, l25240, xI, xL, xR, zI_neg, zI_add, zI_sub, zI_mul, zI_le, zI_lt, zI_eq, zI_in, zI_nat, Option.bind_some, lt9, hq, Int.add_zero, Int.sub_self, true_or, or_true, true_and, and_true, false_or, or_false, Int.cast_ofNat_Int, ↓reduceIte, hN _, er, if_pos, if_neg]
        · obtain ⟨e, y, q1, q2, q3⟩ := ih (i + 1) 1 (by omega) (by omega) (by omega) (Or.inr rfl)
          refine ⟨e, y, ?_, q2, ⟨fun _ => Or.inr (Or.inl hr), fun _ => q3.mpr (Or.inl rfl)⟩⟩
          rw [← q1]
          conv => lhs; unfold M_lacksReleased_L4
          rw [if_neg hr] at er
          simp (disch := omega) only [l0, l1, l2, l3, l4, l5, l6, l7, l8, l10, l12, l16, l20, l24, l26, l40, l64, l80, l100, l255, l256, l288, l312, l400, l992, l1940, l24980, l25240, xI, xL, xR, zI_neg, zI_add, zI_sub, zI_mul, zI_le, zI_lt, zI_eq, zI_in, zI_nat, Option.bind_some, lt9, hq, Int.add_zero, Int.sub_self, true_or, or_true, true_and, and_true, false_or, or_false, Int.cast_ofNat_Int, ↓reduceIte, hN _, er, if_pos, if_neg]
      · obtain ⟨e, y, q1, q2, q3⟩ := ih (i + 1) 1 (by omega) (by omega) (by omega) (Or.inr rfl)
        refine ⟨e, y, ?_, q2, ⟨fun _ => Or.inl rfl, fun _ => q3.mpr (Or.inl rfl)⟩⟩
        rw [← q1]
        conv => lhs; unfold M_lacksReleased_L4
        simp (disch := omega) only [l0, l1, l2, l3, l4, l5, l6, l7, l8, l10, l12, l16, l20, l24, l26, l40, l64, l80, l100, l255, l256, l288, l312, l400, l992, l1940, l24980, l25240, xI, xL, xR, zI_neg, zI_add, zI_sub, zI_mul, zI_le, zI_lt, zI_eq, zI_in, zI_nat, Option.bind_some, lt9, hq, Int.add_zero, Int.sub_self, true_or, or_true, true_and, and_true, false_or, or_false, Int.cast_ofNat_Int, ↓reduceIte, hN _, if_pos, if_neg]
theorem eM_lacksReleased {σ : hT} {v : Int → Int} (hN : mN σ v) (hw : wf v) {a : Int} (ha : 0 ≤ a) (ha2 : a + 80 ≤ 25240) (hc : cw v a) (hf : fx v a) {n : Nat} (hn : 13 ≤ n) : ∃ y, M_lacksReleased n σ (zI a) = some (zI y) ∧ (y = 0 ∨ y = 1) ∧ (y = 1 ↔ lrP v a) := by
  have h3 := hc.2.1
  obtain ⟨e, y, q1, q2, q3⟩ := eM_lrel_L hN hw ha ha2 hc hf hn (fun (p1 : Int32) (p2 : Int32) (p3 : Int32) => if p2 = 0 ∨ p2 = 1 then some p2 else none) n 0 0 (by omega) (by omega) (by omega) (Or.inl rfl)
  refine ⟨y, ?_, q2, q3.trans ⟨fun z => z.elim (fun z => absurd z (by decide)) id, Or.inr⟩⟩
  unfold M_lacksReleased lt9
  refine Eq.trans q1 ?_
  rcases q2 with rfl | rfl <;> rfl
abbrev fixK (v : Int → Int) (d r e i k : Int) : Prop := v (1940 + 80 * (12 * e + i)) = 2 ∧ v (1940 + 80 * (12 * e + i) + 4 + 2 * k) = d ∧ v (1940 + 80 * (12 * e + i) + 4 + 2 * k + 1) = r
def fixR (v : Int → Int) (d r e i : Int) : Prop := ∃ k, 0 ≤ k ∧ k < v (1940 + 80 * (12 * e + i) + 3) ∧ fixK v d r e i k
def fixD (v : Int → Int) (d r e : Int) : Prop := ∃ i, 0 ≤ i ∧ i < v (20 + 80 * e) ∧ fixR v d r e i
abbrev inBl (v : Int → Int) (d r b : Int) : Prop := 0 < v (24980 + 26 * b) ∧ v (24980 + 26 * b + 2 + d) = r + 1
def inUse (v : Int → Int) (d r : Int) : Prop := (∃ b, 0 ≤ b ∧ b < 10 ∧ inBl v d r b) ∨ ∃ e, 0 ≤ e ∧ e < v 16 ∧ fixD v d r e
theorem eM_use_L105 {σ : hT} {v : Int → Int} (hN : mN σ v) (hw : wf v) {d r e j : Int} (hd : i32 d) (hr : i32 r) (he : 0 ≤ e) (he2 : e < v 16) (hj : 0 ≤ j) (hj2 : j < v (20 + 80 * e)) (n : Nat) (kx : Int32 → Int32 → Int32 → Int32 → Int32 → Int32 → Int32 → Option Int32) (K : Nat) : ∀ (i s : Int), 0 ≤ i → i ≤ v (1940 + 80 * (12 * e + j) + 3) → v (1940 + 80 * (12 * e + j) + 3) - i < K → (s = 0 ∨ s = 1) →
    ∃ q y : Int, M_isInUse_L105 n σ kx K (zI i) (zI (1940 + 80 * (12 * e + j))) (zI j) (zI e) (zI s) (zI d) (zI r) = kx (zI q) (zI (1940 + 80 * (12 * e + j))) (zI j) (zI e) (zI y) (zI d) (zI r) ∧ (y = 0 ∨ y = 1) ∧ (y = 1 ↔ s = 1 ∨ ∃ k, i ≤ k ∧ k < v (1940 + 80 * (12 * e + j) + 3) ∧ fixK v d r e j k) := by
  obtain ⟨hd1, hd2⟩ := hd
  obtain ⟨hr1, hr2⟩ := hr
  have h16 := hw.1
  have hD := hw.2.2.2.1 e he he2
  have hm := hD.1
  obtain ⟨g1, g2, g3, g4⟩ := hD.2.2.2 j hj hj2
  have h3 := g3.2.1
  induction K with
  | zero => intro i s _ _ h; omega
  | succ K ih =>
    intro i s hi hi2 hK hs
    by_cases hx : v (1940 + 80 * (12 * e + j) + 3) ≤ i
    · refine ⟨i, s, ?_, hs, ⟨fun z => Or.inl z, fun z => z.elim id (fun z => absurd z (ex_end hx))⟩⟩
      unfold M_isInUse_L105
      simp (disch := omega) only [l0, l1, l2, l3, l4, l5, l6, l7, l8, l10, l12, l16, l20, l24, l26, l40, l64, l80, l100, l255, l256, l288, l312, l400, l992, l1940, l24980, l25240, xI, xL, xR, zI_neg, zI_add, zI_sub, zI_mul, zI_le, zI_lt, zI_eq, zI_in, zI_nat, Option.bind_some, lt9, hq, Int.add_zero, Int.sub_self, true_or, or_true, true_and, and_true, false_or, or_false, Int.cast_ofNat_Int, ↓reduceIte, hN _, if_pos, if_neg]
    · have hk := g3.2.2.1 i hi (by omega)
      rw [ex_step (P := fun k => fixK v d r e j k) (show i < v (1940 + 80 * (12 * e + j) + 3) by omega)]
      rcases hs with rfl | rfl
      · by_cases hf : fixK v d r e j i
        · obtain ⟨q, y, q1, q2, q3⟩ := ih (i + 1) 1 (by omega) (by omega) (by omega) (Or.inr rfl)
          refine ⟨q, y, ?_, q2, ⟨fun _ => Or.inr (Or.inl hf), fun _ => q3.mpr (Or.inl rfl)⟩⟩
          rw [← q1]
          obtain ⟨f1, f2, f3⟩ := hf
          conv => lhs; unfold M_isInUse_L105
          simp (disch := omega) only [l0, l1, l2, l3, l4, l5, l6, l7, l8, l10, l12, l16, l20, l24, l26, l40, l64, l80, l100, l255, l256, l288, l312, l400, l992, l1940, l24980, l25240, xI, xL, xR, zI_neg, zI_add, zI_sub, zI_mul, zI_le, zI_lt, zI_eq, zI_in, zI_nat, Option.bind_some, lt9, hq, Int.add_zero, Int.sub_self, true_or, or_true, true_and, and_true, false_or, or_false, Int.cast_ofNat_Int, ↓reduceIte, hN _, eM_stateOf hN, eM_refDrawing hN, eM_refRevision hN, if_pos, if_neg]
        · obtain ⟨q, y, q1, q2, q3⟩ := ih (i + 1) 0 (by omega) (by omega) (by omega) (Or.inl rfl)
          refine ⟨q, y, ?_, q2, q3.trans ⟨fun z => z.elim Or.inl (fun z => Or.inr (Or.inr z)), fun z => z.elim Or.inl (fun z => z.elim (fun z => absurd z hf) Or.inr)⟩⟩
          rw [← q1]
          conv => lhs; unfold M_isInUse_L105
          by_cases f1 : v (1940 + 80 * (12 * e + j)) = 2
          · by_cases f2 : v (1940 + 80 * (12 * e + j) + 4 + 2 * i) = d
            · have f3 : v (1940 + 80 * (12 * e + j) + 4 + 2 * i + 1) ≠ r := fun z => hf ⟨f1, f2, z⟩
              simp (disch := omega) only [l0, l1, l2, l3, l4, l5, l6, l7, l8, l10, l12, l16, l20, l24, l26, l40, l64, l80, l100, l255, l256, l288, l312, l400, l992, l1940, l24980, l25240, xI, xL, xR, zI_neg, zI_add, zI_sub, zI_mul, zI_le, zI_lt, zI_eq, zI_in, zI_nat, Option.bind_some, lt9, hq, Int.add_zero, Int.sub_self, true_or, or_true, true_and, and_true, false_or, or_false, Int.cast_ofNat_Int, ↓reduceIte, hN _, eM_stateOf hN, eM_refDrawing hN, eM_refRevision hN, if_pos, if_neg]
            · simp (disch := omega) only [l0, l1, l2, l3, l4, l5, l6, l7, l8, l10, l12, l16, l20, l24, l26, l40, l64, l80, l100, l255, l256, l288, l312, l400, l992, l1940, l24980, l25240, xI, xL, xR, zI_neg, zI_add, zI_sub, zI_mul, zI_le, zI_lt, zI_eq, zI_in, zI_nat, Option.bind_some, lt9, hq, Int.add_zero, Int.sub_self, true_or, or_true, true_and, and_true, false_or, or_false, Int.cast_ofNat_Int, ↓reduceIte, hN _, eM_stateOf hN, eM_refDrawing hN, eM_refRevision hN, if_pos, if_neg]
          · simp (disch := omega) only [l0, l1, l2, l3, l4, l5, l6, l7, l8, l10, l12, l16, l20, l24, l26, l40, l64, l80, l100, l255, l256, l288, l312, l400, l992, l1940, l24980, l25240, xI, xL, xR, zI_neg, zI_add, zI_sub, zI_mul, zI_le, zI_lt, zI_eq, zI_in, zI_nat, Option.bind_some, lt9, hq, Int.add_zero, Int.sub_self, true_or, or_true, true_and, and_true, false_or, or_false, Int.cast_ofNat_Int, ↓reduceIte, hN _, eM_stateOf hN, eM_refDrawing hN, eM_refRevision hN, if_pos, if_neg]
      · obtain ⟨q, y, q1, q2, q3⟩ := ih (i + 1) 1 (by omega) (by omega) (by omega) (Or.inr rfl)
        refine ⟨q, y, ?_, q2, ⟨fun _ => Or.inl rfl, fun _ => q3.mpr (Or.inl rfl)⟩⟩
        rw [← q1]
        conv => lhs; unfold M_isInUse_L105
        simp (disch := omega) only [l0, l1, l2, l3, l4, l5, l6, l7, l8, l10, l12, l16, l20, l24, l26, l40, l64, l80, l100, l255, l256, l288, l312, l400, l992, l1940, l24980, l25240, xI, xL, xR, zI_neg, zI_add, zI_sub, zI_mul, zI_le, zI_lt, zI_eq, zI_in, zI_nat, Option.bind_some, lt9, hq, Int.add_zero, Int.sub_self, true_or, or_true, true_and, and_true, false_or, or_false, Int.cast_ofNat_Int, ↓reduceIte, hN _, if_pos, if_neg]
theorem eM_use_L81 {σ : hT} {v : Int → Int} (hN : mN σ v) (hw : wf v) {d r e : Int} (hd : i32 d) (hr : i32 r) (he : 0 ≤ e) (he2 : e < v 16) {n : Nat} (hn : 13 ≤ n) (kx : Int32 → Int32 → Int32 → Int32 → Int32 → Option Int32) (K : Nat) : ∀ (i s : Int), 0 ≤ i → i ≤ v (20 + 80 * e) → v (20 + 80 * e) - i < K → (s = 0 ∨ s = 1) →
    ∃ q y : Int, M_isInUse_L81 n σ kx K (zI i) (zI e) (zI s) (zI d) (zI r) = kx (zI q) (zI e) (zI y) (zI d) (zI r) ∧ (y = 0 ∨ y = 1) ∧ (y = 1 ↔ s = 1 ∨ ∃ k, i ≤ k ∧ k < v (20 + 80 * e) ∧ fixR v d r e k) := by
  have h16 := hw.1
  have hD := hw.2.2.2.1 e he he2
  have hm := hD.1
  induction K with
  | zero => intro i s _ _ h; omega
  | succ K ih =>
    intro i s hi hi2 hK hs
    by_cases hx : v (20 + 80 * e) ≤ i
    · refine ⟨i, s, ?_, hs, ⟨fun z => Or.inl z, fun z => z.elim id (fun z => absurd z (ex_end hx))⟩⟩
      unfold M_isInUse_L81
      simp (disch := omega) only [l0, l1, l2, l3, l4, l5, l6, l7, l8, l10, l12, l16, l20, l24, l26, l40, l64, l80, l100, l255, l256, l288, l312, l400, l992, l1940, l24980, l25240, xI, xL, xR, zI_neg, zI_add, zI_sub, zI_mul, zI_le, zI_lt, zI_eq, zI_in, zI_nat, Option.bind_some, lt9, hq, Int.add_zero, Int.sub_self, true_or, or_true, true_and, and_true, false_or, or_false, Int.cast_ofNat_Int, ↓reduceIte, eM_made hN, if_pos, if_neg]
    · rw [ex_step (P := fun k => fixR v d r e k) (show i < v (20 + 80 * e) by omega)]
      have h3 := (hD.2.2.2 i hi (by omega)).2.2.1.2.1
      obtain ⟨q0, y0, r1, r2, r3⟩ := eM_use_L105 hN hw hd hr he he2 hi (by omega) n (fun (p39 : Int32) (p40 : Int32) (p41 : Int32) (p42 : Int32) (p43 : Int32) (p44 : Int32) (p45 : Int32) => M_isInUse_L81 n σ kx K (p41 + 1) p42 p43 p44 p45) n 0 s (by omega) (by omega) (by omega) hs
      obtain ⟨q, y, q1, q2, q3⟩ := ih (i + 1) y0 (by omega) (by omega) (by omega) r2
      refine ⟨q, y, ?_, q2, q3.trans ?_⟩
      · rw [← q1]
        conv => lhs; unfold M_isInUse_L81
        simp (disch := omega) only [l0, l1, l2, l3, l4, l5, l6, l7, l8, l10, l12, l16, l20, l24, l26, l40, l64, l80, l100, l255, l256, l288, l312, l400, l992, l1940, l24980, l25240, xI, xL, xR, zI_neg, zI_add, zI_sub, zI_mul, zI_le, zI_lt, zI_eq, zI_in, zI_nat, Option.bind_some, lt9, hq, Int.add_zero, Int.sub_self, true_or, or_true, true_and, and_true, false_or, or_false, Int.cast_ofNat_Int, ↓reduceIte, eM_made hN, eM_revisionAt, if_pos, if_neg]
        refine Eq.trans r1 ?_
        rw [l1, zI_add]
      · rw [r3]
        exact ⟨fun z => z.elim (fun z => z.elim Or.inl (fun z => Or.inr (Or.inl z))) (fun z => Or.inr (Or.inr z)), fun z => z.elim (fun z => Or.inl (Or.inl z)) (fun z => z.elim (fun z => Or.inl (Or.inr z)) Or.inr)⟩
theorem eM_use_L66 {σ : hT} {v : Int → Int} (hN : mN σ v) (hw : wf v) {d r : Int} (hd : i32 d) (hr : i32 r) {n : Nat} (hn : 13 ≤ n) (kx : Int32 → Int32 → Int32 → Int32 → Option Int32) (K : Nat) : ∀ (i s : Int), 0 ≤ i → i ≤ v 16 → v 16 - i < K → (s = 0 ∨ s = 1) →
    ∃ q y : Int, M_isInUse_L66 n σ kx K (zI i) (zI s) (zI d) (zI r) = kx (zI q) (zI y) (zI d) (zI r) ∧ (y = 0 ∨ y = 1) ∧ (y = 1 ↔ s = 1 ∨ ∃ k, i ≤ k ∧ k < v 16 ∧ fixD v d r k) := by
  have h16 := hw.1
  induction K with
  | zero => intro i s _ _ h; omega
  | succ K ih =>
    intro i s hi hi2 hK hs
    by_cases hx : v 16 ≤ i
    · refine ⟨i, s, ?_, hs, ⟨fun z => Or.inl z, fun z => z.elim id (fun z => absurd z (ex_end hx))⟩⟩
      unfold M_isInUse_L66
      simp (disch := omega) only [l0, l1, l2, l3, l4, l5, l6, l7, l8, l10, l12, l16, l20, l24, l26, l40, l64, l80, l100, l255, l256, l288, l312, l400, l992, l1940, l24980, l25240, xI, xL, xR, zI_neg, zI_add, zI_sub, zI_mul, zI_le, zI_lt, zI_eq, zI_in, zI_nat, Option.bind_some, lt9, hq, Int.add_zero, Int.sub_self, true_or, or_true, true_and, and_true, false_or, or_false, Int.cast_ofNat_Int, ↓reduceIte, hN.lit, if_pos, if_neg]
    · rw [ex_step (P := fun k => fixD v d r k) (show i < v 16 by omega)]
      have hm := (hw.2.2.2.1 i hi (by omega)).1
      obtain ⟨q0, y0, r1, r2, r3⟩ := eM_use_L81 hN hw hd hr hi (by omega) hn (fun (p28 : Int32) (p29 : Int32) (p30 : Int32) (p31 : Int32) (p32 : Int32) => M_isInUse_L66 n σ kx K (p29 + 1) p30 p31 p32) n 0 s (by omega) (by omega) (by omega) hs
      obtain ⟨q, y, q1, q2, q3⟩ := ih (i + 1) y0 (by omega) (by omega) (by omega) r2
      refine ⟨q, y, ?_, q2, q3.trans ?_⟩
      · rw [← q1]
        conv => lhs; unfold M_isInUse_L66
        simp (disch := omega) only [l0, l1, l2, l3, l4, l5, l6, l7, l8, l10, l12, l16, l20, l24, l26, l40, l64, l80, l100, l255, l256, l288, l312, l400, l992, l1940, l24980, l25240, xI, xL, xR, zI_neg, zI_add, zI_sub, zI_mul, zI_le, zI_lt, zI_eq, zI_in, zI_nat, Option.bind_some, lt9, hq, Int.add_zero, Int.sub_self, true_or, or_true, true_and, and_true, false_or, or_false, Int.cast_ofNat_Int, ↓reduceIte, hN.lit, if_pos, if_neg]
        refine Eq.trans r1 ?_
        rw [l1, zI_add]
      · rw [r3]
        exact ⟨fun z => z.elim (fun z => z.elim Or.inl (fun z => Or.inr (Or.inl z))) (fun z => Or.inr (Or.inr z)), fun z => z.elim (fun z => Or.inl (Or.inl z)) (fun z => z.elim (fun z => Or.inl (Or.inr z)) Or.inr)⟩
theorem eM_use_L5 {σ : hT} {v : Int → Int} (hN : mN σ v) (hw : wf v) {d r : Int} (hd : 0 ≤ d) (hd2 : d < 24) (hr : 0 ≤ r) (hr2 : r < 12) (n : Nat) (kx : Int32 → Int32 → Int32 → Int32 → Option Int32) (K : Nat) : ∀ (i s : Int), 0 ≤ i → i ≤ 10 → 10 - i < K → (s = 0 ∨ s = 1) →
    ∃ q y : Int, M_isInUse_L5 n σ kx K (zI i) (zI s) (zI d) (zI r) = kx (zI q) (zI y) (zI d) (zI r) ∧ (y = 0 ∨ y = 1) ∧ (y = 1 ↔ s = 1 ∨ ∃ k, i ≤ k ∧ k < 10 ∧ inBl v d r k) := by
  induction K with
  | zero => intro i s _ _ h; omega
  | succ K ih =>
    intro i s hi hi2 hK hs
    by_cases hx : 10 ≤ i
    · refine ⟨i, s, ?_, hs, ⟨fun z => Or.inl z, fun z => z.elim id (fun z => absurd z (ex_end hx))⟩⟩
      unfold M_isInUse_L5
      simp (disch := omega) only [l0, l1, l2, l3, l4, l5, l6, l7, l8, l10, l12, l16, l20, l24, l26, l40, l64, l80, l100, l255, l256, l288, l312, l400, l992, l1940, l24980, l25240, xI, xL, xR, zI_neg, zI_add, zI_sub, zI_mul, zI_le, zI_lt, zI_eq, zI_in, zI_nat, Option.bind_some, lt9, hq, Int.add_zero, Int.sub_self, true_or, or_true, true_and, and_true, false_or, or_false, Int.cast_ofNat_Int, ↓reduceIte, if_pos, if_neg]
    · rw [ex_step (P := fun k => inBl v d r k) (show i < 10 by omega)]
      obtain ⟨w1, w2, w3, -⟩ := hw.2.2.2.2.2 i hi (by omega)
      have w4 := w3 d hd hd2
      rcases hs with rfl | rfl
      · by_cases hf : inBl v d r i
        · obtain ⟨q, y, q1, q2, q3⟩ := ih (i + 1) 1 (by omega) (by omega) (by omega) (Or.inr rfl)
          refine ⟨q, y, ?_, q2, ⟨fun _ => Or.inr (Or.inl hf), fun _ => q3.mpr (Or.inl rfl)⟩⟩
          rw [← q1]
          obtain ⟨f1, f2⟩ := hf
          conv => lhs; unfold M_isInUse_L5
          simp (disch := omega) only [l0, l1, l2, l3, l4, l5, l6, l7, l8, l10, l12, l16, l20, l24, l26, l40, l64, l80, l100, l255, l256, l288, l312, l400, l992, l1940, l24980, l25240, xI, xL, xR, zI_neg, zI_add, zI_sub, zI_mul, zI_le, zI_lt, zI_eq, zI_in, zI_nat, Option.bind_some, lt9, hq, Int.add_zero, Int.sub_self, true_or, or_true, true_and, and_true, false_or, or_false, Int.cast_ofNat_Int, ↓reduceIte, eM_baselineAt, hN _, if_pos, if_neg]
        · obtain ⟨q, y, q1, q2, q3⟩ := ih (i + 1) 0 (by omega) (by omega) (by omega) (Or.inl rfl)
          refine ⟨q, y, ?_, q2, q3.trans ⟨fun z => z.elim Or.inl (fun z => Or.inr (Or.inr z)), fun z => z.elim Or.inl (fun z => z.elim (fun z => absurd z hf) Or.inr)⟩⟩
          rw [← q1]
          conv => lhs; unfold M_isInUse_L5
          by_cases f1 : 0 < v (24980 + 26 * i)
          · have f2 : v (24980 + 26 * i + 2 + d) ≠ r + 1 := fun z => hf ⟨f1, z⟩
            clear hf
            simp (disch := omega) only [l0, l1, l2, l3, l4, l5, l6, l7, l8, l10, l12, l16, l20, l24, l26, l40, l64, l80, l100, l255, l256, l288, l312, l400, l992, l1940, l24980, l25240, xI, xL, xR, zI_neg, zI_add, zI_sub, zI_mul, zI_le, zI_lt, zI_eq, zI_in, zI_nat, Option.bind_some, lt9, hq, Int.add_zero, Int.sub_self, true_or, or_true, true_and, and_true, false_or, or_false, Int.cast_ofNat_Int, ↓reduceIte, eM_baselineAt, hN _, if_pos, if_neg]
            try (split <;> rfl)
          · simp (disch := omega) only [l0, l1, l2, l3, l4, l5, l6, l7, l8, l10, l12, l16, l20, l24, l26, l40, l64, l80, l100, l255, l256, l288, l312, l400, l992, l1940, l24980, l25240, xI, xL, xR, zI_neg, zI_add, zI_sub, zI_mul, zI_le, zI_lt, zI_eq, zI_in, zI_nat, Option.bind_some, lt9, hq, Int.add_zero, Int.sub_self, true_or, or_true, true_and, and_true, false_or, or_false, Int.cast_ofNat_Int, ↓reduceIte, eM_baselineAt, hN _, if_pos, if_neg]
      · obtain ⟨q, y, q1, q2, q3⟩ := ih (i + 1) 1 (by omega) (by omega) (by omega) (Or.inr rfl)
        refine ⟨q, y, ?_, q2, ⟨fun _ => Or.inl rfl, fun _ => q3.mpr (Or.inl rfl)⟩⟩
        rw [← q1]
        conv => lhs; unfold M_isInUse_L5
        simp (disch := omega) only [l0, l1, l2, l3, l4, l5, l6, l7, l8, l10, l12, l16, l20, l24, l26, l40, l64, l80, l100, l255, l256, l288, l312, l400, l992, l1940, l24980, l25240, xI, xL, xR, zI_neg, zI_add, zI_sub, zI_mul, zI_le, zI_lt, zI_eq, zI_in, zI_nat, Option.bind_some, lt9, hq, Int.add_zero, Int.sub_self, true_or, or_true, true_and, and_true, false_or, or_false, Int.cast_ofNat_Int, ↓reduceIte, hN _, if_pos, if_neg]
theorem eM_isInUse {σ : hT} {v : Int → Int} (hN : mN σ v) (hw : wf v) {d r : Int} (hd : 0 ≤ d) (hd2 : d < 24) (hr : 0 ≤ r) (hr2 : r < 12) {n : Nat} (hn : 25 ≤ n) : ∃ y, M_isInUse n σ (zI d) (zI r) = some (zI y) ∧ (y = 0 ∨ y = 1) ∧ (y = 1 ↔ inUse v d r) := by
  have h16 := hw.1
  obtain ⟨q0, y0, q1, q2, q3⟩ := eM_use_L5 hN hw hd hd2 hr hr2 n (fun (p1 : Int32) (p2 : Int32) (p3 : Int32) (p4 : Int32) => lt9 (α := Int32 → Int32 → Int32 → Int32 → Option (Int32)) (fun (p19 : Int32) (p20 : Int32) (p21 : Int32) (p22 : Int32) => if p20 = 0 ∨ p20 = 1 then some p20 else none) fun kx23 => M_isInUse_L66 n σ kx23 n 0 p2 p3 p4) n 0 0 (by omega) (by omega) (by omega) (Or.inl rfl)
  obtain ⟨q9, y, r1, r2, r3⟩ := eM_use_L66 hN hw (d := d) (r := r) ⟨by omega, by omega⟩ ⟨by omega, by omega⟩ (show 13 ≤ n by omega) (fun (p19 : Int32) (p20 : Int32) (p21 : Int32) (p22 : Int32) => if p20 = 0 ∨ p20 = 1 then some p20 else none) n 0 y0 (by omega) (by omega) (by omega) q2
  refine ⟨y, ?_, r2, r3.trans ?_⟩
  · unfold M_isInUse lt9
    refine Eq.trans q1 (Eq.trans r1 ?_)
    rcases r2 with rfl | rfl <;> rfl
  · rw [q3]
    unfold inUse
    exact ⟨fun z => z.elim (fun z => z.elim (fun z => absurd z (by decide)) Or.inl) Or.inr, fun z => z.elim (fun z => Or.inl (Or.inr z)) Or.inr⟩
abbrev isRv (v : Int → Int) (d r : Int) : Prop := 0 ≤ d ∧ d < v 16 ∧ 0 ≤ r ∧ r < v (20 + 80 * d)
theorem wf_st {v : Int → Int} {d r x : Int} (h : wf v) (hr : isRv v d r) (hx : 0 ≤ x ∧ x ≤ 3) : wf (uv v (1940 + 80 * (12 * d + r)) x) := by
  obtain ⟨d0, d1, r0, r1⟩ := hr
  obtain ⟨g1, g2, g3, g4, g5, g6⟩ := h
  have hD := (g4 d d0 d1).1
  have e16 : uv v (1940 + 80 * (12 * d + r)) x 16 = v 16 := uv_n (by omega)
  have em : ∀ e, 0 ≤ e → e < v 16 → uv v (1940 + 80 * (12 * d + r)) x (20 + 80 * e) = v (20 + 80 * e) := fun e a b => uv_n (by omega)
  have eb : ∀ e k, 0 ≤ e → e < v 16 → 0 ≤ k → k < 80 → uv v (1940 + 80 * (12 * d + r)) x (20 + 80 * e + k) = v (20 + 80 * e + k) := fun e k a b c d => uv_n (by omega)
  have er : ∀ e i k, 0 ≤ e → e < v 16 → 0 ≤ i → i < 12 → 1 ≤ k → k < 80 → uv v (1940 + 80 * (12 * d + r)) x (1940 + 80 * (12 * e + i) + k) = v (1940 + 80 * (12 * e + i) + k) := fun e i k a b c d f g => uv_n (by omega)
  refine ⟨by rw [e16]; exact g1, fun p p0 p1 => by rw [uv_n (by omega)]; exact g2 p p0 p1, by rw [uv_n (by omega)]; exact g3, fun e e0 e1 => ?_, ?_, fun b b0 b1 => wfB_c b0 (fun k k0 k1 => uv_n (by omega)) (g6 b b0 b1)⟩
  · rw [e16] at e1
    obtain ⟨k1, k2, k3, k4⟩ := g4 e e0 e1
    refine ⟨by rw [em e e0 e1]; exact k1, by rw [eb e 1 e0 e1 (by omega) (by omega)]; exact k2, fun z => ?_, fun i i0 i1 => ?_⟩
    · rw [eb e 1 e0 e1 (by omega) (by omega)] at z
      exact cw_c (by omega) (fun k a b => eb e k e0 e1 (by omega) b) (k3 z)
    · rw [em e e0 e1] at i1
      obtain ⟨q1, q2, q3, q4⟩ := k4 i i0 i1
      refine ⟨?_, by rw [er e i 1 e0 e1 i0 (by omega) (by omega) (by omega)]; exact q2, cw_c (by omega) (fun k a b => er e i k e0 e1 i0 (by omega) (by omega) b) q3, fx_c (fun d' a b => by rw [em d' a b]; omega) (fun k a b => er e i k e0 e1 i0 (by omega) (by omega) b) q3 q4⟩
      by_cases hh : e = d ∧ i = r
      · obtain ⟨rfl, rfl⟩ := hh
        rw [uv_s]; exact hx
      · rw [uv_n (by omega)]; exact q1
  · rw [e16, allR_c _ (fun d' a b => em d' a (by omega))]; exact g5
theorem eM_whyNR {σ : hT} {v : Int → Int} (hN : mN σ v) (hw : wf v) {d r p : Int} (hd : i32 d) (hr : i32 r) (hp : i32 p) {m : Int32} {R : Prop} [Decidable R] (hm : (zI (rts v p) &&& m = 0) = R) : M_whyNotRevision σ (zI d) (zI r) (zI p) m = some (zI (if R then 1 else if isRv v d r then 0 else 7)) := by
  obtain ⟨hd1, hd2⟩ := hd
  obtain ⟨hr1, hr2⟩ := hr
  obtain ⟨hp1, hp2⟩ := hp
  have er : M_rights σ (zI p) = some (zI (rts v p)) := eM_rights hN hp1 hp2
  have ei := eM_isRevision hN hw hd1 hd2 hr1 hr2
  unfold M_whyNotRevision
  rw [er, ei]
  simp only [Option.bind_some, hm, lt9]
  by_cases h1 : R
  · by_cases h2 : isRv v d r
    · simp (disch := omega) only [l0, l1, l2, l3, l4, l5, l6, l7, l8, l10, l12, l16, l20, l24, l26, l40, l64, l80, l100, l255, l256, l288, l312, l400, l992, l1940, l24980, l25240, xI, xL, xR, zI_neg, zI_add, zI_sub, zI_mul, zI_le, zI_lt, zI_eq, zI_in, zI_nat, Option.bind_some, lt9, hq, Int.add_zero, Int.sub_self, true_or, or_true, true_and, and_true, false_or, or_false, Int.cast_ofNat_Int, ↓reduceIte, if_pos h1, if_pos h2, if_pos, if_neg]
      rfl
    · simp (disch := omega) only [l0, l1, l2, l3, l4, l5, l6, l7, l8, l10, l12, l16, l20, l24, l26, l40, l64, l80, l100, l255, l256, l288, l312, l400, l992, l1940, l24980, l25240, xI, xL, xR, zI_neg, zI_add, zI_sub, zI_mul, zI_le, zI_lt, zI_eq, zI_in, zI_nat, Option.bind_some, lt9, hq, Int.add_zero, Int.sub_self, true_or, or_true, true_and, and_true, false_or, or_false, Int.cast_ofNat_Int, ↓reduceIte, if_pos h1, if_neg h2, if_pos, if_neg]
      rfl
  · by_cases h2 : isRv v d r
    · simp (disch := omega) only [l0, l1, l2, l3, l4, l5, l6, l7, l8, l10, l12, l16, l20, l24, l26, l40, l64, l80, l100, l255, l256, l288, l312, l400, l992, l1940, l24980, l25240, xI, xL, xR, zI_neg, zI_add, zI_sub, zI_mul, zI_le, zI_lt, zI_eq, zI_in, zI_nat, Option.bind_some, lt9, hq, Int.add_zero, Int.sub_self, true_or, or_true, true_and, and_true, false_or, or_false, Int.cast_ofNat_Int, ↓reduceIte, if_neg h1, if_pos h2, if_pos, if_neg]
      rfl
    · simp (disch := omega) only [l0, l1, l2, l3, l4, l5, l6, l7, l8, l10, l12, l16, l20, l24, l26, l40, l64, l80, l100, l255, l256, l288, l312, l400, l992, l1940, l24980, l25240, xI, xL, xR, zI_neg, zI_add, zI_sub, zI_mul, zI_le, zI_lt, zI_eq, zI_in, zI_nat, Option.bind_some, lt9, hq, Int.add_zero, Int.sub_self, true_or, or_true, true_and, and_true, false_or, or_false, Int.cast_ofNat_Int, ↓reduceIte, if_neg h1, if_neg h2, if_pos, if_neg]
      rfl
abbrev ckOk (v : Int → Int) (d r p : Int) : Prop := rts v p / 2 % 2 ≠ 0 ∧ isRv v d r ∧ v (1940 + 80 * (12 * d + r)) = 0 ∧ r = v (20 + 80 * d) - 1 ∧ v (20 + 80 * d + 1) - 1 < 0 ∧ v (1940 + 80 * (12 * d + r) + 1) ≠ p
abbrev rlOk (v : Int → Int) (d r p : Int) : Prop := rts v p / 4 % 2 ≠ 0 ∧ isRv v d r ∧ v (1940 + 80 * (12 * d + r)) = 1 ∧ ¬ lrP v (1940 + 80 * (12 * d + r))
abbrev wdOk (v : Int → Int) (d r p : Int) : Prop := rts v p / 4 % 2 ≠ 0 ∧ isRv v d r ∧ v (1940 + 80 * (12 * d + r)) ≠ 3 ∧ ¬ inUse v d r
theorem lst {a b c : Int} (ha : a = 0 ∨ a = 1) (hb : 1 ≤ b ∧ b ≤ 8) (hc : 0 ≤ c ∧ c ≤ 8) : ∃ x, M_least (zI a) (zI b) (zI c) = zI x ∧ 0 ≤ x ∧ x ≤ 8 ∧ (x = 0 ↔ a = 0 ∧ c = 0) := by
  refine ⟨_, eM_least ha ⟨by omega, by omega⟩ ⟨by omega, by omega⟩, ?_, ?_, ?_⟩ <;> (repeat' split) <;> omega
theorem st_body {s : zT} {x : Int} (hx : 0 ≤ x ∧ x ≤ 3) (ho : okS s) {d r : Int} (hr : isRv s.1 d r) {n : Nat} (hn : 25241 ≤ n) (h17 : 1 ≤ s.1 17) {σ1 : hT} {pl : Int} (hM : MS σ1 (mv s.1 1) s.2.1 0 pl) (ht : σ1.1 500 0 0 = zI 0) :
    ∃ σ2, (if in9 (M_revisionAt (zI d) (zI r) + 0) 25240 then lt9 (sI σ1 15 0 (M_revisionAt (zI d) (zI r) + 0).toNatClampNeg (zI x)) fun σ21 => Option.bind (M_close n σ21) fun z => some ((1 : Int32), z.2) else none) = some (zI 1, σ2) ∧ MS σ2 (cls (uv (mv s.1 1) (1940 + 80 * (12 * d + r)) x)) (cls (uv (mv s.1 1) (1940 + 80 * (12 * d + r)) x)) 0 pl ∧ σ2.2 = σ1.2 ∧ (∀ g j, (g < 15 ∨ 19 < g ∧ g < 500 ∨ 600 ≤ g) → σ2.1 g j = σ1.1 g j) ∧ σ2.1 500 0 0 = zI 0 := by
  have h16 := ho.1.1
  obtain ⟨d0, d1, r0, r1⟩ := id hr
  have hm := (ho.1.2.2.2.1 d d0 d1).1
  have hr' : isRv (mv s.1 1) d r := ⟨d0, by rw [mv_at (by decide) (by decide)]; exact d1, r0, by rw [mv_at (by omega) (by omega)]; exact r1⟩
  obtain ⟨σ3, q1, q2, q3, q4, q5⟩ := body_close hn hM (mN_s (k := 1940 + 80 * (12 * d + r)) (x := x) hM.1 (by omega) _ rfl) (fr.rf.s (P := fun f => f = 15) rfl) (wf_st (wf_mv ho.1 (by omega) h17) hr' hx) ht
  refine ⟨σ3, ?_, q2, q3, q4, q5⟩
  simp (disch := omega) only [l0, l1, l2, l3, l4, l5, l6, l7, l8, l10, l12, l16, l20, l24, l26, l40, l64, l80, l100, l255, l256, l288, l312, l400, l992, l1940, l24980, l25240, xI, xL, xR, zI_neg, zI_add, zI_sub, zI_mul, zI_le, zI_lt, zI_eq, zI_in, zI_nat, Option.bind_some, lt9, hq, Int.add_zero, Int.sub_self, true_or, or_true, true_and, and_true, false_or, or_false, Int.cast_ofNat_Int, ↓reduceIte, eM_revisionAt, if_pos, if_neg]
  rw [q1]
  rfl
def rM_check (n : Nat) (a1 : Int32) (a2 : Int32) (a3 : Int32) (σ28 : hT) (y27 : Int32) : Option (Int32 × hT) := if y27 = 0 then some (0, σ28) else if in9 ((M_revisionAt a1 a2) + 0) 25240 then lt9 (sI σ28 15 0 (((M_revisionAt a1 a2) + 0)).toNatClampNeg 1) fun σ32 => Option.bind (M_close n σ32) fun ⟨y36, σ37⟩ => some (1, σ37) else none
theorem dM_check {n : Nat} {σ : hT} {a1 : Int32} {a2 : Int32} {a3 : Int32} : M_check n σ a1 a2 a3 = Option.bind (M_whyNotRevision σ a1 a2 a3 2) fun y2 => Option.bind (M_isRevision σ a1 a2) fun y4 => lt9 (α := Int32 → Option (Int32 × hT)) (fun (q6 : Int32) => Option.bind (M_may σ q6 1) (fun q9 => rM_check n a1 a2 a3 q9.2 q9.1)) fun x5 => if y4 = 0 then x5 y2 else Option.bind (M_stateOf σ a1 a2) fun y9 => lt9 (α := Int32 → Option (Int32 × hT)) (fun (s11 : Int32) => if in9 ((M_revisionAt a1 a2) + 1) 25240 then lt9 (α := Int32 → Option (Int32 × hT)) (fun (s24 : Int32) => x5 (M_least s24 3 (M_least s11 2 y2))) fun x23 => if (xI σ 15 0 (((M_revisionAt a1 a2) + 1)).toNatClampNeg) = a3 then x23 1 else x23 0 else none) fun x10 => if y9 = 0 then Option.bind (M_made σ a1) fun y14 => if a2 = (y14 - 1) then Option.bind (M_with σ a1) fun y17 => if y17 < 0 then x10 0 else x10 1 else x10 1 else x10 1 := rfl
def rM_release (n : Nat) (a1 : Int32) (a2 : Int32) (a3 : Int32) (σ18 : hT) (y17 : Int32) : Option (Int32 × hT) := if y17 = 0 then some (0, σ18) else if in9 ((M_revisionAt a1 a2) + 0) 25240 then lt9 (sI σ18 15 0 (((M_revisionAt a1 a2) + 0)).toNatClampNeg 2) fun σ22 => Option.bind (M_close n σ22) fun ⟨y26, σ27⟩ => some (1, σ27) else none
theorem dM_release {n : Nat} {σ : hT} {a1 : Int32} {a2 : Int32} {a3 : Int32} : M_release n σ a1 a2 a3 = Option.bind (M_whyNotRevision σ a1 a2 a3 4) fun y2 => Option.bind (M_isRevision σ a1 a2) fun y4 => lt9 (α := Int32 → Option (Int32 × hT)) (fun (q6 : Int32) => Option.bind (M_may σ q6 1) (fun q9 => rM_release n a1 a2 a3 q9.2 q9.1)) fun x5 => if y4 = 0 then x5 y2 else Option.bind (M_stateOf σ a1 a2) fun y9 => lt9 (α := Int32 → Option (Int32 × hT)) (fun (s11 : Int32) => Option.bind (M_lacksReleased n σ (M_revisionAt a1 a2)) fun y15 => x5 (M_least y15 4 (M_least s11 2 y2))) fun x10 => if y9 = 1 then x10 0 else x10 1 := rfl
def rM_withdraw (n : Nat) (a1 : Int32) (a2 : Int32) (a3 : Int32) (σ17 : hT) (y16 : Int32) : Option (Int32 × hT) := if y16 = 0 then some (0, σ17) else if in9 ((M_revisionAt a1 a2) + 0) 25240 then lt9 (sI σ17 15 0 (((M_revisionAt a1 a2) + 0)).toNatClampNeg 3) fun σ21 => Option.bind (M_close n σ21) fun ⟨y25, σ26⟩ => some (1, σ26) else none
theorem dM_withdraw {n : Nat} {σ : hT} {a1 : Int32} {a2 : Int32} {a3 : Int32} : M_withdraw n σ a1 a2 a3 = Option.bind (M_whyNotRevision σ a1 a2 a3 4) fun y2 => Option.bind (M_isRevision σ a1 a2) fun y4 => lt9 (α := Int32 → Option (Int32 × hT)) (fun (q6 : Int32) => Option.bind (M_may σ q6 1) (fun q9 => rM_withdraw n a1 a2 a3 q9.2 q9.1)) fun x5 => if y4 = 0 then x5 y2 else Option.bind (M_stateOf σ a1 a2) fun y9 => lt9 (α := Int32 → Option (Int32 × hT)) (fun (s11 : Int32) => Option.bind (M_isInUse n σ a1 a2) fun y14 => x5 (M_least y14 5 (M_least s11 2 y2))) fun x10 => if y9 = 3 then x10 1 else x10 0 := rfl
theorem kM_check {σ : hT} {v : Int → Int} (hN : mN σ v) (hw : wf v) {d r p : Int} (hd : i32 d) (hr : i32 r) (hp : i32 p) (n : Nat) :
    ∃ why, M_check n σ (zI d) (zI r) (zI p) = Option.bind (M_may σ (zI why) (zI 1)) (fun q9 => rM_check n (zI d) (zI r) (zI p) q9.2 q9.1) ∧ 0 ≤ why ∧ why ≤ 8 ∧ (ckOk v d r p ↔ why = 0) := by
  have hrr := rts_rng hw p
  have ew := eM_whyNR hN hw hd hr hp (and2 hrr)
  have ei := eM_isRevision hN hw hd.1 hd.2 hr.1 hr.2
  have h16 := hw.1
  obtain ⟨hp1, hp2⟩ := hp
  obtain ⟨hr1, hr2⟩ := hr
  rw [dM_check, ew, ei]
  generalize rM_check n (zI d) (zI r) (zI p) = F
  simp only [Option.bind_some, lt9]
  by_cases h2 : isRv v d r
  · obtain ⟨d0, d1, r0, r1⟩ := id h2
    have hD := hw.2.2.2.1 d d0 d1
    have hm := hD.1
    have hm2 := hD.2.1
    obtain ⟨g1, g2, g3, g4⟩ := hD.2.2.2 r r0 r1
    have key : ∀ s11 : Int, (s11 = 0 ∨ s11 = 1) → (s11 = 0 ↔ v (1940 + 80 * (12 * d + r)) = 0 ∧ r = v (20 + 80 * d) - 1 ∧ v (20 + 80 * d + 1) - 1 < 0) →
        ∃ why, (if in9 (M_revisionAt (zI d) (zI r) + 1) 25240 then (if xI σ 15 0 (M_revisionAt (zI d) (zI r) + 1).toNatClampNeg = zI p then Option.bind (M_may σ (M_least 1 3 (M_least (zI s11) 2 (zI (if rts v p / 2 % 2 = 0 then 1 else if isRv v d r then 0 else 7)))) 1) (fun q9 => F q9.2 q9.1) else Option.bind (M_may σ (M_least 0 3 (M_least (zI s11) 2 (zI (if rts v p / 2 % 2 = 0 then 1 else if isRv v d r then 0 else 7)))) 1) (fun q9 => F q9.2 q9.1)) else none) = Option.bind (M_may σ (zI why) (zI 1)) (fun q9 => F q9.2 q9.1) ∧ 0 ≤ why ∧ why ≤ 8 ∧ (ckOk v d r p ↔ why = 0) := by
      intro s11 hs hs2
      rw [if_pos h2]
      obtain ⟨x1, e1, e2, e3, e4⟩ := lst (a := s11) (b := 2) (c := if rts v p / 2 % 2 = 0 then 1 else 0) hs (by omega) (by split <;> omega)
      by_cases ha : v (1940 + 80 * (12 * d + r) + 1) = p
      · obtain ⟨x2, f1, f2, f3, f4⟩ := lst (a := 1) (b := 3) (c := x1) (by omega) (by omega) (by omega)
        refine ⟨x2, ?_, f2, f3, ⟨fun z => absurd ha z.2.2.2.2.2, fun z => absurd (f4.mp z).1 (by decide)⟩⟩
        simp (disch := omega) only [l0, l1, l2, l3, l4, l5, l6, l7, l8, l10, l12, l16, l20, l24, l26, l40, l64, l80, l100, l255, l256, l288, l312, l400, l992, l1940, l24980, l25240, xI, xL, xR, zI_neg, zI_add, zI_sub, zI_mul, zI_le, zI_lt, zI_eq, zI_in, zI_nat, Option.bind_some, lt9, hq, Int.add_zero, Int.sub_self, true_or, or_true, true_and, and_true, false_or, or_false, Int.cast_ofNat_Int, ↓reduceIte, eM_revisionAt, hN _, e1, f1, if_pos, if_neg]
      · obtain ⟨x2, f1, f2, f3, f4⟩ := lst (a := 0) (b := 3) (c := x1) (by omega) (by omega) (by omega)
        refine ⟨x2, ?_, f2, f3, ?_⟩
        · simp (disch := omega) only [l0, l1, l2, l3, l4, l5, l6, l7, l8, l10, l12, l16, l20, l24, l26, l40, l64, l80, l100, l255, l256, l288, l312, l400, l992, l1940, l24980, l25240, xI, xL, xR, zI_neg, zI_add, zI_sub, zI_mul, zI_le, zI_lt, zI_eq, zI_in, zI_nat, Option.bind_some, lt9, hq, Int.add_zero, Int.sub_self, true_or, or_true, true_and, and_true, false_or, or_false, Int.cast_ofNat_Int, ↓reduceIte, eM_revisionAt, hN _, e1, f1, if_pos, if_neg]
        · rw [f4, e4, hs2]
          constructor
          · rintro ⟨z1, z2, z3, z4, z5, z6⟩
            exact ⟨rfl, ⟨z3, z4, z5⟩, if_neg z1⟩
          · rintro ⟨-, ⟨z3, z4, z5⟩, z1⟩
            exact ⟨fun z => by rw [if_pos z] at z1; omega, h2, z3, z4, z5, ha⟩
    rw [if_pos h2]
    by_cases s1 : v (1940 + 80 * (12 * d + r)) = 0
    · by_cases s2 : r = v (20 + 80 * d) - 1
      · by_cases s3 : v (20 + 80 * d + 1) - 1 < 0
        · obtain ⟨why, z1, z2⟩ := key 0 (Or.inl rfl) ⟨fun _ => ⟨s1, s2, s3⟩, fun _ => rfl⟩
          refine ⟨why, Eq.trans ?_ z1, z2⟩
          rw [if_pos h2]
          simp (disch := omega) only [l0, l1, l2, l3, l4, l5, l6, l7, l8, l10, l12, l16, l20, l24, l26, l40, l64, l80, l100, l255, l256, l288, l312, l400, l992, l1940, l24980, l25240, xI, xL, xR, zI_neg, zI_add, zI_sub, zI_mul, zI_le, zI_lt, zI_eq, zI_in, zI_nat, Option.bind_some, lt9, hq, Int.add_zero, Int.sub_self, true_or, or_true, true_and, and_true, false_or, or_false, Int.cast_ofNat_Int, ↓reduceIte, eM_stateOf hN, eM_made hN, eM_with hN]
          rw [if_neg (by decide), if_pos s1, if_pos s2, if_pos s3]
        · obtain ⟨why, z1, z2⟩ := key 1 (Or.inr rfl) ⟨fun z => absurd z (by decide), fun z => absurd z.2.2 s3⟩
          refine ⟨why, Eq.trans ?_ z1, z2⟩
          rw [if_pos h2]
          simp (disch := omega) only [l0, l1, l2, l3, l4, l5, l6, l7, l8, l10, l12, l16, l20, l24, l26, l40, l64, l80, l100, l255, l256, l288, l312, l400, l992, l1940, l24980, l25240, xI, xL, xR, zI_neg, zI_add, zI_sub, zI_mul, zI_le, zI_lt, zI_eq, zI_in, zI_nat, Option.bind_some, lt9, hq, Int.add_zero, Int.sub_self, true_or, or_true, true_and, and_true, false_or, or_false, Int.cast_ofNat_Int, ↓reduceIte, eM_stateOf hN, eM_made hN, eM_with hN]
          rw [if_neg (by decide), if_pos s1, if_pos s2, if_neg s3]
      · obtain ⟨why, z1, z2⟩ := key 1 (Or.inr rfl) ⟨fun z => absurd z (by decide), fun z => absurd z.2.1 s2⟩
        refine ⟨why, Eq.trans ?_ z1, z2⟩
        rw [if_pos h2]
        simp (disch := omega) only [l0, l1, l2, l3, l4, l5, l6, l7, l8, l10, l12, l16, l20, l24, l26, l40, l64, l80, l100, l255, l256, l288, l312, l400, l992, l1940, l24980, l25240, xI, xL, xR, zI_neg, zI_add, zI_sub, zI_mul, zI_le, zI_lt, zI_eq, zI_in, zI_nat, Option.bind_some, lt9, hq, Int.add_zero, Int.sub_self, true_or, or_true, true_and, and_true, false_or, or_false, Int.cast_ofNat_Int, ↓reduceIte, eM_stateOf hN, eM_made hN, eM_with hN]
        rw [if_neg (by decide), if_pos s1, if_neg s2]
    · obtain ⟨why, z1, z2⟩ := key 1 (Or.inr rfl) ⟨fun z => absurd z (by decide), fun z => absurd z.1 s1⟩
      refine ⟨why, Eq.trans ?_ z1, z2⟩
      rw [if_pos h2]
      simp (disch := omega) only [l0, l1, l2, l3, l4, l5, l6, l7, l8, l10, l12, l16, l20, l24, l26, l40, l64, l80, l100, l255, l256, l288, l312, l400, l992, l1940, l24980, l25240, xI, xL, xR, zI_neg, zI_add, zI_sub, zI_mul, zI_le, zI_lt, zI_eq, zI_in, zI_nat, Option.bind_some, lt9, hq, Int.add_zero, Int.sub_self, true_or, or_true, true_and, and_true, false_or, or_false, Int.cast_ofNat_Int, ↓reduceIte, eM_stateOf hN, eM_made hN, eM_with hN]
      rw [if_neg (by decide), if_neg s1]
  · refine ⟨if rts v p / 2 % 2 = 0 then 1 else 7, ?_, by split <;> omega, by split <;> omega, ⟨fun z => absurd z.2.1 h2, fun z => by split at z <;> omega⟩⟩
    rw [if_neg h2, if_neg h2]
    simp (disch := omega) only [l0, l1, l2, l3, l4, l5, l6, l7, l8, l10, l12, l16, l20, l24, l26, l40, l64, l80, l100, l255, l256, l288, l312, l400, l992, l1940, l24980, l25240, xI, xL, xR, zI_neg, zI_add, zI_sub, zI_mul, zI_le, zI_lt, zI_eq, zI_in, zI_nat, Option.bind_some, lt9, hq, Int.add_zero, Int.sub_self, true_or, or_true, true_and, and_true, false_or, or_false, Int.cast_ofNat_Int, ↓reduceIte, if_pos, if_neg]
theorem eM_check {σ : hT} {s : zT} (hs : MSt σ s) (ho : okS s) {d r p : Int} (hd : i32 d) (hr : i32 r) (hp : i32 p) {n : Nat} (hn : 25241 ≤ n) :
    RefC (ckOk s.1 d r p) 1 (fun u => uv u (1940 + 80 * (12 * d + r)) 1) s σ (M_check n σ (zI d) (zI r) (zI p)) (fun _ acc => acc) := by
  obtain ⟨why, e1, e2, e3, e4⟩ := kM_check hs.1 ho.1 hd hr hp n
  rw [e1]
  refine Cm_ref hs ho e2 e3 e4 (by omega) (by omega) (rM_check n (zI d) (zI r) (zI p)) (fun _ acc => acc) (fun σ1 th h1 h2 => ⟨σ1, rfl, rfl⟩) (fun hk h17 σ1 pl hM hf ht => ?_)
  obtain ⟨σ2, q1, q2⟩ := st_body (x := 1) (by omega) ho hk.2.1 hn h17 hM ht
  refine ⟨σ2, ?_, q2⟩
  unfold rM_check
  rw [if_neg (by decide)]
  exact q1
theorem kM_release {σ : hT} {v : Int → Int} (hN : mN σ v) (hw : wf v) {d r p : Int} (hd : i32 d) (hr : i32 r) (hp : i32 p) {n : Nat} (hn : 13 ≤ n) :
    ∃ why, M_release n σ (zI d) (zI r) (zI p) = Option.bind (M_may σ (zI why) (zI 1)) (fun q9 => rM_release n (zI d) (zI r) (zI p) q9.2 q9.1) ∧ 0 ≤ why ∧ why ≤ 8 ∧ (rlOk v d r p ↔ why = 0) := by
  have hrr := rts_rng hw p
  have ew := eM_whyNR hN hw hd hr hp (and4 hrr)
  have ei := eM_isRevision hN hw hd.1 hd.2 hr.1 hr.2
  have h16 := hw.1
  rw [dM_release, ew, ei]
  generalize rM_release n (zI d) (zI r) (zI p) = F
  simp only [Option.bind_some, lt9]
  by_cases h2 : isRv v d r
  · obtain ⟨d0, d1, r0, r1⟩ := id h2
    have hD := hw.2.2.2.1 d d0 d1
    have hm := hD.1
    obtain ⟨g1, g2, g3, g4⟩ := hD.2.2.2 r r0 r1
    obtain ⟨y, y1, y2, y3⟩ := eM_lacksReleased hN hw (a := 1940 + 80 * (12 * d + r)) (by omega) (by omega) g3 g4 hn
    rw [if_pos h2, if_pos h2]
    have key : ∀ s11 : Int, (s11 = 0 ∨ s11 = 1) → (s11 = 0 ↔ v (1940 + 80 * (12 * d + r)) = 1) →
        ∃ why, Option.bind (M_may σ (M_least (zI y) 4 (M_least (zI s11) 2 (zI (if rts v p / 4 % 2 = 0 then 1 else 0)))) 1) (fun q9 => F q9.2 q9.1) = Option.bind (M_may σ (zI why) (zI 1)) (fun q9 => F q9.2 q9.1) ∧ 0 ≤ why ∧ why ≤ 8 ∧ (rlOk v d r p ↔ why = 0) := by
      intro s11 hs hs2
      obtain ⟨x1, e1, e2, e3, e4⟩ := lst (a := s11) (b := 2) (c := if rts v p / 4 % 2 = 0 then 1 else 0) hs (by omega) (by split <;> omega)
      obtain ⟨x2, f1, f2, f3, f4⟩ := lst (a := y) (b := 4) (c := x1) y2 (by omega) (by omega)
      refine ⟨x2, ?_, f2, f3, ?_⟩
      · rw [l2, l4, e1, f1]; rfl
      · rw [f4, e4, hs2]
        constructor
        · rintro ⟨z1, z2, z3, z4⟩
          exact ⟨by rcases y2 with h | h; exact h; exact absurd (y3.mp h) z4, z3, if_neg z1⟩
        · rintro ⟨z4, z3, z1⟩
          exact ⟨fun z => by rw [if_pos z] at z1; omega, h2, z3, fun z => by have := y3.mpr z; omega⟩
    rw [if_neg (by decide)]
    by_cases s1 : v (1940 + 80 * (12 * d + r)) = 1
    · obtain ⟨why, z1, z2⟩ := key 0 (Or.inl rfl) ⟨fun _ => s1, fun _ => rfl⟩
      refine ⟨why, Eq.trans ?_ z1, z2⟩
      simp (disch := omega) only [l0, l1, l2, l3, l4, l5, l6, l7, l8, l10, l12, l16, l20, l24, l26, l40, l64, l80, l100, l255, l256, l288, l312, l400, l992, l1940, l24980, l25240, xI, xL, xR, zI_neg, zI_add, zI_sub, zI_mul, zI_le, zI_lt, zI_eq, zI_in, zI_nat, Option.bind_some, lt9, hq, Int.add_zero, Int.sub_self, true_or, or_true, true_and, and_true, false_or, or_false, Int.cast_ofNat_Int, ↓reduceIte, eM_stateOf hN, eM_revisionAt, y1]
      rw [if_pos s1]
    · obtain ⟨why, z1, z2⟩ := key 1 (Or.inr rfl) ⟨fun z => absurd z (by decide), fun z => absurd z s1⟩
      refine ⟨why, Eq.trans ?_ z1, z2⟩
      simp (disch := omega) only [l0, l1, l2, l3, l4, l5, l6, l7, l8, l10, l12, l16, l20, l24, l26, l40, l64, l80, l100, l255, l256, l288, l312, l400, l992, l1940, l24980, l25240, xI, xL, xR, zI_neg, zI_add, zI_sub, zI_mul, zI_le, zI_lt, zI_eq, zI_in, zI_nat, Option.bind_some, lt9, hq, Int.add_zero, Int.sub_self, true_or, or_true, true_and, and_true, false_or, or_false, Int.cast_ofNat_Int, ↓reduceIte, eM_stateOf hN, eM_revisionAt, y1]
      rw [if_neg s1]
  · refine ⟨if rts v p / 4 % 2 = 0 then 1 else 7, ?_, by split <;> omega, by split <;> omega, ⟨fun z => absurd z.2.1 h2, fun z => by split at z <;> omega⟩⟩
    rw [if_neg h2, if_neg h2]
    simp (disch := omega) only [l0, l1, l2, l3, l4, l5, l6, l7, l8, l10, l12, l16, l20, l24, l26, l40, l64, l80, l100, l255, l256, l288, l312, l400, l992, l1940, l24980, l25240, xI, xL, xR, zI_neg, zI_add, zI_sub, zI_mul, zI_le, zI_lt, zI_eq, zI_in, zI_nat, Option.bind_some, lt9, hq, Int.add_zero, Int.sub_self, true_or, or_true, true_and, and_true, false_or, or_false, Int.cast_ofNat_Int, ↓reduceIte, if_pos, if_neg]
theorem eM_release {σ : hT} {s : zT} (hs : MSt σ s) (ho : okS s) {d r p : Int} (hd : i32 d) (hr : i32 r) (hp : i32 p) {n : Nat} (hn : 25241 ≤ n) :
    RefC (rlOk s.1 d r p) 1 (fun u => uv u (1940 + 80 * (12 * d + r)) 2) s σ (M_release n σ (zI d) (zI r) (zI p)) (fun _ acc => acc) := by
  obtain ⟨why, e1, e2, e3, e4⟩ := kM_release hs.1 ho.1 hd hr hp (n := n) (by omega)
  rw [e1]
  refine Cm_ref hs ho e2 e3 e4 (by omega) (by omega) (rM_release n (zI d) (zI r) (zI p)) (fun _ acc => acc) (fun σ1 th h1 h2 => ⟨σ1, rfl, rfl⟩) (fun hk h17 σ1 pl hM hf ht => ?_)
  obtain ⟨σ2, q1, q2⟩ := st_body (x := 2) (by omega) ho hk.2.1 hn h17 hM ht
  refine ⟨σ2, ?_, q2⟩
  unfold rM_release
  rw [if_neg (by decide)]
  exact q1
theorem kM_withdraw {σ : hT} {v : Int → Int} (hN : mN σ v) (hw : wf v) {d r p : Int} (hd : i32 d) (hr : i32 r) (hp : i32 p) {n : Nat} (hn : 25 ≤ n) :
    ∃ why, M_withdraw n σ (zI d) (zI r) (zI p) = Option.bind (M_may σ (zI why) (zI 1)) (fun q9 => rM_withdraw n (zI d) (zI r) (zI p) q9.2 q9.1) ∧ 0 ≤ why ∧ why ≤ 8 ∧ (wdOk v d r p ↔ why = 0) := by
  have hrr := rts_rng hw p
  have ew := eM_whyNR hN hw hd hr hp (and4 hrr)
  have ei := eM_isRevision hN hw hd.1 hd.2 hr.1 hr.2
  have h16 := hw.1
  rw [dM_withdraw, ew, ei]
  generalize rM_withdraw n (zI d) (zI r) (zI p) = F
  simp only [Option.bind_some, lt9]
  by_cases h2 : isRv v d r
  · obtain ⟨d0, d1, r0, r1⟩ := id h2
    have hD := hw.2.2.2.1 d d0 d1
    have hm := hD.1
    obtain ⟨g1, g2, g3, g4⟩ := hD.2.2.2 r r0 r1
    obtain ⟨y, y1, y2, y3⟩ := eM_isInUse hN hw (d := d) (r := r) d0 (by omega) r0 (by omega) hn
    rw [if_pos h2, if_pos h2]
    have key : ∀ s11 : Int, (s11 = 0 ∨ s11 = 1) → (s11 = 0 ↔ v (1940 + 80 * (12 * d + r)) ≠ 3) →
        ∃ why, Option.bind (M_may σ (M_least (zI y) 5 (M_least (zI s11) 2 (zI (if rts v p / 4 % 2 = 0 then 1 else 0)))) 1) (fun q9 => F q9.2 q9.1) = Option.bind (M_may σ (zI why) (zI 1)) (fun q9 => F q9.2 q9.1) ∧ 0 ≤ why ∧ why ≤ 8 ∧ (wdOk v d r p ↔ why = 0) := by
      intro s11 hs hs2
      obtain ⟨x1, e1, e2, e3, e4⟩ := lst (a := s11) (b := 2) (c := if rts v p / 4 % 2 = 0 then 1 else 0) hs (by omega) (by split <;> omega)
      obtain ⟨x2, f1, f2, f3, f4⟩ := lst (a := y) (b := 5) (c := x1) y2 (by omega) (by omega)
      refine ⟨x2, ?_, f2, f3, ?_⟩
      · rw [l2, l5, e1, f1]; rfl
      · rw [f4, e4, hs2]
        constructor
        · rintro ⟨z1, z2, z3, z4⟩
          exact ⟨by rcases y2 with h | h; exact h; exact absurd (y3.mp h) z4, z3, if_neg z1⟩
        · rintro ⟨z4, z3, z1⟩
          exact ⟨fun z => by rw [if_pos z] at z1; omega, h2, z3, fun z => by have := y3.mpr z; omega⟩
    rw [if_neg (by decide)]
    by_cases s1 : v (1940 + 80 * (12 * d + r)) = 3
    · obtain ⟨why, z1, z2⟩ := key 1 (Or.inr rfl) ⟨fun z => absurd z (by decide), fun z => absurd s1 z⟩
      refine ⟨why, Eq.trans ?_ z1, z2⟩
      simp (disch := omega) only [l0, l1, l2, l3, l4, l5, l6, l7, l8, l10, l12, l16, l20, l24, l26, l40, l64, l80, l100, l255, l256, l288, l312, l400, l992, l1940, l24980, l25240, xI, xL, xR, zI_neg, zI_add, zI_sub, zI_mul, zI_le, zI_lt, zI_eq, zI_in, zI_nat, Option.bind_some, lt9, hq, Int.add_zero, Int.sub_self, true_or, or_true, true_and, and_true, false_or, or_false, Int.cast_ofNat_Int, ↓reduceIte, eM_stateOf hN, eM_revisionAt, y1]
      rw [if_pos s1]
    · obtain ⟨why, z1, z2⟩ := key 0 (Or.inl rfl) ⟨fun _ => s1, fun _ => rfl⟩
      refine ⟨why, Eq.trans ?_ z1, z2⟩
      simp (disch := omega) only [l0, l1, l2, l3, l4, l5, l6, l7, l8, l10, l12, l16, l20, l24, l26, l40, l64, l80, l100, l255, l256, l288, l312, l400, l992, l1940, l24980, l25240, xI, xL, xR, zI_neg, zI_add, zI_sub, zI_mul, zI_le, zI_lt, zI_eq, zI_in, zI_nat, Option.bind_some, lt9, hq, Int.add_zero, Int.sub_self, true_or, or_true, true_and, and_true, false_or, or_false, Int.cast_ofNat_Int, ↓reduceIte, eM_stateOf hN, eM_revisionAt, y1]
      rw [if_neg s1]
  · refine ⟨if rts v p / 4 % 2 = 0 then 1 else 7, ?_, by split <;> omega, by split <;> omega, ⟨fun z => absurd z.2.1 h2, fun z => by split at z <;> omega⟩⟩
    rw [if_neg h2, if_neg h2]
    simp (disch := omega) only [l0, l1, l2, l3, l4, l5, l6, l7, l8, l10, l12, l16, l20, l24, l26, l40, l64, l80, l100, l255, l256, l288, l312, l400, l992, l1940, l24980, l25240, xI, xL, xR, zI_neg, zI_add, zI_sub, zI_mul, zI_le, zI_lt, zI_eq, zI_in, zI_nat, Option.bind_some, lt9, hq, Int.add_zero, Int.sub_self, true_or, or_true, true_and, and_true, false_or, or_false, Int.cast_ofNat_Int, ↓reduceIte, if_pos, if_neg]
theorem eM_withdraw {σ : hT} {s : zT} (hs : MSt σ s) (ho : okS s) {d r p : Int} (hd : i32 d) (hr : i32 r) (hp : i32 p) {n : Nat} (hn : 25241 ≤ n) :
    RefC (wdOk s.1 d r p) 1 (fun u => uv u (1940 + 80 * (12 * d + r)) 3) s σ (M_withdraw n σ (zI d) (zI r) (zI p)) (fun _ acc => acc) := by
  obtain ⟨why, e1, e2, e3, e4⟩ := kM_withdraw hs.1 ho.1 hd hr hp (n := n) (by omega)
  rw [e1]
  refine Cm_ref hs ho e2 e3 e4 (by omega) (by omega) (rM_withdraw n (zI d) (zI r) (zI p)) (fun _ acc => acc) (fun σ1 th h1 h2 => ⟨σ1, rfl, rfl⟩) (fun hk h17 σ1 pl hM hf ht => ?_)
  obtain ⟨σ2, q1, q2⟩ := st_body (x := 3) (by omega) ho hk.2.1 hn h17 hM ht
  refine ⟨σ2, ?_, q2⟩
  unfold rM_withdraw
  rw [if_neg (by decide)]
  exact q1
