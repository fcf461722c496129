theorem and1 {x : Int} (h : 0 ≤ x ∧ x ≤ 7) : (zI x &&& 1 = 0) = (x % 2 = 0) := by
  have : x = 0 ∨ x = 1 ∨ x = 2 ∨ x = 3 ∨ x = 4 ∨ x = 5 ∨ x = 6 ∨ x = 7 := by omega
  rcases this with rfl | rfl | rfl | rfl | rfl | rfl | rfl | rfl <;> decide
theorem and2 {x : Int} (h : 0 ≤ x ∧ x ≤ 7) : (zI x &&& 2 = 0) = (x / 2 % 2 = 0) := by
  have : x = 0 ∨ x = 1 ∨ x = 2 ∨ x = 3 ∨ x = 4 ∨ x = 5 ∨ x = 6 ∨ x = 7 := by omega
  rcases this with rfl | rfl | rfl | rfl | rfl | rfl | rfl | rfl <;> decide
theorem and4 {x : Int} (h : 0 ≤ x ∧ x ≤ 7) : (zI x &&& 4 = 0) = (x / 4 % 2 = 0) := by
  have : x = 0 ∨ x = 1 ∨ x = 2 ∨ x = 3 ∨ x = 4 ∨ x = 5 ∨ x = 6 ∨ x = 7 := by omega
  rcases this with rfl | rfl | rfl | rfl | rfl | rfl | rfl | rfl <;> decide
abbrev drwOk (v : Int → Int) (p : Int) : Prop := rts v p % 2 ≠ 0 ∧ v 16 ≠ 24 ∧ allR v (v 16).toNat ≠ 100
def whyD (v : Int → Int) (p : Int) : Int := if rts v p % 2 = 0 then 1 else if v 16 = 24 then 8 else if allR v (v 16).toNat = 100 then 8 else 0
theorem whyD_ok {v : Int → Int} {p : Int} : drwOk v p ↔ whyD v p = 0 := by
  unfold whyD
  repeat' split
  all_goals omega
theorem whyD_rng {v : Int → Int} {p : Int} : 0 ≤ whyD v p ∧ whyD v p ≤ 8 := by
  unfold whyD
  repeat' split
  all_goals omega
def rM_drawing (n : Nat) (a1 : Int32) (σ16 : hT) (y15 : Int32) : Option (Int32 × hT) := if y15 = 0 then if (xI σ16 500 0 0) ≤ 0 then some ((-1), σ16) else some (0, σ16) else lt9 (sI σ16 15 0 16 ((xI σ16 15 0 16) + 1)) fun σ22 => Option.bind (M_blank n σ22 (M_drawingAt (xI σ16 15 0 16))) fun ⟨y26, σ27⟩ => Option.bind (M_blank n σ27 (M_revisionAt (xI σ16 15 0 16) 0)) fun ⟨y30, σ31⟩ => if in9 ((M_drawingAt (xI σ16 15 0 16)) + 0) 25240 then lt9 (sI σ31 15 0 (((M_drawingAt (xI σ16 15 0 16)) + 0)).toNatClampNeg 1) fun σ34 => if in9 ((M_revisionAt (xI σ16 15 0 16) 0) + 1) 25240 then lt9 (sI σ34 15 0 (((M_revisionAt (xI σ16 15 0 16) 0) + 1)).toNatClampNeg a1) fun σ39 => Option.bind (M_close n σ39) fun ⟨y43, σ44⟩ => some ((xI σ16 15 0 16), σ44) else none else none
theorem dM_drawing {n : Nat} {σ : hT} {a1 : Int32} : M_drawing n σ a1 = Option.bind (M_rights σ a1) fun y2 => lt9 (α := Int32 → Option (Int32 × hT)) (fun (s4 : Int32) => lt9 (α := Int32 → Option (Int32 × hT)) (fun (s9 : Int32) => Option.bind (M_may σ (M_least s4 1 (M_least s9 8 0)) 2) (fun q9 => rM_drawing n a1 q9.2 q9.1)) fun x8 => if (xI σ 15 0 16) = 24 then x8 1 else Option.bind (M_allRevisions n σ) fun y12 => if y12 = 100 then x8 1 else x8 0) fun x3 => if (y2 &&& 1) = 0 then x3 1 else x3 0 := rfl
theorem kM_drawing {σ : hT} {v : Int → Int} (hN : mN σ v) (hw : wf v) {p : Int} (hp : i32 p) {n : Nat} (hn : 25 ≤ n) :
    M_drawing n σ (zI p) = Option.bind (M_may σ (zI (whyD v p)) (zI 2)) (fun q9 => rM_drawing n (zI p) q9.2 q9.1) := by
  obtain ⟨hp1, hp2⟩ := hp
  have h16 := hw.1
  have h5 := hw.2.2.2.2.1
  have hr := rts_rng hw p
  have er : M_rights σ (zI p) = some (zI (rts v p)) := eM_rights hN hp1 hp2
  have e1 := and1 hr
  rw [l1] at e1
  rw [dM_drawing]
  generalize rM_drawing n (zI p) = F
  unfold whyD
  rw [er]
  simp (disch := omega) only [l0, l1, l2, l3, l4, l5, l6, l7, l8, l10, l12, l16, l20, l24, l26, l40, l64, l80, l100, l255, l256, l288, l312, l400, l992, l1940, l24980, l25240, xI, xL, xR, zI_neg, zI_add, zI_sub, zI_mul, zI_le, zI_lt, zI_eq, zI_in, zI_nat, Option.bind_some, lt9, hq, Int.add_zero, Int.sub_self, true_or, or_true, true_and, and_true, false_or, or_false, Int.cast_ofNat_Int, ↓reduceIte, hN.lit, eM_allRevisions hN hw hn]
  rw [l0] at e1
  simp (disch := omega) only [l0, l1, l2, l3, l4, l5, l6, l7, l8, l10, l12, l16, l20, l24, l26, l40, l64, l80, l100, l255, l256, l288, l312, l400, l992, l1940, l24980, l25240, xI, xL, xR, zI_neg, zI_add, zI_sub, zI_mul, zI_le, zI_lt, zI_eq, zI_in, zI_nat, Option.bind_some, lt9, hq, Int.add_zero, Int.sub_self, true_or, or_true, true_and, and_true, false_or, or_false, Int.cast_ofNat_Int, ↓reduceIte, e1]
  by_cases h1 : rts v p % 2 = 0
  · simp (disch := omega) only [l0, l1, l2, l3, l4, l5, l6, l7, l8, l10, l12, l16, l20, l24, l26, l40, l64, l80, l100, l255, l256, l288, l312, l400, l992, l1940, l24980, l25240, xI, xL, xR, zI_neg, zI_add, zI_sub, zI_mul, zI_le, zI_lt, zI_eq, zI_in, zI_nat, Option.bind_some, lt9, hq, Int.add_zero, Int.sub_self, true_or, or_true, true_and, and_true, false_or, or_false, Int.cast_ofNat_Int, ↓reduceIte, h1]
    by_cases h2 : v 16 = 24
    · simp (disch := omega) only [l0, l1, l2, l3, l4, l5, l6, l7, l8, l10, l12, l16, l20, l24, l26, l40, l64, l80, l100, l255, l256, l288, l312, l400, l992, l1940, l24980, l25240, xI, xL, xR, zI_neg, zI_add, zI_sub, zI_mul, zI_le, zI_lt, zI_eq, zI_in, zI_nat, Option.bind_some, lt9, hq, Int.add_zero, Int.sub_self, true_or, or_true, true_and, and_true, false_or, or_false, Int.cast_ofNat_Int, ↓reduceIte, h2]
      rfl
    · simp (disch := omega) only [l0, l1, l2, l3, l4, l5, l6, l7, l8, l10, l12, l16, l20, l24, l26, l40, l64, l80, l100, l255, l256, l288, l312, l400, l992, l1940, l24980, l25240, xI, xL, xR, zI_neg, zI_add, zI_sub, zI_mul, zI_le, zI_lt, zI_eq, zI_in, zI_nat, Option.bind_some, lt9, hq, Int.add_zero, Int.sub_self, true_or, or_true, true_and, and_true, false_or, or_false, Int.cast_ofNat_Int, ↓reduceIte, h2]
      by_cases h3 : allR v (v 16).toNat = 100
      · simp (disch := omega) only [l0, l1, l2, l3, l4, l5, l6, l7, l8, l10, l12, l16, l20, l24, l26, l40, l64, l80, l100, l255, l256, l288, l312, l400, l992, l1940, l24980, l25240, xI, xL, xR, zI_neg, zI_add, zI_sub, zI_mul, zI_le, zI_lt, zI_eq, zI_in, zI_nat, Option.bind_some, lt9, hq, Int.add_zero, Int.sub_self, true_or, or_true, true_and, and_true, false_or, or_false, Int.cast_ofNat_Int, ↓reduceIte, h3]
        rfl
      · simp (disch := omega) only [l0, l1, l2, l3, l4, l5, l6, l7, l8, l10, l12, l16, l20, l24, l26, l40, l64, l80, l100, l255, l256, l288, l312, l400, l992, l1940, l24980, l25240, xI, xL, xR, zI_neg, zI_add, zI_sub, zI_mul, zI_le, zI_lt, zI_eq, zI_in, zI_nat, Option.bind_some, lt9, hq, Int.add_zero, Int.sub_self, true_or, or_true, true_and, and_true, false_or, or_false, Int.cast_ofNat_Int, ↓reduceIte, h3]
        rfl
  · simp (disch := omega) only [l0, l1, l2, l3, l4, l5, l6, l7, l8, l10, l12, l16, l20, l24, l26, l40, l64, l80, l100, l255, l256, l288, l312, l400, l992, l1940, l24980, l25240, xI, xL, xR, zI_neg, zI_add, zI_sub, zI_mul, zI_le, zI_lt, zI_eq, zI_in, zI_nat, Option.bind_some, lt9, hq, Int.add_zero, Int.sub_self, true_or, or_true, true_and, and_true, false_or, or_false, Int.cast_ofNat_Int, ↓reduceIte, h1]
    by_cases h2 : v 16 = 24
    · simp (disch := omega) only [l0, l1, l2, l3, l4, l5, l6, l7, l8, l10, l12, l16, l20, l24, l26, l40, l64, l80, l100, l255, l256, l288, l312, l400, l992, l1940, l24980, l25240, xI, xL, xR, zI_neg, zI_add, zI_sub, zI_mul, zI_le, zI_lt, zI_eq, zI_in, zI_nat, Option.bind_some, lt9, hq, Int.add_zero, Int.sub_self, true_or, or_true, true_and, and_true, false_or, or_false, Int.cast_ofNat_Int, ↓reduceIte, h2]
      rfl
    · simp (disch := omega) only [l0, l1, l2, l3, l4, l5, l6, l7, l8, l10, l12, l16, l20, l24, l26, l40, l64, l80, l100, l255, l256, l288, l312, l400, l992, l1940, l24980, l25240, xI, xL, xR, zI_neg, zI_add, zI_sub, zI_mul, zI_le, zI_lt, zI_eq, zI_in, zI_nat, Option.bind_some, lt9, hq, Int.add_zero, Int.sub_self, true_or, or_true, true_and, and_true, false_or, or_false, Int.cast_ofNat_Int, ↓reduceIte, h2]
      by_cases h3 : allR v (v 16).toNat = 100
      · simp (disch := omega) only [l0, l1, l2, l3, l4, l5, l6, l7, l8, l10, l12, l16, l20, l24, l26, l40, l64, l80, l100, l255, l256, l288, l312, l400, l992, l1940, l24980, l25240, xI, xL, xR, zI_neg, zI_add, zI_sub, zI_mul, zI_le, zI_lt, zI_eq, zI_in, zI_nat, Option.bind_some, lt9, hq, Int.add_zero, Int.sub_self, true_or, or_true, true_and, and_true, false_or, or_false, Int.cast_ofNat_Int, ↓reduceIte, h3]
        rfl
      · simp (disch := omega) only [l0, l1, l2, l3, l4, l5, l6, l7, l8, l10, l12, l16, l20, l24, l26, l40, l64, l80, l100, l255, l256, l288, l312, l400, l992, l1940, l24980, l25240, xI, xL, xR, zI_neg, zI_add, zI_sub, zI_mul, zI_le, zI_lt, zI_eq, zI_in, zI_nat, Option.bind_some, lt9, hq, Int.add_zero, Int.sub_self, true_or, or_true, true_and, and_true, false_or, or_false, Int.cast_ofNat_Int, ↓reduceIte, h3]
        rfl
def fDrw (p : Int) (u : Int → Int) : Int → Int := uv (uv (bl (bl (uv u 16 (u 16 + 1)) (20 + 80 * u 16) 80) (1940 + 80 * (12 * u 16 + 0)) 80) (20 + 80 * u 16) 1) (1940 + 80 * (12 * u 16 + 0) + 1) p
theorem fDrw_16 {v : Int → Int} {p : Int} (h : 0 ≤ v 16) : fDrw p v 16 = v 16 + 1 := by
  dsimp only [fDrw, uv, bl]
  repeat' split
  all_goals first | rfl | (exfalso; omega)
theorem fDrw_o {v : Int → Int} {p k : Int} (h : 0 ≤ v 16) (h16 : k ≠ 16) (h1 : k < 20 + 80 * v 16 ∨ 20 + 80 * v 16 + 80 ≤ k) (h2 : k < 1940 + 960 * v 16 ∨ 1940 + 960 * v 16 + 80 ≤ k) : fDrw p v k = v k := by
  dsimp only [fDrw, uv, bl]
  repeat' split
  all_goals first | rfl | (exfalso; omega)
theorem fDrw_d {v : Int → Int} {p k : Int} (h : 0 ≤ v 16) (h1 : v 16 < 24) (h0 : 0 ≤ k) (hk : k < 80) : fDrw p v (20 + 80 * v 16 + k) = if k = 0 then 1 else 0 := by
  dsimp only [fDrw, uv, bl]
  repeat' split
  all_goals first | rfl | (exfalso; omega)
theorem fDrw_r {v : Int → Int} {p k : Int} (h : 0 ≤ v 16) (h1 : v 16 < 24) (h0 : 0 ≤ k) (hk : k < 80) : fDrw p v (1940 + 80 * (12 * v 16 + 0) + k) = if k = 1 then p else 0 := by
  dsimp only [fDrw, uv, bl]
  repeat' split
  all_goals first | rfl | (exfalso; omega)
theorem cw_0 {v : Int → Int} {a : Int} (h2 : v (a + 2) = 0) (h3 : v (a + 3) = 0) : cw v a := by
  refine ⟨by omega, by omega, fun k k0 k1 => by omega, fun i i0 i1 => by omega⟩
theorem wf_drw {v : Int → Int} {p : Int} (h : wf v) (hp : 0 ≤ p ∧ p < 16) (h16 : v 16 < 24) (hR : allR v (v 16).toNat < 100) : wf (fDrw p v) := by
  obtain ⟨g1, g2, g3, g4, g5, g6⟩ := h
  have e16 := fDrw_16 (v := v) (p := p) g1.1
  have eD : ∀ e k : Int, 0 ≤ e → e < v 16 → 0 ≤ k → k < 80 → fDrw p v (20 + 80 * e + k) = v (20 + 80 * e + k) := fun e k a b c d => fDrw_o g1.1 (by omega) (by omega) (by omega)
  have eR : ∀ e r k : Int, 0 ≤ e → e < v 16 → 0 ≤ r → r < 12 → 0 ≤ k → k < 80 → fDrw p v (1940 + 80 * (12 * e + r) + k) = v (1940 + 80 * (12 * e + r) + k) := fun e r k a b c d f1 f2 => fDrw_o g1.1 (by omega) (by omega) (by omega)
  have em : ∀ d, 0 ≤ d → d < v 16 → v (20 + 80 * d) ≤ fDrw p v (20 + 80 * d) := fun d a b => by have := eD d 0 a b (by omega) (by omega); rw [Int.add_zero] at this; omega
  refine ⟨by rw [e16]; omega, fun q q0 q1 => by rw [fDrw_o g1.1 (by omega) (by omega) (by omega)]; exact g2 q q0 q1, by rw [fDrw_o g1.1 (by omega) (by omega) (by omega)]; exact g3, fun e e0 e1 => ?_, ?_, fun b b0 b1 => wfB_c b0 (fun k k0 k1 => fDrw_o g1.1 (by omega) (by omega) (by omega)) (g6 b b0 b1)⟩
  · rw [e16] at e1
    by_cases he : e < v 16
    · exact wfD_c e0 (by omega) em (fun k k0 k1 => eD e k e0 he k0 k1) (fun r k r0 r1 k0 k1 => eR e r k e0 he r0 r1 k0 k1) (g4 e e0 he)
    · obtain rfl : e = v 16 := by omega
      have q0 := fDrw_d (v := v) (p := p) (k := 0) g1.1 h16 (by omega) (by omega)
      rw [Int.add_zero, if_pos rfl] at q0
      have q1 := fDrw_d (v := v) (p := p) (k := 1) g1.1 h16 (by omega) (by omega)
      rw [if_neg (by decide)] at q1
      refine ⟨by rw [q0]; omega, by rw [q1]; omega, fun z => by rw [q1] at z; omega, fun r r0 r1 => ?_⟩
      rw [q0] at r1
      obtain rfl : r = 0 := by omega
      have s0 := fDrw_r (v := v) (p := p) (k := 0) g1.1 h16 (by omega) (by omega)
      rw [Int.add_zero, if_neg (by decide)] at s0
      have s1 := fDrw_r (v := v) (p := p) (k := 1) g1.1 h16 (by omega) (by omega)
      rw [if_pos rfl] at s1
      have s2 := fDrw_r (v := v) (p := p) (k := 2) g1.1 h16 (by omega) (by omega)
      rw [if_neg (by decide)] at s2
      have s3 := fDrw_r (v := v) (p := p) (k := 3) g1.1 h16 (by omega) (by omega)
      rw [if_neg (by decide)] at s3
      refine ⟨by rw [s0]; omega, by rw [s1]; exact hp, cw_0 s2 s3, fun k k0 k1 => by rw [s3] at k1; omega⟩
  · rw [e16]
    have : (v 16 + 1).toNat = (v 16).toNat + 1 := by omega
    rw [this]
    unfold allR
    have q0 := fDrw_d (v := v) (p := p) (k := 0) g1.1 h16 (by omega) (by omega)
    rw [Int.add_zero, if_pos rfl] at q0
    rw [show (((v 16).toNat : Nat) : Int) = v 16 by omega, q0, allR_c (v := v) (v' := fDrw p v) _ (fun d d0 d1 => by have := eD d 0 d0 (by omega) (by omega) (by omega); rw [Int.add_zero] at this; exact this)]
    omega
theorem eM_drawing {σ : hT} {s : zT} (hs : MSt σ s) (ho : okS s) {p : Int} (hp : i32 p) {n : Nat} (hn : 25241 ≤ n) :
    RefC (drwOk s.1 p) 2 (fDrw p) s σ (M_drawing n σ (zI p)) (fun th acc => if acc = 1 then s.1 16 else if th = 1 then 0 else -1) := by
  have h16 := ho.1.1
  unfold RefC
  rw [kM_drawing hs.1 ho.1 hp (by omega)]
  refine Cm_ref (ok := drwOk s.1 p) (c := 2) (f := fDrw p) hs ho (why := whyD s.1 p) whyD_rng.1 whyD_rng.2 whyD_ok (by omega) (by omega)
    (rM_drawing n (zI p)) (fun th acc => if acc = 1 then s.1 16 else if th = 1 then 0 else -1)
    (fun σ1 th h1 h2 => ⟨σ1, ?_, rfl⟩)
    (fun hk h17 σ1 pl hM hf ht => ?_)
  · unfold rM_drawing
    rcases h2 with rfl | rfl
    · simp (disch := omega) only [l0, l1, l2, l3, l4, l5, l6, l7, l8, l10, l12, l16, l20, l24, l26, l40, l64, l80, l100, l255, l256, l288, l312, l400, l992, l1940, l24980, l25240, xI, xL, xR, zI_neg, zI_add, zI_sub, zI_mul, zI_le, zI_lt, zI_eq, zI_in, zI_nat, Option.bind_some, lt9, hq, Int.add_zero, Int.sub_self, true_or, or_true, true_and, and_true, false_or, or_false, Int.cast_ofNat_Int, ↓reduceIte, h1, if_pos, if_neg]
    · simp (disch := omega) only [l0, l1, l2, l3, l4, l5, l6, l7, l8, l10, l12, l16, l20, l24, l26, l40, l64, l80, l100, l255, l256, l288, l312, l400, l992, l1940, l24980, l25240, xI, xL, xR, zI_neg, zI_add, zI_sub, zI_mul, zI_le, zI_lt, zI_eq, zI_in, zI_nat, Option.bind_some, lt9, hq, Int.add_zero, Int.sub_self, true_or, or_true, true_and, and_true, false_or, or_false, Int.cast_ofNat_Int, ↓reduceIte, h1, if_pos, if_neg]
  · obtain ⟨k1, k2, k3⟩ := hk
    have h5 := ho.1.2.2.2.2.1
    have e16 : mv s.1 2 16 = s.1 16 := mv_at (by decide) (by decide)
    have hp16 : 0 ≤ p ∧ p < 16 := by
      apply Classical.byContradiction
      intro z; apply k1; unfold rts; rw [if_neg z]; rfl
    have hN0 := hM.1.lit 16 (by decide)
    simp only [Int.cast_ofNat_Int, e16] at hN0
    have hN1 : mN (sI σ1 15 0 16 (zI (s.1 16 + 1))) (uv (mv s.1 2) 16 (s.1 16 + 1)) := mN_s hM.1 (by omega) _ rfl
    obtain ⟨σ2, c1, c2, c3⟩ := eM_blank hN1 (a := 20 + 80 * s.1 16) (by omega) (by omega) (n := n) (by omega)
    obtain ⟨σ3, d1, d2, d3⟩ := eM_blank c2 (a := 1940 + 80 * (12 * s.1 16 + 0)) (by omega) (by omega) (n := n) (by omega)
    have hN4 := mN_s (x := p) (mN_s (x := 1) d2 (k := 20 + 80 * s.1 16) (by omega) _ rfl) (k := 1940 + 80 * (12 * s.1 16 + 0) + 1) (by omega) _ rfl
    have hwf := wf_drw (wf_mv ho.1 (c := 2) (by omega) h17) hp16 (by omega) (by rw [e16, allR_c _ (fun d a b => mv_at (by omega) (by omega))]; omega)
    have ef : fDrw p (mv s.1 2) = uv (uv (bl (bl (uv (mv s.1 2) 16 (s.1 16 + 1)) (20 + 80 * s.1 16) 80) (1940 + 80 * (12 * s.1 16 + 0)) 80) (20 + 80 * s.1 16) 1) (1940 + 80 * (12 * s.1 16 + 0) + 1) p := by unfold fDrw; rw [e16]
    rw [← ef] at hN4
    obtain ⟨σ4, q1, q2, q3, q4, q5⟩ := body_close hn hM hN4 (((((fr.rf.s (P := fun f => f = 15) rfl).tr c3).tr d3).s rfl).s rfl) hwf ht
    refine ⟨σ4, ?_, q2, q3, q4, q5⟩
    simp only [Int.add_zero] at q1 d1
    unfold rM_drawing
    simp (disch := omega) only [l0, l1, l2, l3, l4, l5, l6, l7, l8, l10, l12, l16, l20, l24, l26, l40, l64, l80, l100, l255, l256, l288, l312, l400, l992, l1940, l24980, l25240, xI, xL, xR, zI_neg, zI_add, zI_sub, zI_mul, zI_le, zI_lt, zI_eq, zI_in, zI_nat, Option.bind_some, lt9, hq, Int.add_zero, Int.sub_self, true_or, or_true, true_and, and_true, false_or, or_false, Int.cast_ofNat_Int, ↓reduceIte, hN0, eM_drawingAt, eM_revisionAt, c1, d1, if_pos, if_neg]
    rw [q1]
    rfl
