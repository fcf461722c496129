def cntP (v : Int → Int) : Nat → Int
  | 0 => 0
  | n + 1 => cntP v n + if v n ≤ 0 then 0 else 1
def cntO (v : Int → Int) : Nat → Int
  | 0 => 0
  | n + 1 => cntO v n + if v (20 + 80 * n + 1) - 1 < 0 then 0 else 1
def cntB (v : Int → Int) : Nat → Int
  | 0 => 0
  | n + 1 => cntB v n + if v (24980 + 26 * n) ≤ 0 then 0 else 1 + (v (24980 + 26 * n + 1) + 7) / 8
theorem cntP_rng (v : Int → Int) (n : Nat) : 0 ≤ cntP v n ∧ cntP v n ≤ n := by
  induction n with
  | zero => exact ⟨Int.le_refl _, Int.le_refl _⟩
  | succ n ih => unfold cntP; split <;> omega
theorem cntO_rng (v : Int → Int) (n : Nat) : 0 ≤ cntO v n ∧ cntO v n ≤ n := by
  induction n with
  | zero => exact ⟨Int.le_refl _, Int.le_refl _⟩
  | succ n ih => unfold cntO; split <;> omega
theorem cntB_rng {v : Int → Int} (hw : wf v) (n : Nat) (hn : n ≤ 10) : 0 ≤ cntB v n ∧ cntB v n ≤ 4 * n := by
  induction n with
  | zero => exact ⟨Int.le_refl _, Int.le_refl _⟩
  | succ n ih =>
    have := ih (by omega)
    have hb := (hw.2.2.2.2.2 n (by omega) (by omega)).2.1
    unfold cntB; split <;> omega
theorem pcs_len (v : Int → Int) (a : Int) (n : Nat) : (pcs v a n).length = n := by
  induction n with
  | zero => rfl
  | succ n ih => unfold pcs; rw [List.length_cons, ih]
theorem chF_len {v : Int → Int} (hw : wf v) {f : Int} (hf : 0 ≤ f) (n : Nat) (hn : f + n ≤ 312) : (chF v f n).length ≤ 8 * n := by
  induction n with
  | zero => exact Nat.le_refl _
  | succ n ih =>
    have := ih (by omega)
    unfold chF
    rw [List.length_append]
    have h2 : (pcOf v (f + n)).length ≤ 8 := by
      unfold pcOf; split
      · rename_i hp
        have := (cAt_ok hw (by omega) (by omega) hp).2.1.1
        rw [pcs_len]; omega
      · exact Nat.zero_le _
    omega
def need (v : Int → Int) : Int := allR v (v 16).toNat + 2 * v 16 + dcR (chF v 24 288) + cntP v 16 + cntO v (v 16).toNat + cntB v 10
theorem need_rng {v : Int → Int} (hw : wf v) : 0 ≤ need v ∧ need v ≤ 3000 := by
  have h16 := hw.1
  have h1 := cntP_rng v 16
  have h2 := cntO_rng v (v 16).toNat
  have h3 := cntB_rng hw 10 (by omega)
  have h4 := dcR_rng (chF v 24 288)
  have h5 := chF_len hw (f := 24) (by omega) 288 (by omega)
  have h6 := hw.2.2.2.2.1
  unfold need
  omega
theorem eM_needed_L24 {σ : hT} {v : Int → Int} (hN : mN σ v) (hw : wf v) (s : Int) (n : Nat) (kx : Int32 → Int32 → Option Int32) (K i : Nat) (hi : i ≤ 16) (hK : 16 - i < K) : M_needed_L24 n σ kx K (zI i) (zI (s + cntP v i)) = kx (zI 16) (zI (s + cntP v 16)) := by
  induction K generalizing i with
  | zero => omega
  | succ K ih =>
    by_cases hc : 16 ≤ i
    · obtain rfl : i = 16 := by omega
      unfold M_needed_L24
      simp (disch := omega) only [l0, l1, l2, l3, l4, l5, l6, l7, l8, l10, l12, l16, l20, l24, l26, l40, l64, l80, l100, l255, l256, l288, l312, l400, l992, l1940, l24980, l25240, xI, xL, xR, zI_neg, zI_add, zI_sub, zI_mul, zI_le, zI_lt, zI_eq, zI_in, zI_nat, Option.bind_some, lt9, hq, Int.add_zero, Int.sub_self, true_or, or_true, true_and, and_true, false_or, or_false, Int.cast_ofNat_Int, ↓reduceIte, if_pos, if_neg]
    · have q := ih (i + 1) (by omega) (by omega)
      have hp := hw.2.1 i (by omega) (by omega)
      rw [← q]
      conv => lhs; unfold M_needed_L24
      simp (disch := omega) only [l0, l1, l2, l3, l4, l5, l6, l7, l8, l10, l12, l16, l20, l24, l26, l40, l64, l80, l100, l255, l256, l288, l312, l400, l992, l1940, l24980, l25240, xI, xL, xR, zI_neg, zI_add, zI_sub, zI_mul, zI_le, zI_lt, zI_eq, zI_in, zI_nat, Option.bind_some, lt9, hq, Int.add_zero, Int.sub_self, true_or, or_true, true_and, and_true, false_or, or_false, Int.cast_ofNat_Int, ↓reduceIte, hN _, if_pos, if_neg]
      simp only [cntP, Int.natCast_add, Int.cast_ofNat_Int]
      split
      · rw [Int.add_zero]
      · rw [Int.add_assoc]
theorem eM_needed_L55 {σ : hT} {v : Int → Int} (hN : mN σ v) (hw : wf v) (s : Int) (n : Nat) (kx : Int32 → Int32 → Option Int32) (K i : Nat) (hi : (i : Int) ≤ v 16) (hK : v 16 - i < K) : M_needed_L55 n σ kx K (zI i) (zI (s + cntO v i)) = kx (zI (v 16)) (zI (s + cntO v (v 16).toNat)) := by
  have h16 := hw.1
  induction K generalizing i with
  | zero => omega
  | succ K ih =>
    by_cases hc : v 16 ≤ i
    · have e : v 16 = i := by omega
      unfold M_needed_L55
      simp (disch := omega) only [l0, l1, l2, l3, l4, l5, l6, l7, l8, l10, l12, l16, l20, l24, l26, l40, l64, l80, l100, l255, l256, l288, l312, l400, l992, l1940, l24980, l25240, xI, xL, xR, zI_neg, zI_add, zI_sub, zI_mul, zI_le, zI_lt, zI_eq, zI_in, zI_nat, Option.bind_some, lt9, hq, Int.add_zero, Int.sub_self, true_or, or_true, true_and, and_true, false_or, or_false, Int.cast_ofNat_Int, ↓reduceIte, hN.lit, if_pos, if_neg]
      rw [e, Int.toNat_natCast]
    · have q := ih (i + 1) (by omega) (by omega)
      have hp := (hw.2.2.2.1 i (by omega) (by omega)).2.1
      rw [← q]
      conv => lhs; unfold M_needed_L55
      simp (disch := omega) only [l0, l1, l2, l3, l4, l5, l6, l7, l8, l10, l12, l16, l20, l24, l26, l40, l64, l80, l100, l255, l256, l288, l312, l400, l992, l1940, l24980, l25240, xI, xL, xR, zI_neg, zI_add, zI_sub, zI_mul, zI_le, zI_lt, zI_eq, zI_in, zI_nat, Option.bind_some, lt9, hq, Int.add_zero, Int.sub_self, true_or, or_true, true_and, and_true, false_or, or_false, Int.cast_ofNat_Int, ↓reduceIte, hN.lit, eM_with hN, if_pos, if_neg]
      simp only [cntO, Int.natCast_add, Int.cast_ofNat_Int]
      split
      · rw [Int.add_zero]
      · rw [Int.add_assoc]
theorem eM_needed_L90 {σ : hT} {v : Int → Int} (hN : mN σ v) (hw : wf v) (s : Int) (n : Nat) (kx : Int32 → Int32 → Option Int32) (K i : Nat) (hi : i ≤ 10) (hK : 10 - i < K) : M_needed_L90 n σ kx K (zI i) (zI (s + cntB v i)) = kx (zI 10) (zI (s + cntB v 10)) := by
  induction K generalizing i with
  | zero => omega
  | succ K ih =>
    by_cases hc : 10 ≤ i
    · obtain rfl : i = 10 := by omega
      unfold M_needed_L90
      simp (disch := omega) only [l0, l1, l2, l3, l4, l5, l6, l7, l8, l10, l12, l16, l20, l24, l26, l40, l64, l80, l100, l255, l256, l288, l312, l400, l992, l1940, l24980, l25240, xI, xL, xR, zI_neg, zI_add, zI_sub, zI_mul, zI_le, zI_lt, zI_eq, zI_in, zI_nat, Option.bind_some, lt9, hq, Int.add_zero, Int.sub_self, true_or, or_true, true_and, and_true, false_or, or_false, Int.cast_ofNat_Int, ↓reduceIte, if_pos, if_neg]
    · have q := ih (i + 1) (by omega) (by omega)
      have hp := (hw.2.2.2.2.2 i (by omega) (by omega))
      have hp1 := hp.1
      have hp2 := hp.2.1
      rw [← q]
      conv => lhs; unfold M_needed_L90
      simp (disch := omega) only [l0, l1, l2, l3, l4, l5, l6, l7, l8, l10, l12, l16, l20, l24, l26, l40, l64, l80, l100, l255, l256, l288, l312, l400, l992, l1940, l24980, l25240, xI, xL, xR, zI_neg, zI_add, zI_sub, zI_mul, zI_le, zI_lt, zI_eq, zI_in, zI_nat, Option.bind_some, lt9, hq, Int.add_zero, Int.sub_self, true_or, or_true, true_and, and_true, false_or, or_false, Int.cast_ofNat_Int, ↓reduceIte, eM_baselineAt, hN _, eM_parts, if_pos, if_neg]
      simp only [cntB, Int.natCast_add, Int.cast_ofNat_Int]
      split
      · rw [Int.add_zero]
      · rw [Int.add_assoc]
theorem eM_needed {σ : hT} {v : Int → Int} (hN : mN σ v) (hw : wf v) {n : Nat} (hn : 313 ≤ n) : M_needed n σ = some (zI (need v)) := by
  have h16 := hw.1
  unfold M_needed
  have c24 := eM_chunks hN hw (f := 24) (by omega) (by omega) hn
  simp (disch := omega) only [l0, l1, l2, l3, l4, l5, l6, l7, l8, l10, l12, l16, l20, l24, l26, l40, l64, l80, l100, l255, l256, l288, l312, l400, l992, l1940, l24980, l25240, xI, xL, xR, zI_neg, zI_add, zI_sub, zI_mul, zI_le, zI_lt, zI_eq, zI_in, zI_nat, Option.bind_some, lt9, hq, Int.add_zero, Int.sub_self, true_or, or_true, true_and, and_true, false_or, or_false, Int.cast_ofNat_Int, ↓reduceIte, eM_allRevisions hN hw (show 25 ≤ n by omega), c24, hN.lit]
  generalize hs : allR v (v 16).toNat + 2 * v 16 + dcR (chF v 24 (312 - 24 : Int).toNat) = s
  have q1 := eM_needed_L24 hN hw s n (fun (p7 : Int32) (p8 : Int32) => M_needed_L55 n σ (fun (p16 : Int32) (p17 : Int32) => M_needed_L90 n σ (fun (p26 : Int32) (p27 : Int32) => some p27) n (zI 0) p17) n (zI 0) p8) n 0 (by omega) (by omega)
  have q2 := eM_needed_L55 hN hw (s + cntP v 16) n (fun (p16 : Int32) (p17 : Int32) => M_needed_L90 n σ (fun (p26 : Int32) (p27 : Int32) => some p27) n (zI 0) p17) n 0 (by omega) (by omega)
  have q3 := eM_needed_L90 hN hw (s + cntP v 16 + cntO v (v 16).toNat) n (fun (p26 : Int32) (p27 : Int32) => some p27) n 0 (by omega) (by omega)
  simp only [cntP, cntO, cntB, Int.add_zero, Int.cast_ofNat_Int] at q1 q2 q3
  refine q1.trans (Eq.trans ?_ (q2.trans (Eq.trans ?_ (q3.trans ?_))))
  · simp only [cntP]
  · rfl
  · unfold need
    rw [← hs]
    rfl
