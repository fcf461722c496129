theorem allR_le {v : Int → Int} (hw : wf v) (m : Nat) : ∀ (k : Nat), (m + k : Int) = v 16 → 0 ≤ allR v m ∧ allR v m ≤ allR v (v 16).toNat := by
  have h0 : ∀ m : Nat, (m : Int) ≤ v 16 → 0 ≤ allR v m := by
    intro m
    induction m with
    | zero => intro _; exact Int.le_refl _
    | succ m ih =>
      intro h
      have := (hw.2.2.2.1 m (by omega) (by omega)).1
      have := ih (by omega)
      show 0 ≤ allR v m + v (20 + 80 * m)
      omega
  intro k
  induction k generalizing m with
  | zero => intro h; rw [show (v 16).toNat = m by omega]; exact ⟨h0 m (by omega), Int.le_refl _⟩
  | succ k ih =>
    intro h
    have := (hw.2.2.2.1 m (by omega) (by omega)).1
    have q := ih (m + 1) (by omega)
    have e : allR v (m + 1) = allR v m + v (20 + 80 * m) := rfl
    exact ⟨h0 m (by omega), by omega⟩
theorem pcOf_rv {v : Int → Int} {d r : Nat} (h1 : (d : Int) < v 16) (h2 : (r : Int) < v (20 + 80 * d)) (h3 : r < 12) : pcOf v (24 + (12 * d + r : Nat)) = pcs v (1940 + 80 * (12 * d + r)) ((v (1940 + 80 * (12 * d + r) + 2) + 7) / 8).toNat := by
  have e : cAt v (24 + (12 * d + r : Nat)) = 1940 + 80 * (12 * d + r) := by
    unfold cAt
    rw [if_neg (by omega), show ((24 + (12 * d + r : Nat) : Int) - 24) / 12 = d by omega, show ((24 + (12 * d + r : Nat) : Int) - 24) % 12 = r by omega, if_pos ⟨h1, h2⟩]
    omega
  unfold pcOf
  rw [e, if_pos (by omega)]
theorem pcOf_no {v : Int → Int} {d r : Nat} (h : ¬ ((d : Int) < v 16 ∧ (r : Int) < v (20 + 80 * d))) (h3 : r < 12) : pcOf v (24 + (12 * d + r : Nat)) = [] := by
  have e : cAt v (24 + (12 * d + r : Nat)) = -1 := by
    unfold cAt
    rw [if_neg (by omega), show ((24 + (12 * d + r : Nat) : Int) - 24) / 12 = d by omega, show ((24 + (12 * d + r : Nat) : Int) - 24) % 12 = r by omega, if_neg h]
  unfold pcOf
  rw [e, if_neg (by omega)]
theorem chF_sk {v : Int → Int} (m : Nat) : ∀ k : Nat, (∀ i, m ≤ i → i < m + k → pcOf v (24 + (i : Nat)) = []) → chF v 24 (m + k) = chF v 24 m := by
  intro k
  induction k with
  | zero => intro _; rfl
  | succ k ih =>
    intro h
    show pcOf v (24 + ((m + k : Nat) : Int)) ++ chF v 24 (m + k) = _
    rw [h (m + k) (by omega) (by omega), ih (fun i a b => h i a (by omega))]; rfl
theorem eV_cR_L19 {v : Int → Int} {g : Nat} (hw : wf v) {d : Nat} (d1 : (d : Int) < v 16) {n : Nat} (hn : 993 ≤ n) (kx : hT → Int32 → Int32 → Option (Int32 × hT)) (K : Nat) : ∀ (σ : hT) (r : Nat), CA σ v g → kS σ (chF v 24 (12 * d + r)) → (chF v 24 (12 * d + r)).length ≤ 8 * (allR v d + r) → (r : Int) ≤ v (20 + 80 * d) → v (20 + 80 * d) - r < K →
    ∃ σ', V_chunksOfRevisions_L19 n kx K σ (zI r) (zI d) = kx σ' (zI (v (20 + 80 * d))) (zI d) ∧ CA σ' v g ∧ kS σ' (chF v 24 (12 * (d + 1))) ∧ (chF v 24 (12 * (d + 1))).length ≤ 8 * allR v (d + 1) ∧ fK σ σ' := by
  have h16 := hw.1
  have hD := hw.2.2.2.1 d (by omega) d1
  have hm := hD.1
  have hA := hw.2.2.2.2.1
  have ha := allR_le hw (d + 1) (v 16 - (d + 1)).toNat (by omega)
  have he : allR v (d + 1) = allR v d + v (20 + 80 * d) := rfl
  induction K with
  | zero => intro σ r _ _ _ _ h; omega
  | succ K ih =>
    intro σ r hC hS hL hr hK
    have cD := hC.2.2.2.1 d (by omega) d1
    have c1 := cD.1
    have c2 := cD.2.1
    rw [Int.toNat_natCast] at c1 c2
    by_cases hx : v (20 + 80 * d) ≤ r
    · have e : v (20 + 80 * d) = r := by omega
      have es : chF v 24 (12 * (d + 1)) = chF v 24 (12 * d + r) := by
        have := chF_sk (v := v) (12 * d + r) (12 - r) (fun i a b => by
          have := pcOf_no (v := v) (d := d) (r := i - 12 * d) (by omega) (by omega)
          rw [show 12 * d + (i - 12 * d) = i by omega] at this
          exact this)
        rw [show 12 * (d + 1) = 12 * d + r + (12 - r) by omega]; exact this
      rw [es]
      refine ⟨σ, ?_, hC, hS, by omega, fK.rf⟩
      unfold V_chunksOfRevisions_L19
      simp (disch := omega) only [l0, l1, l2, l3, l4, l5, l6, l7, l8, l10, l12, l16, l20, l24, l26, l40, l64, l80, l100, l255, l256, l288, l312, l400, l992, l1940, l24980, l25240, xI, xL, xR, zI_neg, zI_add, zI_sub, zI_mul, zI_le, zI_lt, zI_eq, zI_in, zI_nat, Option.bind_some, lt9, hq, Int.add_zero, Int.sub_self, true_or, or_true, true_and, and_true, false_or, or_false, Int.cast_ofNat_Int, ↓reduceIte, Int.toNat_natCast, c1, c2, if_pos, if_neg]
      rw [e]
    · have cR := cD.2.2.2.2 r (by omega) (by omega)
      have hR := hD.2.2.2 r (by omega) (by omega)
      have b1 := hR.2.2.1.1
      have ep := pcOf_rv (v := v) (d := d) (r := r) d1 (by omega) (by omega)
      have hl : (chF v 24 (12 * d + r)).length + ((v (1940 + 80 * (12 * d + r) + 2) + 7) / 8).toNat ≤ 992 := by omega
      obtain ⟨σ1, q1, q2, q3⟩ := eK_addAll hR.2.2.1 cR.2.2.2 hS hn hl
      have e2 : pcs v (1940 + 80 * (12 * d + r)) ((v (1940 + 80 * (12 * d + r) + 2) + 7) / 8).toNat ++ chF v 24 (12 * d + r) = chF v 24 (12 * d + (r + 1)) := by
        show _ = pcOf v (24 + ((12 * d + r : Nat) : Int)) ++ chF v 24 (12 * d + r)
        rw [ep]
      rw [e2] at q2
      obtain ⟨σ2, r1, r2, r3, r4, r5⟩ := ih σ1 (r + 1) (hC.fr q3.v) q2 (by rw [← e2, List.length_append, pcs_len]; omega) (by omega) (by omega)
      refine ⟨σ2, ?_, r2, r3, r4, q3.tr r5⟩
      rw [← r1]
      conv => lhs; unfold V_chunksOfRevisions_L19
      have c3 := cR.1
      rw [Int.toNat_natCast, Int.toNat_natCast] at c3
      rw [Int.natCast_add, Int.cast_ofNat_Int]
      simp (disch := omega) only [l0, l1, l2, l3, l4, l5, l6, l7, l8, l10, l12, l16, l20, l24, l26, l40, l64, l80, l100, l255, l256, l288, l312, l400, l992, l1940, l24980, l25240, xI, xL, xR, zI_neg, zI_add, zI_sub, zI_mul, zI_le, zI_lt, zI_eq, zI_in, zI_nat, Option.bind_some, lt9, hq, Int.add_zero, Int.sub_self, true_or, or_true, true_and, and_true, false_or, or_false, Int.cast_ofNat_Int, ↓reduceIte, Int.toNat_natCast, c1, c2, c3, q1, if_pos, if_neg]
theorem eV_cR_L9 {v : Int → Int} {g : Nat} (hw : wf v) {n : Nat} (hn : 993 ≤ n) (kx : hT → Int32 → Option (Int32 × hT)) (K : Nat) : ∀ (σ : hT) (d : Nat), CA σ v g → kS σ (chF v 24 (12 * d)) → (chF v 24 (12 * d)).length ≤ 8 * allR v d → (d : Int) ≤ v 16 → v 16 - d < K →
    ∃ σ', V_chunksOfRevisions_L9 n kx K σ (zI d) = kx σ' (zI (v 16)) ∧ CA σ' v g ∧ kS σ' (chF v 24 288) ∧ (chF v 24 288).length ≤ 8 * allR v (v 16).toNat ∧ fK σ σ' := by
  have h16 := hw.1
  induction K with
  | zero => intro σ d _ _ _ _ h; omega
  | succ K ih =>
    intro σ d hC hS hL hd hK
    by_cases hx : v 16 ≤ d
    · have e : v 16 = d := by omega
      have es : chF v 24 288 = chF v 24 (12 * d) := by
        have := chF_sk (v := v) (12 * d) (288 - 12 * d) (fun i a b => by
          have := pcOf_no (v := v) (d := i / 12) (r := i % 12) (by omega) (by omega)
          rw [show 12 * (i / 12) + i % 12 = i by omega] at this
          exact this)
        rw [show 288 = 12 * d + (288 - 12 * d) by omega]; exact this
      rw [es, e, Int.toNat_natCast]
      refine ⟨σ, ?_, hC, hS, hL, fK.rf⟩
      unfold V_chunksOfRevisions_L9
      have := hC.2.1
      rw [e] at this
      simp (disch := omega) only [l0, l1, l2, l3, l4, l5, l6, l7, l8, l10, l12, l16, l20, l24, l26, l40, l64, l80, l100, l255, l256, l288, l312, l400, l992, l1940, l24980, l25240, xI, xL, xR, zI_neg, zI_add, zI_sub, zI_mul, zI_le, zI_lt, zI_eq, zI_in, zI_nat, Option.bind_some, lt9, hq, Int.add_zero, Int.sub_self, true_or, or_true, true_and, and_true, false_or, or_false, Int.cast_ofNat_Int, ↓reduceIte, this, if_pos, if_neg]
    · have hm := (hw.2.2.2.1 d (by omega) (by omega)).1
      obtain ⟨σ1, q1, q2, q3, q4, q5⟩ := eV_cR_L19 (g := g) hw (d := d) (by omega) hn (fun (σ11 : hT) (p12 : Int32) (p13 : Int32) => V_chunksOfRevisions_L9 n kx K (σ11) (p13 + 1)) n σ 0 hC hS (by rw [Nat.add_zero]; omega) (by omega) (by omega)
      obtain ⟨σ2, r1, r2, r3, r4, r5⟩ := ih σ1 (d + 1) q2 q3 q4 (by omega) (by omega)
      refine ⟨σ2, ?_, r2, r3, r4, q5.tr r5⟩
      rw [← r1]
      conv => lhs; unfold V_chunksOfRevisions_L9
      rw [if_neg (by simp (disch := omega) only [l0, l1, l2, l3, l4, l5, l6, l7, l8, l10, l12, l16, l20, l24, l26, l40, l64, l80, l100, l255, l256, l288, l312, l400, l992, l1940, l24980, l25240, xI, xL, xR, zI_neg, zI_add, zI_sub, zI_mul, zI_le, zI_lt, zI_eq, zI_in, zI_nat, Option.bind_some, lt9, hq, Int.add_zero, Int.sub_self, true_or, or_true, true_and, and_true, false_or, or_false, Int.cast_ofNat_Int, ↓reduceIte, hC.2.1]; omega)]
      refine q1.trans ?_
      rw [l1, zI_add]; rfl
theorem eV_chunksOfRevisions {σ : hT} {v : Int → Int} {g : Nat} (hC : CA σ v g) (hw : wf v) {n : Nat} (hn : 993 ≤ n) : ∃ σ', V_chunksOfRevisions n σ = some (zI (dcR (chF v 24 288)), σ') ∧ fK σ σ' ∧ kS σ' (chF v 24 288) ∧ (chF v 24 288).length ≤ 8 * allR v (v 16).toNat := by
  have h16 := hw.1
  obtain ⟨σ1, q1, q2, q3⟩ := eK_clear (σ := σ)
  obtain ⟨σ2, r1, r2, r3, r4, r5⟩ := eV_cR_L9 hw hn (fun (σ5 : hT) (p6 : Int32) => some ((xI σ5 302 0 0), σ5)) n σ1 0 (hC.fr q3.v) q2 (by show (0 : Int) ≤ _; exact Int.le_refl _) (by omega) (by omega)
  refine ⟨σ2, ?_, q3.tr r5, r3, r4⟩
  unfold V_chunksOfRevisions
  rw [q1]
  refine Eq.trans r1 ?_
  simp (disch := omega) only [l0, l1, l2, l3, l4, l5, l6, l7, l8, l10, l12, l16, l20, l24, l26, l40, l64, l80, l100, l255, l256, l288, l312, l400, l992, l1940, l24980, l25240, xI, xL, xR, zI_neg, zI_add, zI_sub, zI_mul, zI_le, zI_lt, zI_eq, zI_in, zI_nat, Option.bind_some, lt9, hq, Int.add_zero, Int.sub_self, true_or, or_true, true_and, and_true, false_or, or_false, Int.cast_ofNat_Int, ↓reduceIte, r3.1, if_pos, if_neg]
theorem eV_cK_L {v : Int → Int} {g : Nat} (hw : wf v) {n : Nat} (hn : 993 ≤ n) (kx : hT → Int32 → Option (Int32 × hT)) (K : Nat) : ∀ (σ : hT) (d : Nat) (L : List KT), CA σ v g → kS σ L → L.length ≤ 800 + 8 * d → (d : Int) ≤ v 16 → v 16 - d < K →
    ∃ σ' L', V_chunksKept_L7 n kx K σ (zI d) = kx σ' (zI (v 16)) ∧ kS σ' L' ∧ fK σ σ' := by
  have h16 := hw.1
  induction K with
  | zero => intro σ d L _ _ _ _ h; omega
  | succ K ih =>
    intro σ d L hC hS hL hd hK
    by_cases hx : v 16 ≤ d
    · have e : v 16 = d := by omega
      refine ⟨σ, L, ?_, hS, fK.rf⟩
      unfold V_chunksKept_L7
      simp (disch := omega) only [l0, l1, l2, l3, l4, l5, l6, l7, l8, l10, l12, l16, l20, l24, l26, l40, l64, l80, l100, l255, l256, l288, l312, l400, l992, l1940, l24980, l25240, xI, xL, xR, zI_neg, zI_add, zI_sub, zI_mul, zI_le, zI_lt, zI_eq, zI_in, zI_nat, Option.bind_some, lt9, hq, Int.add_zero, Int.sub_self, true_or, or_true, true_and, and_true, false_or, or_false, Int.cast_ofNat_Int, ↓reduceIte, hC.2.1, if_pos, if_neg]
      rw [e]
    · have hD := hw.2.2.2.1 d (by omega) (by omega)
      have cD := hC.2.2.2.1 d (by omega) (by omega)
      have c1 := cD.1
      have c4 := cD.2.2.2.1
      rw [Int.toNat_natCast] at c1 c4
      have key : ∃ σ1 L1, K_addAll n σ (3 * d) = some ((), σ1) ∧ kS σ1 L1 ∧ fK σ σ1 ∧ L1.length ≤ 800 + 8 * (d + 1) := by
        by_cases ho : 0 < v (20 + 80 * d + 1)
        · have hc := hD.2.2.1 ho
          have b1 := hc.1
          obtain ⟨σ1, q1, q2, q3⟩ := eK_addAll hc (c4.1 ho) hS hn (by omega)
          exact ⟨σ1, _, q1, q2, q3, by rw [List.length_append, pcs_len]; omega⟩
        · exact ⟨σ, L, eK_addAll0 (c4.2 ho) (by omega), hS, fK.rf, by omega⟩
      obtain ⟨σ1, L1, q1, q2, q3, q4⟩ := key
      obtain ⟨σ2, L2, r1, r2, r3⟩ := ih σ1 (d + 1) L1 (hC.fr q3.v) q2 q4 (by omega) (by omega)
      refine ⟨σ2, L2, ?_, r2, q3.tr r3⟩
      rw [← r1]
      conv => lhs; unfold V_chunksKept_L7
      rw [Int.natCast_add, Int.cast_ofNat_Int]
      simp (disch := omega) only [l0, l1, l2, l3, l4, l5, l6, l7, l8, l10, l12, l16, l20, l24, l26, l40, l64, l80, l100, l255, l256, l288, l312, l400, l992, l1940, l24980, l25240, xI, xL, xR, zI_neg, zI_add, zI_sub, zI_mul, zI_le, zI_lt, zI_eq, zI_in, zI_nat, Option.bind_some, lt9, hq, Int.add_zero, Int.sub_self, true_or, or_true, true_and, and_true, false_or, or_false, Int.cast_ofNat_Int, ↓reduceIte, hC.2.1, Int.toNat_natCast, c1, q1, if_pos, if_neg]
theorem eV_chunksKept {σ : hT} {v : Int → Int} {g : Nat} (hC : CA σ v g) (hw : wf v) {n : Nat} (hn : 993 ≤ n) : ∃ y σ', V_chunksKept n σ = some (y, σ') ∧ fK σ σ' := by
  have h16 := hw.1
  have hA := hw.2.2.2.2.1
  obtain ⟨σ1, q1, q2, q3, q4⟩ := eV_chunksOfRevisions hC hw hn
  obtain ⟨σ2, L2, r1, r2, r3⟩ := eV_cK_L hw hn (fun (σ4 : hT) (p5 : Int32) => some ((xI σ4 302 0 0), σ4)) n σ1 0 _ (hC.fr q2.v) q3 (by omega) (by omega) (by omega)
  refine ⟨xI σ2 302 0 0, σ2, ?_, q2.tr r3⟩
  unfold V_chunksKept
  rw [q1]
  exact r1
theorem eV_pS_L24 {v : Int → Int} {g : Nat} (hw : wf v) {σ : hT} (hC : CA σ v g) (s : Int) (n : Nat) (kx : hT → Int32 → Int32 → Option (Int32 × hT)) (K : Nat) : ∀ (i : Nat), i ≤ 16 → 16 - i < K → V_pagesOfTheSame_L24 n kx K σ (zI i) (zI (s + cntP v i)) = kx σ (zI 16) (zI (s + cntP v 16)) := by
  induction K with
  | zero => intro i _ h; omega
  | succ K ih =>
    intro i hi hK
    by_cases hx : 16 ≤ i
    · obtain rfl : i = 16 := by omega
      unfold V_pagesOfTheSame_L24
      simp (disch := omega) only [l0, l1, l2, l3, l4, l5, l6, l7, l8, l10, l12, l16, l20, l24, l26, l40, l64, l80, l100, l255, l256, l288, l312, l400, l992, l1940, l24980, l25240, xI, xL, xR, zI_neg, zI_add, zI_sub, zI_mul, zI_le, zI_lt, zI_eq, zI_in, zI_nat, Option.bind_some, lt9, hq, Int.add_zero, Int.sub_self, true_or, or_true, true_and, and_true, false_or, or_false, Int.cast_ofNat_Int, ↓reduceIte, if_pos, if_neg]
    · have hp := hw.2.1 i (by omega) (by omega)
      have cp := hC.1 i (by omega) (by omega)
      rw [Int.toNat_natCast] at cp
      have := ih (i + 1) (by omega) (by omega)
      rw [← this]
      conv => lhs; unfold V_pagesOfTheSame_L24
      simp only [cntP, Int.natCast_add, Int.cast_ofNat_Int]
      by_cases e : v i ≤ 0
      · rw [if_pos e]
        simp (disch := omega) only [l0, l1, l2, l3, l4, l5, l6, l7, l8, l10, l12, l16, l20, l24, l26, l40, l64, l80, l100, l255, l256, l288, l312, l400, l992, l1940, l24980, l25240, xI, xL, xR, zI_neg, zI_add, zI_sub, zI_mul, zI_le, zI_lt, zI_eq, zI_in, zI_nat, Option.bind_some, lt9, hq, Int.add_zero, Int.sub_self, true_or, or_true, true_and, and_true, false_or, or_false, Int.cast_ofNat_Int, ↓reduceIte, Int.toNat_natCast, cp, if_pos, if_neg]
      · rw [if_neg e]
        simp (disch := omega) only [l0, l1, l2, l3, l4, l5, l6, l7, l8, l10, l12, l16, l20, l24, l26, l40, l64, l80, l100, l255, l256, l288, l312, l400, l992, l1940, l24980, l25240, xI, xL, xR, zI_neg, zI_add, zI_sub, zI_mul, zI_le, zI_lt, zI_eq, zI_in, zI_nat, Option.bind_some, lt9, hq, Int.add_zero, Int.sub_self, true_or, or_true, true_and, and_true, false_or, or_false, Int.cast_ofNat_Int, ↓reduceIte, Int.toNat_natCast, cp, Int.add_assoc, if_pos, if_neg]
theorem eB_pagesTaken {σ : hT} {j : Nat} {x : Int} (h : σ.1 202 j 0 = zI x) (x0 : 0 ≤ x) (x1 : x ≤ 24) : B_pagesTaken σ j = zI (1 + (x + 7) / 8) := by
  unfold B_pagesTaken
  simp (disch := omega) only [l0, l1, l2, l3, l4, l5, l6, l7, l8, l10, l12, l16, l20, l24, l26, l40, l64, l80, l100, l255, l256, l288, l312, l400, l992, l1940, l24980, l25240, xI, xL, xR, zI_neg, zI_add, zI_sub, zI_mul, zI_le, zI_lt, zI_eq, zI_in, zI_nat, Option.bind_some, lt9, hq, Int.add_zero, Int.sub_self, true_or, or_true, true_and, and_true, false_or, or_false, Int.cast_ofNat_Int, ↓reduceIte, h]
  rw [show x + 8 - 1 = x + 7 by omega, zI_div (by omega) (by omega) (by omega) (by omega), zI_add]
theorem eV_pS_L55 {v : Int → Int} {g : Nat} (hw : wf v) {σ : hT} (hC : CA σ v g) (s : Int) (n : Nat) (kx : hT → Int32 → Int32 → Option (Int32 × hT)) (K : Nat) : ∀ (i : Nat), i ≤ 10 → 10 - i < K → V_pagesOfTheSame_L55 n kx K σ (zI i) (zI (s + cntB v i)) = kx σ (zI 10) (zI (s + cntB v 10)) := by
  induction K with
  | zero => intro i _ h; omega
  | succ K ih =>
    intro i hi hK
    by_cases hx : 10 ≤ i
    · obtain rfl : i = 10 := by omega
      unfold V_pagesOfTheSame_L55
      simp (disch := omega) only [l0, l1, l2, l3, l4, l5, l6, l7, l8, l10, l12, l16, l20, l24, l26, l40, l64, l80, l100, l255, l256, l288, l312, l400, l992, l1940, l24980, l25240, xI, xL, xR, zI_neg, zI_add, zI_sub, zI_mul, zI_le, zI_lt, zI_eq, zI_in, zI_nat, Option.bind_some, lt9, hq, Int.add_zero, Int.sub_self, true_or, or_true, true_and, and_true, false_or, or_false, Int.cast_ofNat_Int, ↓reduceIte, if_pos, if_neg]
    · have hB := hw.2.2.2.2.2 i (by omega) (by omega)
      have := ih (i + 1) (by omega) (by omega)
      rw [← this]
      conv => lhs; unfold V_pagesOfTheSame_L55
      simp only [cntB, Int.natCast_add, Int.cast_ofNat_Int]
      rcases hC.2.2.2.2.1 i (by omega) (by omega) with ⟨h1, h2⟩ | ⟨h1, j, h2, h3, h4, h5⟩
      · rw [if_pos (show v (24980 + 26 * (i : Int)) ≤ 0 by omega)]
        rw [Int.toNat_natCast] at h2
        simp (disch := omega) only [l0, l1, l2, l3, l4, l5, l6, l7, l8, l10, l12, l16, l20, l24, l26, l40, l64, l80, l100, l255, l256, l288, l312, l400, l992, l1940, l24980, l25240, xI, xL, xR, zI_neg, zI_add, zI_sub, zI_mul, zI_le, zI_lt, zI_eq, zI_in, zI_nat, Option.bind_some, lt9, hq, Int.add_zero, Int.sub_self, true_or, or_true, true_and, and_true, false_or, or_false, Int.cast_ofNat_Int, ↓reduceIte, Int.toNat_natCast, h2, if_pos, if_neg]
      · rw [if_neg (show ¬ v (24980 + 26 * (i : Int)) ≤ 0 by omega)]
        rw [Int.toNat_natCast] at h3
        simp (disch := omega) only [l0, l1, l2, l3, l4, l5, l6, l7, l8, l10, l12, l16, l20, l24, l26, l40, l64, l80, l100, l255, l256, l288, l312, l400, l992, l1940, l24980, l25240, xI, xL, xR, zI_neg, zI_add, zI_sub, zI_mul, zI_le, zI_lt, zI_eq, zI_in, zI_nat, Option.bind_some, lt9, hq, Int.add_zero, Int.sub_self, true_or, or_true, true_and, and_true, false_or, or_false, Int.cast_ofNat_Int, ↓reduceIte, Int.toNat_natCast, h3, eB_pagesTaken h4 hB.2.1.1 hB.2.1.2, Int.add_assoc, if_pos, if_neg]
theorem eV_pagesOfTheSame {σ : hT} {v : Int → Int} {g : Nat} (hC : CA σ v g) (hw : wf v) {n : Nat} (hn : 993 ≤ n) : ∃ σ', V_pagesOfTheSame n σ = some (zI (need v), σ') ∧ fK σ σ' := by
  have h16 := hw.1
  obtain ⟨σ1, q1, q2, q3, q4⟩ := eV_chunksOfRevisions hC hw hn
  have hC1 := hC.fr (q2.v (g := g))
  refine ⟨σ1, ?_, q2⟩
  unfold V_pagesOfTheSame
  rw [eV_drawingsOut hC hw (by omega), Option.bind_some, q1]
  simp (disch := omega) only [l0, l1, l2, l3, l4, l5, l6, l7, l8, l10, l12, l16, l20, l24, l26, l40, l64, l80, l100, l255, l256, l288, l312, l400, l992, l1940, l24980, l25240, xI, xL, xR, zI_neg, zI_add, zI_sub, zI_mul, zI_le, zI_lt, zI_eq, zI_in, zI_nat, Option.bind_some, lt9, hq, Int.add_zero, Int.sub_self, true_or, or_true, true_and, and_true, false_or, or_false, Int.cast_ofNat_Int, ↓reduceIte, hC.2.1, hC.2.2.1, if_pos, if_neg]
  have e1 := eV_pS_L24 hw hC1 (2 * v 16 + allR v (v 16).toNat + cntO v (v 16).toNat + dcR (chF v 24 288)) n (fun (σ8 : hT) (p9 : Int32) (p10 : Int32) => lt9 (α := hT → Int32 → Int32 → Option (Int32 × hT)) (fun (σ18 : hT) (p19 : Int32) (p20 : Int32) => some (p20, σ18)) fun kx21 => V_pagesOfTheSame_L55 n kx21 n (σ8) (zI 0) p10) n 0 (by omega) (by omega)
  have e2 := eV_pS_L55 hw hC1 (2 * v 16 + allR v (v 16).toNat + cntO v (v 16).toNat + dcR (chF v 24 288) + cntP v 16) n (fun (σ18 : hT) (p19 : Int32) (p20 : Int32) => some (p20, σ18)) n 0 (by omega) (by omega)
  have c0 : cntP v 0 = 0 := rfl
  have c1 : cntB v 0 = 0 := rfl
  rw [c0, Int.add_zero] at e1
  rw [c1, Int.add_zero] at e2
  refine Eq.trans e1 (Eq.trans e2 ?_)
  unfold need
  congr 3
  omega
