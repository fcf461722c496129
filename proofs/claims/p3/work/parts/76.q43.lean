theorem if01' {p q : Prop} [Decidable p] [Decidable q] (h : p ↔ q) : (if p then (0 : Int) else 1) = if q then 0 else 1 := by
  by_cases e : p
  · rw [if_pos e, if_pos (h.mp e)]
  · rw [if_neg e, if_neg (fun z => e (h.mpr z))]
theorem dcR_perm {l m : List KT} (h : l.Perm m) : dcR l = dcR m := by
  induction h with
  | nil => rfl
  | @cons x l m h ih =>
    show dcR l + (if x ∈ l then 0 else 1) = dcR m + (if x ∈ m then 0 else 1)
    rw [ih]
    by_cases e : x ∈ l
    · rw [if_pos e, if_pos (h.mem_iff.mp e)]
    · rw [if_neg e, if_neg (fun z => e (h.mem_iff.mpr z))]
  | @swap x y l =>
    show (dcR l + (if x ∈ l then 0 else 1)) + (if y ∈ x :: l then 0 else 1) = (dcR l + (if y ∈ l then 0 else 1)) + (if x ∈ y :: l then 0 else 1)
    by_cases e : x = y
    · subst e; rfl
    · have h1 : (y ∈ x :: l) ↔ y ∈ l := ⟨fun z => (List.mem_cons.mp z).resolve_left (fun w => e w.symm), List.mem_cons_of_mem _⟩
      have h2 : (x ∈ y :: l) ↔ x ∈ l := ⟨fun z => (List.mem_cons.mp z).resolve_left e, List.mem_cons_of_mem _⟩
      rw [if01' h1, if01' h2]
      omega
  | trans _ _ h1 h2 => exact h1.trans h2
theorem chF_add {v : Int → Int} (f : Int) (a : Nat) : ∀ b : Nat, chF v f (a + b) = chF v (f + a) b ++ chF v f a := by
  intro b
  induction b with
  | zero => rfl
  | succ b ih =>
    show pcOf v (f + ((a + b : Nat) : Int)) ++ chF v f (a + b) = (pcOf v (f + a + b) ++ chF v (f + a) b) ++ chF v f a
    rw [ih, List.append_assoc, Int.natCast_add, Int.add_assoc]
theorem dcR_all (v : Int → Int) : dcR (chF v 0 24 ++ chF v 24 288) = dcR (chF v 0 312) := by
  rw [show (312 : Nat) = 24 + 288 by rfl, chF_add 0 24 288]
  exact dcR_perm List.perm_append_comm
theorem pcOf_cp {v : Int → Int} {d : Nat} (h1 : (d : Int) < v 16) (h : d < 24) : pcOf v (0 + (d : Int)) = if 0 < v (20 + 80 * d + 1) then pcs v (20 + 80 * d) ((v (20 + 80 * d + 2) + 7) / 8).toNat else [] := by
  unfold pcOf cAt
  rw [Int.zero_add, if_pos (show (d : Int) < 24 by omega)]
  by_cases e : 0 < v (20 + 80 * d + 1)
  · rw [if_pos (show (d : Int) < v 16 ∧ 1 ≤ v (20 + 80 * d + 1) by omega), if_pos (by omega), if_pos e]
  · rw [if_neg (show ¬ ((d : Int) < v 16 ∧ 1 ≤ v (20 + 80 * d + 1)) by omega), if_neg (by omega), if_neg e]
theorem chF_cp {v : Int → Int} (m : Nat) (hm : v 16 ≤ m) : ∀ k : Nat, m + k ≤ 24 → chF v 0 (m + k) = chF v 0 m := by
  intro k
  induction k with
  | zero => intro _; rfl
  | succ k ih =>
    intro h
    show pcOf v (0 + ((m + k : Nat) : Int)) ++ chF v 0 (m + k) = _
    have : pcOf v (0 + ((m + k : Nat) : Int)) = [] := by
      have e : cAt v (0 + ((m + k : Nat) : Int)) = -1 := by
        unfold cAt
        rw [Int.zero_add, if_pos (show ((m + k : Nat) : Int) < 24 by omega), if_neg (by omega)]
      unfold pcOf
      rw [e, if_neg (by decide)]
    rw [this, ih (by omega)]; rfl
theorem eV_cK2_L {v : Int → Int} {g : Nat} (hw : wf v) {n : Nat} (hn : 993 ≤ n) (R : List KT) (hR : R.length ≤ 800) (kx : hT → Int32 → Option (Int32 × hT)) (K : Nat) : ∀ (σ : hT) (d : Nat), CA σ v g → kS σ (chF v 0 d ++ R) → (chF v 0 d).length ≤ 8 * d → (d : Int) ≤ v 16 → v 16 - d < K →
    ∃ σ', V_chunksKept_L7 n kx K σ (zI d) = kx σ' (zI (v 16)) ∧ kS σ' (chF v 0 24 ++ R) ∧ fK σ σ' := by
  have h16 := hw.1
  induction K with
  | zero => intro σ d _ _ _ _ h; omega
  | succ K ih =>
    intro σ d hC hS hL hd hK
    by_cases hx : v 16 ≤ d
    · have e : v 16 = d := by omega
      refine ⟨σ, ?_, ?_, fK.rf⟩
      · unfold V_chunksKept_L7
        simp (disch := omega) only [l0, l1, l2, l3, l4, l5, l6, l7, l8, l10, l12, l16, l20, l24, l26, l40, l64, l80, l100, l255, l256, l288, l312, l400, l992, l1940, l24980, l25240, xI, xL, xR, zI_neg, zI_add, zI_sub, zI_mul, zI_le, zI_lt, zI_eq, zI_in, zI_nat, Option.bind_some, lt9, hq, Int.add_zero, Int.sub_self, true_or, or_true, true_and, and_true, false_or, or_false, Int.cast_ofNat_Int, ↓reduceIte, hC.2.1, if_pos, if_neg]
        rw [e]
      · have := chF_cp (v := v) d (by omega) (24 - d) (by omega)
        rw [show d + (24 - d) = 24 by omega] at this
        rw [this]; exact hS
    · have hD := hw.2.2.2.1 d (by omega) (by omega)
      have cD := hC.2.2.2.1 d (by omega) (by omega)
      have c1 := cD.1
      have c4 := cD.2.2.2.1
      rw [Int.toNat_natCast] at c1 c4
      have ec := pcOf_cp (v := v) (d := d) (by omega) (by omega)
      have es : chF v 0 (d + 1) = pcOf v (0 + (d : Int)) ++ chF v 0 d := rfl
      have key : ∃ σ1, K_addAll n σ (3 * d) = some ((), σ1) ∧ kS σ1 (chF v 0 (d + 1) ++ R) ∧ fK σ σ1 ∧ (chF v 0 (d + 1)).length ≤ 8 * (d + 1) := by
        rw [es, ec]
        by_cases ho : 0 < v (20 + 80 * d + 1)
        · have hc := hD.2.2.1 ho
          have b1 := hc.1
          obtain ⟨σ1, q1, q2, q3⟩ := eK_addAll hc (c4.1 ho) hS hn (by rw [List.length_append]; omega)
          rw [if_pos ho, List.append_assoc]
          exact ⟨σ1, q1, q2, q3, by rw [List.length_append, pcs_len]; omega⟩
        · rw [if_neg ho]
          exact ⟨σ, eK_addAll0 (c4.2 ho) (by omega), hS, fK.rf, by show (chF v 0 d).length ≤ _; omega⟩
      obtain ⟨σ1, q1, q2, q3, q4⟩ := key
      obtain ⟨σ2, r1, r2, r3⟩ := ih σ1 (d + 1) (hC.fr q3.v) q2 q4 (by omega) (by omega)
      refine ⟨σ2, ?_, r2, q3.tr r3⟩
      rw [← r1]
      conv => lhs; unfold V_chunksKept_L7
      rw [Int.natCast_add, Int.cast_ofNat_Int]
      simp (disch := omega) only [l0, l1, l2, l3, l4, l5, l6, l7, l8, l10, l12, l16, l20, l24, l26, l40, l64, l80, l100, l255, l256, l288, l312, l400, l992, l1940, l24980, l25240, xI, xL, xR, zI_neg, zI_add, zI_sub, zI_mul, zI_le, zI_lt, zI_eq, zI_in, zI_nat, Option.bind_some, lt9, hq, Int.add_zero, Int.sub_self, true_or, or_true, true_and, and_true, false_or, or_false, Int.cast_ofNat_Int, ↓reduceIte, hC.2.1, Int.toNat_natCast, c1, q1, if_pos, if_neg]
theorem eV_chunksKept2 {σ : hT} {v : Int → Int} {g : Nat} (hC : CA σ v g) (hw : wf v) {n : Nat} (hn : 993 ≤ n) : ∃ σ', V_chunksKept n σ = some (zI (dcR (chF v 0 312)), σ') ∧ fK σ σ' := by
  have h16 := hw.1
  have hA := hw.2.2.2.2.1
  obtain ⟨σ1, q1, q2, q3, q4⟩ := eV_chunksOfRevisions hC hw hn
  obtain ⟨σ2, r1, r2, r3⟩ := eV_cK2_L hw hn (chF v 24 288) (by omega) (fun (σ4 : hT) (p5 : Int32) => some ((xI σ4 302 0 0), σ4)) n σ1 0 (hC.fr q2.v) (show kS σ1 ([] ++ chF v 24 288) from by rw [List.nil_append]; exact q3) (by show 0 ≤ _; omega) (by omega) (by omega)
  refine ⟨σ2, ?_, q2.tr r3⟩
  unfold V_chunksKept
  rw [q1]
  refine Eq.trans r1 ?_
  show some (σ2.1 302 0 0, σ2) = _
  rw [r2.1, dcR_all]
def sumB (v : Int → Int) : Nat → Int
  | 0 => 0
  | n + 1 => sumB v n + v (24980 + 26 * n)
theorem eV_bM2_L {σ : hT} {v : Int → Int} {g : Nat} (hC : CA σ v g) (n : Nat) (kx : Int32 → Int32 → Option Int32) (K : Nat) : ∀ (i : Nat), i ≤ 10 → 10 - i < K → V_baselinesMade_L4 n σ kx K (zI i) (zI (sumB v i)) = kx (zI 10) (zI (sumB v 10)) := by
  induction K with
  | zero => intro i _ h; omega
  | succ K ih =>
    intro i i1 hK
    conv => lhs; unfold V_baselinesMade_L4
    by_cases hx : 10 ≤ i
    · obtain rfl : i = 10 := by omega
      simp (disch := omega) only [l0, l1, l2, l3, l4, l5, l6, l7, l8, l10, l12, l16, l20, l24, l26, l40, l64, l80, l100, l255, l256, l288, l312, l400, l992, l1940, l24980, l25240, xI, xL, xR, zI_neg, zI_add, zI_sub, zI_mul, zI_le, zI_lt, zI_eq, zI_in, zI_nat, Option.bind_some, lt9, hq, Int.add_zero, Int.sub_self, true_or, or_true, true_and, and_true, false_or, or_false, Int.cast_ofNat_Int, ↓reduceIte, if_pos, if_neg]
    · have := ih (i + 1) (by omega) (by omega)
      simp only [sumB, Int.natCast_add, Int.cast_ofNat_Int] at this
      rcases hC.2.2.2.2.1 i (by omega) (by omega) with ⟨h1, h2⟩ | ⟨h1, j, h2, h3, h4⟩
      · rw [h1, Int.add_zero] at this
        rw [Int.toNat_natCast] at h2
        simp (disch := omega) only [l0, l1, l2, l3, l4, l5, l6, l7, l8, l10, l12, l16, l20, l24, l26, l40, l64, l80, l100, l255, l256, l288, l312, l400, l992, l1940, l24980, l25240, xI, xL, xR, zI_neg, zI_add, zI_sub, zI_mul, zI_le, zI_lt, zI_eq, zI_in, zI_nat, Option.bind_some, lt9, hq, Int.add_zero, Int.sub_self, true_or, or_true, true_and, and_true, false_or, or_false, Int.cast_ofNat_Int, ↓reduceIte, Int.toNat_natCast, h2, if_pos, if_neg]
        exact this
      · rw [h1] at this
        rw [Int.toNat_natCast] at h3
        simp (disch := omega) only [l0, l1, l2, l3, l4, l5, l6, l7, l8, l10, l12, l16, l20, l24, l26, l40, l64, l80, l100, l255, l256, l288, l312, l400, l992, l1940, l24980, l25240, xI, xL, xR, zI_neg, zI_add, zI_sub, zI_mul, zI_le, zI_lt, zI_eq, zI_in, zI_nat, Option.bind_some, lt9, hq, Int.add_zero, Int.sub_self, true_or, or_true, true_and, and_true, false_or, or_false, Int.cast_ofNat_Int, ↓reduceIte, Int.toNat_natCast, h3, if_pos, if_neg]
        exact this
theorem eV_baselinesMade2 {σ : hT} {v : Int → Int} {g : Nat} (hC : CA σ v g) {n : Nat} (hn : 11 ≤ n) : V_baselinesMade n σ = some (zI (sumB v 10)) := by
  unfold V_baselinesMade lt9
  exact eV_bM2_L hC n _ n 0 (by omega) (by omega)
theorem eM_cnt_L {σ : hT} {v : Int → Int} (hN : mN σ v) (n : Nat) (kx : hT → Int32 → Int32 → Int32 → Option (Int32 × hT)) (x : Int32) (K : Nat) : ∀ (i : Nat), i ≤ 10 → 10 - i < K → M_count_L9 n kx K σ (zI i) (zI (sumB v i)) x = kx σ (zI 10) (zI (sumB v 10)) x := by
  induction K with
  | zero => intro i _ h; omega
  | succ K ih =>
    intro i i1 hK
    conv => lhs; unfold M_count_L9
    by_cases hx : 10 ≤ i
    · obtain rfl : i = 10 := by omega
      simp (disch := omega) only [l0, l1, l2, l3, l4, l5, l6, l7, l8, l10, l12, l16, l20, l24, l26, l40, l64, l80, l100, l255, l256, l288, l312, l400, l992, l1940, l24980, l25240, xI, xL, xR, zI_neg, zI_add, zI_sub, zI_mul, zI_le, zI_lt, zI_eq, zI_in, zI_nat, Option.bind_some, lt9, hq, Int.add_zero, Int.sub_self, true_or, or_true, true_and, and_true, false_or, or_false, Int.cast_ofNat_Int, ↓reduceIte, if_pos, if_neg]
    · have := ih (i + 1) (by omega) (by omega)
      simp only [sumB, Int.natCast_add, Int.cast_ofNat_Int] at this
      simp (disch := omega) only [l0, l1, l2, l3, l4, l5, l6, l7, l8, l10, l12, l16, l20, l24, l26, l40, l64, l80, l100, l255, l256, l288, l312, l400, l992, l1940, l24980, l25240, xI, xL, xR, zI_neg, zI_add, zI_sub, zI_mul, zI_le, zI_lt, zI_eq, zI_in, zI_nat, Option.bind_some, lt9, hq, Int.add_zero, Int.sub_self, true_or, or_true, true_and, and_true, false_or, or_false, Int.cast_ofNat_Int, ↓reduceIte, eM_baselineAt, hN _, if_pos, if_neg]
      exact this
def qCnt (s : zT) (k : Int) : Int := if k = 0 then s.1 16 else if k = 1 then allR s.1 (s.1 16).toNat else if k = 2 then dcR (chF s.1 0 312) else if k = 3 then s.1 17 else if k = 4 then s.1 18 else if k = 5 then s.1 19 else if k = 6 then sumB s.1 10 else if k = 7 then s.2.2.1 else -1
theorem eM_count {σ : hT} {s : zT} (hs : MSt σ s) (ho : okS s) {k : Int} (hk : i32 k) {n : Nat} (hn : 313 ≤ n) : RefQ (some (qCnt s k)) s σ (M_count n σ (zI k)) := by
  obtain ⟨k1, k2⟩ := hk
  have hs1 : MSt (sI σ 500 0 0 (zI 0)) s := MSt.r5 hs
  have e := eM_cnt_L hs1.1 n (fun (σ3 : hT) (p4 : Int32) (p5 : Int32) (p6 : Int32) => if p6 = 0 then some ((xI σ3 15 0 16), σ3) else if p6 = 1 then Option.bind (M_allRevisions n σ3) fun y19 => some (y19, σ3) else if p6 = 2 then Option.bind (M_chunks n σ3 0) fun y22 => some (y22, σ3) else if p6 = 3 then some ((xI σ3 15 0 17), σ3) else if p6 = 4 then some ((xI σ3 15 0 18), σ3) else if p6 = 5 then some ((xI σ3 15 0 19), σ3) else if p6 = 6 then some (p5, σ3) else if p6 = 7 then if (xI σ3 504 0 0) = 0 then some (0, σ3) else some (1, σ3) else some ((-1), σ3)) (zI k) n 0 (by omega) (by omega)
  refine ⟨sI σ 500 0 0 (zI 0), ?_, hs1, fM.rf.i (by omega), by rw [rS]; rfl⟩
  refine Eq.trans (show M_count n σ (zI k) = _ from e) ?_
  have h504 := hs1.2.2.1
  have hch := eM_chunks hs1.1 ho.1 (f := 0) (by omega) (by omega) hn
  have hal := eM_allRevisions hs1.1 ho.1 (n := n) (by omega)
  have l16 := hs1.1.lit 16 (by omega)
  have l17 := hs1.1.lit 17 (by omega)
  have l18 := hs1.1.lit 18 (by omega)
  have l19 := hs1.1.lit 19 (by omega)
  generalize sI σ 500 0 0 (zI 0) = σ1 at *
  unfold qCnt
  by_cases c0 : k = 0
  · subst c0; simp (disch := omega) only [l0, l1, l2, l3, l4, l5, l6, l7, l8, l10, l12, l16, l20, l24, l26, l40, l64, l80, l100, l255, l256, l288, l312, l400, l992, l1940, l24980, l25240, xI, xL, xR, zI_neg, zI_add, zI_sub, zI_mul, zI_le, zI_lt, zI_eq, zI_in, zI_nat, Option.bind_some, lt9, hq, Int.add_zero, Int.sub_self, true_or, or_true, true_and, and_true, false_or, or_false, Int.cast_ofNat_Int, ↓reduceIte, l16, if_pos, if_neg]; rfl
  by_cases c1 : k = 1
  · subst c1; simp (disch := omega) only [l0, l1, l2, l3, l4, l5, l6, l7, l8, l10, l12, l16, l20, l24, l26, l40, l64, l80, l100, l255, l256, l288, l312, l400, l992, l1940, l24980, l25240, xI, xL, xR, zI_neg, zI_add, zI_sub, zI_mul, zI_le, zI_lt, zI_eq, zI_in, zI_nat, Option.bind_some, lt9, hq, Int.add_zero, Int.sub_self, true_or, or_true, true_and, and_true, false_or, or_false, Int.cast_ofNat_Int, ↓reduceIte, hal, if_pos, if_neg]; rfl
  by_cases c2 : k = 2
  · subst c2; simp (disch := omega) only [l0, l1, l2, l3, l4, l5, l6, l7, l8, l10, l12, l16, l20, l24, l26, l40, l64, l80, l100, l255, l256, l288, l312, l400, l992, l1940, l24980, l25240, xI, xL, xR, zI_neg, zI_add, zI_sub, zI_mul, zI_le, zI_lt, zI_eq, zI_in, zI_nat, Option.bind_some, lt9, hq, Int.add_zero, Int.sub_self, true_or, or_true, true_and, and_true, false_or, or_false, Int.cast_ofNat_Int, ↓reduceIte, hch, if_pos, if_neg]; rfl
  by_cases c3 : k = 3
  · subst c3; simp (disch := omega) only [l0, l1, l2, l3, l4, l5, l6, l7, l8, l10, l12, l16, l20, l24, l26, l40, l64, l80, l100, l255, l256, l288, l312, l400, l992, l1940, l24980, l25240, xI, xL, xR, zI_neg, zI_add, zI_sub, zI_mul, zI_le, zI_lt, zI_eq, zI_in, zI_nat, Option.bind_some, lt9, hq, Int.add_zero, Int.sub_self, true_or, or_true, true_and, and_true, false_or, or_false, Int.cast_ofNat_Int, ↓reduceIte, l17, if_pos, if_neg]; rfl
  by_cases c4 : k = 4
  · subst c4; simp (disch := omega) only [l0, l1, l2, l3, l4, l5, l6, l7, l8, l10, l12, l16, l20, l24, l26, l40, l64, l80, l100, l255, l256, l288, l312, l400, l992, l1940, l24980, l25240, xI, xL, xR, zI_neg, zI_add, zI_sub, zI_mul, zI_le, zI_lt, zI_eq, zI_in, zI_nat, Option.bind_some, lt9, hq, Int.add_zero, Int.sub_self, true_or, or_true, true_and, and_true, false_or, or_false, Int.cast_ofNat_Int, ↓reduceIte, l18, if_pos, if_neg]; rfl
  by_cases c5 : k = 5
  · subst c5; simp (disch := omega) only [l0, l1, l2, l3, l4, l5, l6, l7, l8, l10, l12, l16, l20, l24, l26, l40, l64, l80, l100, l255, l256, l288, l312, l400, l992, l1940, l24980, l25240, xI, xL, xR, zI_neg, zI_add, zI_sub, zI_mul, zI_le, zI_lt, zI_eq, zI_in, zI_nat, Option.bind_some, lt9, hq, Int.add_zero, Int.sub_self, true_or, or_true, true_and, and_true, false_or, or_false, Int.cast_ofNat_Int, ↓reduceIte, l19, if_pos, if_neg]; rfl
  by_cases c6 : k = 6
  · subst c6; simp (disch := omega) only [l0, l1, l2, l3, l4, l5, l6, l7, l8, l10, l12, l16, l20, l24, l26, l40, l64, l80, l100, l255, l256, l288, l312, l400, l992, l1940, l24980, l25240, xI, xL, xR, zI_neg, zI_add, zI_sub, zI_mul, zI_le, zI_lt, zI_eq, zI_in, zI_nat, Option.bind_some, lt9, hq, Int.add_zero, Int.sub_self, true_or, or_true, true_and, and_true, false_or, or_false, Int.cast_ofNat_Int, ↓reduceIte, if_pos, if_neg]; rfl
  by_cases c7 : k = 7
  · subst c7
    rcases ho.2.1 with hf | hf
    · rw [hf] at h504 ⊢; simp (disch := omega) only [l0, l1, l2, l3, l4, l5, l6, l7, l8, l10, l12, l16, l20, l24, l26, l40, l64, l80, l100, l255, l256, l288, l312, l400, l992, l1940, l24980, l25240, xI, xL, xR, zI_neg, zI_add, zI_sub, zI_mul, zI_le, zI_lt, zI_eq, zI_in, zI_nat, Option.bind_some, lt9, hq, Int.add_zero, Int.sub_self, true_or, or_true, true_and, and_true, false_or, or_false, Int.cast_ofNat_Int, ↓reduceIte, h504, if_pos, if_neg]; rfl
    · rw [hf] at h504 ⊢; simp (disch := omega) only [l0, l1, l2, l3, l4, l5, l6, l7, l8, l10, l12, l16, l20, l24, l26, l40, l64, l80, l100, l255, l256, l288, l312, l400, l992, l1940, l24980, l25240, xI, xL, xR, zI_neg, zI_add, zI_sub, zI_mul, zI_le, zI_lt, zI_eq, zI_in, zI_nat, Option.bind_some, lt9, hq, Int.add_zero, Int.sub_self, true_or, or_true, true_and, and_true, false_or, or_false, Int.cast_ofNat_Int, ↓reduceIte, h504, if_pos, if_neg]; rfl
  · simp (disch := omega) only [l0, l1, l2, l3, l4, l5, l6, l7, l8, l10, l12, l16, l20, l24, l26, l40, l64, l80, l100, l255, l256, l288, l312, l400, l992, l1940, l24980, l25240, xI, xL, xR, zI_neg, zI_add, zI_sub, zI_mul, zI_le, zI_lt, zI_eq, zI_in, zI_nat, Option.bind_some, lt9, hq, Int.add_zero, Int.sub_self, true_or, or_true, true_and, and_true, false_or, or_false, Int.cast_ofNat_Int, ↓reduceIte, if_pos, if_neg]; rfl
theorem eV_count {σ : hT} {s : zT} {g : Nat} (hS : CaS σ s g) (ho : okS s) {k : Int} (hk : i32 k) {n : Nat} (hn : 993 ≤ n) : ClsN (qCnt s k) s g σ (V_count n σ (zI k)) := by
  obtain ⟨k1, k2⟩ := hk
  have hC := hS.1
  obtain ⟨g0, g1, g2, g3, g4, g5⟩ := hS.2.2
  obtain ⟨σ1, q1, q2⟩ := eV_chunksKept2 hC ho.1 hn
  have eb := eV_baselinesMade2 hC (n := n) (by omega)
  by_cases c2 : k = 2
  · subst c2
    refine ⟨σ1, ?_, hS.fr q2.v (fun f a b => q2.2.2 f 0 (by omega) (by omega)), fun f j z => q2.2.2 f j (by omega) (by omega)⟩
    unfold V_count qCnt
    simp (disch := omega) only [l0, l1, l2, l3, l4, l5, l6, l7, l8, l10, l12, l16, l20, l24, l26, l40, l64, l80, l100, l255, l256, l288, l312, l400, l992, l1940, l24980, l25240, xI, xL, xR, zI_neg, zI_add, zI_sub, zI_mul, zI_le, zI_lt, zI_eq, zI_in, zI_nat, Option.bind_some, lt9, hq, Int.add_zero, Int.sub_self, true_or, or_true, true_and, and_true, false_or, or_false, Int.cast_ofNat_Int, ↓reduceIte, q1, if_pos, if_neg]
  · refine ⟨σ, ?_, hS, fun _ _ _ => rfl⟩
    unfold V_count qCnt
    by_cases c0 : k = 0
    · subst c0; simp (disch := omega) only [l0, l1, l2, l3, l4, l5, l6, l7, l8, l10, l12, l16, l20, l24, l26, l40, l64, l80, l100, l255, l256, l288, l312, l400, l992, l1940, l24980, l25240, xI, xL, xR, zI_neg, zI_add, zI_sub, zI_mul, zI_le, zI_lt, zI_eq, zI_in, zI_nat, Option.bind_some, lt9, hq, Int.add_zero, Int.sub_self, true_or, or_true, true_and, and_true, false_or, or_false, Int.cast_ofNat_Int, ↓reduceIte, hC.2.1, if_pos, if_neg]
    by_cases c1 : k = 1
    · subst c1; simp (disch := omega) only [l0, l1, l2, l3, l4, l5, l6, l7, l8, l10, l12, l16, l20, l24, l26, l40, l64, l80, l100, l255, l256, l288, l312, l400, l992, l1940, l24980, l25240, xI, xL, xR, zI_neg, zI_add, zI_sub, zI_mul, zI_le, zI_lt, zI_eq, zI_in, zI_nat, Option.bind_some, lt9, hq, Int.add_zero, Int.sub_self, true_or, or_true, true_and, and_true, false_or, or_false, Int.cast_ofNat_Int, ↓reduceIte, hC.2.2.1, if_pos, if_neg]
    by_cases c3 : k = 3
    · subst c3; simp (disch := omega) only [l0, l1, l2, l3, l4, l5, l6, l7, l8, l10, l12, l16, l20, l24, l26, l40, l64, l80, l100, l255, l256, l288, l312, l400, l992, l1940, l24980, l25240, xI, xL, xR, zI_neg, zI_add, zI_sub, zI_mul, zI_le, zI_lt, zI_eq, zI_in, zI_nat, Option.bind_some, lt9, hq, Int.add_zero, Int.sub_self, true_or, or_true, true_and, and_true, false_or, or_false, Int.cast_ofNat_Int, ↓reduceIte, g0, if_pos, if_neg]
    by_cases c4 : k = 4
    · subst c4; simp (disch := omega) only [l0, l1, l2, l3, l4, l5, l6, l7, l8, l10, l12, l16, l20, l24, l26, l40, l64, l80, l100, l255, l256, l288, l312, l400, l992, l1940, l24980, l25240, xI, xL, xR, zI_neg, zI_add, zI_sub, zI_mul, zI_le, zI_lt, zI_eq, zI_in, zI_nat, Option.bind_some, lt9, hq, Int.add_zero, Int.sub_self, true_or, or_true, true_and, and_true, false_or, or_false, Int.cast_ofNat_Int, ↓reduceIte, g1, if_pos, if_neg]
    by_cases c5 : k = 5
    · subst c5; simp (disch := omega) only [l0, l1, l2, l3, l4, l5, l6, l7, l8, l10, l12, l16, l20, l24, l26, l40, l64, l80, l100, l255, l256, l288, l312, l400, l992, l1940, l24980, l25240, xI, xL, xR, zI_neg, zI_add, zI_sub, zI_mul, zI_le, zI_lt, zI_eq, zI_in, zI_nat, Option.bind_some, lt9, hq, Int.add_zero, Int.sub_self, true_or, or_true, true_and, and_true, false_or, or_false, Int.cast_ofNat_Int, ↓reduceIte, g2, if_pos, if_neg]
    by_cases c6 : k = 6
    · subst c6; simp (disch := omega) only [l0, l1, l2, l3, l4, l5, l6, l7, l8, l10, l12, l16, l20, l24, l26, l40, l64, l80, l100, l255, l256, l288, l312, l400, l992, l1940, l24980, l25240, xI, xL, xR, zI_neg, zI_add, zI_sub, zI_mul, zI_le, zI_lt, zI_eq, zI_in, zI_nat, Option.bind_some, lt9, hq, Int.add_zero, Int.sub_self, true_or, or_true, true_and, and_true, false_or, or_false, Int.cast_ofNat_Int, ↓reduceIte, eb, if_pos, if_neg]
    by_cases c7 : k = 7
    · subst c7
      rcases ho.2.1 with hf | hf
      · rw [hf] at g3 ⊢; simp (disch := omega) only [l0, l1, l2, l3, l4, l5, l6, l7, l8, l10, l12, l16, l20, l24, l26, l40, l64, l80, l100, l255, l256, l288, l312, l400, l992, l1940, l24980, l25240, xI, xL, xR, zI_neg, zI_add, zI_sub, zI_mul, zI_le, zI_lt, zI_eq, zI_in, zI_nat, Option.bind_some, lt9, hq, Int.add_zero, Int.sub_self, true_or, or_true, true_and, and_true, false_or, or_false, Int.cast_ofNat_Int, ↓reduceIte, g3, if_pos, if_neg]
      · rw [hf] at g3 ⊢; simp (disch := omega) only [l0, l1, l2, l3, l4, l5, l6, l7, l8, l10, l12, l16, l20, l24, l26, l40, l64, l80, l100, l255, l256, l288, l312, l400, l992, l1940, l24980, l25240, xI, xL, xR, zI_neg, zI_add, zI_sub, zI_mul, zI_le, zI_lt, zI_eq, zI_in, zI_nat, Option.bind_some, lt9, hq, Int.add_zero, Int.sub_self, true_or, or_true, true_and, and_true, false_or, or_false, Int.cast_ofNat_Int, ↓reduceIte, g3, if_pos, if_neg]
    · simp (disch := omega) only [l0, l1, l2, l3, l4, l5, l6, l7, l8, l10, l12, l16, l20, l24, l26, l40, l64, l80, l100, l255, l256, l288, l312, l400, l992, l1940, l24980, l25240, xI, xL, xR, zI_neg, zI_add, zI_sub, zI_mul, zI_le, zI_lt, zI_eq, zI_in, zI_nat, Option.bind_some, lt9, hq, Int.add_zero, Int.sub_self, true_or, or_true, true_and, and_true, false_or, or_false, Int.cast_ofNat_Int, ↓reduceIte, if_pos, if_neg]
