noncomputable def cmF (v : Int → Int) (s0 e : Int) : Int := @dite _ (∃ r : Int, 0 ≤ r ∧ r < 12 ∧ rch v s0 (12 * e + r)) (Classical.propDecidable _) (fun h => Classical.choose h) (fun _ => -1)
theorem cmF_ok (v : Int → Int) (s0 : Int) : cmOk v s0 (cmF v s0) := by
  intro e a b
  unfold cmF
  by_cases h : ∃ r : Int, 0 ≤ r ∧ r < 12 ∧ rch v s0 (12 * e + r)
  · right
    rw [dif_pos h]
    exact Classical.choose_spec h
  · left
    rw [dif_neg h]
    refine ⟨rfl, fun s x y z w => h ⟨s % 12, by omega, by omega, ?_⟩⟩
    rw [show 12 * e + s % 12 = s by omega]; exact w
theorem cmF_eq {v : Int → Int} {s0 : Int} {c : Int → Int} (hc : cmOk v s0 c) (hp : ¬ prtR v s0) (e : Int) (h0 : 0 ≤ e) (h1 : e < 24) : c e = cmF v s0 e := by
  rcases hc e h0 h1 with ⟨a1, a2⟩ | ⟨a1, a2, a3⟩ <;> rcases cmF_ok v s0 e h0 h1 with ⟨b1, b2⟩ | ⟨b1, b2, b3⟩
  · rw [a1, b1]
  · exact absurd b3 (a2 _ (by omega) (by omega) (by omega))
  · exact absurd a3 (b2 _ (by omega) (by omega) (by omega))
  · apply Classical.byContradiction
    intro hne
    apply hp
    rcases (show c e < cmF v s0 e ∨ cmF v s0 e < c e by omega) with h | h
    · exact ⟨_, _, by omega, by omega, by omega, by omega, a3, b3⟩
    · exact ⟨_, _, by omega, by omega, by omega, by omega, b3, a3⟩
theorem cmF_rng (v : Int → Int) (s0 e : Int) : -1 ≤ cmF v s0 e ∧ cmF v s0 e < 12 := by
  unfold cmF
  by_cases h : ∃ r : Int, 0 ≤ r ∧ r < 12 ∧ rch v s0 (12 * e + r)
  · rw [dif_pos h]
    have := Classical.choose_spec h
    omega
  · rw [dif_neg h]; omega
def cntC (c : Int → Int) : Nat → Int
  | 0 => 0
  | n + 1 => cntC c n + if c n < 0 then 0 else 1
theorem cntC_rng (c : Int → Int) (n : Nat) : 0 ≤ cntC c n ∧ cntC c n ≤ n := by
  induction n with
  | zero => exact ⟨Int.le_refl _, Int.le_refl _⟩
  | succ n ih => unfold cntC; split <;> omega
theorem cntC_c {c c' : Int → Int} (n : Nat) (h : ∀ e : Int, 0 ≤ e → e < n → c e = c' e) : cntC c n = cntC c' n := by
  induction n with
  | zero => rfl
  | succ n ih => unfold cntC; rw [ih (fun e a b => h e a (by omega)), h n (by omega) (by omega)]
theorem eM_bas_L156 {n : Nat} {c : Int → Int} {σ : hT} (hc : cmR σ c) (hr : ∀ e, 0 ≤ e → e < 24 → -1 ≤ c e ∧ c e < 12) (x1 x2 x4 x5 x6 : Int32) (kx : hT → Int32 → Int32 → Int32 → Int32 → Int32 → Int32 → Int32 → Option (Int32 × hT)) (K : Nat) : ∀ (i : Nat), i ≤ 24 → 24 - i < K →
    M_baseline_L156 n kx K σ (zI i) x1 x2 (zI (cntC c i)) x4 x5 x6 = kx σ (zI 24) x1 x2 (zI (cntC c 24)) x4 x5 x6 := by
  induction K with
  | zero => intro i _ h; omega
  | succ K ih =>
    intro i hi hK
    by_cases hx : 24 ≤ i
    · obtain rfl : i = 24 := by omega
      unfold M_baseline_L156
      simp (disch := omega) only [l0, l1, l2, l3, l4, l5, l6, l7, l8, l10, l12, l16, l20, l24, l26, l40, l64, l80, l100, l255, l256, l288, l312, l400, l992, l1940, l24980, l25240, xI, xL, xR, zI_neg, zI_add, zI_sub, zI_mul, zI_le, zI_lt, zI_eq, zI_in, zI_nat, Option.bind_some, lt9, hq, Int.add_zero, Int.sub_self, true_or, or_true, true_and, and_true, false_or, or_false, Int.cast_ofNat_Int, ↓reduceIte, if_pos, if_neg]
    · have q := ih (i + 1) (by omega) (by omega)
      rw [← q]
      conv => lhs; unfold M_baseline_L156
      have h1 := hc i (by omega) (by omega)
      have h2 := hr i (by omega) (by omega)
      simp only [Int.toNat_natCast] at h1
      simp only [cntC]
      by_cases hb : c i < 0
      · simp (disch := omega) only [l0, l1, l2, l3, l4, l5, l6, l7, l8, l10, l12, l16, l20, l24, l26, l40, l64, l80, l100, l255, l256, l288, l312, l400, l992, l1940, l24980, l25240, xI, xL, xR, zI_neg, zI_add, zI_sub, zI_mul, zI_le, zI_lt, zI_eq, zI_in, zI_nat, Option.bind_some, lt9, hq, Int.add_zero, Int.sub_self, true_or, or_true, true_and, and_true, false_or, or_false, Int.cast_ofNat_Int, ↓reduceIte, h1, Int.toNat_natCast, if_pos, if_neg]
        rfl
      · simp (disch := omega) only [l0, l1, l2, l3, l4, l5, l6, l7, l8, l10, l12, l16, l20, l24, l26, l40, l64, l80, l100, l255, l256, l288, l312, l400, l992, l1940, l24980, l25240, xI, xL, xR, zI_neg, zI_add, zI_sub, zI_mul, zI_le, zI_lt, zI_eq, zI_in, zI_nat, Option.bind_some, lt9, hq, Int.add_zero, Int.sub_self, true_or, or_true, true_and, and_true, false_or, or_false, Int.cast_ofNat_Int, ↓reduceIte, h1, Int.toNat_natCast, if_pos, if_neg]
        rfl
def basOk (v : Int → Int) (b d : Int) : Prop := (0 ≤ b ∧ b < 10) ∧ (0 ≤ d ∧ d < v 16) ∧ v (24980 + 26 * b) ≤ 0 ∧ 0 ≤ rel v d ∧ ¬ prtR v (12 * d + rel v d) ∧ ¬ opnR v (12 * d + rel v d)
def rM_baseline (n : Nat) (a1 : Int32) (a2 : Int32) (q26 : Int32) (q27 : Int32) (q28 : Int32) (q29 : Int32) (q30 : Int32) (σ63 : hT) (y62 : Int32) : Option (Int32 × hT) := if y62 = 0 then if (xI σ63 500 0 0) ≤ 0 then some ((-1), σ63) else some (0, σ63) else if in9 (M_baselineAt q29) 25240 then lt9 (sI σ63 15 0 ((M_baselineAt q29)).toNatClampNeg 1) fun σ67 => if in9 ((M_baselineAt q29) + 1) 25240 then lt9 (sI σ67 15 0 (((M_baselineAt q29) + 1)).toNatClampNeg q26) fun σ71 => lt9 (α := hT → Int32 → Int32 → Int32 → Int32 → Int32 → Int32 → Int32 → Option (Int32 × hT)) (fun (σ74 : hT) (p75 : Int32) (p76 : Int32) (p77 : Int32) (p78 : Int32) (p79 : Int32) (p80 : Int32) (p81 : Int32) => Option.bind (M_close n σ74) fun ⟨y93, σ94⟩ => some (p77, σ94)) fun kx82 => M_baseline_L247 n kx82 n (σ71) 0 (M_baselineAt q29) q26 q27 q28 q29 q30 else none else none
theorem dM_baseline {n : Nat} {σ : hT} {a1 : Int32} {a2 : Int32} : M_baseline n σ a1 a2 = lt9 (α := Int32 → Option (Int32 × hT)) (fun (s2 : Int32) => lt9 (α := Int32 → Option (Int32 × hT)) (fun (s6 : Int32) => lt9 (α := Int32 → Option (Int32 × hT)) (fun (s12 : Int32) => Option.bind (M_isDrawing σ a2) fun y23 => lt9 (α := hT → Int32 → Int32 → Int32 → Int32 → Int32 → Option (Int32 × hT)) (fun (σ25 : hT) (q26 : Int32) (q27 : Int32) (q28 : Int32) (q29 : Int32) (q30 : Int32) => Option.bind (M_may σ25 q27 (1 + (M_parts q26))) (fun q9 => rM_baseline n a1 a2 q26 q27 q28 q29 q30 q9.2 q9.1)) fun x24 => if y23 = 0 then x24 (σ) 0 (M_least s12 2 (M_least s6 7 0)) s2 a1 a2 else Option.bind (M_released n σ a2) fun y33 => lt9 (α := Int32 → Option (Int32 × hT)) (fun (s35 : Int32) => lt9 (α := Int32 → Option (Int32 × hT)) (fun (s38 : Int32) => if s35 = 0 then x24 (σ) 0 (M_least s38 2 (M_least s12 2 (M_least s6 7 0))) s2 a1 a2 else Option.bind (M_reach n σ a2) fun ⟨y42, σ43⟩ => lt9 (α := hT → Int32 → Int32 → Int32 → Int32 → Int32 → Int32 → Int32 → Option (Int32 × hT)) (fun (σ46 : hT) (p47 : Int32) (p48 : Int32) (p49 : Int32) (p50 : Int32) (p51 : Int32) (p52 : Int32) (p53 : Int32) => x24 (σ46) p50 p48 p51 p52 p53) fun kx54 => M_baseline_L156 n kx54 n (σ43) 0 (M_least (xI σ43 508 0 0) 2 (M_least (xI σ43 509 0 0) 4 (M_least s38 2 (M_least s12 2 (M_least s6 7 0))))) s35 0 s2 a1 a2) fun x37 => if s35 = 0 then x37 1 else x37 0) fun x34 => if y33 < 0 then x34 0 else x34 1) fun x11 => if s2 = 0 then x11 0 else lt9 (α := Int32 → Option (Int32 × hT)) (fun (s16 : Int32) => if in9 (M_baselineAt s16) 25240 then if (xI σ 15 0 ((M_baselineAt s16)).toNatClampNeg) ≤ 0 then x11 0 else x11 1 else none) fun x15 => if s2 = 0 then x15 0 else x15 a1) fun x5 => if s2 = 0 then x5 1 else Option.bind (M_isDrawing σ a2) fun y9 => if y9 = 0 then x5 1 else x5 0) fun x1 => if a1 < 0 then x1 0 else if 10 ≤ a1 then x1 0 else x1 1 := rfl
theorem lst0 {b c : Int32} : M_least (zI 0) b c = c := by unfold M_least; rw [l0, if_pos rfl]
theorem lst1 {b : Int32} : M_least (zI 1) b (zI 0) = b := by unfold M_least; rfl
def bT (n : Nat) (σ : hT) (a1 a2 : Int32) (G : hT → Int32 → Int32 → Int32 → Int32 → Int32 → Option (Int32 × hT)) (s2 s6 s12 : Int32) : Option (Int32 × hT) := Option.bind (M_isDrawing σ a2) fun y23 => lt9 (α := hT → Int32 → Int32 → Int32 → Int32 → Int32 → Option (Int32 × hT)) G fun x24 => if y23 = 0 then x24 (σ) 0 (M_least s12 2 (M_least s6 7 0)) s2 a1 a2 else Option.bind (M_released n σ a2) fun y33 => lt9 (α := Int32 → Option (Int32 × hT)) (fun (s35 : Int32) => lt9 (α := Int32 → Option (Int32 × hT)) (fun (s38 : Int32) => if s35 = 0 then x24 (σ) 0 (M_least s38 2 (M_least s12 2 (M_least s6 7 0))) s2 a1 a2 else Option.bind (M_reach n σ a2) fun ⟨y42, σ43⟩ => lt9 (α := hT → Int32 → Int32 → Int32 → Int32 → Int32 → Int32 → Int32 → Option (Int32 × hT)) (fun (σ46 : hT) (p47 : Int32) (p48 : Int32) (p49 : Int32) (p50 : Int32) (p51 : Int32) (p52 : Int32) (p53 : Int32) => x24 (σ46) p50 p48 p51 p52 p53) fun kx54 => M_baseline_L156 n kx54 n (σ43) 0 (M_least (xI σ43 508 0 0) 2 (M_least (xI σ43 509 0 0) 4 (M_least s38 2 (M_least s12 2 (M_least s6 7 0))))) s35 0 s2 a1 a2) fun x37 => if s35 = 0 then x37 1 else x37 0) fun x34 => if y33 < 0 then x34 0 else x34 1
def bO (σ : hT) (a1 a2 : Int32) (T : Int32 → Int32 → Int32 → Option (Int32 × hT)) : Option (Int32 × hT) := lt9 (α := Int32 → Option (Int32 × hT)) (fun (s2 : Int32) => lt9 (α := Int32 → Option (Int32 × hT)) (fun (s6 : Int32) => lt9 (α := Int32 → Option (Int32 × hT)) (fun (s12 : Int32) => T s2 s6 s12) fun x11 => if s2 = 0 then x11 0 else lt9 (α := Int32 → Option (Int32 × hT)) (fun (s16 : Int32) => if in9 (M_baselineAt s16) 25240 then if (xI σ 15 0 ((M_baselineAt s16)).toNatClampNeg) ≤ 0 then x11 0 else x11 1 else none) fun x15 => if s2 = 0 then x15 0 else x15 a1) fun x5 => if s2 = 0 then x5 1 else Option.bind (M_isDrawing σ a2) fun y9 => if y9 = 0 then x5 1 else x5 0) fun x1 => if a1 < 0 then x1 0 else if 10 ≤ a1 then x1 0 else x1 1
theorem ebO {σ : hT} {v : Int → Int} (hN : mN σ v) (hw : wf v) {b d : Int} (hb : i32 b) (hd : i32 d) (T : Int32 → Int32 → Int32 → Option (Int32 × hT)) : bO σ (zI b) (zI d) T = T (zI (if 0 ≤ b ∧ b < 10 then 1 else 0)) (zI (if (0 ≤ b ∧ b < 10) ∧ 0 ≤ d ∧ d < v 16 then 0 else 1)) (zI (if (0 ≤ b ∧ b < 10) ∧ ¬ v (24980 + 26 * b) ≤ 0 then 1 else 0)) := by
  obtain ⟨hb1, hb2⟩ := hb
  have eD := eM_isDrawing hN hw hd.1 hd.2
  unfold bO
  by_cases hB : 0 ≤ b ∧ b < 10
  · have hwB := (hw.2.2.2.2.2 b hB.1 hB.2).1
    by_cases hD : 0 ≤ d ∧ d < v 16
    · rw [if_pos hD] at eD
      by_cases hv : v (24980 + 26 * b) ≤ 0
      · rw [if_pos hB, if_pos (show (0 ≤ b ∧ b < 10) ∧ 0 ≤ d ∧ d < v 16 from ⟨hB, hD⟩), if_neg (show ¬ ((0 ≤ b ∧ b < 10) ∧ ¬ v (24980 + 26 * b) ≤ 0) from fun z => z.2 hv)]
        simp (disch := omega) only [l0, l1, l2, l3, l4, l5, l6, l7, l8, l10, l12, l16, l20, l24, l26, l40, l64, l80, l100, l255, l256, l288, l312, l400, l992, l1940, l24980, l25240, xI, xL, xR, zI_neg, zI_add, zI_sub, zI_mul, zI_le, zI_lt, zI_eq, zI_in, zI_nat, Option.bind_some, lt9, hq, Int.add_zero, Int.sub_self, true_or, or_true, true_and, and_true, false_or, or_false, Int.cast_ofNat_Int, ↓reduceIte, eD, eM_baselineAt, hN _, if_pos, if_neg]
      · rw [if_pos hB, if_pos (show (0 ≤ b ∧ b < 10) ∧ 0 ≤ d ∧ d < v 16 from ⟨hB, hD⟩), if_pos (show (0 ≤ b ∧ b < 10) ∧ ¬ v (24980 + 26 * b) ≤ 0 from ⟨hB, hv⟩)]
        simp (disch := omega) only [l0, l1, l2, l3, l4, l5, l6, l7, l8, l10, l12, l16, l20, l24, l26, l40, l64, l80, l100, l255, l256, l288, l312, l400, l992, l1940, l24980, l25240, xI, xL, xR, zI_neg, zI_add, zI_sub, zI_mul, zI_le, zI_lt, zI_eq, zI_in, zI_nat, Option.bind_some, lt9, hq, Int.add_zero, Int.sub_self, true_or, or_true, true_and, and_true, false_or, or_false, Int.cast_ofNat_Int, ↓reduceIte, eD, eM_baselineAt, hN _, if_pos, if_neg]
    · rw [if_neg hD] at eD
      by_cases hv : v (24980 + 26 * b) ≤ 0
      · rw [if_pos hB, if_neg (show ¬ ((0 ≤ b ∧ b < 10) ∧ 0 ≤ d ∧ d < v 16) from fun z => hD z.2), if_neg (show ¬ ((0 ≤ b ∧ b < 10) ∧ ¬ v (24980 + 26 * b) ≤ 0) from fun z => z.2 hv)]
        simp (disch := omega) only [l0, l1, l2, l3, l4, l5, l6, l7, l8, l10, l12, l16, l20, l24, l26, l40, l64, l80, l100, l255, l256, l288, l312, l400, l992, l1940, l24980, l25240, xI, xL, xR, zI_neg, zI_add, zI_sub, zI_mul, zI_le, zI_lt, zI_eq, zI_in, zI_nat, Option.bind_some, lt9, hq, Int.add_zero, Int.sub_self, true_or, or_true, true_and, and_true, false_or, or_false, Int.cast_ofNat_Int, ↓reduceIte, eD, eM_baselineAt, hN _, if_pos, if_neg]
      · rw [if_pos hB, if_neg (show ¬ ((0 ≤ b ∧ b < 10) ∧ 0 ≤ d ∧ d < v 16) from fun z => hD z.2), if_pos (show (0 ≤ b ∧ b < 10) ∧ ¬ v (24980 + 26 * b) ≤ 0 from ⟨hB, hv⟩)]
        simp (disch := omega) only [l0, l1, l2, l3, l4, l5, l6, l7, l8, l10, l12, l16, l20, l24, l26, l40, l64, l80, l100, l255, l256, l288, l312, l400, l992, l1940, l24980, l25240, xI, xL, xR, zI_neg, zI_add, zI_sub, zI_mul, zI_le, zI_lt, zI_eq, zI_in, zI_nat, Option.bind_some, lt9, hq, Int.add_zero, Int.sub_self, true_or, or_true, true_and, and_true, false_or, or_false, Int.cast_ofNat_Int, ↓reduceIte, eD, eM_baselineAt, hN _, if_pos, if_neg]
  · rw [if_neg hB, if_neg (show ¬ ((0 ≤ b ∧ b < 10) ∧ 0 ≤ d ∧ d < v 16) from fun z => hB z.1), if_neg (show ¬ ((0 ≤ b ∧ b < 10) ∧ ¬ v (24980 + 26 * b) ≤ 0) from fun z => hB z.1)]
    by_cases hb0 : b < 0
    · simp (disch := omega) only [l0, l1, l2, l3, l4, l5, l6, l7, l8, l10, l12, l16, l20, l24, l26, l40, l64, l80, l100, l255, l256, l288, l312, l400, l992, l1940, l24980, l25240, xI, xL, xR, zI_neg, zI_add, zI_sub, zI_mul, zI_le, zI_lt, zI_eq, zI_in, zI_nat, Option.bind_some, lt9, hq, Int.add_zero, Int.sub_self, true_or, or_true, true_and, and_true, false_or, or_false, Int.cast_ofNat_Int, ↓reduceIte, if_pos, if_neg]
    · simp (disch := omega) only [l0, l1, l2, l3, l4, l5, l6, l7, l8, l10, l12, l16, l20, l24, l26, l40, l64, l80, l100, l255, l256, l288, l312, l400, l992, l1940, l24980, l25240, xI, xL, xR, zI_neg, zI_add, zI_sub, zI_mul, zI_le, zI_lt, zI_eq, zI_in, zI_nat, Option.bind_some, lt9, hq, Int.add_zero, Int.sub_self, true_or, or_true, true_and, and_true, false_or, or_false, Int.cast_ofNat_Int, ↓reduceIte, if_pos, if_neg]
theorem kM_baseline {σ : hT} {v : Int → Int} (hN : mN σ v) (hw : wf v) {b d : Int} (hb : i32 b) (hd : i32 d) {n : Nat} (hn : 290 ≤ n) :
    ∃ σ1 why many x, M_baseline n σ (zI b) (zI d) = Option.bind (M_may σ1 (zI why) (zI (1 + (many + 7) / 8))) (fun q9 => rM_baseline n (zI b) (zI d) (zI many) (zI why) x (zI b) (zI d) q9.2 q9.1) ∧ mN σ1 v ∧ fr pRch σ σ1 ∧ 0 ≤ why ∧ why ≤ 8 ∧ (basOk v b d ↔ why = 0) ∧ 0 ≤ many ∧ many ≤ 24 ∧ (basOk v b d → cmR σ1 (cmF v (12 * d + rel v d)) ∧ many = cntC (cmF v (12 * d + rel v d)) 24) := by
  obtain ⟨hb1, hb2⟩ := hb
  obtain ⟨hd1, hd2⟩ := hd
  have h16 := hw.1
  have eD := eM_isDrawing hN hw hd1 hd2
  suffices H : ∃ σ1 why many x, (∀ G : hT → Int32 → Int32 → Int32 → Int32 → Int32 → Option (Int32 × hT), (lt9 (α := Int32 → Option (Int32 × hT)) (fun (s2 : Int32) => lt9 (α := Int32 → Option (Int32 × hT)) (fun (s6 : Int32) => lt9 (α := Int32 → Option (Int32 × hT)) (fun (s12 : Int32) => Option.bind (M_isDrawing σ (zI d)) fun y23 => lt9 (α := hT → Int32 → Int32 → Int32 → Int32 → Int32 → Option (Int32 × hT)) G fun x24 => if y23 = 0 then x24 (σ) 0 (M_least s12 2 (M_least s6 7 0)) s2 (zI b) (zI d) else Option.bind (M_released n σ (zI d)) fun y33 => lt9 (α := Int32 → Option (Int32 × hT)) (fun (s35 : Int32) => lt9 (α := Int32 → Option (Int32 × hT)) (fun (s38 : Int32) => if s35 = 0 then x24 (σ) 0 (M_least s38 2 (M_least s12 2 (M_least s6 7 0))) s2 (zI b) (zI d) else Option.bind (M_reach n σ (zI d)) fun ⟨y42, σ43⟩ => lt9 (α := hT → Int32 → Int32 → Int32 → Int32 → Int32 → Int32 → Int32 → Option (Int32 × hT)) (fun (σ46 : hT) (p47 : Int32) (p48 : Int32) (p49 : Int32) (p50 : Int32) (p51 : Int32) (p52 : Int32) (p53 : Int32) => x24 (σ46) p50 p48 p51 p52 p53) fun kx54 => M_baseline_L156 n kx54 n (σ43) 0 (M_least (xI σ43 508 0 0) 2 (M_least (xI σ43 509 0 0) 4 (M_least s38 2 (M_least s12 2 (M_least s6 7 0))))) s35 0 s2 (zI b) (zI d)) fun x37 => if s35 = 0 then x37 1 else x37 0) fun x34 => if y33 < 0 then x34 0 else x34 1) fun x11 => if s2 = 0 then x11 0 else lt9 (α := Int32 → Option (Int32 × hT)) (fun (s16 : Int32) => if in9 (M_baselineAt s16) 25240 then if (xI σ 15 0 ((M_baselineAt s16)).toNatClampNeg) ≤ 0 then x11 0 else x11 1 else none) fun x15 => if s2 = 0 then x15 0 else x15 (zI b)) fun x5 => if s2 = 0 then x5 1 else Option.bind (M_isDrawing σ (zI d)) fun y9 => if y9 = 0 then x5 1 else x5 0) fun x1 => if (zI b) < 0 then x1 0 else if 10 ≤ (zI b) then x1 0 else x1 1) = G σ1 (zI many) (zI why) x (zI b) (zI d)) ∧ mN σ1 v ∧ fr pRch σ σ1 ∧ 0 ≤ why ∧ why ≤ 8 ∧ (basOk v b d ↔ why = 0) ∧ 0 ≤ many ∧ many ≤ 24 ∧ (basOk v b d → cmR σ1 (cmF v (12 * d + rel v d)) ∧ many = cntC (cmF v (12 * d + rel v d)) 24) by
    obtain ⟨σ1, why, many, x, hG, h2⟩ := H
    refine ⟨σ1, why, many, x, ?_, h2⟩
    rw [dM_baseline]
    refine (hG _).trans ?_
    rw [eM_parts h2.2.2.2.2.2.1 (by have := h2.2.2.2.2.2.2.1; omega), l1, zI_add]
  by_cases hB : 0 ≤ b ∧ b < 10
  · have hwB := (hw.2.2.2.2.2 b hB.1 hB.2).1
    by_cases hD : 0 ≤ d ∧ d < v 16
    · rw [if_pos hD] at eD
      have hm := (hw.2.2.2.1 d hD.1 hD.2).1
      have hrr := rel_rng hw hD.1 hD.2
      have eR := eM_released hN hw hD.1 hD.2 (show 13 ≤ n by omega)
      by_cases hr : 0 ≤ rel v d
      · obtain ⟨σ1, c, p, o, a1, a2, a3, a4, a5, a6, a7, a8, a9, a10, a11⟩ := eM_reach hN hw hD.1 hD.2 hr hn
        have hcr : ∀ e, 0 ≤ e → e < 24 → -1 ≤ c e ∧ c e < 12 := fun e x y => by rcases a9 e x y with ⟨z, -⟩ | ⟨z1, z2, -⟩ <;> omega
        have hcn := cntC_rng c 24
        have hl := fun x1 x2 x4 x5 x6 kx => eM_bas_L156 (n := n) a3 hcr x1 x2 x4 x5 x6 kx n 0 (by omega) (by omega)
        have hgood : basOk v b d → cmR σ1 (cmF v (12 * d + rel v d)) ∧ cntC c 24 = cntC (cmF v (12 * d + rel v d)) 24 := fun z => by
          have he := fun e x y => cmF_eq a9 z.2.2.2.2.1 e x y
          exact ⟨fun k x y => by rw [a3 k x y, he k x y], cntC_c 24 (fun e x y => he e x (by omega))⟩
        by_cases hv : v (24980 + 26 * b) ≤ 0
        · obtain ⟨x1, e1, e2, e3, e4⟩ := lst (a := o) (b := 4) (c := 0) a7 (by omega) (by omega)
          obtain ⟨x2, f1, f2, f3, f4⟩ := lst (a := p) (b := 2) (c := x1) a5 (by omega) (by omega)
          refine ⟨σ1, x2, cntC c 24, zI 1, fun G => ?_, a2, a8, f2, f3, ?_, hcn.1, hcn.2, hgood⟩
          · show bO σ (zI b) (zI d) (bT n σ (zI b) (zI d) G) = _
            rw [ebO hN hw ⟨hb1, hb2⟩ ⟨hd1, hd2⟩, if_pos hB, if_pos (show (0 ≤ b ∧ b < 10) ∧ 0 ≤ d ∧ d < v 16 from ⟨hB, hD⟩), if_neg (show ¬ ((0 ≤ b ∧ b < 10) ∧ ¬ v (24980 + 26 * b) ≤ 0) from fun z => z.2 hv)]
            unfold bT
            simp (disch := omega) only [l0, l1, l2, l3, l4, l5, l6, l7, l8, l10, l12, l16, l20, l24, l26, l40, l64, l80, l100, l255, l256, l288, l312, l400, l992, l1940, l24980, l25240, xI, xL, xR, zI_neg, zI_add, zI_sub, zI_mul, zI_le, zI_lt, zI_eq, zI_in, zI_nat, Option.bind_some, lt9, hq, Int.add_zero, Int.sub_self, true_or, or_true, true_and, and_true, false_or, or_false, Int.cast_ofNat_Int, ↓reduceIte, eD, eM_baselineAt, hN _, eR, a1, lst0, a4, a6, if_pos, if_neg]
            refine Eq.trans (hl _ _ _ _ _ _) ?_
            rw [e1, f1]
          · rw [f4, e4]
            constructor
            · rintro ⟨z1, z2, z3, z4, z5, z6⟩
              exact ⟨by rcases a5 with h | h; exact h; exact absurd (a10.mp h) z5, by rcases a7 with h | h; exact h; exact absurd (a11.mp h) z6, rfl⟩
            · rintro ⟨z5, z6, -⟩
              exact ⟨hB, hD, hv, hr, fun w => by have := a10.mpr w; omega, fun w => by have := a11.mpr w; omega⟩
        · obtain ⟨x1, e1, e2, e3, e4⟩ := lst (a := o) (b := 4) (c := 2) a7 (by omega) (by omega)
          obtain ⟨x2, f1, f2, f3, f4⟩ := lst (a := p) (b := 2) (c := x1) a5 (by omega) (by omega)
          refine ⟨σ1, x2, cntC c 24, zI 1, fun G => ?_, a2, a8, f2, f3, ⟨fun z => absurd z.2.2.1 hv, fun z => by have := e4.mp (f4.mp z).2; omega⟩, hcn.1, hcn.2, hgood⟩
          show bO σ (zI b) (zI d) (bT n σ (zI b) (zI d) G) = _
          rw [ebO hN hw ⟨hb1, hb2⟩ ⟨hd1, hd2⟩, if_pos hB, if_pos (show (0 ≤ b ∧ b < 10) ∧ 0 ≤ d ∧ d < v 16 from ⟨hB, hD⟩), if_pos (show (0 ≤ b ∧ b < 10) ∧ ¬ v (24980 + 26 * b) ≤ 0 from ⟨hB, hv⟩)]
          unfold bT
          simp (disch := omega) only [l0, l1, l2, l3, l4, l5, l6, l7, l8, l10, l12, l16, l20, l24, l26, l40, l64, l80, l100, l255, l256, l288, l312, l400, l992, l1940, l24980, l25240, xI, xL, xR, zI_neg, zI_add, zI_sub, zI_mul, zI_le, zI_lt, zI_eq, zI_in, zI_nat, Option.bind_some, lt9, hq, Int.add_zero, Int.sub_self, true_or, or_true, true_and, and_true, false_or, or_false, Int.cast_ofNat_Int, ↓reduceIte, eD, eM_baselineAt, hN _, eR, a1, lst0, lst1, a4, a6, if_pos, if_neg]
          refine Eq.trans (hl _ _ _ _ _ _) ?_
          rw [e1, f1]
      · refine ⟨σ, 2, 0, zI 1, fun G => ?_, hN, fr.rf, by omega, by omega, ⟨fun z => absurd z.2.2.2.1 hr, fun z => absurd z (by decide)⟩, by omega, by omega, fun z => absurd z.2.2.2.1 hr⟩
        by_cases hv : v (24980 + 26 * b) ≤ 0
        · show bO σ (zI b) (zI d) (bT n σ (zI b) (zI d) G) = _
          rw [ebO hN hw ⟨hb1, hb2⟩ ⟨hd1, hd2⟩, if_pos hB, if_pos (show (0 ≤ b ∧ b < 10) ∧ 0 ≤ d ∧ d < v 16 from ⟨hB, hD⟩), if_neg (show ¬ ((0 ≤ b ∧ b < 10) ∧ ¬ v (24980 + 26 * b) ≤ 0) from fun z => z.2 hv)]
          unfold bT
          simp (disch := omega) only [l0, l1, l2, l3, l4, l5, l6, l7, l8, l10, l12, l16, l20, l24, l26, l40, l64, l80, l100, l255, l256, l288, l312, l400, l992, l1940, l24980, l25240, xI, xL, xR, zI_neg, zI_add, zI_sub, zI_mul, zI_le, zI_lt, zI_eq, zI_in, zI_nat, Option.bind_some, lt9, hq, Int.add_zero, Int.sub_self, true_or, or_true, true_and, and_true, false_or, or_false, Int.cast_ofNat_Int, ↓reduceIte, eD, eM_baselineAt, hN _, eR, lst0, lst1, if_pos, if_neg]
        · show bO σ (zI b) (zI d) (bT n σ (zI b) (zI d) G) = _
          rw [ebO hN hw ⟨hb1, hb2⟩ ⟨hd1, hd2⟩, if_pos hB, if_pos (show (0 ≤ b ∧ b < 10) ∧ 0 ≤ d ∧ d < v 16 from ⟨hB, hD⟩), if_pos (show (0 ≤ b ∧ b < 10) ∧ ¬ v (24980 + 26 * b) ≤ 0 from ⟨hB, hv⟩)]
          unfold bT
          simp (disch := omega) only [l0, l1, l2, l3, l4, l5, l6, l7, l8, l10, l12, l16, l20, l24, l26, l40, l64, l80, l100, l255, l256, l288, l312, l400, l992, l1940, l24980, l25240, xI, xL, xR, zI_neg, zI_add, zI_sub, zI_mul, zI_le, zI_lt, zI_eq, zI_in, zI_nat, Option.bind_some, lt9, hq, Int.add_zero, Int.sub_self, true_or, or_true, true_and, and_true, false_or, or_false, Int.cast_ofNat_Int, ↓reduceIte, eD, eM_baselineAt, hN _, eR, lst0, lst1, if_pos, if_neg]
          rfl
    · rw [if_neg hD] at eD
      by_cases hv : v (24980 + 26 * b) ≤ 0
      · refine ⟨σ, 7, 0, zI 1, fun G => ?_, hN, fr.rf, by omega, by omega, ⟨fun z => absurd z.2.1 hD, fun z => absurd z (by decide)⟩, by omega, by omega, fun z => absurd z.2.1 hD⟩
        show bO σ (zI b) (zI d) (bT n σ (zI b) (zI d) G) = _
        rw [ebO hN hw ⟨hb1, hb2⟩ ⟨hd1, hd2⟩, if_pos hB, if_neg (show ¬ ((0 ≤ b ∧ b < 10) ∧ 0 ≤ d ∧ d < v 16) from fun z => hD z.2), if_neg (show ¬ ((0 ≤ b ∧ b < 10) ∧ ¬ v (24980 + 26 * b) ≤ 0) from fun z => z.2 hv)]
        unfold bT
        simp (disch := omega) only [l0, l1, l2, l3, l4, l5, l6, l7, l8, l10, l12, l16, l20, l24, l26, l40, l64, l80, l100, l255, l256, l288, l312, l400, l992, l1940, l24980, l25240, xI, xL, xR, zI_neg, zI_add, zI_sub, zI_mul, zI_le, zI_lt, zI_eq, zI_in, zI_nat, Option.bind_some, lt9, hq, Int.add_zero, Int.sub_self, true_or, or_true, true_and, and_true, false_or, or_false, Int.cast_ofNat_Int, ↓reduceIte, eD, eM_baselineAt, hN _, lst0, lst1, if_pos, if_neg]
      · refine ⟨σ, 2, 0, zI 1, fun G => ?_, hN, fr.rf, by omega, by omega, ⟨fun z => absurd z.2.1 hD, fun z => absurd z (by decide)⟩, by omega, by omega, fun z => absurd z.2.1 hD⟩
        show bO σ (zI b) (zI d) (bT n σ (zI b) (zI d) G) = _
        rw [ebO hN hw ⟨hb1, hb2⟩ ⟨hd1, hd2⟩, if_pos hB, if_neg (show ¬ ((0 ≤ b ∧ b < 10) ∧ 0 ≤ d ∧ d < v 16) from fun z => hD z.2), if_pos (show (0 ≤ b ∧ b < 10) ∧ ¬ v (24980 + 26 * b) ≤ 0 from ⟨hB, hv⟩)]
        unfold bT
        simp (disch := omega) only [l0, l1, l2, l3, l4, l5, l6, l7, l8, l10, l12, l16, l20, l24, l26, l40, l64, l80, l100, l255, l256, l288, l312, l400, l992, l1940, l24980, l25240, xI, xL, xR, zI_neg, zI_add, zI_sub, zI_mul, zI_le, zI_lt, zI_eq, zI_in, zI_nat, Option.bind_some, lt9, hq, Int.add_zero, Int.sub_self, true_or, or_true, true_and, and_true, false_or, or_false, Int.cast_ofNat_Int, ↓reduceIte, eD, eM_baselineAt, hN _, lst0, lst1, if_pos, if_neg]
        rfl
  · by_cases hD : 0 ≤ d ∧ d < v 16
    · rw [if_pos hD] at eD
      have hm := (hw.2.2.2.1 d hD.1 hD.2).1
      have hrr := rel_rng hw hD.1 hD.2
      have eR := eM_released hN hw hD.1 hD.2 (show 13 ≤ n by omega)
      by_cases hr : 0 ≤ rel v d
      · obtain ⟨σ1, c, p, o, a1, a2, a3, a4, a5, a6, a7, a8, a9, a10, a11⟩ := eM_reach hN hw hD.1 hD.2 hr hn
        have hcr : ∀ e, 0 ≤ e → e < 24 → -1 ≤ c e ∧ c e < 12 := fun e x y => by rcases a9 e x y with ⟨z, -⟩ | ⟨z1, z2, -⟩ <;> omega
        have hcn := cntC_rng c 24
        have hl := fun x1 x2 x4 x5 x6 kx => eM_bas_L156 (n := n) a3 hcr x1 x2 x4 x5 x6 kx n 0 (by omega) (by omega)
        obtain ⟨x1, e1, e2, e3, e4⟩ := lst (a := o) (b := 4) (c := 7) a7 (by omega) (by omega)
        obtain ⟨x2, f1, f2, f3, f4⟩ := lst (a := p) (b := 2) (c := x1) a5 (by omega) (by omega)
        refine ⟨σ1, x2, cntC c 24, zI 0, fun G => ?_, a2, a8, f2, f3, ⟨fun z => absurd z.1 hB, fun z => by have := e4.mp (f4.mp z).2; omega⟩, hcn.1, hcn.2, fun z => absurd z.1 hB⟩
        by_cases hb0 : b < 0
        · show bO σ (zI b) (zI d) (bT n σ (zI b) (zI d) G) = _
          rw [ebO hN hw ⟨hb1, hb2⟩ ⟨hd1, hd2⟩, if_neg hB, if_neg (show ¬ ((0 ≤ b ∧ b < 10) ∧ 0 ≤ d ∧ d < v 16) from fun z => hB z.1), if_neg (show ¬ ((0 ≤ b ∧ b < 10) ∧ ¬ v (24980 + 26 * b) ≤ 0) from fun z => hB z.1)]
          unfold bT
          simp (disch := omega) only [l0, l1, l2, l3, l4, l5, l6, l7, l8, l10, l12, l16, l20, l24, l26, l40, l64, l80, l100, l255, l256, l288, l312, l400, l992, l1940, l24980, l25240, xI, xL, xR, zI_neg, zI_add, zI_sub, zI_mul, zI_le, zI_lt, zI_eq, zI_in, zI_nat, Option.bind_some, lt9, hq, Int.add_zero, Int.sub_self, true_or, or_true, true_and, and_true, false_or, or_false, Int.cast_ofNat_Int, ↓reduceIte, eD, eR, a1, lst0, lst1, a4, a6, if_pos, if_neg]
          refine Eq.trans (hl _ _ _ _ _ _) ?_
          rw [e1, f1]
        · show bO σ (zI b) (zI d) (bT n σ (zI b) (zI d) G) = _
          rw [ebO hN hw ⟨hb1, hb2⟩ ⟨hd1, hd2⟩, if_neg hB, if_neg (show ¬ ((0 ≤ b ∧ b < 10) ∧ 0 ≤ d ∧ d < v 16) from fun z => hB z.1), if_neg (show ¬ ((0 ≤ b ∧ b < 10) ∧ ¬ v (24980 + 26 * b) ≤ 0) from fun z => hB z.1)]
          unfold bT
          simp (disch := omega) only [l0, l1, l2, l3, l4, l5, l6, l7, l8, l10, l12, l16, l20, l24, l26, l40, l64, l80, l100, l255, l256, l288, l312, l400, l992, l1940, l24980, l25240, xI, xL, xR, zI_neg, zI_add, zI_sub, zI_mul, zI_le, zI_lt, zI_eq, zI_in, zI_nat, Option.bind_some, lt9, hq, Int.add_zero, Int.sub_self, true_or, or_true, true_and, and_true, false_or, or_false, Int.cast_ofNat_Int, ↓reduceIte, eD, eR, a1, lst0, lst1, a4, a6, if_pos, if_neg]
          refine Eq.trans (hl _ _ _ _ _ _) ?_
          rw [e1, f1]
      · refine ⟨σ, 2, 0, zI 0, fun G => ?_, hN, fr.rf, by omega, by omega, ⟨fun z => absurd z.1 hB, fun z => absurd z (by decide)⟩, by omega, by omega, fun z => absurd z.1 hB⟩
        have e7 : M_least (zI 1) (zI 2) (zI 7) = zI 2 := by decide
        by_cases hb0 : b < 0
        · show bO σ (zI b) (zI d) (bT n σ (zI b) (zI d) G) = _
          rw [ebO hN hw ⟨hb1, hb2⟩ ⟨hd1, hd2⟩, if_neg hB, if_neg (show ¬ ((0 ≤ b ∧ b < 10) ∧ 0 ≤ d ∧ d < v 16) from fun z => hB z.1), if_neg (show ¬ ((0 ≤ b ∧ b < 10) ∧ ¬ v (24980 + 26 * b) ≤ 0) from fun z => hB z.1)]
          unfold bT
          simp (disch := omega) only [l0, l1, l2, l3, l4, l5, l6, l7, l8, l10, l12, l16, l20, l24, l26, l40, l64, l80, l100, l255, l256, l288, l312, l400, l992, l1940, l24980, l25240, xI, xL, xR, zI_neg, zI_add, zI_sub, zI_mul, zI_le, zI_lt, zI_eq, zI_in, zI_nat, Option.bind_some, lt9, hq, Int.add_zero, Int.sub_self, true_or, or_true, true_and, and_true, false_or, or_false, Int.cast_ofNat_Int, ↓reduceIte, eD, eR, lst0, lst1, e7, if_pos, if_neg]
        · show bO σ (zI b) (zI d) (bT n σ (zI b) (zI d) G) = _
          rw [ebO hN hw ⟨hb1, hb2⟩ ⟨hd1, hd2⟩, if_neg hB, if_neg (show ¬ ((0 ≤ b ∧ b < 10) ∧ 0 ≤ d ∧ d < v 16) from fun z => hB z.1), if_neg (show ¬ ((0 ≤ b ∧ b < 10) ∧ ¬ v (24980 + 26 * b) ≤ 0) from fun z => hB z.1)]
          unfold bT
          simp (disch := omega) only [l0, l1, l2, l3, l4, l5, l6, l7, l8, l10, l12, l16, l20, l24, l26, l40, l64, l80, l100, l255, l256, l288, l312, l400, l992, l1940, l24980, l25240, xI, xL, xR, zI_neg, zI_add, zI_sub, zI_mul, zI_le, zI_lt, zI_eq, zI_in, zI_nat, Option.bind_some, lt9, hq, Int.add_zero, Int.sub_self, true_or, or_true, true_and, and_true, false_or, or_false, Int.cast_ofNat_Int, ↓reduceIte, eD, eR, lst0, lst1, e7, if_pos, if_neg]
    · rw [if_neg hD] at eD
      refine ⟨σ, 7, 0, zI 0, fun G => ?_, hN, fr.rf, by omega, by omega, ⟨fun z => absurd z.1 hB, fun z => absurd z (by decide)⟩, by omega, by omega, fun z => absurd z.1 hB⟩
      by_cases hb0 : b < 0
      · show bO σ (zI b) (zI d) (bT n σ (zI b) (zI d) G) = _
        rw [ebO hN hw ⟨hb1, hb2⟩ ⟨hd1, hd2⟩, if_neg hB, if_neg (show ¬ ((0 ≤ b ∧ b < 10) ∧ 0 ≤ d ∧ d < v 16) from fun z => hB z.1), if_neg (show ¬ ((0 ≤ b ∧ b < 10) ∧ ¬ v (24980 + 26 * b) ≤ 0) from fun z => hB z.1)]
        unfold bT
        simp (disch := omega) only [l0, l1, l2, l3, l4, l5, l6, l7, l8, l10, l12, l16, l20, l24, l26, l40, l64, l80, l100, l255, l256, l288, l312, l400, l992, l1940, l24980, l25240, xI, xL, xR, zI_neg, zI_add, zI_sub, zI_mul, zI_le, zI_lt, zI_eq, zI_in, zI_nat, Option.bind_some, lt9, hq, Int.add_zero, Int.sub_self, true_or, or_true, true_and, and_true, false_or, or_false, Int.cast_ofNat_Int, ↓reduceIte, eD, lst0, lst1, if_pos, if_neg]
      · show bO σ (zI b) (zI d) (bT n σ (zI b) (zI d) G) = _
        rw [ebO hN hw ⟨hb1, hb2⟩ ⟨hd1, hd2⟩, if_neg hB, if_neg (show ¬ ((0 ≤ b ∧ b < 10) ∧ 0 ≤ d ∧ d < v 16) from fun z => hB z.1), if_neg (show ¬ ((0 ≤ b ∧ b < 10) ∧ ¬ v (24980 + 26 * b) ≤ 0) from fun z => hB z.1)]
        unfold bT
        simp (disch := omega) only [l0, l1, l2, l3, l4, l5, l6, l7, l8, l10, l12, l16, l20, l24, l26, l40, l64, l80, l100, l255, l256, l288, l312, l400, l992, l1940, l24980, l25240, xI, xL, xR, zI_neg, zI_add, zI_sub, zI_mul, zI_le, zI_lt, zI_eq, zI_in, zI_nat, Option.bind_some, lt9, hq, Int.add_zero, Int.sub_self, true_or, or_true, true_and, and_true, false_or, or_false, Int.cast_ofNat_Int, ↓reduceIte, eD, lst0, lst1, if_pos, if_neg]
