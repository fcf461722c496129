def tcU (v : Int → Int) (d k : Int) : Prop := ∀ S : Int → Prop, (∀ k, 0 ≤ k → k < v 16 → us v k d = true → S k) → (∀ k i, 0 ≤ k → k < v 16 → 0 ≤ i → i < v 16 → S i → us v k i = true → S k) → S k
theorem tcU.near {v : Int → Int} {d k : Int} (h0 : 0 ≤ k) (h1 : k < v 16) (h : us v k d = true) : tcU v d k := fun S hn _ => hn k h0 h1 h
theorem tcU.far {v : Int → Int} {d k i : Int} (h0 : 0 ≤ k) (h1 : k < v 16) (h2 : 0 ≤ i) (h3 : i < v 16) (hi : tcU v d i) (h : us v k i = true) : tcU v d k := fun S hn hf => hf k i h0 h1 h2 h3 (hi S hn hf) h
def cloU (v : Int → Int) (μ : Int → Bool) : Prop := ∀ k i, 0 ≤ k → k < v 16 → 0 ≤ i → i < v 16 → μ i = true → us v k i = true → μ k = true
def cntU (μ : Int → Bool) : Nat → Nat
  | 0 => 0
  | n + 1 => cntU μ n + (if μ n = true then 1 else 0)
theorem cntU_le (μ : Int → Bool) (n : Nat) : cntU μ n ≤ n := by
  induction n with
  | zero => exact Nat.le_refl _
  | succ n ih => unfold cntU; split <;> omega
theorem cntU_full {μ : Int → Bool} {n : Nat} (h : cntU μ n = n) (k : Int) (h0 : 0 ≤ k) (h1 : k < n) : μ k = true := by
  induction n with
  | zero => omega
  | succ n ih =>
    have hl := cntU_le μ n
    unfold cntU at h
    by_cases e : μ n = true
    · rw [if_pos e] at h
      by_cases hk : k = n
      · subst hk; exact e
      · exact ih (by omega) (by omega)
    · rw [if_neg e] at h; omega
theorem cntU_mono {μ ν : Int → Bool} {n : Nat} (h : ∀ k : Int, 0 ≤ k → k < n → μ k = true → ν k = true) : cntU μ n ≤ cntU ν n := by
  induction n with
  | zero => exact Nat.le_refl _
  | succ n ih =>
    have := ih (fun k a b => h k a (by omega))
    unfold cntU
    by_cases e : μ n = true
    · rw [if_pos e, if_pos (h n (by omega) (by omega) e)]; omega
    · rw [if_neg e]; split <;> omega
theorem cntU_lt {μ ν : Int → Bool} {n : Nat} (h : ∀ k : Int, 0 ≤ k → k < n → μ k = true → ν k = true) {k : Int} (h0 : 0 ≤ k) (h1 : k < n) (hm : ¬ μ k = true) (hn : ν k = true) : cntU μ n + 1 ≤ cntU ν n := by
  induction n with
  | zero => omega
  | succ n ih =>
    have h' : ∀ k : Int, 0 ≤ k → k < n → μ k = true → ν k = true := fun k a b => h k a (by omega)
    unfold cntU
    by_cases e : k = n
    · subst e
      rw [if_neg hm, if_pos hn]
      have := cntU_mono (n := n) h'
      omega
    · have := ih h' (by omega)
      by_cases e2 : μ n = true
      · rw [if_pos e2, if_pos (h n (by omega) (by omega) e2)]; omega
      · rw [if_neg e2]; split <;> omega
theorem stepK_le {v : Int → Int} {μ : Int → Bool} {k x : Int} (h : μ x = true) : stepK v μ k x = true := by
  unfold stepK ub
  split
  · rename_i e; subst e; rw [h]; rfl
  · exact h
theorem rndM_le {v : Int → Int} {μ : Int → Bool} {n : Nat} {x : Int} (h : μ x = true) : rndM v μ n x = true := by
  induction n with
  | zero => exact h
  | succ n ih => exact stepK_le ih
theorem rndM_hit {v : Int → Int} {μ : Int → Bool} {n : Nat} {k i : Int} (h0 : 0 ≤ k) (h1 : k < n) (hi : 0 ≤ i) (hi2 : i < v 16) (hm : μ i = true) (hu : us v k i = true) : rndM v μ n k = true := by
  induction n with
  | zero => omega
  | succ n ih =>
    by_cases e : k = n
    · subst e
      show stepK v (rndM v μ n) n n = true
      unfold stepK ub
      rw [if_pos rfl]
      have : anyU v (rndM v μ n) n (v 16).toNat = true := anyU_iff.mpr ⟨i, hi, by omega, rndM_le hm, hu⟩
      rw [this, Bool.or_true]
    · exact stepK_le (ih (by omega))
theorem rndM_clo {v : Int → Int} {μ : Int → Bool} (hc : cloU v μ) {n : Nat} (hn : (n : Int) ≤ v 16) : rndM v μ n = μ := by
  induction n with
  | zero => rfl
  | succ n ih =>
    show stepK v (rndM v μ n) n = μ
    rw [ih (by omega)]
    funext x
    unfold stepK ub
    split
    · rename_i e
      subst e
      cases hb : μ n
      · cases ha : anyU v μ n (v 16).toNat
        · rfl
        · obtain ⟨i, a1, a2, a3, a4⟩ := anyU_iff.mp ha
          have := hc n i (by omega) (by omega) a1 (by omega) a3 a4
          rw [hb] at this; exact nomatch this
      · rfl
    · rfl
theorem rnds_le {v : Int → Int} {μ : Int → Bool} {n : Nat} {x : Int} (h : μ x = true) : rnds v μ n x = true := by
  induction n with
  | zero => exact h
  | succ n ih => exact rndM_le ih
theorem rnds_or {v : Int → Int} (h16 : 0 ≤ v 16) {μ : Int → Bool} (n : Nat) : cloU v (rnds v μ n) ∨ n ≤ cntU (rnds v μ n) (v 16).toNat := by
  induction n with
  | zero => exact Or.inr (Nat.zero_le _)
  | succ n ih =>
    show cloU v (rndM v (rnds v μ n) (v 16).toNat) ∨ n + 1 ≤ cntU (rndM v (rnds v μ n) (v 16).toNat) (v 16).toNat
    by_cases hc : cloU v (rnds v μ n)
    · left; rw [rndM_clo hc (by omega)]; exact hc
    · right
      rcases ih with h | h
      · exact absurd h hc
      · have : ∃ k i, 0 ≤ k ∧ k < v 16 ∧ 0 ≤ i ∧ i < v 16 ∧ rnds v μ n i = true ∧ us v k i = true ∧ ¬ rnds v μ n k = true := by
          apply Classical.byContradiction
          intro z
          apply hc
          intro k i a b c d e f
          apply Classical.byContradiction
          intro g
          exact z ⟨k, i, a, b, c, d, e, f, g⟩
        obtain ⟨k, i, a, b, c, d, e, f, g⟩ := this
        have := cntU_lt (μ := rnds v μ n) (ν := rndM v (rnds v μ n) (v 16).toNat) (n := (v 16).toNat) (fun x _ _ hx => rndM_le hx) a (by omega) g (rndM_hit a (by omega) c d e f)
        omega
theorem rnds_sound {v : Int → Int} {d : Int} (n : Nat) : ∀ k, rnds v (mu0 v d) n k = true → 0 ≤ k ∧ k < v 16 ∧ tcU v d k := by
  have base : ∀ k, mu0 v d k = true → 0 ≤ k ∧ k < v 16 ∧ tcU v d k := by
    intro k h
    unfold mu0 at h
    rw [Bool.and_eq_true, decide_eq_true_iff] at h
    exact ⟨h.1.1, h.1.2, tcU.near h.1.1 h.1.2 h.2⟩
  have stp : ∀ (μ : Int → Bool) (j : Int), 0 ≤ j → j < v 16 → (∀ k, μ k = true → 0 ≤ k ∧ k < v 16 ∧ tcU v d k) → ∀ k, stepK v μ j k = true → 0 ≤ k ∧ k < v 16 ∧ tcU v d k := by
    intro μ j j0 j1 hm k hk
    unfold stepK ub at hk
    split at hk
    · rename_i e; subst e
      rw [Bool.or_eq_true] at hk
      rcases hk with hk | hk
      · exact hm k hk
      · obtain ⟨i, a1, a2, a3, a4⟩ := anyU_iff.mp hk
        exact ⟨j0, j1, tcU.far j0 j1 a1 (by omega) (hm i a3).2.2 a4⟩
    · exact hm k hk
  have rnd : ∀ (μ : Int → Bool) (m : Nat), (m : Int) ≤ v 16 → (∀ k, μ k = true → 0 ≤ k ∧ k < v 16 ∧ tcU v d k) → ∀ k, rndM v μ m k = true → 0 ≤ k ∧ k < v 16 ∧ tcU v d k := by
    intro μ m
    induction m with
    | zero => intro _ h; exact h
    | succ m ih => intro hm h; exact stp _ m (by omega) (by omega) (ih (by omega) h)
  induction n with
  | zero => exact base
  | succ n ih =>
    by_cases h16 : 0 ≤ v 16
    · exact rnd _ _ (by omega) ih
    · have e : (v 16).toNat = 0 := by omega
      show ∀ k, rndM v (rnds v (mu0 v d) n) (v 16).toNat k = true → _
      rw [e]; exact ih
theorem rnds_tc {v : Int → Int} (hw : wf v) {d : Int} (k : Int) : rnds v (mu0 v d) 24 k = true ↔ 0 ≤ k ∧ k < v 16 ∧ tcU v d k := by
  have h16 := hw.1
  refine ⟨rnds_sound 24 k, fun ⟨h0, h1, h⟩ => ?_⟩
  have hc : cloU v (rnds v (mu0 v d) 24) := by
    rcases rnds_or h16.1 (μ := mu0 v d) 24 with h | h
    · exact h
    · have := cntU_le (rnds v (mu0 v d) 24) (v 16).toNat
      intro k i a b c e f g
      exact cntU_full (n := (v 16).toNat) (by omega) k a (by omega)
  exact h (fun k => rnds v (mu0 v d) 24 k = true) (fun k a b c => rnds_le (by unfold mu0; rw [c, decide_eq_true ⟨a, b⟩]; rfl)) (fun k i a b c e f g => hc k i a b c e f g)
def lpN (v : Int → Int) (a : Int) (μ : Int → Bool) (b0 : Bool) : Nat → Bool
  | 0 => b0
  | n + 1 => lpN v a μ b0 n || (μ n && rf v a n)
theorem lpN_iff {v : Int → Int} {a : Int} {μ : Int → Bool} {b0 : Bool} {n : Nat} : lpN v a μ b0 n = true ↔ b0 = true ∨ ∃ i : Int, 0 ≤ i ∧ i < n ∧ μ i = true ∧ rf v a i = true := by
  induction n with
  | zero => exact ⟨fun h => Or.inl h, fun h => h.elim id (fun ⟨i, h1, h2, _⟩ => by omega)⟩
  | succ n ih =>
    unfold lpN
    rw [Bool.or_eq_true, Bool.and_eq_true, ih]
    constructor
    · rintro ((h | ⟨i, h1, h2, h3⟩) | h)
      · exact Or.inl h
      · exact Or.inr ⟨i, h1, by omega, h3⟩
      · exact Or.inr ⟨n, by omega, by omega, h⟩
    · rintro (h | ⟨i, h1, h2, h3⟩)
      · exact Or.inl (Or.inl h)
      · by_cases e : i = n
        · subst e; exact Or.inr h3
        · exact Or.inl (Or.inr ⟨i, h1, by omega, h3⟩)
theorem eM_loops_L {v : Int → Int} (hw : wf v) {n : Nat} (hn : 25 ≤ n) {d : Int} (hd : 0 ≤ d) (hd2 : d < v 16) (hcw : cw v (20 + 80 * d)) (μ : Int → Bool) (b0 : Bool) (σ : hT) (hN : mN σ v) (hm : mk σ μ) (kx : hT → Int32 → Int32 → Int32 → Option (Int32 × hT)) (K : Nat) : ∀ (k : Nat), (k : Int) ≤ v 16 → v 16 - k < K →
    M_loops_L18 n kx K σ (zI k) (zI (zB (lpN v (20 + 80 * d) μ b0 k))) (zI d) = kx σ (zI (v 16)) (zI (zB (lpN v (20 + 80 * d) μ b0 (v 16).toNat))) (zI d) := by
  have h16 := hw.1
  induction K with
  | zero => intro k _ h; omega
  | succ K ih =>
    intro k hk hK
    by_cases hc : v 16 ≤ k
    · have e : v 16 = k := by omega
      rw [e, Int.toNat_natCast]
      unfold M_loops_L18
      simp (disch := omega) only [l0, l1, l2, l3, l4, l5, l6, l7, l8, l10, l12, l16, l20, l24, l26, l40, l64, l80, l100, l255, l256, l288, l312, l400, l992, l1940, l24980, l25240, xI, xL, xR, zI_neg, zI_add, zI_sub, zI_mul, zI_le, zI_lt, zI_eq, zI_in, zI_nat, Option.bind_some, lt9, hq, Int.add_zero, Int.sub_self, true_or, or_true, true_and, and_true, false_or, or_false, Int.cast_ofNat_Int, ↓reduceIte, hN.lit, if_pos, if_neg]
    · have q := ih (k + 1) (by omega) (by omega)
      rw [← q]
      conv => lhs; unfold M_loops_L18
      have m1 := hm k (by omega) (by omega)
      have hr := eM_refersTo hN (a := 20 + 80 * d) (d := k) (by omega) (by omega) hcw hw ⟨by omega, by omega⟩ (show 7 ≤ n by omega)
      simp only [lpN]
      by_cases h1 : lpN v (20 + 80 * d) μ b0 k = true
      · simp only [h1, Bool.true_or, zB_t]
        simp (disch := omega) only [l0, l1, l2, l3, l4, l5, l6, l7, l8, l10, l12, l16, l20, l24, l26, l40, l64, l80, l100, l255, l256, l288, l312, l400, l992, l1940, l24980, l25240, xI, xL, xR, zI_neg, zI_add, zI_sub, zI_mul, zI_le, zI_lt, zI_eq, zI_in, zI_nat, Option.bind_some, lt9, hq, Int.add_zero, Int.sub_self, true_or, or_true, true_and, and_true, false_or, or_false, Int.cast_ofNat_Int, ↓reduceIte, hN.lit, if_pos, if_neg]
        rfl
      · rw [zB_f h1]
        have h1' : lpN v (20 + 80 * d) μ b0 k = false := by simpa using h1
        rw [h1', Bool.false_or]
        by_cases h4 : μ k = true
        · rw [zB_t h4] at m1
          rw [h4, Bool.true_and]
          by_cases h5 : rf v (20 + 80 * d) k = true
          · rw [zB_t h5] at hr ⊢
            simp (disch := omega) only [l0, l1, l2, l3, l4, l5, l6, l7, l8, l10, l12, l16, l20, l24, l26, l40, l64, l80, l100, l255, l256, l288, l312, l400, l992, l1940, l24980, l25240, xI, xL, xR, zI_neg, zI_add, zI_sub, zI_mul, zI_le, zI_lt, zI_eq, zI_in, zI_nat, Option.bind_some, lt9, hq, Int.add_zero, Int.sub_self, true_or, or_true, true_and, and_true, false_or, or_false, Int.cast_ofNat_Int, ↓reduceIte, hN.lit, m1, eM_drawingAt, hr, if_pos, if_neg]
            rfl
          · rw [zB_f h5] at hr ⊢
            simp (disch := omega) only [l0, l1, l2, l3, l4, l5, l6, l7, l8, l10, l12, l16, l20, l24, l26, l40, l64, l80, l100, l255, l256, l288, l312, l400, l992, l1940, l24980, l25240, xI, xL, xR, zI_neg, zI_add, zI_sub, zI_mul, zI_le, zI_lt, zI_eq, zI_in, zI_nat, Option.bind_some, lt9, hq, Int.add_zero, Int.sub_self, true_or, or_true, true_and, and_true, false_or, or_false, Int.cast_ofNat_Int, ↓reduceIte, hN.lit, m1, eM_drawingAt, hr, if_pos, if_neg]
            rfl
        · have h4' : μ k = false := by simpa using h4
          rw [zB_f h4] at m1
          rw [h4', Bool.false_and]
          simp (disch := omega) only [l0, l1, l2, l3, l4, l5, l6, l7, l8, l10, l12, l16, l20, l24, l26, l40, l64, l80, l100, l255, l256, l288, l312, l400, l992, l1940, l24980, l25240, xI, xL, xR, zI_neg, zI_add, zI_sub, zI_mul, zI_le, zI_lt, zI_eq, zI_in, zI_nat, Option.bind_some, lt9, hq, Int.add_zero, Int.sub_self, true_or, or_true, true_and, and_true, false_or, or_false, Int.cast_ofNat_Int, ↓reduceIte, hN.lit, m1, eM_drawingAt, hr, if_pos, if_neg]
          rfl
def loopP (v : Int → Int) (d : Int) : Prop := rf v (20 + 80 * d) d = true ∨ ∃ i : Int, 0 ≤ i ∧ i < v 16 ∧ tcU v d i ∧ rf v (20 + 80 * d) i = true
theorem eM_loops {σ : hT} {v : Int → Int} (hN : mN σ v) (hw : wf v) {d : Int} (hd : 0 ≤ d) (hd2 : d < v 16) (hcw : cw v (20 + 80 * d)) {n : Nat} (hn : 25 ≤ n) : ∃ σ' y, M_loops n σ (zI d) = some (zI y, σ') ∧ mN σ' v ∧ fr p17 σ σ' ∧ (y = 0 ∨ y = 1) ∧ (y = 1 ↔ loopP v d) := by
  have h16 := hw.1
  obtain ⟨σ1, q1, q2, q3, q4⟩ := eM_markUsers hN hw (d := d) ⟨by omega, by omega⟩ hn
  have hr := eM_refersTo q2 (a := 20 + 80 * d) (d := d) (by omega) (by omega) hcw hw ⟨by omega, by omega⟩ (show 7 ≤ n by omega)
  have hl := eM_loops_L hw hn hd hd2 hcw (rnds v (mu0 v d) 24) (rf v (20 + 80 * d) d) σ1 q2 q3 (fun (σ7 : hT) (p8 : Int32) (p9 : Int32) (p10 : Int32) => if p9 = 0 ∨ p9 = 1 then some (p9, σ7) else none) n 0 (by omega) (by omega)
  refine ⟨σ1, zB (lpN v (20 + 80 * d) (rnds v (mu0 v d) 24) (rf v (20 + 80 * d) d) (v 16).toNat), ?_, q2, q4, zB_01 _, ?_⟩
  · unfold M_loops
    rw [q1]
    show Option.bind (M_refersTo n σ1 (M_drawingAt (zI d)) (zI d)) _ = _
    rw [eM_drawingAt, hr]
    refine Eq.trans hl ?_
    rcases zB_01 (lpN v (20 + 80 * d) (rnds v (mu0 v d) 24) (rf v (20 + 80 * d) d) (v 16).toNat) with h | h <;> (rw [h]; rfl)
  · have : zB (lpN v (20 + 80 * d) (rnds v (mu0 v d) 24) (rf v (20 + 80 * d) d) (v 16).toNat) = 1 ↔ lpN v (20 + 80 * d) (rnds v (mu0 v d) 24) (rf v (20 + 80 * d) d) (v 16).toNat = true := by
      unfold zB; split <;> simp_all
    rw [this, lpN_iff]
    unfold loopP
    constructor
    · rintro (h | ⟨i, a, b, c, e⟩)
      · exact Or.inl h
      · exact Or.inr ⟨i, a, by omega, ((rnds_tc hw i).mp c).2.2, e⟩
    · rintro (h | ⟨i, a, b, c, e⟩)
      · exact Or.inl h
      · exact Or.inr ⟨i, a, by omega, (rnds_tc hw i).mpr ⟨a, b, c⟩, e⟩
def lkN (v : Int → Int) (a : Int) : Nat → Bool
  | 0 => false
  | n + 1 => lkN v a n || decide (v (20 + 80 * v (a + 4 + 2 * n)) ≤ v (a + 4 + 2 * n + 1))
theorem lkN_iff {v : Int → Int} {a : Int} {n : Nat} : lkN v a n = true ↔ ∃ k : Int, 0 ≤ k ∧ k < n ∧ v (20 + 80 * v (a + 4 + 2 * k)) ≤ v (a + 4 + 2 * k + 1) := by
  induction n with
  | zero => exact ⟨fun h => (nomatch h), fun ⟨k, h1, h2, _⟩ => by omega⟩
  | succ n ih =>
    unfold lkN
    rw [Bool.or_eq_true, decide_eq_true_iff, ih]
    constructor
    · rintro (⟨k, h1, h2, h3⟩ | h)
      · exact ⟨k, h1, by omega, h3⟩
      · exact ⟨n, by omega, by omega, h⟩
    · rintro ⟨k, h1, h2, h3⟩
      by_cases e : k = n
      · subst e; exact Or.inr h3
      · exact Or.inl ⟨k, h1, by omega, h3⟩
theorem eM_lacks_L {σ : hT} {v : Int → Int} (hN : mN σ v) (hw : wf v) {a : Int} (ha : 0 ≤ a) (ha2 : a + 80 ≤ 25240) (hc : cw v a) (n : Nat) (kx : Int32 → Int32 → Int32 → Option Int32) (K : Nat) (i : Nat) (hi : (i : Int) ≤ v (a + 3)) (hK : v (a + 3) - i < K) :
    M_lacksRevision_L4 n σ kx K (zI i) (zI (zB (lkN v a i))) (zI a) = kx (zI (v (a + 3))) (zI (zB (lkN v a (v (a + 3)).toNat))) (zI a) := by
  have h16 := hw.1
  have h3 := hc.2.1
  induction K generalizing i with
  | zero => omega
  | succ K ih =>
    by_cases hx : v (a + 3) ≤ i
    · have e : v (a + 3) = i := by omega
      rw [e, Int.toNat_natCast]
      unfold M_lacksRevision_L4
      simp (disch := omega) only [l0, l1, l2, l3, l4, l5, l6, l7, l8, l10, l12, l16, l20, l24, l26, l40, l64, l80, l100, l255, l256, l288, l312, l400, l992, l1940, l24980, l25240, xI, xL, xR, zI_neg, zI_add, zI_sub, zI_mul, zI_le, zI_lt, zI_eq, zI_in, zI_nat, Option.bind_some, lt9, hq, Int.add_zero, Int.sub_self, true_or, or_true, true_and, and_true, false_or, or_false, Int.cast_ofNat_Int, ↓reduceIte, hN _, if_pos, if_neg]
    · have q := ih (i + 1) (by omega) (by omega)
      rw [← q]
      conv => lhs; unfold M_lacksRevision_L4
      have hk := hc.2.2.1 i (by omega) (by omega)
      have hm := (hw.2.2.2.1 _ hk.1 hk.2.1).1
      simp only [lkN]
      by_cases hb : lkN v a i = true
      · simp only [hb, Bool.true_or, zB_t]
        simp (disch := omega) only [l0, l1, l2, l3, l4, l5, l6, l7, l8, l10, l12, l16, l20, l24, l26, l40, l64, l80, l100, l255, l256, l288, l312, l400, l992, l1940, l24980, l25240, xI, xL, xR, zI_neg, zI_add, zI_sub, zI_mul, zI_le, zI_lt, zI_eq, zI_in, zI_nat, Option.bind_some, lt9, hq, Int.add_zero, Int.sub_self, true_or, or_true, true_and, and_true, false_or, or_false, Int.cast_ofNat_Int, ↓reduceIte, hN _, if_pos, if_neg]
        rfl
      · rw [zB_f hb]
        have hb' : lkN v a i = false := by simpa using hb
        rw [hb', Bool.false_or]
        by_cases he : v (20 + 80 * v (a + 4 + 2 * i)) ≤ v (a + 4 + 2 * i + 1)
        · simp (disch := omega) only [l0, l1, l2, l3, l4, l5, l6, l7, l8, l10, l12, l16, l20, l24, l26, l40, l64, l80, l100, l255, l256, l288, l312, l400, l992, l1940, l24980, l25240, xI, xL, xR, zI_neg, zI_add, zI_sub, zI_mul, zI_le, zI_lt, zI_eq, zI_in, zI_nat, Option.bind_some, lt9, hq, Int.add_zero, Int.sub_self, true_or, or_true, true_and, and_true, false_or, or_false, Int.cast_ofNat_Int, ↓reduceIte, hN _, eM_refDrawing hN, eM_refRevision hN, eM_made hN, if_pos, if_neg]
          rw [decide_eq_true he]
          rfl
        · simp (disch := omega) only [l0, l1, l2, l3, l4, l5, l6, l7, l8, l10, l12, l16, l20, l24, l26, l40, l64, l80, l100, l255, l256, l288, l312, l400, l992, l1940, l24980, l25240, xI, xL, xR, zI_neg, zI_add, zI_sub, zI_mul, zI_le, zI_lt, zI_eq, zI_in, zI_nat, Option.bind_some, lt9, hq, Int.add_zero, Int.sub_self, true_or, or_true, true_and, and_true, false_or, or_false, Int.cast_ofNat_Int, ↓reduceIte, hN _, eM_refDrawing hN, eM_refRevision hN, eM_made hN, if_pos, if_neg]
          rw [decide_eq_false he]
          rfl
def lackP (v : Int → Int) (a : Int) : Prop := ∃ k : Int, 0 ≤ k ∧ k < v (a + 3) ∧ v (20 + 80 * v (a + 4 + 2 * k)) ≤ v (a + 4 + 2 * k + 1)
theorem eM_lacksRevision {σ : hT} {v : Int → Int} (hN : mN σ v) (hw : wf v) {a : Int} (ha : 0 ≤ a) (ha2 : a + 80 ≤ 25240) (hc : cw v a) {n : Nat} (hn : 7 ≤ n) : ∃ y, M_lacksRevision n σ (zI a) = some (zI y) ∧ (y = 0 ∨ y = 1) ∧ (y = 1 ↔ lackP v a) := by
  have h3 := hc.2.1
  refine ⟨zB (lkN v a (v (a + 3)).toNat), ?_, zB_01 _, ?_⟩
  · unfold M_lacksRevision lt9
    refine (eM_lacks_L hN hw ha ha2 hc n _ n 0 (by omega) (by omega)).trans ?_
    rcases zB_01 (lkN v a (v (a + 3)).toNat) with h | h <;> (rw [h]; rfl)
  · have : zB (lkN v a (v (a + 3)).toNat) = 1 ↔ lkN v a (v (a + 3)).toNat = true := by
      unfold zB; split <;> simp_all
    rw [this, lkN_iff]
    constructor
    · rintro ⟨k, h1, h2, h3⟩; exact ⟨k, h1, by omega, h3⟩
    · rintro ⟨k, h1, h2, h3⟩; exact ⟨k, h1, by omega, h3⟩
