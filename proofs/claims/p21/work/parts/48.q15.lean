def zB (b : Bool) : Int := if b = true then 1 else 0
theorem zB_01 (b : Bool) : zB b = 0 ∨ zB b = 1 := by cases b; exact Or.inl rfl; exact Or.inr rfl
theorem zB_t {b : Bool} (h : b = true) : zB b = 1 := by rw [h]; rfl
theorem zB_f {b : Bool} (h : ¬ b = true) : zB b = 0 := by cases b; rfl; exact absurd rfl h
def rfN (v : Int → Int) (a d : Int) : Nat → Bool
  | 0 => false
  | n + 1 => rfN v a d n || decide (v (a + 4 + 2 * n) = d)
theorem rfN_iff {v : Int → Int} {a d : Int} {n : Nat} : rfN v a d n = true ↔ ∃ k : Int, 0 ≤ k ∧ k < n ∧ v (a + 4 + 2 * k) = d := by
  induction n with
  | zero => exact ⟨fun h => (nomatch h), fun ⟨k, h1, h2, _⟩ => by omega⟩
  | succ n ih =>
    unfold rfN
    rw [Bool.or_eq_true, decide_eq_true_iff, ih]
    constructor
    · rintro (⟨k, h1, h2, h3⟩ | h)
      · exact ⟨k, h1, by omega, h3⟩
      · exact ⟨n, by omega, by omega, h⟩
    · rintro ⟨k, h1, h2, h3⟩
      by_cases e : k = n
      · subst e; exact Or.inr h3
      · exact Or.inl ⟨k, h1, by omega, h3⟩
def rf (v : Int → Int) (a d : Int) : Bool := rfN v a d (v (a + 3)).toNat
theorem rf_iff {v : Int → Int} {a d : Int} (h : 0 ≤ v (a + 3)) : rf v a d = true ↔ ∃ k : Int, 0 ≤ k ∧ k < v (a + 3) ∧ v (a + 4 + 2 * k) = d := by
  unfold rf
  rw [rfN_iff]
  constructor
  · rintro ⟨k, h1, h2, h3⟩; exact ⟨k, h1, by omega, h3⟩
  · rintro ⟨k, h1, h2, h3⟩; exact ⟨k, h1, by omega, h3⟩
theorem eM_refersTo_L {σ : hT} {v : Int → Int} (hN : mN σ v) {a d : Int} (ha : 0 ≤ a) (ha2 : a + 80 ≤ 25240) (hc : cw v a) (hw : wf v) (hd : i32 d) (n : Nat) (kx : Int32 → Int32 → Int32 → Int32 → Option Int32) (K : Nat) (i : Nat) (hi : (i : Int) ≤ v (a + 3)) (hK : v (a + 3) - i < K) :
    M_refersTo_L5 n σ kx K (zI i) (zI (zB (rfN v a d i))) (zI a) (zI d) = kx (zI (v (a + 3))) (zI (zB (rf v a d))) (zI a) (zI d) := by
  obtain ⟨hd1, hd2⟩ := hd
  have h16 := hw.1
  have h3 := hc.2.1
  induction K generalizing i with
  | zero => omega
  | succ K ih =>
    by_cases hx : v (a + 3) ≤ i
    · have e : v (a + 3) = i := by omega
      unfold rf
      rw [e, Int.toNat_natCast]
      unfold M_refersTo_L5
      simp (disch := omega) only [l0, l1, l2, l3, l4, l5, l6, l7, l8, l10, l12, l16, l20, l24, l26, l40, l64, l80, l100, l255, l256, l288, l312, l400, l992, l1940, l24980, l25240, xI, xL, xR, zI_neg, zI_add, zI_sub, zI_mul, zI_le, zI_lt, zI_eq, zI_in, zI_nat, Option.bind_some, lt9, hq, Int.add_zero, Int.sub_self, true_or, or_true, true_and, and_true, false_or, or_false, Int.cast_ofNat_Int, ↓reduceIte, hN _, if_pos, if_neg]
    · have q := ih (i + 1) (by omega) (by omega)
      rw [← q]
      conv => lhs; unfold M_refersTo_L5
      have hk := hc.2.2.1 i (by omega) (by omega)
      simp only [rfN]
      by_cases hb : rfN v a d i = true
      · simp only [hb, Bool.true_or, zB_t]
        simp (disch := omega) only [l0, l1, l2, l3, l4, l5, l6, l7, l8, l10, l12, l16, l20, l24, l26, l40, l64, l80, l100, l255, l256, l288, l312, l400, l992, l1940, l24980, l25240, xI, xL, xR, zI_neg, zI_add, zI_sub, zI_mul, zI_le, zI_lt, zI_eq, zI_in, zI_nat, Option.bind_some, lt9, hq, Int.add_zero, Int.sub_self, true_or, or_true, true_and, and_true, false_or, or_false, Int.cast_ofNat_Int, ↓reduceIte, hN _, if_pos, if_neg]
        rfl
      · rw [zB_f hb]
        by_cases he : v (a + 4 + 2 * i) = d
        · simp (disch := omega) only [l0, l1, l2, l3, l4, l5, l6, l7, l8, l10, l12, l16, l20, l24, l26, l40, l64, l80, l100, l255, l256, l288, l312, l400, l992, l1940, l24980, l25240, xI, xL, xR, zI_neg, zI_add, zI_sub, zI_mul, zI_le, zI_lt, zI_eq, zI_in, zI_nat, Option.bind_some, lt9, hq, Int.add_zero, Int.sub_self, true_or, or_true, true_and, and_true, false_or, or_false, Int.cast_ofNat_Int, ↓reduceIte, hN _, eM_refDrawing hN, if_pos, if_neg]
          simp only [he, decide_true, Bool.or_true, zB_t]
          rfl
        · simp (disch := omega) only [l0, l1, l2, l3, l4, l5, l6, l7, l8, l10, l12, l16, l20, l24, l26, l40, l64, l80, l100, l255, l256, l288, l312, l400, l992, l1940, l24980, l25240, xI, xL, xR, zI_neg, zI_add, zI_sub, zI_mul, zI_le, zI_lt, zI_eq, zI_in, zI_nat, Option.bind_some, lt9, hq, Int.add_zero, Int.sub_self, true_or, or_true, true_and, and_true, false_or, or_false, Int.cast_ofNat_Int, ↓reduceIte, hN _, eM_refDrawing hN, if_pos, if_neg]
          simp only [he, decide_false, Bool.or_false, zB_f hb]
          rfl
theorem eM_refersTo {σ : hT} {v : Int → Int} (hN : mN σ v) {a d : Int} (ha : 0 ≤ a) (ha2 : a + 80 ≤ 25240) (hc : cw v a) (hw : wf v) (hd : i32 d) {n : Nat} (hn : 7 ≤ n) : M_refersTo n σ (zI a) (zI d) = some (zI (zB (rf v a d))) := by
  have h3 := hc.2.1
  unfold M_refersTo lt9
  refine (eM_refersTo_L hN ha ha2 hc hw hd n _ n 0 (by omega) (by omega)).trans ?_
  rcases zB_01 (rf v a d) with h | h <;> (rw [h]; rfl)
def us (v : Int → Int) (d o : Int) : Bool := rf v (1940 + 80 * (12 * d + (v (20 + 80 * d) - 1))) o
theorem eM_uses {σ : hT} {v : Int → Int} (hN : mN σ v) (hw : wf v) {d o : Int} (h0 : 0 ≤ d) (h1 : d < v 16) (ho : i32 o) {n : Nat} (hn : 7 ≤ n) : M_uses n σ (zI d) (zI o) = some (zI (zB (us v d o))) := by
  have h16 := hw.1
  have hD := hw.2.2.2.1 d h0 h1
  have hm := hD.1
  have hc := (hD.2.2.2 (v (20 + 80 * d) - 1) (by omega) (by omega)).2.2.1
  unfold M_uses
  simp (disch := omega) only [l0, l1, l2, l3, l4, l5, l6, l7, l8, l10, l12, l16, l20, l24, l26, l40, l64, l80, l100, l255, l256, l288, l312, l400, l992, l1940, l24980, l25240, xI, xL, xR, zI_neg, zI_add, zI_sub, zI_mul, zI_le, zI_lt, zI_eq, zI_in, zI_nat, Option.bind_some, lt9, hq, Int.add_zero, Int.sub_self, true_or, or_true, true_and, and_true, false_or, or_false, Int.cast_ofNat_Int, ↓reduceIte, eM_made hN, eM_revisionAt]
  rw [eM_refersTo hN (by omega) (by omega) hc hw ho hn]
  unfold us
  rcases zB_01 (rf v (1940 + 80 * (12 * d + (v (20 + 80 * d) - 1))) o) with h | h <;> (rw [h]; rfl)
def mk (σ : hT) (μ : Int → Bool) : Prop := ∀ k : Int, 0 ≤ k → k < 24 → σ.1 17 0 k.toNat = zI (zB (μ k))
def ub (μ : Int → Bool) (k : Int) (b : Bool) : Int → Bool := fun x => if x = k then b else μ x
theorem nrZ_B (b : Bool) : nrZ (zI (zB b)) = zI (zB b) := by cases b <;> decide
theorem nrZ_0 : nrZ (zI 0) = zI 0 := by decide
theorem nrZ_1 : nrZ (zI 1) = zI 1 := by decide
theorem mk_s {σ : hT} {μ : Int → Bool} (h : mk σ μ) {k : Int} (h0 : 0 ≤ k) {b : Bool} {x : Int32} (hx : x = zI (zB b)) : mk (sI σ 17 0 k.toNat x) (ub μ k b) := by
  subst hx
  intro i hi hi2
  by_cases e : i = k
  · subst e; rw [rS]; unfold ub; rw [if_pos rfl]
  · rw [rK (by omega)]; unfold ub; rw [if_neg e]; exact h i hi hi2
theorem mk_s' {σ : hT} {μ : Int → Bool} (h : mk σ μ) {k : Int} (h0 : 0 ≤ k) {b : Bool} {x : Int} (hx : x = zB b) : mk (sI σ 17 0 k.toNat (zI x)) (ub μ k b) := mk_s h h0 (by rw [hx])
def anyU (v : Int → Int) (μ : Int → Bool) (k : Int) : Nat → Bool
  | 0 => false
  | n + 1 => anyU v μ k n || (μ n && us v k n)
theorem anyU_iff {v : Int → Int} {μ : Int → Bool} {k : Int} {n : Nat} : anyU v μ k n = true ↔ ∃ i : Int, 0 ≤ i ∧ i < n ∧ μ i = true ∧ us v k i = true := by
  induction n with
  | zero => exact ⟨fun h => (nomatch h), fun ⟨i, h1, h2, _⟩ => by omega⟩
  | succ n ih =>
    unfold anyU
    rw [Bool.or_eq_true, Bool.and_eq_true, ih]
    constructor
    · rintro (⟨i, h1, h2, h3⟩ | h)
      · exact ⟨i, h1, by omega, h3⟩
      · exact ⟨n, by omega, by omega, h⟩
    · rintro ⟨i, h1, h2, h3⟩
      by_cases e : i = n
      · subst e; exact Or.inr h3
      · exact Or.inl ⟨i, h1, by omega, h3⟩
def stepK (v : Int → Int) (μ : Int → Bool) (k : Int) : Int → Bool := ub μ k (μ k || anyU v μ k (v 16).toNat)
def rndM (v : Int → Int) (μ : Int → Bool) : Nat → Int → Bool
  | 0 => μ
  | n + 1 => stepK v (rndM v μ n) n
def rnds (v : Int → Int) (μ : Int → Bool) : Nat → Int → Bool
  | 0 => μ
  | n + 1 => rndM v (rnds v μ n) (v 16).toNat
abbrev p17 (f : Nat) : Prop := f = 17
theorem eM_mu_L66 {v : Int → Int} (hw : wf v) {n : Nat} (hn : 7 ≤ n) {k : Int} (hk : 0 ≤ k) (hk2 : k < v 16) (μ : Int → Bool) (x1 x2 : Int32) (kx : hT → Int32 → Int32 → Int32 → Int32 → Option (Unit × hT)) (K : Nat) : ∀ (σ : hT) (i : Nat), mN σ v → mk σ (ub μ k (μ k || anyU v μ k i)) → (i : Int) ≤ v 16 → v 16 - i < K →
    ∃ σ', M_markUsers_L66 n kx K σ (zI i) (zI k) x1 x2 = kx σ' (zI (v 16)) (zI k) x1 x2 ∧ mN σ' v ∧ mk σ' (stepK v μ k) ∧ fr p17 σ σ' := by
  have h16 := hw.1
  induction K with
  | zero => intro σ i _ _ _ h; omega
  | succ K ih =>
    intro σ i hN hm hi hK
    by_cases hc : v 16 ≤ i
    · have e : v 16 = i := by omega
      refine ⟨σ, ?_, hN, ?_, fr.rf⟩
      · unfold M_markUsers_L66
        simp (disch := omega) only [l0, l1, l2, l3, l4, l5, l6, l7, l8, l10, l12, l16, l20, l24, l26, l40, l64, l80, l100, l255, l256, l288, l312, l400, l992, l1940, l24980, l25240, xI, xL, xR, zI_neg, zI_add, zI_sub, zI_mul, zI_le, zI_lt, zI_eq, zI_in, zI_nat, Option.bind_some, lt9, hq, Int.add_zero, Int.sub_self, true_or, or_true, true_and, and_true, false_or, or_false, Int.cast_ofNat_Int, ↓reduceIte, hN.lit, if_pos, if_neg]
        rw [e]
      · unfold stepK; rw [e, Int.toNat_natCast]; exact hm
    · have m1 := hm k hk (by omega)
      have m2 := hm i (by omega) (by omega)
      rw [show ub μ k (μ k || anyU v μ k i) k = (μ k || anyU v μ k i) from if_pos rfl] at m1
      have key : ∃ b : Bool, (∀ σ9 : hT, σ9 = sI σ 17 0 k.toNat (zI (zB b)) → M_markUsers_L66 n kx (K + 1) σ (zI i) (zI k) x1 x2 = M_markUsers_L66 n kx K σ9 (zI ((i + 1 : Nat) : Int)) (zI k) x1 x2) ∧ b = (μ k || anyU v μ k (i + 1)) := by
        by_cases h1 : (μ k || anyU v μ k i) = true
        · refine ⟨true, ?_, ?_⟩
          · rintro σ9 rfl
            conv => lhs; unfold M_markUsers_L66
            rw [h1] at m1
            simp (disch := omega) only [l0, l1, l2, l3, l4, l5, l6, l7, l8, l10, l12, l16, l20, l24, l26, l40, l64, l80, l100, l255, l256, l288, l312, l400, l992, l1940, l24980, l25240, xI, xL, xR, zI_neg, zI_add, zI_sub, zI_mul, zI_le, zI_lt, zI_eq, zI_in, zI_nat, Option.bind_some, lt9, hq, Int.add_zero, Int.sub_self, true_or, or_true, true_and, and_true, false_or, or_false, Int.cast_ofNat_Int, ↓reduceIte, hN.lit, m1, zB_t, nrZ_1, if_pos, if_neg]
            rfl
          · unfold anyU
            rw [← Bool.or_assoc, h1]; rfl
        · rw [zB_f h1] at m1
          have h1' : (μ k || anyU v μ k i) = false := by simpa using h1
          have e3 : (μ k || anyU v μ k (i + 1)) = (μ i && us v k i) := by
            unfold anyU
            rw [← Bool.or_assoc, h1']; rfl
          have e2 : ub μ k (μ k || anyU v μ k i) i = μ i := by
            unfold ub; split
            · rename_i e
              have : (μ k) = false := by
                cases hh : μ k
                · rfl
                · rw [hh] at h1'; exact absurd h1' (by simp)
              rw [h1', e, this]
            · rfl
          rw [e2] at m2
          by_cases h4 : μ i = true
          · rw [zB_t h4] at m2
            have hu := eM_uses hN hw hk hk2 (o := i) ⟨by omega, by omega⟩ hn
            by_cases h5 : us v k i = true
            · refine ⟨true, ?_, by rw [e3, h4, h5]; rfl⟩
              rintro σ9 rfl
              conv => lhs; unfold M_markUsers_L66
              rw [zB_t h5] at hu
              simp (disch := omega) only [l0, l1, l2, l3, l4, l5, l6, l7, l8, l10, l12, l16, l20, l24, l26, l40, l64, l80, l100, l255, l256, l288, l312, l400, l992, l1940, l24980, l25240, xI, xL, xR, zI_neg, zI_add, zI_sub, zI_mul, zI_le, zI_lt, zI_eq, zI_in, zI_nat, Option.bind_some, lt9, hq, Int.add_zero, Int.sub_self, true_or, or_true, true_and, and_true, false_or, or_false, Int.cast_ofNat_Int, ↓reduceIte, hN.lit, m1, m2, hu, nrZ_1, if_pos, if_neg]
              rfl
            · refine ⟨false, ?_, by rw [e3, h4]; simpa using h5⟩
              rintro σ9 rfl
              conv => lhs; unfold M_markUsers_L66
              rw [zB_f h5] at hu
              simp (disch := omega) only [l0, l1, l2, l3, l4, l5, l6, l7, l8, l10, l12, l16, l20, l24, l26, l40, l64, l80, l100, l255, l256, l288, l312, l400, l992, l1940, l24980, l25240, xI, xL, xR, zI_neg, zI_add, zI_sub, zI_mul, zI_le, zI_lt, zI_eq, zI_in, zI_nat, Option.bind_some, lt9, hq, Int.add_zero, Int.sub_self, true_or, or_true, true_and, and_true, false_or, or_false, Int.cast_ofNat_Int, ↓reduceIte, hN.lit, m1, m2, hu, nrZ_0, if_pos, if_neg]
              rfl
          · rw [zB_f h4] at m2
            refine ⟨false, ?_, by rw [e3]; simp [h4]⟩
            rintro σ9 rfl
            conv => lhs; unfold M_markUsers_L66
            simp (disch := omega) only [l0, l1, l2, l3, l4, l5, l6, l7, l8, l10, l12, l16, l20, l24, l26, l40, l64, l80, l100, l255, l256, l288, l312, l400, l992, l1940, l24980, l25240, xI, xL, xR, zI_neg, zI_add, zI_sub, zI_mul, zI_le, zI_lt, zI_eq, zI_in, zI_nat, Option.bind_some, lt9, hq, Int.add_zero, Int.sub_self, true_or, or_true, true_and, and_true, false_or, or_false, Int.cast_ofNat_Int, ↓reduceIte, hN.lit, m1, m2, nrZ_0, if_pos, if_neg]
            rfl
      obtain ⟨b, hst, hb⟩ := key
      have hm2 : mk (sI σ 17 0 k.toNat (zI (zB b))) (ub μ k (μ k || anyU v μ k (i + 1))) := by
        rw [← hb]
        have := mk_s hm hk (b := b) rfl
        have e : ub (ub μ k (μ k || anyU v μ k i)) k b = ub μ k b := by funext x; unfold ub; split <;> rfl
        rw [e] at this; exact this
      obtain ⟨σ', q1, q2, q3, q4⟩ := ih (sI σ 17 0 k.toNat (zI (zB b))) (i + 1) (mN_o hN (by decide)) hm2 (by omega) (by omega)
      exact ⟨σ', (hst _ rfl).trans q1, q2, q3, (fr.rf.s (P := p17) rfl).tr q4⟩
theorem eM_mu_L52 {v : Int → Int} (hw : wf v) {n : Nat} (hn : 25 ≤ n) (μ : Int → Bool) (x1 x2 : Int32) (kx : hT → Int32 → Int32 → Int32 → Option (Unit × hT)) (K : Nat) : ∀ (σ : hT) (k : Nat), mN σ v → mk σ (rndM v μ k) → (k : Int) ≤ v 16 → v 16 - k < K →
    ∃ σ', M_markUsers_L52 n kx K σ (zI k) x1 x2 = kx σ' (zI (v 16)) x1 x2 ∧ mN σ' v ∧ mk σ' (rndM v μ (v 16).toNat) ∧ fr p17 σ σ' := by
  have h16 := hw.1
  induction K with
  | zero => intro σ i _ _ _ h; omega
  | succ K ih =>
    intro σ k hN hm hi hK
    by_cases hc : v 16 ≤ k
    · have e : v 16 = k := by omega
      refine ⟨σ, ?_, hN, by rw [e, Int.toNat_natCast]; exact hm, fr.rf⟩
      unfold M_markUsers_L52
      simp (disch := omega) only [l0, l1, l2, l3, l4, l5, l6, l7, l8, l10, l12, l16, l20, l24, l26, l40, l64, l80, l100, l255, l256, l288, l312, l400, l992, l1940, l24980, l25240, xI, xL, xR, zI_neg, zI_add, zI_sub, zI_mul, zI_le, zI_lt, zI_eq, zI_in, zI_nat, Option.bind_some, lt9, hq, Int.add_zero, Int.sub_self, true_or, or_true, true_and, and_true, false_or, or_false, Int.cast_ofNat_Int, ↓reduceIte, hN.lit, if_pos, if_neg]
      rw [e]
    · obtain ⟨σ1, q1, q2, q3, q4⟩ := eM_mu_L66 hw (show 7 ≤ n by omega) (k := k) (by omega) (by omega) (rndM v μ k) x1 x2 (fun (σ34 : hT) (p35 : Int32) (p36 : Int32) (p37 : Int32) (p38 : Int32) => M_markUsers_L52 n kx K (σ34) (p36 + 1) p37 p38) n σ 0 hN (by
        have e : ub (rndM v μ k) k (rndM v μ k k || anyU v (rndM v μ k) k 0) = rndM v μ k := by
          funext x; unfold ub anyU; split
          · rename_i e; rw [e]; simp
          · rfl
        rw [e]; exact hm) (by omega) (by omega)
      obtain ⟨σ', r1, r2, r3, r4⟩ := ih σ1 (k + 1) q2 q3 (by omega) (by omega)
      refine ⟨σ', ?_, r2, r3, q4.tr r4⟩
      conv => lhs; unfold M_markUsers_L52
      simp (disch := omega) only [l0, l1, l2, l3, l4, l5, l6, l7, l8, l10, l12, l16, l20, l24, l26, l40, l64, l80, l100, l255, l256, l288, l312, l400, l992, l1940, l24980, l25240, xI, xL, xR, zI_neg, zI_add, zI_sub, zI_mul, zI_le, zI_lt, zI_eq, zI_in, zI_nat, Option.bind_some, lt9, hq, Int.add_zero, Int.sub_self, true_or, or_true, true_and, and_true, false_or, or_false, Int.cast_ofNat_Int, ↓reduceIte, hN.lit, if_pos, if_neg]
      refine Eq.trans q1 ?_
      rw [← r1, l1, zI_add]
      rfl
theorem eM_mu_L44 {v : Int → Int} (hw : wf v) {n : Nat} (hn : 25 ≤ n) (μ : Int → Bool) (x1 : Int32) (kx : hT → Int32 → Int32 → Option (Unit × hT)) (K : Nat) : ∀ (σ : hT) (r : Nat), mN σ v → mk σ (rnds v μ r) → r ≤ 24 → 24 - r < K →
    ∃ σ', M_markUsers_L44 n kx K σ (zI r) x1 = kx σ' (zI 24) x1 ∧ mN σ' v ∧ mk σ' (rnds v μ 24) ∧ fr p17 σ σ' := by
  have h16 := hw.1
  induction K with
  | zero => intro σ i _ _ _ h; omega
  | succ K ih =>
    intro σ r hN hm hi hK
    by_cases hc : 24 ≤ r
    · obtain rfl : r = 24 := by omega
      refine ⟨σ, ?_, hN, hm, fr.rf⟩
      unfold M_markUsers_L44
      simp (disch := omega) only [l0, l1, l2, l3, l4, l5, l6, l7, l8, l10, l12, l16, l20, l24, l26, l40, l64, l80, l100, l255, l256, l288, l312, l400, l992, l1940, l24980, l25240, xI, xL, xR, zI_neg, zI_add, zI_sub, zI_mul, zI_le, zI_lt, zI_eq, zI_in, zI_nat, Option.bind_some, lt9, hq, Int.add_zero, Int.sub_self, true_or, or_true, true_and, and_true, false_or, or_false, Int.cast_ofNat_Int, ↓reduceIte, if_pos, if_neg]
    · obtain ⟨σ1, q1, q2, q3, q4⟩ := eM_mu_L52 hw hn (rnds v μ r) (zI r) x1 (fun (σ25 : hT) (p26 : Int32) (p27 : Int32) (p28 : Int32) => M_markUsers_L44 n kx K (σ25) (p27 + 1) p28) n σ 0 hN hm (by omega) (by omega)
      obtain ⟨σ', r1, r2, r3, r4⟩ := ih σ1 (r + 1) q2 q3 (by omega) (by omega)
      refine ⟨σ', ?_, r2, r3, q4.tr r4⟩
      conv => lhs; unfold M_markUsers_L44
      simp (disch := omega) only [l0, l1, l2, l3, l4, l5, l6, l7, l8, l10, l12, l16, l20, l24, l26, l40, l64, l80, l100, l255, l256, l288, l312, l400, l992, l1940, l24980, l25240, xI, xL, xR, zI_neg, zI_add, zI_sub, zI_mul, zI_le, zI_lt, zI_eq, zI_in, zI_nat, Option.bind_some, lt9, hq, Int.add_zero, Int.sub_self, true_or, or_true, true_and, and_true, false_or, or_false, Int.cast_ofNat_Int, ↓reduceIte, if_pos, if_neg]
      refine Eq.trans q1 ?_
      rw [← r1, l1, zI_add]
      rfl
def mu0 (v : Int → Int) (d : Int) : Int → Bool := fun k => decide (0 ≤ k ∧ k < v 16) && us v k d
theorem eM_mu_L2 {v : Int → Int} (hw : wf v) {n : Nat} (hn : 25 ≤ n) {d : Int} (hd : i32 d) (kx : hT → Int32 → Int32 → Option (Unit × hT)) (K : Nat) : ∀ (σ : hT) (k : Nat), mN σ v → (∀ x : Int, 0 ≤ x → x < k → σ.1 17 0 x.toNat = zI (zB (mu0 v d x))) → k ≤ 24 → 24 - k < K →
    ∃ σ', M_markUsers_L2 n kx K σ (zI k) (zI d) = kx σ' (zI 24) (zI d) ∧ mN σ' v ∧ mk σ' (mu0 v d) ∧ fr p17 σ σ' := by
  have h16 := hw.1
  induction K with
  | zero => intro σ i _ _ _ h; omega
  | succ K ih =>
    intro σ k hN hm hi hK
    by_cases hc : 24 ≤ k
    · obtain rfl : k = 24 := by omega
      refine ⟨σ, ?_, hN, fun x a b => hm x a (by omega), fr.rf⟩
      unfold M_markUsers_L2
      simp (disch := omega) only [l0, l1, l2, l3, l4, l5, l6, l7, l8, l10, l12, l16, l20, l24, l26, l40, l64, l80, l100, l255, l256, l288, l312, l400, l992, l1940, l24980, l25240, xI, xL, xR, zI_neg, zI_add, zI_sub, zI_mul, zI_le, zI_lt, zI_eq, zI_in, zI_nat, Option.bind_some, lt9, hq, Int.add_zero, Int.sub_self, true_or, or_true, true_and, and_true, false_or, or_false, Int.cast_ofNat_Int, ↓reduceIte, if_pos, if_neg]
    · have st : M_markUsers_L2 n kx (K + 1) σ (zI k) (zI d) = M_markUsers_L2 n kx K (sI σ 17 0 k (zI (zB (mu0 v d k)))) (zI ((k + 1 : Nat) : Int)) (zI d) := by
        conv => lhs; unfold M_markUsers_L2
        have hD := eM_isDrawing hN hw (d := k) (by omega) (by omega)
        by_cases h1 : (k : Int) < v 16
        · have hu := eM_uses hN hw (d := k) (by omega) h1 hd (show 7 ≤ n by omega)
          have e0 : mu0 v d k = us v k d := by unfold mu0; rw [decide_eq_true ⟨by omega, h1⟩]; rfl
          rw [e0]
          by_cases h5 : us v k d = true
          · rw [zB_t h5] at hu ⊢
            simp (disch := omega) only [l0, l1, l2, l3, l4, l5, l6, l7, l8, l10, l12, l16, l20, l24, l26, l40, l64, l80, l100, l255, l256, l288, l312, l400, l992, l1940, l24980, l25240, xI, xL, xR, zI_neg, zI_add, zI_sub, zI_mul, zI_le, zI_lt, zI_eq, zI_in, zI_nat, Option.bind_some, lt9, hq, Int.add_zero, Int.sub_self, true_or, or_true, true_and, and_true, false_or, or_false, Int.cast_ofNat_Int, ↓reduceIte, hD, hu, nrZ_1, Int.toNat_natCast, if_pos, if_neg]
            rfl
          · rw [zB_f h5] at hu ⊢
            simp (disch := omega) only [l0, l1, l2, l3, l4, l5, l6, l7, l8, l10, l12, l16, l20, l24, l26, l40, l64, l80, l100, l255, l256, l288, l312, l400, l992, l1940, l24980, l25240, xI, xL, xR, zI_neg, zI_add, zI_sub, zI_mul, zI_le, zI_lt, zI_eq, zI_in, zI_nat, Option.bind_some, lt9, hq, Int.add_zero, Int.sub_self, true_or, or_true, true_and, and_true, false_or, or_false, Int.cast_ofNat_Int, ↓reduceIte, hD, hu, nrZ_0, Int.toNat_natCast, if_pos, if_neg]
            rfl
        · have e0 : mu0 v d k = false := by unfold mu0; rw [decide_eq_false (by omega)]; rfl
          rw [e0]
          simp (disch := omega) only [l0, l1, l2, l3, l4, l5, l6, l7, l8, l10, l12, l16, l20, l24, l26, l40, l64, l80, l100, l255, l256, l288, l312, l400, l992, l1940, l24980, l25240, xI, xL, xR, zI_neg, zI_add, zI_sub, zI_mul, zI_le, zI_lt, zI_eq, zI_in, zI_nat, Option.bind_some, lt9, hq, Int.add_zero, Int.sub_self, true_or, or_true, true_and, and_true, false_or, or_false, Int.cast_ofNat_Int, ↓reduceIte, hD, nrZ_0, Int.toNat_natCast, if_pos, if_neg]
          rfl
      obtain ⟨σ', q1, q2, q3, q4⟩ := ih (sI σ 17 0 k (zI (zB (mu0 v d k)))) (k + 1) (mN_o hN (by decide)) (fun x a b => by
        by_cases e : x = k
        · subst e; rw [Int.toNat_natCast, rS]
        · rw [rK (by omega)]; exact hm x a (by omega)) (by omega) (by omega)
      exact ⟨σ', st.trans q1, q2, q3, (fr.rf.s (P := p17) rfl).tr q4⟩
theorem eM_markUsers {σ : hT} {v : Int → Int} (hN : mN σ v) (hw : wf v) {d : Int} (hd : i32 d) {n : Nat} (hn : 25 ≤ n) : ∃ σ', M_markUsers n σ (zI d) = some ((), σ') ∧ mN σ' v ∧ mk σ' (rnds v (mu0 v d) 24) ∧ fr p17 σ σ' := by
  obtain ⟨σ1, q1, q2, q3, q4⟩ := eM_mu_L2 hw hn hd (fun (σ1 : hT) (p2 : Int32) (p3 : Int32) => lt9 (α := hT → Int32 → Int32 → Option (Unit × hT)) (fun (σ19 : hT) (p20 : Int32) (p21 : Int32) => some ((), σ19)) fun kx22 => M_markUsers_L44 n kx22 n (σ1) 0 p3) n σ 0 hN (fun x a b => by omega) (by omega) (by omega)
  obtain ⟨σ2, r1, r2, r3, r4⟩ := eM_mu_L44 hw hn (mu0 v d) (zI d) (fun (σ19 : hT) (p20 : Int32) (p21 : Int32) => some ((), σ19)) n σ1 0 q2 q3 (by omega) (by omega)
  exact ⟨σ2, q1.trans r1, r2, r3, q4.tr r4⟩
