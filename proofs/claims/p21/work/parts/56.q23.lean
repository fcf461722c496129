theorem bset (L x : BitVec 64) (hx : ∀ m, 8 ≤ m → x.getLsbD m = false) (t : Nat) (ht : t < 8) (t' i : Nat) (ht' : t' < 8) (hi : i < 8) : ((L &&& ((255#64 <<< (8 * t)) ^^^ (-1#64))) ||| (x <<< (8 * t))).getLsbD (8 * t' + i) = if t' = t then x.getLsbD i else L.getLsbD (8 * t' + i) := by
  have h1 : ∀ m, (-1#64 : BitVec 64).getLsbD m = decide (m < 64) := by
    intro m
    rw [show (-1#64 : BitVec 64) = BitVec.allOnes 64 by decide, BitVec.getLsbD_allOnes]
  have h255 : ∀ m, (255#64 : BitVec 64).getLsbD m = decide (m < 8) := by
    intro m
    rw [BitVec.getLsbD_ofNat]
    by_cases hm : m < 8
    · have : m = 0 ∨ m = 1 ∨ m = 2 ∨ m = 3 ∨ m = 4 ∨ m = 5 ∨ m = 6 ∨ m = 7 := by omega
      rcases this with rfl | rfl | rfl | rfl | rfl | rfl | rfl | rfl <;> decide
    · rw [decide_eq_false hm]
      have : Nat.testBit 255 m = false := Nat.testBit_lt_two_pow (Nat.lt_of_lt_of_le (by decide : 255 < 2 ^ 8) (Nat.pow_le_pow_right (by decide) (by omega)))
      rw [this, Bool.and_false]
  rw [BitVec.getLsbD_or, BitVec.getLsbD_and, BitVec.getLsbD_xor, BitVec.getLsbD_shiftLeft, BitVec.getLsbD_shiftLeft, h1, h255]
  by_cases e : t' = t
  · subst e
    rw [if_pos rfl]
    have a1 : decide (8 * t' + i < 64) = true := by simp; omega
    have a2 : decide (8 * t' + i < 8 * t') = false := by simp
    have a3 : 8 * t' + i - 8 * t' = i := by omega
    have a4 : decide (i < 8) = true := by simp; omega
    rw [a1, a2, a3, a4]; simp
  · rw [if_neg e]
    have a1 : decide (8 * t' + i < 64) = true := by simp; omega
    rw [a1]
    by_cases h : t' < t
    · have a2 : decide (8 * t' + i < 8 * t) = true := by simp; omega
      rw [a2]; simp
    · have a2 : decide (8 * t' + i < 8 * t) = false := by simp; omega
      have a3 : decide (8 * t' + i - 8 * t < 8) = false := by simp; omega
      rw [a2, a3, hx _ (by omega)]; simp
def byt (v : Int → Int) (a q : Int) : Int := if q < v (a + 2) then v (a + 16 + q) else 0
def pcR (L : Int64) (v : Int → Int) (a j : Int) : Prop := ∀ t i : Nat, t < 8 → i < 8 → L.toBitVec.getLsbD (8 * t + i) = (byt v a (8 * j + t)).toNat.testBit i
theorem byt_rng {v : Int → Int} {a q : Int} (h : cb v a) (h0 : 0 ≤ q) : 0 ≤ byt v a q ∧ byt v a q ≤ 255 := by
  unfold byt; split
  · rename_i h1; exact h.2 q h0 h1
  · omega
theorem tb_hi {x : Int} (h0 : 0 ≤ x) (h1 : x ≤ 255) {m : Nat} (hm : 8 ≤ m) : x.toNat.testBit m = false :=
  Nat.testBit_lt_two_pow (Nat.lt_of_lt_of_le (show x.toNat < 2 ^ 8 by omega) (Nat.pow_le_pow_right (by decide) hm))
theorem pcR_eq {L M : Int64} {v w : Int → Int} {a o j k : Int} (ha : cb v a) (ho : cb w o) (hj : 0 ≤ j) (hk : 0 ≤ k) (h1 : pcR L v a j) (h2 : pcR M w o k) : L = M ↔ ∀ t : Int, 0 ≤ t → t < 8 → byt v a (8 * j + t) = byt w o (8 * k + t) := by
  constructor
  · intro e t t0 t1
    subst e
    have b1 := byt_rng ha (q := 8 * j + t) (by omega)
    have b2 := byt_rng ho (q := 8 * k + t) (by omega)
    have : (byt v a (8 * j + t)).toNat = (byt w o (8 * k + t)).toNat := by
      apply Nat.eq_of_testBit_eq
      intro i
      by_cases hi : i < 8
      · have e1 := h1 t.toNat i (by omega) hi
        have e2 := h2 t.toNat i (by omega) hi
        rw [show ((t.toNat : Nat) : Int) = t by omega] at e1 e2
        rw [← e1, ← e2]
      · rw [tb_hi b1.1 b1.2 (by omega), tb_hi b2.1 b2.2 (by omega)]
    omega
  · intro h
    apply Int64.toBitVec_inj.mp
    apply BitVec.eq_of_getLsbD_eq
    intro i hi
    have e1 := h1 (i / 8) (i % 8) (by omega) (by omega)
    have e2 := h2 (i / 8) (i % 8) (by omega) (by omega)
    rw [show 8 * (i / 8) + i % 8 = i by omega] at e1 e2
    rw [e1, e2, h ((i / 8 : Nat) : Int) (by omega) (by omega)]
theorem pcR_pk {L M : Int64} {v w : Int → Int} {a o j k : Int} (ha : cb v a) (ho : cb w o) (hj : 0 ≤ j) (hk : 0 ≤ k) (h1 : pcR L v a j) (h2 : pcR M w o k) : (plen (v (a + 2)) j = plen (w (o + 2)) k ∧ L = M) ↔ pk v a j = pk w o k := by
  rw [pcR_eq ha ho hj hk h1 h2]
  unfold pk
  rw [Prod.mk.injEq]
  have l1 := plen_rng (v (a + 2)) j
  have hpl : ∀ (b j t : Int), 0 ≤ j → 0 ≤ t → t < 8 → (8 * j + t < b ↔ t < plen b j) := by
    intro b j t h0 t0 t1
    unfold plen
    repeat' split
    all_goals omega
  constructor
  · rintro ⟨e, h⟩
    refine ⟨e, ?_⟩
    rw [← e, List.map_inj_left]
    intro t ht
    have ht := List.mem_range.mp ht
    have := h t (by omega) (by omega)
    unfold byt at this
    rw [if_pos ((hpl (v (a + 2)) j t hj (by omega) (by omega)).mpr (by omega)), if_pos ((hpl (w (o + 2)) k t hk (by omega) (by omega)).mpr (by omega)), ← Int.add_assoc, ← Int.add_assoc] at this
    exact this
  · rintro ⟨e, h⟩
    refine ⟨e, fun t t0 t1 => ?_⟩
    rw [← e, List.map_inj_left] at h
    unfold byt
    by_cases hc : t < plen (v (a + 2)) j
    · have := h t.toNat (List.mem_range.mpr (by omega))
      rw [show ((t.toNat : Nat) : Int) = t by omega] at this
      rw [if_pos ((hpl (v (a + 2)) j t hj t0 t1).mpr hc), if_pos ((hpl (w (o + 2)) k t hk t0 t1).mpr (by omega)), ← Int.add_assoc, ← Int.add_assoc]
      exact this
    · rw [if_neg (fun z => hc ((hpl (v (a + 2)) j t hj t0 t1).mp z)), if_neg (fun z => hc (by rw [e]; exact (hpl (w (o + 2)) k t hk t0 t1).mp z))]
def ct (σ : hT) (c : Nat) (v : Int → Int) (a : Int) : Prop := σ.1 601 c 0 = zI (v (a + 2)) ∧ σ.1 604 c 0 = zI (v (a + 3)) ∧ (∀ k : Int, 0 ≤ k → k < v (a + 3) → σ.1 21 c k.toNat = zI (v (a + 4 + 2 * k)) ∧ σ.1 22 c k.toNat = zI (v (a + 4 + 2 * k + 1))) ∧ ∀ j : Int, 0 ≤ j → j < 8 → pcR (σ.2.1 20 c j.toNat) v a j
def ct0 (σ : hT) (c : Nat) : Prop := σ.1 601 c 0 = zI 0 ∧ σ.1 604 c 0 = zI 0 ∧ ∀ j : Int, 0 ≤ j → j < 8 → σ.2.1 20 c j.toNat = 0
def eqC (σ σ' : hT) (c : Nat) : Prop := σ'.1 601 c = σ.1 601 c ∧ σ'.1 604 c = σ.1 604 c ∧ σ'.1 21 c = σ.1 21 c ∧ σ'.1 22 c = σ.1 22 c ∧ σ'.2.1 20 c = σ.2.1 20 c
theorem pcR_c {L : Int64} {v v' : Int → Int} {a t j : Int} (he : ∀ k, 2 ≤ k → k < 80 → v' (t + k) = v (a + k)) (hb : v (a + 2) ≤ 64) (h0 : 0 ≤ j) (h1 : j < 8) (h : pcR L v a j) : pcR L v' t j := by
  intro q i hq hi
  rw [h q i hq hi]
  unfold byt
  rw [he 2 (by omega) (by omega)]
  split
  · have := he (16 + (8 * j + q)) (by omega) (by omega)
    rw [show t + (16 + (8 * j + q)) = t + 16 + (8 * j + q) by omega, show a + (16 + (8 * j + q)) = a + 16 + (8 * j + q) by omega] at this
    rw [this]
  · rfl
theorem ct.to {σ σ' : hT} {c : Nat} {v v' : Int → Int} {a t : Int} (h : ct σ c v a) (hq : eqC σ σ' c) (hc : cw v a) (he : ∀ k, 2 ≤ k → k < 80 → v' (t + k) = v (a + k)) : ct σ' c v' t := by
  obtain ⟨h1, h2, h3, h4⟩ := h
  obtain ⟨q1, q2, q3, q4, q5⟩ := hq
  have b1 := hc.1
  have b2 := hc.2.1
  refine ⟨by rw [q1, he 2 (by omega) (by omega)]; exact h1, by rw [q2, he 3 (by omega) (by omega)]; exact h2, fun k k0 k1 => ?_, fun j j0 j1 => ?_⟩
  · rw [he 3 (by omega) (by omega)] at k1
    have e1 := he (4 + 2 * k) (by omega) (by omega)
    have e2 := he (4 + 2 * k + 1) (by omega) (by omega)
    rw [← Int.add_assoc, ← Int.add_assoc] at e1
    rw [← Int.add_assoc, ← Int.add_assoc, ← Int.add_assoc, ← Int.add_assoc] at e2
    rw [q3, q4, e1, e2]
    exact h3 k k0 k1
  · rw [q5]; exact pcR_c he b1.2 j0 j1 (h4 j j0 j1)
theorem ct0.to {σ σ' : hT} {c : Nat} (h : ct0 σ c) (hq : eqC σ σ' c) : ct0 σ' c := by
  obtain ⟨h1, h2, h3⟩ := h
  obtain ⟨q1, q2, q3, q4, q5⟩ := hq
  exact ⟨by rw [q1]; exact h1, by rw [q2]; exact h2, fun j a b => by rw [q5]; exact h3 j a b⟩
theorem eqC.rf {σ : hT} {c : Nat} : eqC σ σ c := ⟨rfl, rfl, rfl, rfl, rfl⟩
theorem eqC.tr {σ σ1 σ2 : hT} {c : Nat} (h : eqC σ σ1 c) (h2 : eqC σ1 σ2 c) : eqC σ σ2 c := ⟨h2.1.trans h.1, h2.2.1.trans h.2.1, h2.2.2.1.trans h.2.2.1, h2.2.2.2.1.trans h.2.2.2.1, h2.2.2.2.2.trans h.2.2.2.2⟩
theorem eC_hasByte {σ : hT} {c : Nat} {b i : Int} (h : σ.1 601 c 0 = zI b) (hb : 0 ≤ b ∧ b ≤ 64) (hi : i32 i) : C_hasByte σ c (zI i) = zI (if 0 ≤ i ∧ i < b then 1 else 0) := by
  obtain ⟨i1, i2⟩ := hi
  unfold C_hasByte
  simp (disch := omega) only [l0, l1, l2, l3, l4, l5, l6, l7, l8, l10, l12, l16, l20, l24, l26, l40, l64, l80, l100, l255, l256, l288, l312, l400, l992, l1940, l24980, l25240, xI, xL, xR, zI_neg, zI_add, zI_sub, zI_mul, zI_le, zI_lt, zI_eq, zI_in, zI_nat, Option.bind_some, lt9, hq, Int.add_zero, Int.sub_self, true_or, or_true, true_and, and_true, false_or, or_false, Int.cast_ofNat_Int, ↓reduceIte, h]
  repeat' split
  all_goals first | rfl | (exfalso; omega)
theorem eC_hasReference {σ : hT} {c : Nat} {b i : Int} (h : σ.1 604 c 0 = zI b) (hb : 0 ≤ b ∧ b ≤ 6) (hi : i32 i) : C_hasReference σ c (zI i) = zI (if 0 ≤ i ∧ i < b then 1 else 0) := by
  obtain ⟨i1, i2⟩ := hi
  unfold C_hasReference
  simp (disch := omega) only [l0, l1, l2, l3, l4, l5, l6, l7, l8, l10, l12, l16, l20, l24, l26, l40, l64, l80, l100, l255, l256, l288, l312, l400, l992, l1940, l24980, l25240, xI, xL, xR, zI_neg, zI_add, zI_sub, zI_mul, zI_le, zI_lt, zI_eq, zI_in, zI_nat, Option.bind_some, lt9, hq, Int.add_zero, Int.sub_self, true_or, or_true, true_and, and_true, false_or, or_false, Int.cast_ofNat_Int, ↓reduceIte, h]
  repeat' split
  all_goals first | rfl | (exfalso; omega)
theorem eC_pieceCount {σ : hT} {c : Nat} {b : Int} (h : σ.1 601 c 0 = zI b) (hb : 0 ≤ b ∧ b ≤ 64) : C_pieceCount σ c = zI ((b + 7) / 8) := by
  unfold C_pieceCount
  simp (disch := omega) only [l0, l1, l2, l3, l4, l5, l6, l7, l8, l10, l12, l16, l20, l24, l26, l40, l64, l80, l100, l255, l256, l288, l312, l400, l992, l1940, l24980, l25240, xI, xL, xR, zI_neg, zI_add, zI_sub, zI_mul, zI_le, zI_lt, zI_eq, zI_in, zI_nat, Option.bind_some, lt9, hq, Int.add_zero, Int.sub_self, true_or, or_true, true_and, and_true, false_or, or_false, Int.cast_ofNat_Int, ↓reduceIte, h]
  rw [zI_div (by omega) (by omega) (by omega) (by omega)]
  congr 2; omega
theorem eC_pieceLength {σ : hT} {c : Nat} {b j : Int} (h : σ.1 601 c 0 = zI b) (hb : 0 ≤ b ∧ b ≤ 64) (hj : 0 ≤ j ∧ j ≤ 8) : C_pieceLength σ c (zI j) = zI (plen b j) := by
  unfold C_pieceLength plen
  rw [show 8 * j = j * 8 by omega]
  by_cases h1 : b - j * 8 < 8
  · by_cases h2 : 0 < b - j * 8
    · simp (disch := omega) only [l0, l1, l2, l3, l4, l5, l6, l7, l8, l10, l12, l16, l20, l24, l26, l40, l64, l80, l100, l255, l256, l288, l312, l400, l992, l1940, l24980, l25240, xI, xL, xR, zI_neg, zI_add, zI_sub, zI_mul, zI_le, zI_lt, zI_eq, zI_in, zI_nat, Option.bind_some, lt9, hq, Int.add_zero, Int.sub_self, true_or, or_true, true_and, and_true, false_or, or_false, Int.cast_ofNat_Int, ↓reduceIte, h, if_pos, if_neg]
    · simp (disch := omega) only [l0, l1, l2, l3, l4, l5, l6, l7, l8, l10, l12, l16, l20, l24, l26, l40, l64, l80, l100, l255, l256, l288, l312, l400, l992, l1940, l24980, l25240, xI, xL, xR, zI_neg, zI_add, zI_sub, zI_mul, zI_le, zI_lt, zI_eq, zI_in, zI_nat, Option.bind_some, lt9, hq, Int.add_zero, Int.sub_self, true_or, or_true, true_and, and_true, false_or, or_false, Int.cast_ofNat_Int, ↓reduceIte, h, if_pos, if_neg]
      repeat' split
      all_goals first | rfl | (exfalso; omega) | (congr 1; omega)
  · simp (disch := omega) only [l0, l1, l2, l3, l4, l5, l6, l7, l8, l10, l12, l16, l20, l24, l26, l40, l64, l80, l100, l255, l256, l288, l312, l400, l992, l1940, l24980, l25240, xI, xL, xR, zI_neg, zI_add, zI_sub, zI_mul, zI_le, zI_lt, zI_eq, zI_in, zI_nat, Option.bind_some, lt9, hq, Int.add_zero, Int.sub_self, true_or, or_true, true_and, and_true, false_or, or_false, Int.cast_ofNat_Int, ↓reduceIte, h, if_pos, if_neg]
    repeat' split
    all_goals first | rfl | (exfalso; omega) | (congr 1; omega)
theorem lgc {x y : Int64} : (lg_cmp x y = zI 0) = (x = y) := by
  unfold lg_cmp
  apply propext
  constructor
  · intro h
    split at h
    · exact absurd h (by decide)
    · split at h
      · assumption
      · exact absurd h (by decide)
  · intro h; subst h
    rw [if_neg (by exact Int64.lt_irrefl), if_pos rfl]; rfl
theorem rS9 {σ : hT} {f j : Nat} {g : Nat → Int32} : (sI9 σ f j g).1 f j = g := r3_self
theorem rO9 {σ : hT} {f j f' j' : Nat} {g : Nat → Int32} (h : f' ≠ f) : (sI9 σ f j g).1 f' j' = σ.1 f' j' := r3_ne (fun z => h z.1)
theorem rJ9 {σ : hT} {f j f' j' : Nat} {g : Nat → Int32} (h : j' ≠ j) : (sI9 σ f j g).1 f' j' = σ.1 f' j' := r3_ne (fun z => h z.2)
theorem lS9 {σ : hT} {f j : Nat} {g : Nat → Int64} : (sL9 σ f j g).2.1 f j = g := r3_self
theorem lO9 {σ : hT} {f j f' j' : Nat} {g : Nat → Int64} (h : f' ≠ f) : (sL9 σ f j g).2.1 f' j' = σ.2.1 f' j' := r3_ne (fun z => h z.1)
theorem lJ9 {σ : hT} {f j f' j' : Nat} {g : Nat → Int64} (h : j' ≠ j) : (sL9 σ f j g).2.1 f' j' = σ.2.1 f' j' := r3_ne (fun z => h z.2)
theorem lS {σ : hT} {f j k : Nat} {x : Int64} : (sL σ f j k x).2.1 f j k = x := sL_self
theorem lK {σ : hT} {f j k k' : Nat} {x : Int64} (h : k' ≠ k) : (sL σ f j k x).2.1 f j k' = σ.2.1 f j k' := by
  show r3 σ.2.1 f j (up9 (σ.2.1 f j) k x) f j k' = _
  rw [r3_self]; exact if_neg h
theorem lO {σ : hT} {f j k f' j' : Nat} {x : Int64} (h : f' ≠ f) : (sL σ f j k x).2.1 f' j' = σ.2.1 f' j' := r3_ne (fun z => h z.1)
theorem lJ {σ : hT} {f j k f' j' : Nat} {x : Int64} (h : j' ≠ j) : (sL σ f j k x).2.1 f' j' = σ.2.1 f' j' := r3_ne (fun z => h z.2)
theorem lI {σ : hT} {f j k : Nat} {x : Int64} : (sL σ f j k x).1 = σ.1 := rfl
theorem lI9 {σ : hT} {f j : Nat} {g : Nat → Int64} : (sL9 σ f j g).1 = σ.1 := rfl
theorem lR {σ : hT} {f j k : Nat} {x : Int64} : (sL σ f j k x).2.2 = σ.2.2 := rfl
theorem lR9 {σ : hT} {f j : Nat} {g : Nat → Int64} : (sL9 σ f j g).2.2 = σ.2.2 := rfl
theorem rL9 {σ : hT} {f j : Nat} {g : Nat → Int32} : (sI9 σ f j g).2 = σ.2 := rfl
theorem rL {σ : hT} {f j k : Nat} {x : Int32} : (sI σ f j k x).2 = σ.2 := rfl
def frC (c : Nat) (σ σ' : hT) : Prop := (∀ f j, ¬ ((f = 601 ∨ f = 604 ∨ f = 21 ∨ f = 22) ∧ j = c) → σ'.1 f j = σ.1 f j) ∧ (∀ f j, ¬ (f = 20 ∧ j = c) → σ'.2.1 f j = σ.2.1 f j) ∧ σ'.2.2 = σ.2.2
theorem frC.rf {c : Nat} {σ : hT} : frC c σ σ := ⟨fun _ _ _ => rfl, fun _ _ _ => rfl, rfl⟩
theorem frC.tr {c : Nat} {σ σ1 σ2 : hT} (h : frC c σ σ1) (h2 : frC c σ1 σ2) : frC c σ σ2 := ⟨fun f j n => (h2.1 f j n).trans (h.1 f j n), fun f j n => (h2.2.1 f j n).trans (h.2.1 f j n), h2.2.2.trans h.2.2⟩
theorem frC.i {c : Nat} {σ σ1 : hT} (h : frC c σ σ1) {f k : Nat} {x : Int32} (hf : f = 601 ∨ f = 604 ∨ f = 21 ∨ f = 22) : frC c σ (sI σ1 f c k x) := ⟨fun f' j' n => (show (sI σ1 f c k x).1 f' j' = _ from r3_ne (fun z => n ⟨z.1 ▸ hf, z.2⟩)).trans (h.1 f' j' n), h.2.1, h.2.2⟩
theorem frC.i9 {c : Nat} {σ σ1 : hT} (h : frC c σ σ1) {f : Nat} {g : Nat → Int32} (hf : f = 601 ∨ f = 604 ∨ f = 21 ∨ f = 22) : frC c σ (sI9 σ1 f c g) := ⟨fun f' j' n => (show (sI9 σ1 f c g).1 f' j' = _ from r3_ne (fun z => n ⟨z.1 ▸ hf, z.2⟩)).trans (h.1 f' j' n), h.2.1, h.2.2⟩
theorem frC.l {c : Nat} {σ σ1 : hT} (h : frC c σ σ1) {k : Nat} {x : Int64} : frC c σ (sL σ1 20 c k x) := ⟨h.1, fun f' j' n => (show (sL σ1 20 c k x).2.1 f' j' = _ from r3_ne (fun z => n ⟨z.1, z.2⟩)).trans (h.2.1 f' j' n), h.2.2⟩
theorem frC.l9 {c : Nat} {σ σ1 : hT} (h : frC c σ σ1) {g : Nat → Int64} : frC c σ (sL9 σ1 20 c g) := ⟨h.1, fun f' j' n => (show (sL9 σ1 20 c g).2.1 f' j' = _ from r3_ne (fun z => n ⟨z.1, z.2⟩)).trans (h.2.1 f' j' n), h.2.2⟩
theorem frC.eq {c c' : Nat} {σ σ' : hT} (h : frC c σ σ') (hc : c' ≠ c) : eqC σ σ' c' := ⟨h.1 601 c' (fun z => hc z.2), h.1 604 c' (fun z => hc z.2), h.1 21 c' (fun z => hc z.2), h.1 22 c' (fun z => hc z.2), h.2.1 20 c' (fun z => hc z.2)⟩
theorem eC_takeFrom {σ : hT} {c c1 : Nat} (hc : c1 ≠ c) : ∃ σ', C_takeFrom σ c c1 = some ((), σ') ∧ frC c σ σ' ∧ (∀ v a, cw v a → ct σ c1 v a → ct σ' c v a) ∧ (ct0 σ c1 → ct0 σ' c) := by
  refine ⟨_, rfl, ?_, ?_, ?_⟩
  · exact ((((frC.rf.l9).i9 (by omega)).i9 (by omega)).i (by omega)).i (by omega)
  · rintro v a hcw ⟨h1, h2, h3, h4⟩
    have b2 := hcw.2.1
    refine ⟨?_, ?_, fun k k0 k1 => ⟨?_, ?_⟩, fun j j0 j1 => ?_⟩
    · simp only [rO (show (601 : Nat) ≠ 604 by decide), rS, rO9 (show (601 : Nat) ≠ 22 by decide), rO9 (show (601 : Nat) ≠ 21 by decide), lI9, xI]; exact h1
    · simp only [rS, rO (show (604 : Nat) ≠ 601 by decide), rO9 (show (604 : Nat) ≠ 22 by decide), rO9 (show (604 : Nat) ≠ 21 by decide), lI9, xI]; exact h2
    · simp only [rO (show (21 : Nat) ≠ 604 by decide), rO (show (21 : Nat) ≠ 601 by decide), rO9 (show (21 : Nat) ≠ 22 by decide), rS9, lI9, xI, cp9]
      rw [if_pos (by omega)]; exact (h3 k k0 k1).1
    · simp only [rO (show (22 : Nat) ≠ 604 by decide), rO (show (22 : Nat) ≠ 601 by decide), rO9 (show (22 : Nat) ≠ 21 by decide), rS9, lI9, xI, cp9]
      rw [if_pos (by omega)]; exact (h3 k k0 k1).2
    · simp only [rL, rL9, lS9, xL, cp9]
      rw [if_pos (by omega)]; exact h4 j j0 j1
  · rintro ⟨h1, h2, h4⟩
    refine ⟨?_, ?_, fun j j0 j1 => ?_⟩
    · simp only [rO (show (601 : Nat) ≠ 604 by decide), rS, rO9 (show (601 : Nat) ≠ 22 by decide), rO9 (show (601 : Nat) ≠ 21 by decide), lI9, xI]; exact h1
    · simp only [rS, rO (show (604 : Nat) ≠ 601 by decide), rO9 (show (604 : Nat) ≠ 22 by decide), rO9 (show (604 : Nat) ≠ 21 by decide), lI9, xI]; exact h2
    · simp only [rL, rL9, lS9, xL, cp9]
      rw [if_pos (by omega)]; exact h4 j j0 j1
theorem eA_fillJ_L {n : Nat} {c : Nat} (kx : hT → Int32 → Nat → Int64 → Option (Unit × hT)) (K : Nat) : ∀ (σ : hT) (i : Nat), (∀ k : Int, 0 ≤ k → k < i → σ.2.1 20 c k.toNat = 0) → i ≤ 8 → 8 - i < K →
    ∃ σ', A_fillJ_L6 n kx K σ (zI i) c 0 = kx σ' (zI 8) c 0 ∧ frC c σ σ' ∧ (∀ k : Int, 0 ≤ k → k < 8 → σ'.2.1 20 c k.toNat = 0) := by
  induction K with
  | zero => intro σ i _ _ h; omega
  | succ K ih =>
    intro σ i hI hi hK
    by_cases hc : 8 ≤ i
    · obtain rfl : i = 8 := by omega
      refine ⟨σ, ?_, frC.rf, fun k a b => hI k a (by omega)⟩
      unfold A_fillJ_L6
      simp (disch := omega) only [l0, l1, l2, l3, l4, l5, l6, l7, l8, l10, l12, l16, l20, l24, l26, l40, l64, l80, l100, l255, l256, l288, l312, l400, l992, l1940, l24980, l25240, xI, xL, xR, zI_neg, zI_add, zI_sub, zI_mul, zI_le, zI_lt, zI_eq, zI_in, zI_nat, Option.bind_some, lt9, hq, Int.add_zero, Int.sub_self, true_or, or_true, true_and, and_true, false_or, or_false, Int.cast_ofNat_Int, ↓reduceIte, if_pos, if_neg]
    · have st : A_fillJ_L6 n kx (K + 1) σ (zI i) c 0 = A_fillJ_L6 n kx K (sL σ 20 c i 0) (zI ((i + 1 : Nat) : Int)) c 0 := by
        conv => lhs; unfold A_fillJ_L6
        simp (disch := omega) only [l0, l1, l2, l3, l4, l5, l6, l7, l8, l10, l12, l16, l20, l24, l26, l40, l64, l80, l100, l255, l256, l288, l312, l400, l992, l1940, l24980, l25240, xI, xL, xR, zI_neg, zI_add, zI_sub, zI_mul, zI_le, zI_lt, zI_eq, zI_in, zI_nat, Option.bind_some, lt9, hq, Int.add_zero, Int.sub_self, true_or, or_true, true_and, and_true, false_or, or_false, Int.cast_ofNat_Int, ↓reduceIte, Int.toNat_natCast, if_pos, if_neg]
        rfl
      obtain ⟨σ', q1, q2, q3⟩ := ih (sL σ 20 c i 0) (i + 1) (fun k a b => by
        by_cases e : k = i
        · subst e; rw [Int.toNat_natCast, lS]
        · rw [lK (by omega)]; exact hI k a (by omega)) (by omega) (by omega)
      exact ⟨σ', st.trans q1, (frC.rf.l).tr q2, q3⟩
theorem eC_clear {σ : hT} {c n : Nat} (hn : 9 ≤ n) : ∃ σ', C_clear n σ c = some ((), σ') ∧ frC c σ σ' ∧ ct0 σ' c := by
  obtain ⟨σ1, q1, q2, q3⟩ := eA_fillJ_L (n := n) (c := c) (fun (σ2 : hT) (p3 : Int32) (j4 : Nat) (p6 : Int64) => some ((), σ2)) n σ 0 (fun k a b => by omega) (by omega) (by omega)
  refine ⟨sI (sI σ1 601 c 0 (zI 0)) 604 c 0 (zI 0), ?_, (q2.i (by omega)).i (by omega), ?_, rS, fun j a b => q3 j a b⟩
  · unfold C_clear A_fillJ
    refine Eq.trans (congrArg (fun z => Option.bind z _) q1) ?_
    rfl
  · rw [rO (by decide)]; exact rS
