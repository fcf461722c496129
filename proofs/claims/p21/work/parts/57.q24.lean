theorem zI_bv {x : Int} (h0 : 0 ≤ x) : (zI x).toBitVec = BitVec.ofNat 32 x.toNat := by
  unfold zI
  rw [Int32.toBitVec_ofInt]
  conv => lhs; rw [show x = ((x.toNat : Nat) : Int) by omega]
  rw [BitVec.ofInt_natCast]
theorem zI_64 {x : Int} (h0 : 0 ≤ x) (h1 : x ≤ 255) (m : Nat) : (zI x).toInt64.toBitVec.getLsbD m = x.toNat.testBit m := by
  rw [Int32.toBitVec_toInt64, zI_bv h0, BitVec.getLsbD_signExtend]
  have hm : (BitVec.ofNat 32 x.toNat).msb = false := by
    rw [BitVec.msb_eq_decide, decide_eq_false_iff_not, BitVec.toNat_ofNat, Nat.mod_eq_of_lt (by omega)]
    omega
  rw [hm, BitVec.getLsbD_ofNat]
  by_cases h : m < 8
  · have a1 : decide (m < 64) = true := by simp; omega
    have a2 : decide (m < 32) = true := by simp; omega
    rw [a1, a2, if_pos (by omega)]; simp
  · rw [tb_hi h0 h1 (by omega)]; simp
theorem eC_shiftOf {i : Int} (h0 : 0 ≤ i) (h1 : i < 64) : C_shiftOf (zI i) = zI (8 * (i % 8)) := by
  unfold C_shiftOf
  rw [l8, zI_div (by omega) (by omega) (by omega) (by omega), zI_mul, zI_sub, zI_mul]
  congr 1; omega
theorem sh_l {t : Nat} (ht : t < 8) (x : Int64) : (x <<< ((zI (8 * (t : Int))).toInt64 &&& 63)).toBitVec = x.toBitVec <<< (8 * t) := by
  have : t = 0 ∨ t = 1 ∨ t = 2 ∨ t = 3 ∨ t = 4 ∨ t = 5 ∨ t = 6 ∨ t = 7 := by omega
  rw [Int64.toBitVec_shiftLeft, BitVec.shiftLeft_eq']
  congr 1
  rcases this with rfl | rfl | rfl | rfl | rfl | rfl | rfl | rfl <;> decide
theorem sh_r {t : Nat} (ht : t < 8) (x : UInt64) : (x >>> ((zI (8 * (t : Int))).toInt64.toUInt64 &&& Int64.toUInt64 63)).toBitVec = x.toBitVec >>> (8 * t) := by
  have : t = 0 ∨ t = 1 ∨ t = 2 ∨ t = 3 ∨ t = 4 ∨ t = 5 ∨ t = 6 ∨ t = 7 := by omega
  rw [UInt64.toBitVec_shiftRight, BitVec.ushiftRight_eq']
  congr 1
  rcases this with rfl | rfl | rfl | rfl | rfl | rfl | rfl | rfl <;> decide
def pB (L : Int64) (B : Int → Int) (j : Int) : Prop := ∀ t i : Nat, t < 8 → i < 8 → L.toBitVec.getLsbD (8 * t + i) = (B (8 * j + t)).toNat.testBit i
theorem eC_setByte {σ : hT} {c : Nat} {B : Int → Int} {i x : Int} (hB : ∀ j : Int, 0 ≤ j → j < 8 → pB (σ.2.1 20 c j.toNat) B j) (i0 : 0 ≤ i) (i1 : i < 64) (x0 : 0 ≤ x) (x1 : x ≤ 255) :
    ∃ L, C_setByte σ c (zI i) (zI x) = some ((), sL σ 20 c (i / 8).toNat L) ∧ ∀ j : Int, 0 ≤ j → j < 8 → pB ((sL σ 20 c (i / 8).toNat L).2.1 20 c j.toNat) (uv B i x) j := by
  have ed : zI i / zI 8 = zI (i / 8) := zI_div (by omega) (by omega) (by omega) (by omega)
  refine ⟨((σ.2.1 20 c (i / 8).toNat) &&& ((255 <<< ((zI (8 * (i % 8))).toInt64 &&& 63)) ^^^ (-1))) ||| ((zI x).toInt64 <<< ((zI (8 * (i % 8))).toInt64 &&& 63)), ?_, fun j j0 j1 => ?_⟩
  · unfold C_setByte
    rw [eC_shiftOf i0 i1]
    simp (disch := omega) only [l0, l1, l2, l3, l4, l5, l6, l7, l8, l10, l12, l16, l20, l24, l26, l40, l64, l80, l100, l255, l256, l288, l312, l400, l992, l1940, l24980, l25240, xI, xL, xR, zI_neg, zI_add, zI_sub, zI_mul, zI_le, zI_lt, zI_eq, zI_in, zI_nat, Option.bind_some, lt9, hq, Int.add_zero, Int.sub_self, true_or, or_true, true_and, and_true, false_or, or_false, Int.cast_ofNat_Int, ↓reduceIte, ed, if_pos, if_neg]
  · by_cases e : j = i / 8
    · subst e
      rw [lS]
      intro t' q ht' hq
      obtain ⟨t, ht⟩ : ∃ t : Nat, (t : Int) = i % 8 := ⟨(i % 8).toNat, by omega⟩
      have t8 : t < 8 := by omega
      rw [← ht, Int64.toBitVec_or, Int64.toBitVec_and, Int64.toBitVec_xor, sh_l t8, sh_l t8]
      have h255 : (255 : Int64).toBitVec = 255#64 := by decide
      have hm1 : (-1 : Int64).toBitVec = -1#64 := by decide
      rw [h255, hm1, bset _ _ (fun m hm => by rw [zI_64 x0 x1, tb_hi x0 x1 hm]) t t8 t' q ht' hq]
      by_cases e2 : t' = t
      · subst e2
        rw [if_pos rfl, zI_64 x0 x1]
        rw [show 8 * (i / 8) + (t' : Int) = i by omega, uv_s]
      · rw [if_neg e2, hB _ j0 j1 t' q ht' hq, uv_n (by omega)]
    · rw [lK (by omega)]
      intro t' q ht' hq
      rw [hB j j0 j1 t' q ht' hq, uv_n (by omega)]
theorem eC_byteAt {σ : hT} {c : Nat} {B : Int → Int} {i : Int} (hB : ∀ j : Int, 0 ≤ j → j < 8 → pB (σ.2.1 20 c j.toNat) B j) (i0 : 0 ≤ i) (i1 : i < 64) (x0 : 0 ≤ B i) (x1 : B i ≤ 255) : C_byteAt σ c (zI i) = some (zI (B i)) := by
  have ed : zI i / zI 8 = zI (i / 8) := zI_div (by omega) (by omega) (by omega) (by omega)
  unfold C_byteAt
  rw [eC_shiftOf i0 i1]
  simp (disch := omega) only [l0, l1, l2, l3, l4, l5, l6, l7, l8, l10, l12, l16, l20, l24, l26, l40, l64, l80, l100, l255, l256, l288, l312, l400, l992, l1940, l24980, l25240, xI, xL, xR, zI_neg, zI_add, zI_sub, zI_mul, zI_le, zI_lt, zI_eq, zI_in, zI_nat, Option.bind_some, lt9, hq, Int.add_zero, Int.sub_self, true_or, or_true, true_and, and_true, false_or, or_false, Int.cast_ofNat_Int, ↓reduceIte, ed, if_pos, if_neg]
  congr 1
  apply Int32.toBitVec_inj.mp
  apply BitVec.eq_of_getLsbD_eq
  intro m hm
  obtain ⟨t, ht⟩ : ∃ t : Nat, (t : Int) = i % 8 := ⟨(i % 8).toNat, by omega⟩
  have t8 : t < 8 := by omega
  rw [← ht, Int32.toBitVec_and, BitVec.getLsbD_and, Int64.toBitVec_toInt32, UInt64.toBitVec_toInt64, sh_r t8, Int64.toBitVec_toUInt64, zI_bv x0, BitVec.getLsbD_ofNat, BitVec.getLsbD_signExtend, if_pos (by omega), BitVec.getLsbD_ushiftRight]
  have h255 : (zI 255).toBitVec.getLsbD m = decide (m < 8) := by
    rw [zI_bv (by decide), BitVec.getLsbD_ofNat]
    by_cases h : m < 8
    · have : m = 0 ∨ m = 1 ∨ m = 2 ∨ m = 3 ∨ m = 4 ∨ m = 5 ∨ m = 6 ∨ m = 7 := by omega
      rcases this with rfl | rfl | rfl | rfl | rfl | rfl | rfl | rfl <;> decide
    · rw [tb_hi (by decide) (by decide) (by omega), decide_eq_false h]; simp
  rw [h255]
  have a1 : decide (m < 32) = true := by simp; omega
  rw [a1]
  by_cases h : m < 8
  · rw [decide_eq_true h, hB (i / 8) (by omega) (by omega) t m t8 h, show 8 * (i / 8) + (t : Int) = i by omega]; simp
  · rw [decide_eq_false h, tb_hi x0 x1 (by omega)]; simp
def zb (B : Int → Int) (lo hi : Int) : Int → Int := fun q => if lo ≤ q ∧ q < hi then 0 else B q
theorem eC_setBytes_L {n c : Nat} {b w : Int} (hb : 0 ≤ b ∧ b ≤ 64) (hw : 0 ≤ w ∧ w ≤ 64) (B : Int → Int) (kx : hT → Int32 → Nat → Int32 → Option (Unit × hT)) (K : Nat) : ∀ (σ : hT) (i : Int), σ.1 601 c 0 = zI b → (∀ j : Int, 0 ≤ j → j < 8 → pB (σ.2.1 20 c j.toNat) (zb B w i) j) → w ≤ i → (i ≤ b ∨ i = w) → b - i < K → 0 < K →
    ∃ σ' e, C_setBytes_L2 n kx K σ (zI i) c (zI w) = kx σ' e c (zI w) ∧ σ'.1 = σ.1 ∧ σ'.2.2 = σ.2.2 ∧ (∀ f j, ¬ (f = 20 ∧ j = c) → σ'.2.1 f j = σ.2.1 f j) ∧ (∀ j : Int, 0 ≤ j → j < 8 → pB (σ'.2.1 20 c j.toNat) (zb B w b) j) := by
  induction K with
  | zero => intro σ i _ _ _ _ _ h; omega
  | succ K ih =>
    intro σ i h6 hB hi hi2 hK hK0
    by_cases hc : b ≤ i
    · refine ⟨σ, zI i, ?_, rfl, rfl, fun _ _ _ => rfl, fun j j0 j1 => ?_⟩
      · unfold C_setBytes_L2
        simp (disch := omega) only [l0, l1, l2, l3, l4, l5, l6, l7, l8, l10, l12, l16, l20, l24, l26, l40, l64, l80, l100, l255, l256, l288, l312, l400, l992, l1940, l24980, l25240, xI, xL, xR, zI_neg, zI_add, zI_sub, zI_mul, zI_le, zI_lt, zI_eq, zI_in, zI_nat, Option.bind_some, lt9, hq, Int.add_zero, Int.sub_self, true_or, or_true, true_and, and_true, false_or, or_false, Int.cast_ofNat_Int, ↓reduceIte, h6, if_pos, if_neg]
      · have e : zb B w b = zb B w i := by
          funext q; unfold zb
          repeat' split
          all_goals first | rfl | (exfalso; omega)
        rw [e]; exact hB j j0 j1
    · obtain ⟨L, q1, q2⟩ := eC_setByte (i := i) (x := 0) hB (by omega) (by omega) (by omega) (by omega)
      have e : uv (zb B w i) i 0 = zb B w (i + 1) := by
        funext q; dsimp only [zb, uv]
        repeat' split
        all_goals first | rfl | (exfalso; omega)
      rw [e] at q2
      obtain ⟨σ', e', r1, r2, r3, r4, r5⟩ := ih (sL σ 20 c (i / 8).toNat L) (i + 1) h6 q2 (by omega) (by omega) (by omega) (by omega)
      refine ⟨σ', e', ?_, r2, r3, fun f j n => (r4 f j n).trans (show (sL σ 20 c (i / 8).toNat L).2.1 f j = _ from r3_ne (fun z => n ⟨z.1, z.2⟩)), r5⟩
      rw [← r1]
      conv => lhs; unfold C_setBytes_L2
      simp (disch := omega) only [l0, l1, l2, l3, l4, l5, l6, l7, l8, l10, l12, l16, l20, l24, l26, l40, l64, l80, l100, l255, l256, l288, l312, l400, l992, l1940, l24980, l25240, xI, xL, xR, zI_neg, zI_add, zI_sub, zI_mul, zI_le, zI_lt, zI_eq, zI_in, zI_nat, Option.bind_some, lt9, hq, Int.add_zero, Int.sub_self, true_or, or_true, true_and, and_true, false_or, or_false, Int.cast_ofNat_Int, ↓reduceIte, h6, q1, if_pos, if_neg]
theorem ct.pb {σ : hT} {c : Nat} {v : Int → Int} {a : Int} (h : ct σ c v a) : ∀ j : Int, 0 ≤ j → j < 8 → pB (σ.2.1 20 c j.toNat) (byt v a) j := h.2.2.2
theorem pB_c {L : Int64} {B B' : Int → Int} {j : Int} (he : ∀ t : Int, 0 ≤ t → t < 8 → B' (8 * j + t) = B (8 * j + t)) (h : pB L B j) : pB L B' j := by
  intro t i ht hi
  rw [h t i ht hi, he t (by omega) (by omega)]
theorem eC_setByte_ct {σ : hT} {c : Nat} {v : Int → Int} {a i x : Int} (h : ct σ c v a) (hc : cw v a) (i0 : 0 ≤ i) (i1 : i < v (a + 2)) (x0 : 0 ≤ x) (x1 : x ≤ 255) : ∃ σ', C_setByte σ c (zI i) (zI x) = some ((), σ') ∧ frC c σ σ' ∧ ct σ' c (uv v (a + 16 + i) x) a := by
  have b1 := hc.1
  have b2 := hc.2.1
  obtain ⟨L, q1, q2⟩ := eC_setByte (i := i) (x := x) h.pb i0 (by omega) x0 x1
  refine ⟨_, q1, frC.rf.l, by rw [uv_n (by omega)]; exact h.1, by rw [uv_n (by omega)]; exact h.2.1, fun k k0 k1 => ?_, fun j j0 j1 => ?_⟩
  · rw [uv_n (by omega)] at k1
    rw [uv_n (by omega), uv_n (by omega)]
    exact h.2.2.1 k k0 k1
  · refine pB_c (fun t t0 t1 => ?_) (q2 j j0 j1)
    unfold byt
    rw [uv_n (i := a + 2) (by omega)]
    by_cases e : 8 * j + t = i
    · rw [e, if_pos i1, uv_s, uv_s]
    · rw [uv_n (k := i) e]
      split
      · rw [uv_n (by omega)]
      · rfl
theorem eC_setBytes_ct {σ : hT} {c n : Nat} {v : Int → Int} {d b : Int} (h : ct σ c v (20 + 80 * d)) (hc : cw v (20 + 80 * d)) (hb : 0 ≤ b ∧ b ≤ 64) (hn : 65 ≤ n) : ∃ σ', C_setBytes n σ c (zI b) = some ((), σ') ∧ frC c σ σ' ∧ ct σ' c (fRsz d b v) (20 + 80 * d) := by
  have b1 := hc.1
  have b2 := hc.2.1
  have e0 : zb (byt v (20 + 80 * d)) b b = byt v (20 + 80 * d) := by funext q; unfold zb; rw [if_neg (by omega)]
  obtain ⟨σ1, e, q1, q2, q3, q4, q5⟩ := eC_setBytes_L (n := n) (c := c) b1 hb (byt v (20 + 80 * d)) (fun (σ1 : hT) (p2 : Int32) (j3 : Nat) (p5 : Int32) => lt9 (sI σ1 601 j3 0 p5) fun σ13 => some ((), σ13)) n σ b h.1 (by rw [e0]; exact h.pb) (by omega) (Or.inr rfl) (by omega) (by omega)
  refine ⟨sI σ1 601 c 0 (zI b), ?_, ?_, ?_⟩
  · unfold C_setBytes
    exact q1
  · exact (frC.tr ⟨fun f j _ => by rw [q2], q4, q3⟩ (frC.rf.i (by omega)))
  · have f2 : fRsz d b v (20 + 80 * d + 2) = b := by unfold fRsz; rw [uv_s]
    have fo : ∀ k, k ≠ 2 → k < 16 → fRsz d b v (20 + 80 * d + k) = v (20 + 80 * d + k) := fun k h1 h2 => by unfold fRsz; rw [uv_n (by omega), zr_n (by omega)]
    refine ⟨by rw [rS, f2], ?_, fun k k0 k1 => ?_, fun j j0 j1 => ?_⟩
    · rw [rO (by decide), q2, fo 3 (by omega) (by omega)]; exact h.2.1
    · rw [fo 3 (by omega) (by omega)] at k1
      rw [rO (by decide), rO (by decide), q2]
      have e1 := fo (4 + 2 * k) (by omega) (by omega)
      have e2 := fo (4 + 2 * k + 1) (by omega) (by omega)
      rw [← Int.add_assoc] at e1
      rw [← Int.add_assoc, ← Int.add_assoc] at e2
      rw [e1, e2]
      exact h.2.2.1 k k0 k1
    · refine pB_c (fun t t0 t1 => ?_) (q5 j j0 j1)
      unfold zb byt
      rw [f2]
      by_cases g1 : 8 * j + t < b
      · rw [if_pos g1]
        unfold fRsz
        rw [uv_n (by omega)]
        by_cases g2 : 8 * j + t < v (20 + 80 * d + 2)
        · rw [zr_n (by omega), if_neg (by omega), if_pos g2]
        · rw [zr_p (by omega), if_neg (by omega), if_neg g2]
      · rw [if_neg g1]
        by_cases g2 : 8 * j + t < v (20 + 80 * d + 2)
        · rw [if_pos (by omega)]
        · rw [if_neg g2]; split <;> rfl
theorem eC_setReference_ct {σ : hT} {c : Nat} {v : Int → Int} {d k t r : Int} (h : ct σ c v (20 + 80 * d)) (hc : cw v (20 + 80 * d)) (k0 : 0 ≤ k) (k1 : k ≤ v (20 + 80 * d + 3)) (k2 : k < 6) : ∃ σ', C_setReference σ c (zI k) (zI t) (zI r) = some ((), σ') ∧ frC c σ σ' ∧ ct σ' c (fRef d k t r v) (20 + 80 * d) := by
  have b1 := hc.1
  have b2 := hc.2.1
  obtain ⟨h1, h2, h3, h4⟩ := h
  have g3 : fRef d k t r v (20 + 80 * d + 3) = if k = v (20 + 80 * d + 3) then v (20 + 80 * d + 3) + 1 else v (20 + 80 * d + 3) := uv_s
  refine ⟨sI (sI (sI σ 21 c k.toNat (zI t)) 22 c k.toNat (zI r)) 604 c 0 (zI (if k = v (20 + 80 * d + 3) then v (20 + 80 * d + 3) + 1 else v (20 + 80 * d + 3))), ?_, ((frC.rf.i (by omega)).i (by omega)).i (by omega), ?_, by rw [g3, rS], fun j j0 j1 => ?_, fun j j0 j1 => ?_⟩
  · unfold C_setReference
    by_cases e : k = v (20 + 80 * d + 3)
    · simp (disch := omega) only [l0, l1, l2, l3, l4, l5, l6, l7, l8, l10, l12, l16, l20, l24, l26, l40, l64, l80, l100, l255, l256, l288, l312, l400, l992, l1940, l24980, l25240, xI, xL, xR, zI_neg, zI_add, zI_sub, zI_mul, zI_le, zI_lt, zI_eq, zI_in, zI_nat, Option.bind_some, lt9, hq, Int.add_zero, Int.sub_self, true_or, or_true, true_and, and_true, false_or, or_false, Int.cast_ofNat_Int, ↓reduceIte, rO, h2, if_pos, if_neg]
      rw [e]
    · simp (disch := omega) only [l0, l1, l2, l3, l4, l5, l6, l7, l8, l10, l12, l16, l20, l24, l26, l40, l64, l80, l100, l255, l256, l288, l312, l400, l992, l1940, l24980, l25240, xI, xL, xR, zI_neg, zI_add, zI_sub, zI_mul, zI_le, zI_lt, zI_eq, zI_in, zI_nat, Option.bind_some, lt9, hq, Int.add_zero, Int.sub_self, true_or, or_true, true_and, and_true, false_or, or_false, Int.cast_ofNat_Int, ↓reduceIte, rO, h2, if_pos, if_neg]
  · unfold fRef
    simp (disch := first | decide | omega) only [rS, rO, rK, rJ, lS, lK, lO, lJ, lI, lI9, lR, lR9, rL, rL9, rS9, rO9, rJ9, lS9, lO9, lJ9, uv_s, uv_n]
    exact h1
  · rw [g3] at j1
    unfold fRef
    by_cases e : j = k
    · subst e
      simp (disch := first | decide | omega) only [rS, rO, rK, rJ, lS, lK, lO, lJ, lI, lI9, lR, lR9, rL, rL9, rS9, rO9, rJ9, lS9, lO9, lJ9, uv_s, uv_n]
      exact ⟨trivial, trivial⟩
    · simp (disch := first | decide | omega) only [rS, rO, rK, rJ, lS, lK, lO, lJ, lI, lI9, lR, lR9, rL, rL9, rS9, rO9, rJ9, lS9, lO9, lJ9, uv_s, uv_n]
      exact h3 j j0 (by split at j1 <;> omega)
  · refine pB_c (fun q q0 q1 => ?_) (h4 j j0 j1)
    unfold byt fRef
    simp (disch := first | decide | omega) only [rS, rO, rK, rJ, lS, lK, lO, lJ, lI, lI9, lR, lR9, rL, rL9, rS9, rO9, rJ9, lS9, lO9, lJ9, uv_s, uv_n]
theorem eC_rem_L {n c : Nat} {v : Int → Int} {a k m : Int} (k0 : 0 ≤ k) (hm : m ≤ 5) (kx : hT → Int32 → Nat → Int32 → Option (Unit × hT)) (x : Int32) (K : Nat) : ∀ (σ : hT) (i : Int), σ.1 604 c 0 = zI m → (∀ j : Int, 0 ≤ j → j ≤ m → σ.1 21 c j.toNat = zI (if k ≤ j ∧ j < i then v (a + 4 + 2 * (j + 1)) else v (a + 4 + 2 * j)) ∧ σ.1 22 c j.toNat = zI (if k ≤ j ∧ j < i then v (a + 4 + 2 * (j + 1) + 1) else v (a + 4 + 2 * j + 1))) → k ≤ i → i ≤ m → m - i < K →
    ∃ σ' e, C_removeReference_L12 n kx K σ (zI i) c x = kx σ' e c x ∧ σ'.2 = σ.2 ∧ (∀ f j, ¬ ((f = 21 ∨ f = 22) ∧ j = c) → σ'.1 f j = σ.1 f j) ∧ (∀ j : Int, 0 ≤ j → j ≤ m → σ'.1 21 c j.toNat = zI (if k ≤ j ∧ j < m then v (a + 4 + 2 * (j + 1)) else v (a + 4 + 2 * j)) ∧ σ'.1 22 c j.toNat = zI (if k ≤ j ∧ j < m then v (a + 4 + 2 * (j + 1) + 1) else v (a + 4 + 2 * j + 1))) := by
  induction K with
  | zero => intro σ i _ _ _ _ h; omega
  | succ K ih =>
    intro σ i h6 hI hi him hK
    by_cases hc : m ≤ i
    · obtain rfl : i = m := by omega
      refine ⟨σ, zI i, ?_, rfl, fun _ _ _ => rfl, hI⟩
      unfold C_removeReference_L12
      simp (disch := omega) only [l0, l1, l2, l3, l4, l5, l6, l7, l8, l10, l12, l16, l20, l24, l26, l40, l64, l80, l100, l255, l256, l288, l312, l400, l992, l1940, l24980, l25240, xI, xL, xR, zI_neg, zI_add, zI_sub, zI_mul, zI_le, zI_lt, zI_eq, zI_in, zI_nat, Option.bind_some, lt9, hq, Int.add_zero, Int.sub_self, true_or, or_true, true_and, and_true, false_or, or_false, Int.cast_ofNat_Int, ↓reduceIte, h6, if_pos, if_neg]
    · have hv := hI (i + 1) (by omega) (by omega)
      rw [if_neg (by omega), if_neg (by omega)] at hv
      obtain ⟨σ1, hσ1⟩ : ∃ σ1, σ1 = sI (sI σ 21 c i.toNat (zI (v (a + 4 + 2 * (i + 1))))) 22 c i.toNat (zI (v (a + 4 + 2 * (i + 1) + 1))) := ⟨_, rfl⟩
      obtain ⟨σ', e', r1, r2, r3, r4⟩ := ih σ1 (i + 1) (by rw [hσ1, rO (by decide), rO (by decide)]; exact h6) (fun j j0 j1 => by
        rw [hσ1]
        by_cases e : j = i
        · subst e
          simp (disch := first | decide | omega) only [rS, rO, rK, rJ, lS, lK, lO, lJ, lI, lI9, lR, lR9, rL, rL9, rS9, rO9, rJ9, lS9, lO9, lJ9, uv_s, uv_n]
          rw [if_pos (by omega), if_pos (by omega)]
          exact ⟨rfl, rfl⟩
        · simp (disch := first | decide | omega) only [rS, rO, rK, rJ, lS, lK, lO, lJ, lI, lI9, lR, lR9, rL, rL9, rS9, rO9, rJ9, lS9, lO9, lJ9, uv_s, uv_n]
          have := hI j j0 j1
          by_cases g : k ≤ j ∧ j < i
          · rw [if_pos g, if_pos g] at this
            rw [if_pos (by omega), if_pos (by omega)]; exact this
          · rw [if_neg g, if_neg g] at this
            rw [if_neg (by omega), if_neg (by omega)]; exact this) (by omega) (by omega) (by omega)
      refine ⟨σ', e', ?_, by rw [r2, hσ1]; rfl, fun f j nn => ?_, r4⟩
      · rw [← r1, hσ1]
        conv => lhs; unfold C_removeReference_L12
        simp (disch := omega) only [l0, l1, l2, l3, l4, l5, l6, l7, l8, l10, l12, l16, l20, l24, l26, l40, l64, l80, l100, l255, l256, l288, l312, l400, l992, l1940, l24980, l25240, xI, xL, xR, zI_neg, zI_add, zI_sub, zI_mul, zI_le, zI_lt, zI_eq, zI_in, zI_nat, Option.bind_some, lt9, hq, Int.add_zero, Int.sub_self, true_or, or_true, true_and, and_true, false_or, or_false, Int.cast_ofNat_Int, ↓reduceIte, h6, rO, hv.1, hv.2, if_pos, if_neg]
      · rw [r3 f j nn, hσ1]
        refine (show (sI (sI σ 21 c i.toNat _) 22 c i.toNat _).1 f j = _ from r3_ne (fun z => nn ⟨Or.inr z.1, z.2⟩)).trans ?_
        exact r3_ne (fun z => nn ⟨Or.inl z.1, z.2⟩)
theorem eC_removeReference_ct {σ : hT} {c n : Nat} {v : Int → Int} {d k : Int} (h : ct σ c v (20 + 80 * d)) (hc : cw v (20 + 80 * d)) (k0 : 0 ≤ k) (k1 : k < v (20 + 80 * d + 3)) (hn : 9 ≤ n) : ∃ σ', C_removeReference n σ c (zI k) = some ((), σ') ∧ frC c σ σ' ∧ ct σ' c (fDrp d k v) (20 + 80 * d) := by
  have b1 := hc.1
  have b2 := hc.2.1
  obtain ⟨h1, h2, h3, h4⟩ := h
  obtain ⟨σ1, e, q1, q2, q3, q4⟩ := eC_rem_L (n := n) (c := c) (v := v) (a := 20 + 80 * d) (k := k) (m := v (20 + 80 * d + 3) - 1) k0 (by omega) (fun (σ4 : hT) (p5 : Int32) (j6 : Nat) (p8 : Int32) => some ((), σ4)) (zI k) n (sI σ 604 c 0 (zI (v (20 + 80 * d + 3) - 1))) k rS (fun j j0 j1 => by
    rw [if_neg (by omega), if_neg (by omega), rO (by decide), rO (by decide)]; exact h3 j j0 (by omega)) (by omega) (by omega) (by omega)
  refine ⟨σ1, ?_, frC.tr (frC.rf.i (f := 604) (by omega)) ⟨fun f j nn => q3 f j (fun z => nn ⟨by omega, z.2⟩), fun f j _ => by rw [q2], by rw [q2]⟩, ?_, ?_, fun j j0 j1 => ?_, fun j j0 j1 => ?_⟩
  · unfold C_removeReference
    simp (disch := omega) only [l0, l1, l2, l3, l4, l5, l6, l7, l8, l10, l12, l16, l20, l24, l26, l40, l64, l80, l100, l255, l256, l288, l312, l400, l992, l1940, l24980, l25240, xI, xL, xR, zI_neg, zI_add, zI_sub, zI_mul, zI_le, zI_lt, zI_eq, zI_in, zI_nat, Option.bind_some, lt9, hq, Int.add_zero, Int.sub_self, true_or, or_true, true_and, and_true, false_or, or_false, Int.cast_ofNat_Int, ↓reduceIte, h2, if_pos, if_neg]
    exact q1
  · rw [q3 601 c (by omega), rO (by decide)]
    unfold fDrp
    rw [sh2_n (by omega), uv_n (by omega)]; exact h1
  · rw [q3 604 c (by omega), rS]
    unfold fDrp
    rw [sh2_n (by omega), uv_s]
  · unfold fDrp at j1 ⊢
    rw [sh2_n (by omega), uv_s] at j1
    have := q4 j j0 (by omega)
    by_cases g : k ≤ j
    · rw [if_pos (by omega), if_pos (by omega)] at this
      rw [sh2_p (by omega), sh2_p (by omega), uv_n (by omega), uv_n (by omega)]
      rw [show 20 + 80 * d + 4 + 2 * (j + 1) = 20 + 80 * d + 4 + 2 * j + 2 by omega, show 20 + 80 * d + 4 + 2 * j + 2 + 1 = 20 + 80 * d + 4 + 2 * j + 1 + 2 by omega] at this
      exact this
    · rw [if_neg (by omega), if_neg (by omega)] at this
      rw [sh2_n (by omega), sh2_n (by omega), uv_n (by omega), uv_n (by omega)]
      exact this
  · rw [show σ1.2.1 = σ.2.1 by rw [q2]; rfl]
    refine pB_c (fun q t0 t1 => ?_) (h4 j j0 j1)
    unfold byt fDrp
    rw [sh2_n (by omega), uv_n (by omega)]
    split
    · rw [sh2_n (by omega), uv_n (by omega)]
    · rfl
theorem eC_samePiece {σ : hT} {c c' : Nat} {v w : Int → Int} {a o j : Int} (h : ct σ c v a) (h' : ct σ c' w o) (hc : cw v a) (hc' : cw w o) (j0 : 0 ≤ j) (j1 : j < 8) : ∃ y, C_samePiece σ c c' (zI j) = some (zI y) ∧ (y = 0 ∨ y = 1) ∧ (y = 1 ↔ pk v a j = pk w o j) := by
  have l1 := plen_rng (v (a + 2)) j
  have l2 := plen_rng (w (o + 2)) j
  have hp := pcR_pk hc.cb hc'.cb j0 j0 (h.2.2.2 j j0 j1) (h'.2.2.2 j j0 j1)
  unfold C_samePiece
  rw [eC_pieceLength h.1 hc.1 (by omega), eC_pieceLength h'.1 hc'.1 (by omega)]
  by_cases e1 : plen (v (a + 2)) j = plen (w (o + 2)) j
  · by_cases e2 : σ.2.1 20 c j.toNat = σ.2.1 20 c' j.toNat
    · refine ⟨1, ?_, Or.inr rfl, ⟨fun _ => hp.mp ⟨e1, e2⟩, fun _ => rfl⟩⟩
      simp (disch := omega) only [l0, l1, l2, l3, l4, l5, l6, l7, l8, l10, l12, l16, l20, l24, l26, l40, l64, l80, l100, l255, l256, l288, l312, l400, l992, l1940, l24980, l25240, xI, xL, xR, zI_neg, zI_add, zI_sub, zI_mul, zI_le, zI_lt, zI_eq, zI_in, zI_nat, Option.bind_some, lt9, hq, Int.add_zero, Int.sub_self, true_or, or_true, true_and, and_true, false_or, or_false, Int.cast_ofNat_Int, ↓reduceIte, lgc]
      rw [if_pos e1, if_pos (by omega), if_pos (by omega), if_pos e2]; rfl
    · refine ⟨0, ?_, Or.inl rfl, ⟨fun z => absurd z (by decide), fun z => absurd (hp.mpr z).2 e2⟩⟩
      simp (disch := omega) only [l0, l1, l2, l3, l4, l5, l6, l7, l8, l10, l12, l16, l20, l24, l26, l40, l64, l80, l100, l255, l256, l288, l312, l400, l992, l1940, l24980, l25240, xI, xL, xR, zI_neg, zI_add, zI_sub, zI_mul, zI_le, zI_lt, zI_eq, zI_in, zI_nat, Option.bind_some, lt9, hq, Int.add_zero, Int.sub_self, true_or, or_true, true_and, and_true, false_or, or_false, Int.cast_ofNat_Int, ↓reduceIte, lgc]
      rw [if_pos e1, if_pos (by omega), if_pos (by omega), if_neg e2]
  · refine ⟨0, ?_, Or.inl rfl, ⟨fun z => absurd z (by decide), fun z => absurd (hp.mpr z).1 e1⟩⟩
    simp (disch := omega) only [l0, l1, l2, l3, l4, l5, l6, l7, l8, l10, l12, l16, l20, l24, l26, l40, l64, l80, l100, l255, l256, l288, l312, l400, l992, l1940, l24980, l25240, xI, xL, xR, zI_neg, zI_add, zI_sub, zI_mul, zI_le, zI_lt, zI_eq, zI_in, zI_nat, Option.bind_some, lt9, hq, Int.add_zero, Int.sub_self, true_or, or_true, true_and, and_true, false_or, or_false, Int.cast_ofNat_Int, ↓reduceIte, lgc]
    rw [if_neg e1]
