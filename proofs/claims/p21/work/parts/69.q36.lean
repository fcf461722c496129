def fN (d nw : Nat) (σ σ' : hT) : Prop := (∀ f j, ¬ (f = 23 ∧ j = d) → σ'.2.2 f j = σ.2.2 f j) ∧ (∀ j, j ≠ 3 * nw + 2 → σ'.2.1 20 j = σ.2.1 20 j) ∧ ∀ f j, ¬ ((f = 701 ∧ j = d) ∨ ((f = 801 ∨ f = 802) ∧ j = nw) ∨ ((f = 601 ∨ f = 604 ∨ f = 21 ∨ f = 22) ∧ j = 3 * nw + 2)) → σ'.1 f j = σ.1 f j
theorem fN.o {d nw : Nat} {σ σ' : hT} (h : fN d nw σ σ') (hd : nw / 12 = d) : fO d σ σ' := ⟨h.1, fun j n => h.2.1 j (by omega), fun f j n => h.2.2 f j (by omega)⟩
theorem fN.eq {d nw c : Nat} {σ σ' : hT} (h : fN d nw σ σ') (hc : c ≠ 3 * nw + 2) : eqC σ σ' c := ⟨h.2.2 601 c (by omega), h.2.2 604 c (by omega), h.2.2 21 c (by omega), h.2.2 22 c (by omega), h.2.1 c hc⟩
theorem nS_i {σ : hT} {nw f j : Nat} {x : Int32} (n : ¬ (((f = 801 ∨ f = 802) ∧ j = nw) ∨ ((f = 601 ∨ f = 604 ∨ f = 21 ∨ f = 22) ∧ j = 3 * nw + 2))) : (nS σ nw x).1 f j = σ.1 f j := by
  unfold nS
  show r3 _ 22 _ _ f j = _
  rw [r3_ne (by omega)]
  show r3 _ 21 _ _ f j = _
  rw [r3_ne (by omega)]
  show r3 _ 604 _ _ f j = _
  rw [r3_ne (by omega)]
  show r3 _ 601 _ _ f j = _
  rw [r3_ne (by omega)]
  show r3 _ 802 _ _ f j = _
  rw [r3_ne (by omega)]
  show r3 _ 801 _ _ f j = _
  rw [r3_ne (by omega)]
theorem nS_l {σ : hT} {nw j : Nat} {x : Int32} (n : j ≠ 3 * nw + 2) : (nS σ nw x).2.1 20 j = σ.2.1 20 j := by
  unfold nS
  show r3 _ 20 _ _ 20 j = _
  rw [r3_ne (by omega)]; rfl
theorem fN.tr {d nw : Nat} {σ σ1 σ2 : hT} (h : fN d nw σ σ1) (h2 : fN d nw σ1 σ2) : fN d nw σ σ2 := ⟨fun f j n => (h2.1 f j n).trans (h.1 f j n), fun j n => (h2.2.1 j n).trans (h.2.1 j n), fun f j n => (h2.2.2 f j n).trans (h.2.2 f j n)⟩
theorem eD_addRev {σ : hT} {d nw : Nat} {p m : Int} (h7 : σ.1 701 d 0 = zI m) (m0 : 0 ≤ m) (m1 : m < 12) (hne : 3 * d ≠ 3 * nw + 2) : ∃ σ', D_addRevision σ d (zI p) nw = some ((), σ') ∧ fN d nw σ σ' ∧ σ'.1 801 nw 0 = zI p ∧ σ'.1 802 nw 0 = zI 0 ∧ σ'.1 701 d 0 = zI (m + 1) ∧ σ'.2.2 23 d m.toNat = some nw ∧ (∀ k, k ≠ m.toNat → σ'.2.2 23 d k = σ.2.2 23 d k) ∧ (∀ v a, cw v a → ct σ (3 * d) v a → ct σ' (3 * nw + 2) v a) ∧ (ct0 σ (3 * d) → ct0 σ' (3 * nw + 2)) := by
  obtain ⟨σ1, q1, q2, q3, q4⟩ := eC_takeFrom (σ := nS σ nw (zI p)) (c := 3 * nw + 2) (c1 := 3 * d) hne
  have h71 : σ1.1 701 d 0 = zI m := by rw [q2.1 701 d (by omega), nS_i (by omega)]; exact h7
  have hq : eqC σ (nS σ nw (zI p)) (3 * d) := ⟨nS_i (by omega), nS_i (by omega), nS_i (by omega), nS_i (by omega), nS_l hne⟩
  have h81 : σ1.1 801 nw 0 = zI p := by
    rw [q2.1 801 nw (by omega)]
    unfold nS
    simp (disch := decide) only [rO9, rS9, lI9]
  have h82 : σ1.1 802 nw 0 = zI 0 := by
    rw [q2.1 802 nw (by omega)]
    unfold nS
    simp (disch := decide) only [rO9, rS9, lI9]
    rfl
  have er : σ1.2.2 = σ.2.2 := q2.2.2
  refine ⟨sI (sR σ1 23 d m.toNat (some nw)) 701 d 0 (zI (m + 1)), ?_, ⟨fun f j n => ?_, fun j n => ?_, fun f j n => ?_⟩, ?_, ?_, rS, ?_, fun k n => ?_, fun v a c h => ?_, fun h => ?_⟩
  · unfold D_addRevision lt9
    dsimp only
    rw [q1]
    have e0 : (sR σ1 23 d m.toNat (some nw)).1 701 d 0 = zI m := h71
    simp (disch := omega) only [l0, l1, l2, l3, l4, l5, l6, l7, l8, l10, l12, l16, l20, l24, l26, l40, l64, l80, l100, l255, l256, l288, l312, l400, l992, l1940, l24980, l25240, xI, xL, xR, zI_neg, zI_add, zI_sub, zI_mul, zI_le, zI_lt, zI_eq, zI_in, zI_nat, Option.bind_some, lt9, hq, Int.add_zero, Int.sub_self, true_or, or_true, true_and, and_true, false_or, or_false, Int.cast_ofNat_Int, ↓reduceIte, h71, e0, if_pos, if_neg]
  · show r3 σ1.2.2 23 d _ f j = _
    rw [r3_ne (by omega), er]
  · show σ1.2.1 20 j = _
    rw [q2.2.1 20 j (by omega)]; exact nS_l n
  · rw [show (sI (sR σ1 23 d m.toNat (some nw)) 701 d 0 (zI (m + 1))).1 f j = σ1.1 f j from r3_ne (by omega), q2.1 f j (by omega)]; exact nS_i (by omega)
  · rw [rO (by decide)]; exact h81
  · rw [rO (by decide)]; exact h82
  · show r3 σ1.2.2 23 d (up9 (σ1.2.2 23 d) m.toNat (some nw)) 23 d m.toNat = _
    rw [r3_self]; exact if_pos rfl
  · show r3 σ1.2.2 23 d (up9 (σ1.2.2 23 d) m.toNat (some nw)) 23 d k = _
    rw [r3_self, ← er]; exact if_neg n
  · have := q3 v a c (hq.ct h)
    exact eqC.ct ⟨rO (by decide), rO (by decide), rO (by decide), rO (by decide), rfl⟩ this
  · have := q4 (h.to hq)
    exact this.to ⟨rO (by decide), rO (by decide), rO (by decide), rO (by decide), rfl⟩
theorem eV_chkR {σ : hT} {v : Int → Int} {g : Nat} (hC : CA σ v g) (hw : wf v) {d : Int} (d0 : 0 ≤ d) (d1 : d < v 16) (ho : 0 < v (20 + 80 * d + 1)) {n : Nat} (hn : 25 ≤ n) : ∃ why, V_checkInRefusal n σ (zI d) (some d.toNat) = some (zI why) ∧ 0 ≤ why ∧ why ≤ 8 ∧ (why = 0 ↔ ¬ loopP v d ∧ ¬ lackP v (20 + 80 * d) ∧ v (20 + 80 * d) ≠ 12 ∧ allR v (v 16).toNat ≠ 100) := by
  have h16 := hw.1
  have hD := hw.2.2.2.1 d d0 d1
  have hm := hD.1
  have hcw := hD.2.2.1 ho
  have cD := hC.2.2.2.1 d d0 d1
  have hct := cD.2.2.2.1.1 ho
  have hA := hw.2.2.2.2.1
  obtain ⟨y6, a1, a2⟩ := eV_usersOf hC hw d0 d1 hn (zI 1) (by decide)
  obtain ⟨y9, b1, b2⟩ := eC_targetBits h16.2 hcw hct (show 7 ≤ n by omega)
  obtain ⟨y, c1, c2, c3⟩ := eV_fixed hC hw hcw hct (show 7 ≤ n by omega)
  have hbd : bt (V_bit (zI d)) (fun k => k = d) := fun k hk => bit_bv d0 (by omega) k hk
  have hand := bt_and b2 (bt_or a2 hbd)
  have hl : (y9 &&& (y6 ||| V_bit (zI d)) = 0) ↔ ¬ loopP v d := by
    rw [hand]
    constructor
    · rintro h (z | ⟨i, i0, i1, i2, i3⟩)
      · exact h d d0 (by omega) ⟨z, Or.inr rfl⟩
      · exact h i i0 (by omega) ⟨i3, Or.inl i2⟩
    · rintro h k k0 k1 ⟨z1, z2 | z2⟩
      · exact h (Or.inr ⟨k, k0, z2.lt.2, z2, z1⟩)
      · subst z2; exact h (Or.inl z1)
  unfold V_checkInRefusal
  by_cases hL : y9 &&& (y6 ||| V_bit (zI d)) = 0
  · have hl' := hl.mp hL
    rcases c2 with rfl | rfl
    · refine ⟨7, ?_, by omega, by omega, ⟨fun z => by omega, fun z => absurd (c3.mp rfl) z.2.1⟩⟩
      simp (disch := omega) only [l0, l1, l2, l3, l4, l5, l6, l7, l8, l10, l12, l16, l20, l24, l26, l40, l64, l80, l100, l255, l256, l288, l312, l400, l992, l1940, l24980, l25240, xI, xL, xR, zI_neg, zI_add, zI_sub, zI_mul, zI_le, zI_lt, zI_eq, zI_in, zI_nat, Option.bind_some, lt9, hq, Int.add_zero, Int.sub_self, true_or, or_true, true_and, and_true, false_or, or_false, Int.cast_ofNat_Int, ↓reduceIte, a1, b1, c1, if_pos, if_neg]
      rw [if_pos (by rw [← l0]; exact hL)]
    · have hk : ¬ lackP v (20 + 80 * d) := fun z => absurd (c3.mpr z) (by decide)
      refine ⟨if v (20 + 80 * d) = 12 then 8 else if allR v (v 16).toNat = 100 then 8 else 0, ?_, by repeat' split <;> omega, by repeat' split <;> omega, ⟨fun z => ?_, fun z => ?_⟩⟩
      · by_cases e1 : v (20 + 80 * d) = 12
        · simp (disch := omega) only [l0, l1, l2, l3, l4, l5, l6, l7, l8, l10, l12, l16, l20, l24, l26, l40, l64, l80, l100, l255, l256, l288, l312, l400, l992, l1940, l24980, l25240, xI, xL, xR, zI_neg, zI_add, zI_sub, zI_mul, zI_le, zI_lt, zI_eq, zI_in, zI_nat, Option.bind_some, lt9, hq, Int.add_zero, Int.sub_self, true_or, or_true, true_and, and_true, false_or, or_false, Int.cast_ofNat_Int, ↓reduceIte, a1, b1, c1, cD.2.1, hC.2.2.1, if_pos, if_neg]
          rw [if_pos (by rw [← l0]; exact hL)]
        · by_cases e2 : allR v (v 16).toNat = 100
          · simp (disch := omega) only [l0, l1, l2, l3, l4, l5, l6, l7, l8, l10, l12, l16, l20, l24, l26, l40, l64, l80, l100, l255, l256, l288, l312, l400, l992, l1940, l24980, l25240, xI, xL, xR, zI_neg, zI_add, zI_sub, zI_mul, zI_le, zI_lt, zI_eq, zI_in, zI_nat, Option.bind_some, lt9, hq, Int.add_zero, Int.sub_self, true_or, or_true, true_and, and_true, false_or, or_false, Int.cast_ofNat_Int, ↓reduceIte, a1, b1, c1, cD.2.1, hC.2.2.1, if_pos, if_neg]
            rw [if_pos (by rw [← l0]; exact hL)]
          · simp (disch := omega) only [l0, l1, l2, l3, l4, l5, l6, l7, l8, l10, l12, l16, l20, l24, l26, l40, l64, l80, l100, l255, l256, l288, l312, l400, l992, l1940, l24980, l25240, xI, xL, xR, zI_neg, zI_add, zI_sub, zI_mul, zI_le, zI_lt, zI_eq, zI_in, zI_nat, Option.bind_some, lt9, hq, Int.add_zero, Int.sub_self, true_or, or_true, true_and, and_true, false_or, or_false, Int.cast_ofNat_Int, ↓reduceIte, a1, b1, c1, cD.2.1, hC.2.2.1, if_pos, if_neg]
            rw [if_pos (by rw [← l0]; exact hL)]
      · split at z
        · omega
        · split at z
          · omega
          · exact ⟨hl', hk, by assumption, by assumption⟩
      · rw [if_neg z.2.2.1, if_neg z.2.2.2]
  · refine ⟨6, ?_, by omega, by omega, ⟨fun z => by omega, fun z => absurd (hl.mpr z.1) hL⟩⟩
    simp (disch := omega) only [l0, l1, l2, l3, l4, l5, l6, l7, l8, l10, l12, l16, l20, l24, l26, l40, l64, l80, l100, l255, l256, l288, l312, l400, l992, l1940, l24980, l25240, xI, xL, xR, zI_neg, zI_add, zI_sub, zI_mul, zI_le, zI_lt, zI_eq, zI_in, zI_nat, Option.bind_some, lt9, hq, Int.add_zero, Int.sub_self, true_or, or_true, true_and, and_true, false_or, or_false, Int.cast_ofNat_Int, ↓reduceIte, a1, b1, if_pos, if_neg]
    rw [if_neg (by rw [← l0]; exact hL)]
