abbrev sn (d r : Int) : Nat := (12 * d + r).toNat
def cRv (σ : hT) (v : Int → Int) (d r : Int) : Prop := σ.2.2 23 d.toNat r.toNat = some (sn d r) ∧ σ.1 801 (sn d r) 0 = zI (v (1940 + 80 * (12 * d + r) + 1)) ∧ σ.1 802 (sn d r) 0 = zI (v (1940 + 80 * (12 * d + r))) ∧ ct σ (3 * sn d r + 2) v (1940 + 80 * (12 * d + r))
def cCp (σ : hT) (c : Nat) (v : Int → Int) (d : Int) : Prop := (0 < v (20 + 80 * d + 1) → ct σ c v (20 + 80 * d)) ∧ (¬ 0 < v (20 + 80 * d + 1) → ct0 σ c)
def cDr (σ : hT) (v : Int → Int) (d : Int) : Prop := σ.2.2 9 0 d.toNat = some d.toNat ∧ σ.1 701 d.toNat 0 = zI (v (20 + 80 * d)) ∧ σ.1 702 d.toNat 0 = zI (v (20 + 80 * d + 1) - 1) ∧ cCp σ (3 * d.toNat) v d ∧ ∀ r, 0 ≤ r → r < v (20 + 80 * d) → cRv σ v d r
def cBl (σ : hT) (v : Int → Int) (g : Nat) (b : Int) : Prop := (v (24980 + 26 * b) = 0 ∧ σ.2.2 10 0 b.toNat = none) ∨ (v (24980 + 26 * b) = 1 ∧ ∃ j, j < g ∧ σ.2.2 10 0 b.toNat = some j ∧ σ.1 202 j 0 = zI (v (24980 + 26 * b + 1)) ∧ ∀ k : Int, 0 ≤ k → k < 24 → σ.1 11 j k.toNat = zI (v (24980 + 26 * b + 2 + k) - 1))
def CA (σ : hT) (v : Int → Int) (g : Nat) : Prop := (∀ p : Int, 0 ≤ p → p < 16 → σ.1 8 0 p.toNat = zI (v p)) ∧ σ.1 102 0 0 = zI (v 16) ∧ σ.1 103 0 0 = zI (allR v (v 16).toNat) ∧ (∀ d, 0 ≤ d → d < v 16 → cDr σ v d) ∧ (∀ b, 0 ≤ b → b < 10 → cBl σ v g b) ∧ σ.2.2 105 0 0 = some g
def cW (σ : hT) (v w : Int → Int) : Prop := ∀ d, 0 ≤ d → d < v 16 → cCp σ (3 * d.toNat + 1) w d
def cPg (σ : hT) (v : Int → Int) (fl pl : Int) : Prop := σ.1 400 0 0 = zI (v 17) ∧ σ.1 401 0 0 = zI (v 18) ∧ σ.1 402 0 0 = zI (v 19) ∧ σ.1 403 0 0 = zI fl ∧ σ.1 404 0 0 = zI (if pl = -1 then 0 else 1) ∧ (pl ≠ -1 → σ.1 405 0 0 = zI pl)
abbrev uI (g f j : Nat) : Prop := f = 13 ∨ f = 14 ∨ f = 302 ∨ f = 108 ∨ (400 ≤ f ∧ f ≤ 405) ∨ ((f = 11 ∨ f = 12 ∨ f = 202) ∧ j = g) ∨ (15 ≤ f ∧ f ≤ 19) ∨ (500 ≤ f ∧ f < 600)
def fV (g : Nat) (σ σ' : hT) : Prop := σ'.2.2 = σ.2.2 ∧ (∀ j, σ'.2.1 20 j = σ.2.1 20 j) ∧ ∀ f j, ¬ uI g f j → σ'.1 f j = σ.1 f j
theorem fV.rf {g : Nat} {σ : hT} : fV g σ σ := ⟨rfl, fun _ => rfl, fun _ _ _ => rfl⟩
theorem fV.tr {g : Nat} {σ σ1 σ2 : hT} (h : fV g σ σ1) (h2 : fV g σ1 σ2) : fV g σ σ2 := ⟨h2.1.trans h.1, fun j => (h2.2.1 j).trans (h.2.1 j), fun f j n => (h2.2.2 f j n).trans (h.2.2 f j n)⟩
theorem fV.i {g : Nat} {σ σ1 : hT} (h : fV g σ σ1) {f j k : Nat} {x : Int32} (hf : uI g f j) : fV g σ (sI σ1 f j k x) := ⟨h.1, h.2.1, fun f' j' n => (show (sI σ1 f j k x).1 f' j' = _ from r3_ne (fun z => n (by rw [z.1, z.2]; exact hf))).trans (h.2.2 f' j' n)⟩
theorem fV.l {g : Nat} {σ σ1 : hT} (h : fV g σ σ1) {f j k : Nat} {x : Int64} (hf : f ≠ 20) : fV g σ (sL σ1 f j k x) := ⟨h.1, fun j' => (show (sL σ1 f j k x).2.1 20 j' = _ from r3_ne (fun z => hf z.1.symm)).trans (h.2.1 j'), h.2.2⟩
theorem fV.eq {g c : Nat} {σ σ1 : hT} (h : fV g σ σ1) : eqC σ σ1 c := ⟨h.2.2 601 c (by omega), h.2.2 604 c (by omega), h.2.2 21 c (by omega), h.2.2 22 c (by omega), h.2.1 c⟩
theorem eqC.ct {σ σ' : hT} {c : Nat} {v : Int → Int} {a : Int} (hq : eqC σ σ' c) (h : ct σ c v a) : ct σ' c v a := by
  obtain ⟨h1, h2, h3, h4⟩ := h
  obtain ⟨q1, q2, q3, q4, q5⟩ := hq
  exact ⟨by rw [q1]; exact h1, by rw [q2]; exact h2, fun k k0 k1 => by rw [q3, q4]; exact h3 k k0 k1, fun j j0 j1 => by rw [q5]; exact h4 j j0 j1⟩
theorem eqC.cp {σ σ' : hT} {c : Nat} {v : Int → Int} {d : Int} (hq : eqC σ σ' c) (h : cCp σ c v d) : cCp σ' c v d := ⟨fun z => hq.ct (h.1 z), fun z => (h.2 z).to hq⟩
theorem cRv.fr {g : Nat} {σ σ' : hT} {v : Int → Int} {d r : Int} (h : cRv σ v d r) (hf : fV g σ σ') : cRv σ' v d r := ⟨by rw [hf.1]; exact h.1, by rw [hf.2.2 801 _ (by omega)]; exact h.2.1, by rw [hf.2.2 802 _ (by omega)]; exact h.2.2.1, hf.eq.ct h.2.2.2⟩
theorem cDr.fr {g : Nat} {σ σ' : hT} {v : Int → Int} {d : Int} (h : cDr σ v d) (hf : fV g σ σ') : cDr σ' v d := ⟨by rw [hf.1]; exact h.1, by rw [hf.2.2 701 _ (by omega)]; exact h.2.1, by rw [hf.2.2 702 _ (by omega)]; exact h.2.2.1, hf.eq.cp h.2.2.2.1, fun r r0 r1 => (h.2.2.2.2 r r0 r1).fr hf⟩
theorem cBl.fr {g : Nat} {σ σ' : hT} {v : Int → Int} {b : Int} (h : cBl σ v g b) (hf : fV g σ σ') : cBl σ' v g b := by
  rcases h with ⟨h1, h2⟩ | ⟨h1, j, h2, h3, h4, h5⟩
  · exact Or.inl ⟨h1, by rw [hf.1]; exact h2⟩
  · exact Or.inr ⟨h1, j, h2, by rw [hf.1]; exact h3, by rw [hf.2.2 202 j (by omega)]; exact h4, fun k k0 k1 => by rw [hf.2.2 11 j (by omega)]; exact h5 k k0 k1⟩
theorem CA.fr {g : Nat} {σ σ' : hT} {v : Int → Int} (h : CA σ v g) (hf : fV g σ σ') : CA σ' v g :=
  ⟨fun p p0 p1 => by rw [hf.2.2 8 _ (by omega)]; exact h.1 p p0 p1, by rw [hf.2.2 102 _ (by omega)]; exact h.2.1, by rw [hf.2.2 103 _ (by omega)]; exact h.2.2.1, fun d d0 d1 => (h.2.2.2.1 d d0 d1).fr hf, fun b b0 b1 => (h.2.2.2.2.1 b b0 b1).fr hf, by rw [hf.1]; exact h.2.2.2.2.2⟩
theorem cW.fr {g : Nat} {σ σ' : hT} {v w : Int → Int} (h : cW σ v w) (hf : fV g σ σ') : cW σ' v w := fun d d0 d1 => hf.eq.cp (h d d0 d1)
theorem cPg.fr {σ σ' : hT} {v : Int → Int} {fl pl : Int} (h : cPg σ v fl pl) (hf : ∀ f, 400 ≤ f → f ≤ 405 → σ'.1 f 0 = σ.1 f 0) : cPg σ' v fl pl := ⟨by rw [hf 400 (by omega) (by omega)]; exact h.1, by rw [hf 401 (by omega) (by omega)]; exact h.2.1, by rw [hf 402 (by omega) (by omega)]; exact h.2.2.1, by rw [hf 403 (by omega) (by omega)]; exact h.2.2.2.1, by rw [hf 404 (by omega) (by omega)]; exact h.2.2.2.2.1, by rw [hf 405 (by omega) (by omega)]; exact h.2.2.2.2.2⟩
theorem ct.v {σ : hT} {c : Nat} {v v' : Int → Int} {a : Int} (h : ct σ c v a) (hc : cw v a) (he : ∀ k, 2 ≤ k → k < 80 → v' (a + k) = v (a + k)) : ct σ c v' a := h.to eqC.rf hc he
theorem cRv.v {σ : hT} {v v' : Int → Int} {d r : Int} (h : cRv σ v d r) (hc : cw v (1940 + 80 * (12 * d + r))) (he : ∀ k, 0 ≤ k → k < 80 → v' (1940 + 80 * (12 * d + r) + k) = v (1940 + 80 * (12 * d + r) + k)) : cRv σ v' d r := by
  have e0 := he 0 (by omega) (by omega)
  rw [Int.add_zero] at e0
  exact ⟨h.1, by rw [he 1 (by omega) (by omega)]; exact h.2.1, by rw [e0]; exact h.2.2.1, h.2.2.2.v hc (fun k k0 k1 => he k (by omega) k1)⟩
theorem cCp.v {σ : hT} {c : Nat} {v v' : Int → Int} {d : Int} (h : cCp σ c v d) (hc : 0 < v (20 + 80 * d + 1) → cw v (20 + 80 * d)) (he : ∀ k, 1 ≤ k → k < 80 → v' (20 + 80 * d + k) = v (20 + 80 * d + k)) : cCp σ c v' d := by
  have e1 := he 1 (by omega) (by omega)
  exact ⟨fun z => (h.1 (by omega)).v (hc (by omega)) (fun k k0 k1 => he k (by omega) k1), fun z => h.2 (by omega)⟩
theorem cDr.v {σ : hT} {v v' : Int → Int} {d : Int} (h : cDr σ v d) (hw : wfD v d) (he : ∀ k, 0 ≤ k → k < 80 → v' (20 + 80 * d + k) = v (20 + 80 * d + k)) (hr : ∀ r k, 0 ≤ r → r < v (20 + 80 * d) → 0 ≤ k → k < 80 → v' (1940 + 80 * (12 * d + r) + k) = v (1940 + 80 * (12 * d + r) + k)) : cDr σ v' d := by
  have e0 := he 0 (by omega) (by omega)
  rw [Int.add_zero] at e0
  refine ⟨h.1, by rw [e0]; exact h.2.1, by rw [he 1 (by omega) (by omega)]; exact h.2.2.1, h.2.2.2.1.v hw.2.2.1 (fun k k0 k1 => he k (by omega) k1), fun r r0 r1 => ?_⟩
  rw [e0] at r1
  exact (h.2.2.2.2 r r0 r1).v (hw.2.2.2 r r0 r1).2.2.1 (fun k k0 k1 => hr r k r0 r1 k0 k1)
theorem cBl.v {σ : hT} {v v' : Int → Int} {g : Nat} {b : Int} (h : cBl σ v g b) (he : ∀ k, 0 ≤ k → k < 26 → v' (24980 + 26 * b + k) = v (24980 + 26 * b + k)) : cBl σ v' g b := by
  have e0 := he 0 (by omega) (by omega)
  rw [Int.add_zero] at e0
  rcases h with ⟨h1, h2⟩ | ⟨h1, j, h2, h3, h4, h5⟩
  · exact Or.inl ⟨by rw [e0]; exact h1, h2⟩
  · refine Or.inr ⟨by rw [e0]; exact h1, j, h2, h3, by rw [he 1 (by omega) (by omega)]; exact h4, fun k k0 k1 => ?_⟩
    have := he (2 + k) (by omega) (by omega)
    rw [← Int.add_assoc] at this
    rw [this]; exact h5 k k0 k1
theorem CA.v {σ : hT} {v v' : Int → Int} {g : Nat} (h : CA σ v g) (hw : wf v) (he : ∀ k, k ≠ 17 → k ≠ 18 → k ≠ 19 → v' k = v k) : CA σ v' g := by
  have h16 := he 16 (by omega) (by omega) (by omega)
  refine ⟨fun p p0 p1 => by rw [he p (by omega) (by omega) (by omega)]; exact h.1 p p0 p1, by rw [h16]; exact h.2.1, ?_, fun d d0 d1 => ?_, fun b b0 b1 => (h.2.2.2.2.1 b b0 b1).v (fun k k0 k1 => he _ (by omega) (by omega) (by omega)), h.2.2.2.2.2⟩
  · rw [h16, allR_c _ (fun d d0 d1 => he _ (by omega) (by omega) (by omega))]; exact h.2.2.1
  · rw [h16] at d1
    exact (h.2.2.2.1 d d0 d1).v (hw.2.2.2.1 d d0 d1) (fun k k0 k1 => he _ (by omega) (by omega) (by omega)) (fun r k r0 r1 k0 k1 => he _ (by omega) (by omega) (by omega))
theorem eV_isPerson {p : Int} (h : i32 p) : V_isPerson (zI p) = zI (if 0 ≤ p ∧ p < 16 then 1 else 0) := by
  obtain ⟨h1, h2⟩ := h
  simp (disch := omega) only [l0, l1, l2, l3, l4, l5, l6, l7, l8, l10, l12, l16, l20, l24, l26, l40, l64, l80, l100, l255, l256, l288, l312, l400, l992, l1940, l24980, l25240, xI, xL, xR, zI_neg, zI_add, zI_sub, zI_mul, zI_le, zI_lt, zI_eq, zI_in, zI_nat, Option.bind_some, lt9, hq, Int.add_zero, Int.sub_self, true_or, or_true, true_and, and_true, false_or, or_false, Int.cast_ofNat_Int, ↓reduceIte, V_isPerson, if_pos, if_neg]
  repeat' split
  all_goals first | rfl | (exfalso; omega)
theorem eV_hasRight {σ : hT} {v : Int → Int} {g : Nat} (hC : CA σ v g) (hw : wf v) {p : Int} (hp : i32 p) {m : Int32} {R : Prop} [Decidable R] (hm : (zI (rts v p) &&& m = 0) = R) : V_hasRight σ (zI p) m = some (zI (if R then 0 else 1)) := by
  have hp' := hp
  obtain ⟨p1, p2⟩ := hp'
  unfold V_hasRight
  rw [eV_isPerson hp]
  have hr : rts v p = if 0 ≤ p ∧ p < 16 then v p else 0 := rfl
  by_cases h : 0 ≤ p ∧ p < 16
  · rw [if_pos h] at hr ⊢
    rw [hr] at hm
    have hr2 := hw.2.1 p h.1 h.2
    by_cases hR : R
    · have hz : zI (v p) &&& m = 0 := by rw [hm]; exact hR
      rw [if_pos hR]
      simp (disch := omega) only [l0, l1, l2, l3, l4, l5, l6, l7, l8, l10, l12, l16, l20, l24, l26, l40, l64, l80, l100, l255, l256, l288, l312, l400, l992, l1940, l24980, l25240, xI, xL, xR, zI_neg, zI_add, zI_sub, zI_mul, zI_le, zI_lt, zI_eq, zI_in, zI_nat, Option.bind_some, lt9, hq, Int.add_zero, Int.sub_self, true_or, or_true, true_and, and_true, false_or, or_false, Int.cast_ofNat_Int, ↓reduceIte, hC.1 p, if_pos, if_neg]
      rw [if_pos (by rw [← l0]; exact hz)]
    · have hz : ¬ (zI (v p) &&& m = 0) := by rw [hm]; exact hR
      rw [if_neg hR]
      simp (disch := omega) only [l0, l1, l2, l3, l4, l5, l6, l7, l8, l10, l12, l16, l20, l24, l26, l40, l64, l80, l100, l255, l256, l288, l312, l400, l992, l1940, l24980, l25240, xI, xL, xR, zI_neg, zI_add, zI_sub, zI_mul, zI_le, zI_lt, zI_eq, zI_in, zI_nat, Option.bind_some, lt9, hq, Int.add_zero, Int.sub_self, true_or, or_true, true_and, and_true, false_or, or_false, Int.cast_ofNat_Int, ↓reduceIte, hC.1 p, if_pos, if_neg]
      rw [if_neg (by rw [← l0]; exact hz)]
  · rw [if_neg h] at hr ⊢
    rw [hr] at hm
    have hR : R := by rw [← hm]; show (0 : Int32) &&& m = 0; exact Int32.zero_and
    rw [if_pos hR]
    simp (disch := omega) only [l0, l1, l2, l3, l4, l5, l6, l7, l8, l10, l12, l16, l20, l24, l26, l40, l64, l80, l100, l255, l256, l288, l312, l400, l992, l1940, l24980, l25240, xI, xL, xR, zI_neg, zI_add, zI_sub, zI_mul, zI_le, zI_lt, zI_eq, zI_in, zI_nat, Option.bind_some, lt9, hq, Int.add_zero, Int.sub_self, true_or, or_true, true_and, and_true, false_or, or_false, Int.cast_ofNat_Int, ↓reduceIte, if_pos, if_neg]
theorem eV_drawingAt {σ : hT} {v : Int → Int} {g : Nat} (hC : CA σ v g) (hw : wf v) {d : Int} (hd : i32 d) : V_drawingAt σ (zI d) = some (if 0 ≤ d ∧ d < v 16 then some d.toNat else none) := by
  obtain ⟨d1, d2⟩ := hd
  have h16 := hw.1
  unfold V_drawingAt
  by_cases h : 0 ≤ d ∧ d < v 16
  · have := (hC.2.2.2.1 d h.1 h.2).1
    simp (disch := omega) only [l0, l1, l2, l3, l4, l5, l6, l7, l8, l10, l12, l16, l20, l24, l26, l40, l64, l80, l100, l255, l256, l288, l312, l400, l992, l1940, l24980, l25240, xI, xL, xR, zI_neg, zI_add, zI_sub, zI_mul, zI_le, zI_lt, zI_eq, zI_in, zI_nat, Option.bind_some, lt9, hq, Int.add_zero, Int.sub_self, true_or, or_true, true_and, and_true, false_or, or_false, Int.cast_ofNat_Int, ↓reduceIte, hC.2.1, this, if_pos, if_neg]
  · simp (disch := omega) only [l0, l1, l2, l3, l4, l5, l6, l7, l8, l10, l12, l16, l20, l24, l26, l40, l64, l80, l100, l255, l256, l288, l312, l400, l992, l1940, l24980, l25240, xI, xL, xR, zI_neg, zI_add, zI_sub, zI_mul, zI_le, zI_lt, zI_eq, zI_in, zI_nat, Option.bind_some, lt9, hq, Int.add_zero, Int.sub_self, true_or, or_true, true_and, and_true, false_or, or_false, Int.cast_ofNat_Int, ↓reduceIte, hC.2.1]
    rw [if_neg h]
    repeat' split
    all_goals first | rfl | (exfalso; omega)
theorem eD_hasRevision {σ : hT} {v : Int → Int} {g : Nat} (hC : CA σ v g) (hw : wf v) {d r : Int} (d0 : 0 ≤ d) (d1 : d < v 16) (hr : i32 r) : D_hasRevision σ d.toNat (zI r) = zI (if 0 ≤ r ∧ r < v (20 + 80 * d) then 1 else 0) := by
  obtain ⟨r1, r2⟩ := hr
  have hm := (hw.2.2.2.1 d d0 d1).1
  have := (hC.2.2.2.1 d d0 d1).2.1
  simp (disch := omega) only [l0, l1, l2, l3, l4, l5, l6, l7, l8, l10, l12, l16, l20, l24, l26, l40, l64, l80, l100, l255, l256, l288, l312, l400, l992, l1940, l24980, l25240, xI, xL, xR, zI_neg, zI_add, zI_sub, zI_mul, zI_le, zI_lt, zI_eq, zI_in, zI_nat, Option.bind_some, lt9, hq, Int.add_zero, Int.sub_self, true_or, or_true, true_and, and_true, false_or, or_false, Int.cast_ofNat_Int, ↓reduceIte, D_hasRevision, this, if_pos, if_neg]
  repeat' split
  all_goals first | rfl | (exfalso; omega)
theorem eV_revisionAt {σ : hT} {v : Int → Int} {g : Nat} (hC : CA σ v g) (hw : wf v) {d r : Int} (hd : i32 d) (hr : i32 r) : V_revisionAt σ (zI d) (zI r) = some (if isRv v d r then some (sn d r) else none) := by
  have hr' := hr
  obtain ⟨r1, r2⟩ := hr'
  unfold V_revisionAt
  rw [eV_drawingAt hC hw hd]
  by_cases h : 0 ≤ d ∧ d < v 16
  · have hm := (hw.2.2.2.1 d h.1 h.2).1
    rw [if_pos h]
    by_cases h2 : 0 ≤ r ∧ r < v (20 + 80 * d)
    · have := ((hC.2.2.2.1 d h.1 h.2).2.2.2.2 r h2.1 h2.2).1
      rw [if_pos (show isRv v d r from ⟨h.1, h.2, h2.1, h2.2⟩)]
      simp (disch := omega) only [l0, l1, l2, l3, l4, l5, l6, l7, l8, l10, l12, l16, l20, l24, l26, l40, l64, l80, l100, l255, l256, l288, l312, l400, l992, l1940, l24980, l25240, xI, xL, xR, zI_neg, zI_add, zI_sub, zI_mul, zI_le, zI_lt, zI_eq, zI_in, zI_nat, Option.bind_some, lt9, hq, Int.add_zero, Int.sub_self, true_or, or_true, true_and, and_true, false_or, or_false, Int.cast_ofNat_Int, ↓reduceIte, eD_hasRevision hC hw h.1 h.2 hr, this, if_pos, if_neg]
    · rw [if_neg (show ¬ isRv v d r from fun z => h2 z.2.2)]
      simp (disch := omega) only [l0, l1, l2, l3, l4, l5, l6, l7, l8, l10, l12, l16, l20, l24, l26, l40, l64, l80, l100, l255, l256, l288, l312, l400, l992, l1940, l24980, l25240, xI, xL, xR, zI_neg, zI_add, zI_sub, zI_mul, zI_le, zI_lt, zI_eq, zI_in, zI_nat, Option.bind_some, lt9, hq, Int.add_zero, Int.sub_self, true_or, or_true, true_and, and_true, false_or, or_false, Int.cast_ofNat_Int, ↓reduceIte, eD_hasRevision hC hw h.1 h.2 hr, if_neg h2, if_pos, if_neg]
  · rw [if_neg h, if_neg (show ¬ isRv v d r from fun z => h ⟨z.1, z.2.1⟩)]
    simp (disch := omega) only [l0, l1, l2, l3, l4, l5, l6, l7, l8, l10, l12, l16, l20, l24, l26, l40, l64, l80, l100, l255, l256, l288, l312, l400, l992, l1940, l24980, l25240, xI, xL, xR, zI_neg, zI_add, zI_sub, zI_mul, zI_le, zI_lt, zI_eq, zI_in, zI_nat, Option.bind_some, lt9, hq, Int.add_zero, Int.sub_self, true_or, or_true, true_and, and_true, false_or, or_false, Int.cast_ofNat_Int, ↓reduceIte, if_pos, if_neg]
theorem eV_baselineAt {σ : hT} {v : Int → Int} {g : Nat} (hC : CA σ v g) {b : Int} (hb : i32 b) : V_baselineAt σ (zI b) = some (if 0 ≤ b ∧ b < 10 then σ.2.2 10 0 b.toNat else none) := by
  obtain ⟨b1, b2⟩ := hb
  unfold V_baselineAt
  by_cases h : 0 ≤ b ∧ b < 10
  · rw [if_pos h]
    cases e : σ.2.2 10 0 b.toNat with
    | none => simp (disch := omega) only [l0, l1, l2, l3, l4, l5, l6, l7, l8, l10, l12, l16, l20, l24, l26, l40, l64, l80, l100, l255, l256, l288, l312, l400, l992, l1940, l24980, l25240, xI, xL, xR, zI_neg, zI_add, zI_sub, zI_mul, zI_le, zI_lt, zI_eq, zI_in, zI_nat, Option.bind_some, lt9, hq, Int.add_zero, Int.sub_self, true_or, or_true, true_and, and_true, false_or, or_false, Int.cast_ofNat_Int, ↓reduceIte, e, if_pos, if_neg]
    | some j => simp (disch := omega) only [l0, l1, l2, l3, l4, l5, l6, l7, l8, l10, l12, l16, l20, l24, l26, l40, l64, l80, l100, l255, l256, l288, l312, l400, l992, l1940, l24980, l25240, xI, xL, xR, zI_neg, zI_add, zI_sub, zI_mul, zI_le, zI_lt, zI_eq, zI_in, zI_nat, Option.bind_some, lt9, hq, Int.add_zero, Int.sub_self, true_or, or_true, true_and, and_true, false_or, or_false, Int.cast_ofNat_Int, ↓reduceIte, e, if_pos, if_neg]
  · rw [if_neg h]
    simp (disch := omega) only [l0, l1, l2, l3, l4, l5, l6, l7, l8, l10, l12, l16, l20, l24, l26, l40, l64, l80, l100, l255, l256, l288, l312, l400, l992, l1940, l24980, l25240, xI, xL, xR, zI_neg, zI_add, zI_sub, zI_mul, zI_le, zI_lt, zI_eq, zI_in, zI_nat, Option.bind_some, lt9, hq, Int.add_zero, Int.sub_self, true_or, or_true, true_and, and_true, false_or, or_false, Int.cast_ofNat_Int, ↓reduceIte]
    repeat' split
    all_goals first | rfl | (exfalso; omega)
theorem eD_lr_L {σ : hT} {v : Int → Int} {g : Nat} (hC : CA σ v g) (hw : wf v) {d : Int} (d0 : 0 ≤ d) (d1 : d < v 16) (n : Nat) (kx : Int32 → Nat → Option Int32) (hk : ∀ e, kx e d.toNat = some (zI (-1))) (m : Nat) : ∀ (K : Nat), (m : Int) ≤ v (20 + 80 * d) → m < K →
    D_latestReleased_L5 n σ kx K (zI ((m : Int) - 1)) d.toNat = some (zI (relN v d m)) := by
  have hD := hw.2.2.2.1 d d0 d1
  have hm := hD.1
  induction m with
  | zero =>
    intro K _ hK
    obtain ⟨K, rfl⟩ : ∃ k, K = k + 1 := ⟨K - 1, by omega⟩
    unfold D_latestReleased_L5
    simp (disch := omega) only [l0, l1, l2, l3, l4, l5, l6, l7, l8, l10, l12, l16, l20, l24, l26, l40, l64, l80, l100, l255, l256, l288, l312, l400, l992, l1940, l24980, l25240, xI, xL, xR, zI_neg, zI_add, zI_sub, zI_mul, zI_le, zI_lt, zI_eq, zI_in, zI_nat, Option.bind_some, lt9, hq, Int.add_zero, Int.sub_self, true_or, or_true, true_and, and_true, false_or, or_false, Int.cast_ofNat_Int, ↓reduceIte, if_pos, if_neg]
    exact hk _
  | succ m ih =>
    intro K hm2 hK
    obtain ⟨K, rfl⟩ : ∃ k, K = k + 1 := ⟨K - 1, by omega⟩
    have hcr := (hC.2.2.2.1 d d0 d1).2.2.2.2 m (by omega) (by omega)
    have q1 := hcr.1
    have q2 := hcr.2.2.1
    have hs := (hD.2.2.2 m (by omega) (by omega)).1
    have i1 := ih K (by omega) (by omega)
    rw [show ((m + 1 : Nat) : Int) - 1 = m by omega]
    conv => lhs; unfold D_latestReleased_L5
    by_cases e : v (1940 + 80 * (12 * d + m)) = 2
    · have er : relN v d (m + 1) = m := by unfold relN; rw [if_pos e]
      rw [er]
      simp (disch := omega) only [l0, l1, l2, l3, l4, l5, l6, l7, l8, l10, l12, l16, l20, l24, l26, l40, l64, l80, l100, l255, l256, l288, l312, l400, l992, l1940, l24980, l25240, xI, xL, xR, zI_neg, zI_add, zI_sub, zI_mul, zI_le, zI_lt, zI_eq, zI_in, zI_nat, Option.bind_some, lt9, hq, Int.add_zero, Int.sub_self, true_or, or_true, true_and, and_true, false_or, or_false, Int.cast_ofNat_Int, ↓reduceIte, q1, q2, if_pos, if_neg]
    · have er : relN v d (m + 1) = relN v d m := by show (if _ then _ else _) = _; rw [if_neg e]
      rw [er]
      simp (disch := omega) only [l0, l1, l2, l3, l4, l5, l6, l7, l8, l10, l12, l16, l20, l24, l26, l40, l64, l80, l100, l255, l256, l288, l312, l400, l992, l1940, l24980, l25240, xI, xL, xR, zI_neg, zI_add, zI_sub, zI_mul, zI_le, zI_lt, zI_eq, zI_in, zI_nat, Option.bind_some, lt9, hq, Int.add_zero, Int.sub_self, true_or, or_true, true_and, and_true, false_or, or_false, Int.cast_ofNat_Int, ↓reduceIte, q1, q2, if_pos, if_neg]
      exact i1
theorem eD_newest {σ : hT} {v : Int → Int} {g : Nat} (hC : CA σ v g) {d : Int} (d0 : 0 ≤ d) (d1 : d < v 16) : D_newest σ d.toNat = zI (v (20 + 80 * d) - 1) := by
  have := (hC.2.2.2.1 d d0 d1).2.1
  unfold D_newest
  simp (disch := omega) only [l0, l1, l2, l3, l4, l5, l6, l7, l8, l10, l12, l16, l20, l24, l26, l40, l64, l80, l100, l255, l256, l288, l312, l400, l992, l1940, l24980, l25240, xI, xL, xR, zI_neg, zI_add, zI_sub, zI_mul, zI_le, zI_lt, zI_eq, zI_in, zI_nat, Option.bind_some, lt9, hq, Int.add_zero, Int.sub_self, true_or, or_true, true_and, and_true, false_or, or_false, Int.cast_ofNat_Int, ↓reduceIte, this, if_pos, if_neg]
theorem eD_latestReleased {σ : hT} {v : Int → Int} {g : Nat} (hC : CA σ v g) (hw : wf v) {d : Int} (d0 : 0 ≤ d) (d1 : d < v 16) {n : Nat} (hn : 13 ≤ n) : D_latestReleased n σ d.toNat = some (zI (rel v d)) := by
  have hm := (hw.2.2.2.1 d d0 d1).1
  unfold D_latestReleased lt9
  rw [eD_newest hC d0 d1]
  have := eD_lr_L hC hw d0 d1 n (fun (p2 : Int32) (j3 : Nat) => some (-1)) (fun _ => rfl) (v (20 + 80 * d)).toNat n (by omega) (by omega)
  rw [show (((v (20 + 80 * d)).toNat : Nat) : Int) = v (20 + 80 * d) by omega] at this
  exact this
theorem eV_isReleased {σ : hT} {v : Int → Int} {g : Nat} (hC : CA σ v g) (hw : wf v) {d r : Int} (hd : i32 d) (hr : i32 r) : V_isReleased σ (zI d) (zI r) = some (zI (if isRv v d r ∧ v (1940 + 80 * (12 * d + r)) = 2 then 1 else 0)) := by
  unfold V_isReleased
  rw [eV_revisionAt hC hw hd hr]
  by_cases h : isRv v d r
  · have q := ((hC.2.2.2.1 d h.1 h.2.1).2.2.2.2 r h.2.2.1 h.2.2.2).2.2.1
    have hs := ((hw.2.2.2.1 d h.1 h.2.1).2.2.2 r h.2.2.1 h.2.2.2).1
    rw [if_pos h]
    by_cases e : v (1940 + 80 * (12 * d + r)) = 2
    · rw [if_pos ⟨h, e⟩]
      simp (disch := omega) only [l0, l1, l2, l3, l4, l5, l6, l7, l8, l10, l12, l16, l20, l24, l26, l40, l64, l80, l100, l255, l256, l288, l312, l400, l992, l1940, l24980, l25240, xI, xL, xR, zI_neg, zI_add, zI_sub, zI_mul, zI_le, zI_lt, zI_eq, zI_in, zI_nat, Option.bind_some, lt9, hq, Int.add_zero, Int.sub_self, true_or, or_true, true_and, and_true, false_or, or_false, Int.cast_ofNat_Int, ↓reduceIte, q, if_pos, if_neg]
    · rw [if_neg (fun z => e z.2)]
      simp (disch := omega) only [l0, l1, l2, l3, l4, l5, l6, l7, l8, l10, l12, l16, l20, l24, l26, l40, l64, l80, l100, l255, l256, l288, l312, l400, l992, l1940, l24980, l25240, xI, xL, xR, zI_neg, zI_add, zI_sub, zI_mul, zI_le, zI_lt, zI_eq, zI_in, zI_nat, Option.bind_some, lt9, hq, Int.add_zero, Int.sub_self, true_or, or_true, true_and, and_true, false_or, or_false, Int.cast_ofNat_Int, ↓reduceIte, q, if_pos, if_neg]
  · rw [if_neg h, if_neg (fun z => h z.1)]
    simp (disch := omega) only [l0, l1, l2, l3, l4, l5, l6, l7, l8, l10, l12, l16, l20, l24, l26, l40, l64, l80, l100, l255, l256, l288, l312, l400, l992, l1940, l24980, l25240, xI, xL, xR, zI_neg, zI_add, zI_sub, zI_mul, zI_le, zI_lt, zI_eq, zI_in, zI_nat, Option.bind_some, lt9, hq, Int.add_zero, Int.sub_self, true_or, or_true, true_and, and_true, false_or, or_false, Int.cast_ofNat_Int, ↓reduceIte, if_pos, if_neg]
theorem eV_resolved {σ : hT} {v : Int → Int} {g : Nat} (hC : CA σ v g) (hw : wf v) {a k : Int} (hc : cw v a) (hf : fx v a) (k0 : 0 ≤ k) (k1 : k < v (a + 3)) {n : Nat} (hn : 13 ≤ n) : V_resolved n σ (zI (v (a + 4 + 2 * k))) (zI (v (a + 4 + 2 * k + 1))) = some (zI (resv v a k)) := by
  have hk := hc.2.2.1 k k0 k1
  have hff := hf k k0 k1
  have h16 := hw.1
  have hm := (hw.2.2.2.1 _ hk.1 hk.2.1).1
  unfold V_resolved resv
  rw [eV_drawingAt hC hw ⟨by omega, by omega⟩, if_pos ⟨hk.1, hk.2.1⟩]
  by_cases e : v (a + 4 + 2 * k + 1) = -1
  · rw [if_pos e]
    simp (disch := omega) only [l0, l1, l2, l3, l4, l5, l6, l7, l8, l10, l12, l16, l20, l24, l26, l40, l64, l80, l100, l255, l256, l288, l312, l400, l992, l1940, l24980, l25240, xI, xL, xR, zI_neg, zI_add, zI_sub, zI_mul, zI_le, zI_lt, zI_eq, zI_in, zI_nat, Option.bind_some, lt9, hq, Int.add_zero, Int.sub_self, true_or, or_true, true_and, and_true, false_or, or_false, Int.cast_ofNat_Int, ↓reduceIte, eD_hasRevision hC hw hk.1 hk.2.1 (r := v (a + 4 + 2 * k + 1)) ⟨by omega, by omega⟩, if_neg (show ¬ (0 ≤ v (a + 4 + 2 * k + 1) ∧ v (a + 4 + 2 * k + 1) < v (20 + 80 * v (a + 4 + 2 * k))) by omega), eD_latestReleased hC hw hk.1 hk.2.1 hn, if_pos, if_neg]
  · rw [if_neg e]
    simp (disch := omega) only [l0, l1, l2, l3, l4, l5, l6, l7, l8, l10, l12, l16, l20, l24, l26, l40, l64, l80, l100, l255, l256, l288, l312, l400, l992, l1940, l24980, l25240, xI, xL, xR, zI_neg, zI_add, zI_sub, zI_mul, zI_le, zI_lt, zI_eq, zI_in, zI_nat, Option.bind_some, lt9, hq, Int.add_zero, Int.sub_self, true_or, or_true, true_and, and_true, false_or, or_false, Int.cast_ofNat_Int, ↓reduceIte, eD_hasRevision hC hw hk.1 hk.2.1 (r := v (a + 4 + 2 * k + 1)) ⟨by omega, by omega⟩, if_pos (show (0 ≤ v (a + 4 + 2 * k + 1) ∧ v (a + 4 + 2 * k + 1) < v (20 + 80 * v (a + 4 + 2 * k))) by omega), if_pos, if_neg]
theorem eV_relOf {σ : hT} {v : Int → Int} {g : Nat} (hC : CA σ v g) (hw : wf v) {a k : Int} (hc : cw v a) (hf : fx v a) (k0 : 0 ≤ k) (k1 : k < v (a + 3)) : V_isReleased σ (zI (v (a + 4 + 2 * k))) (zI (resv v a k)) = some (zI (if isRel v a k then 1 else 0)) := by
  have hk := hc.2.2.1 k k0 k1
  have hr := resv_rng hw hc hf k0 k1
  have h16 := hw.1
  have hm := (hw.2.2.2.1 _ hk.1 hk.2.1).1
  rw [eV_isReleased hC hw ⟨by omega, by omega⟩ ⟨by omega, by omega⟩, if01 (p := isRv v (v (a + 4 + 2 * k)) (resv v a k) ∧ v (1940 + 80 * (12 * v (a + 4 + 2 * k) + resv v a k)) = 2) (q := isRel v a k)]
  exact ⟨fun z => ⟨z.1.2.2.1, z.2⟩, fun z => ⟨⟨hk.1, hk.2.1, z.1, hr.2⟩, z.2⟩⟩
theorem eV_all_L {σ : hT} {v : Int → Int} {g c : Nat} (hC : CA σ v g) (hw : wf v) {a : Int} (hc : cw v a) (hf : fx v a) (hct : ct σ c v a) {n : Nat} (hn : 13 ≤ n) (kx : Int32 → Nat → Option Int32) (K : Nat) : ∀ (i : Int), 0 ≤ i → i ≤ v (a + 3) → v (a + 3) - i < K →
    ((∃ k, i ≤ k ∧ k < v (a + 3) ∧ ¬ isRel v a k) ∧ V_allResolveToReleased_L2 n σ kx K (zI i) c = some (zI 0)) ∨ ((¬ ∃ k, i ≤ k ∧ k < v (a + 3) ∧ ¬ isRel v a k) ∧ V_allResolveToReleased_L2 n σ kx K (zI i) c = kx (zI (v (a + 3))) c) := by
  have h3 := hc.2.1
  induction K with
  | zero => intro i _ _ h; omega
  | succ K ih =>
    intro i i0 i1 hK
    by_cases hx : v (a + 3) ≤ i
    · obtain rfl : i = v (a + 3) := by omega
      refine Or.inr ⟨ex_end (P := fun k => ¬ isRel v a k) hx, ?_⟩
      unfold V_allResolveToReleased_L2
      simp (disch := omega) only [l0, l1, l2, l3, l4, l5, l6, l7, l8, l10, l12, l16, l20, l24, l26, l40, l64, l80, l100, l255, l256, l288, l312, l400, l992, l1940, l24980, l25240, xI, xL, xR, zI_neg, zI_add, zI_sub, zI_mul, zI_le, zI_lt, zI_eq, zI_in, zI_nat, Option.bind_some, lt9, hq, Int.add_zero, Int.sub_self, true_or, or_true, true_and, and_true, false_or, or_false, Int.cast_ofNat_Int, ↓reduceIte, hct.2.1, if_pos, if_neg]
    · rw [ex_step (P := fun k => ¬ isRel v a k) (show i < v (a + 3) by omega)]
      have hk := hct.2.2.1 i i0 (by omega)
      have e1 := eV_resolved hC hw hc hf i0 (by omega) hn
      have e2 := eV_relOf hC hw hc hf i0 (by omega)
      by_cases hr : isRel v a i
      · rw [if_pos hr] at e2
        have e3 : V_allResolveToReleased_L2 n σ kx (K + 1) (zI i) c = V_allResolveToReleased_L2 n σ kx K (zI (i + 1)) c := by
          conv => lhs; unfold V_allResolveToReleased_L2
          simp (disch := omega) only [l0, l1, l2, l3, l4, l5, l6, l7, l8, l10, l12, l16, l20, l24, l26, l40, l64, l80, l100, l255, l256, l288, l312, l400, l992, l1940, l24980, l25240, xI, xL, xR, zI_neg, zI_add, zI_sub, zI_mul, zI_le, zI_lt, zI_eq, zI_in, zI_nat, Option.bind_some, lt9, hq, Int.add_zero, Int.sub_self, true_or, or_true, true_and, and_true, false_or, or_false, Int.cast_ofNat_Int, ↓reduceIte, hct.2.1, hk.1, hk.2, e1, e2, if_pos, if_neg]
        rw [e3]
        rcases ih (i + 1) (by omega) (by omega) (by omega) with ⟨q1, q2⟩ | ⟨q1, q2⟩
        · exact Or.inl ⟨Or.inr q1, q2⟩
        · exact Or.inr ⟨fun z => z.elim (fun z => z hr) q1, q2⟩
      · rw [if_neg hr] at e2
        refine Or.inl ⟨Or.inl hr, ?_⟩
        conv => lhs; unfold V_allResolveToReleased_L2
        simp (disch := omega) only [l0, l1, l2, l3, l4, l5, l6, l7, l8, l10, l12, l16, l20, l24, l26, l40, l64, l80, l100, l255, l256, l288, l312, l400, l992, l1940, l24980, l25240, xI, xL, xR, zI_neg, zI_add, zI_sub, zI_mul, zI_le, zI_lt, zI_eq, zI_in, zI_nat, Option.bind_some, lt9, hq, Int.add_zero, Int.sub_self, true_or, or_true, true_and, and_true, false_or, or_false, Int.cast_ofNat_Int, ↓reduceIte, hct.2.1, hk.1, hk.2, e1, e2, if_pos, if_neg]
theorem eV_allRes {σ : hT} {v : Int → Int} {g c : Nat} (hC : CA σ v g) (hw : wf v) {a : Int} (hc : cw v a) (hf : fx v a) (hct : ct σ c v a) {n : Nat} (hn : 13 ≤ n) : ∃ y, V_allResolveToReleased n σ c = some (zI y) ∧ (y = 0 ∨ y = 1) ∧ (y = 0 ↔ lrP v a) := by
  have h3 := hc.2.1
  unfold V_allResolveToReleased lt9
  rcases eV_all_L hC hw hc hf hct hn (fun (p1 : Int32) (j2 : Nat) => some 1) n 0 (by omega) (by omega) (by omega) with ⟨q1, q2⟩ | ⟨q1, q2⟩
  · exact ⟨0, q2, Or.inl rfl, fun _ => q1, fun _ => rfl⟩
  · exact ⟨1, q2, Or.inr rfl, fun z => absurd z (by decide), fun z => absurd z q1⟩
theorem eV_fix_L {σ : hT} {v : Int → Int} {g c : Nat} (hC : CA σ v g) (hw : wf v) {a : Int} (hc : cw v a) (hct : ct σ c v a) (n : Nat) (kx : Int32 → Nat → Option Int32) (K : Nat) : ∀ (i : Int), 0 ≤ i → i ≤ v (a + 3) → v (a + 3) - i < K →
    ((∃ k, i ≤ k ∧ k < v (a + 3) ∧ v (20 + 80 * v (a + 4 + 2 * k)) ≤ v (a + 4 + 2 * k + 1)) ∧ V_fixedOnesAreThere_L2 n σ kx K (zI i) c = some (zI 0)) ∨ ((¬ ∃ k, i ≤ k ∧ k < v (a + 3) ∧ v (20 + 80 * v (a + 4 + 2 * k)) ≤ v (a + 4 + 2 * k + 1)) ∧ V_fixedOnesAreThere_L2 n σ kx K (zI i) c = kx (zI (v (a + 3))) c) := by
  have h3 := hc.2.1
  induction K with
  | zero => intro i _ _ h; omega
  | succ K ih =>
    intro i i0 i1 hK
    by_cases hx : v (a + 3) ≤ i
    · obtain rfl : i = v (a + 3) := by omega
      refine Or.inr ⟨ex_end (P := fun k => v (20 + 80 * v (a + 4 + 2 * k)) ≤ v (a + 4 + 2 * k + 1)) hx, ?_⟩
      unfold V_fixedOnesAreThere_L2
      simp (disch := omega) only [l0, l1, l2, l3, l4, l5, l6, l7, l8, l10, l12, l16, l20, l24, l26, l40, l64, l80, l100, l255, l256, l288, l312, l400, l992, l1940, l24980, l25240, xI, xL, xR, zI_neg, zI_add, zI_sub, zI_mul, zI_le, zI_lt, zI_eq, zI_in, zI_nat, Option.bind_some, lt9, hq, Int.add_zero, Int.sub_self, true_or, or_true, true_and, and_true, false_or, or_false, Int.cast_ofNat_Int, ↓reduceIte, hct.2.1, if_pos, if_neg]
    · rw [ex_step (P := fun k => v (20 + 80 * v (a + 4 + 2 * k)) ≤ v (a + 4 + 2 * k + 1)) (show i < v (a + 3) by omega)]
      have hk := hct.2.2.1 i i0 (by omega)
      have hki := hc.2.2.1 i i0 (by omega)
      have h16 := hw.1
      have hm := (hw.2.2.2.1 _ hki.1 hki.2.1).1
      have go : ¬ (v (20 + 80 * v (a + 4 + 2 * i)) ≤ v (a + 4 + 2 * i + 1)) → V_fixedOnesAreThere_L2 n σ kx (K + 1) (zI i) c = V_fixedOnesAreThere_L2 n σ kx K (zI (i + 1)) c := by
        intro hr
        conv => lhs; unfold V_fixedOnesAreThere_L2
        by_cases hm1 : v (a + 4 + 2 * i + 1) = -1
        · simp (disch := omega) only [l0, l1, l2, l3, l4, l5, l6, l7, l8, l10, l12, l16, l20, l24, l26, l40, l64, l80, l100, l255, l256, l288, l312, l400, l992, l1940, l24980, l25240, xI, xL, xR, zI_neg, zI_add, zI_sub, zI_mul, zI_le, zI_lt, zI_eq, zI_in, zI_nat, Option.bind_some, lt9, hq, Int.add_zero, Int.sub_self, true_or, or_true, true_and, and_true, false_or, or_false, Int.cast_ofNat_Int, ↓reduceIte, hct.2.1, hk.1, hk.2, if_pos, if_neg]
        · simp (disch := omega) only [l0, l1, l2, l3, l4, l5, l6, l7, l8, l10, l12, l16, l20, l24, l26, l40, l64, l80, l100, l255, l256, l288, l312, l400, l992, l1940, l24980, l25240, xI, xL, xR, zI_neg, zI_add, zI_sub, zI_mul, zI_le, zI_lt, zI_eq, zI_in, zI_nat, Option.bind_some, lt9, hq, Int.add_zero, Int.sub_self, true_or, or_true, true_and, and_true, false_or, or_false, Int.cast_ofNat_Int, ↓reduceIte, hct.2.1, hk.1, hk.2, eV_revisionAt hC hw (d := v (a + 4 + 2 * i)) (r := v (a + 4 + 2 * i + 1)) ⟨by omega, by omega⟩ ⟨by omega, by omega⟩, if_pos (show isRv v (v (a + 4 + 2 * i)) (v (a + 4 + 2 * i + 1)) from ⟨hki.1, hki.2.1, by omega, by omega⟩), if_pos, if_neg]
      by_cases hr : v (20 + 80 * v (a + 4 + 2 * i)) ≤ v (a + 4 + 2 * i + 1)
      · refine Or.inl ⟨Or.inl hr, ?_⟩
        conv => lhs; unfold V_fixedOnesAreThere_L2
        simp (disch := omega) only [l0, l1, l2, l3, l4, l5, l6, l7, l8, l10, l12, l16, l20, l24, l26, l40, l64, l80, l100, l255, l256, l288, l312, l400, l992, l1940, l24980, l25240, xI, xL, xR, zI_neg, zI_add, zI_sub, zI_mul, zI_le, zI_lt, zI_eq, zI_in, zI_nat, Option.bind_some, lt9, hq, Int.add_zero, Int.sub_self, true_or, or_true, true_and, and_true, false_or, or_false, Int.cast_ofNat_Int, ↓reduceIte, hct.2.1, hk.1, hk.2, eV_revisionAt hC hw (d := v (a + 4 + 2 * i)) (r := v (a + 4 + 2 * i + 1)) ⟨by omega, by omega⟩ ⟨by omega, by omega⟩, if_neg (show ¬ isRv v (v (a + 4 + 2 * i)) (v (a + 4 + 2 * i + 1)) from fun z => by have := z.2.2.2; omega), if_pos, if_neg]
      · rw [go hr]
        rcases ih (i + 1) (by omega) (by omega) (by omega) with ⟨q1, q2⟩ | ⟨q1, q2⟩
        · exact Or.inl ⟨Or.inr q1, q2⟩
        · exact Or.inr ⟨fun z => z.elim hr q1, q2⟩
theorem eV_fixed {σ : hT} {v : Int → Int} {g c : Nat} (hC : CA σ v g) (hw : wf v) {a : Int} (hc : cw v a) (hct : ct σ c v a) {n : Nat} (hn : 7 ≤ n) : ∃ y, V_fixedOnesAreThere n σ c = some (zI y) ∧ (y = 0 ∨ y = 1) ∧ (y = 0 ↔ lackP v a) := by
  have h3 := hc.2.1
  unfold V_fixedOnesAreThere lt9
  rcases eV_fix_L hC hw hc hct n (fun (p1 : Int32) (j2 : Nat) => some 1) n 0 (by omega) (by omega) (by omega) with ⟨q1, q2⟩ | ⟨q1, q2⟩
  · exact ⟨0, q2, Or.inl rfl, fun _ => q1, fun _ => rfl⟩
  · exact ⟨1, q2, Or.inr rfl, fun z => absurd z (by decide), fun z => absurd z q1⟩
theorem eC_names_L {σ : hT} {v : Int → Int} {c : Nat} {a : Int} (h16 : v 16 ≤ 24) (hc : cw v a) (hct : ct σ c v a) {d r : Int} (hd : i32 d) (hr : i32 r) (n : Nat) (kx : Int32 → Nat → Int32 → Int32 → Option Int32) (K : Nat) : ∀ (i : Int), 0 ≤ i → i ≤ v (a + 3) → v (a + 3) - i < K →
    ((∃ k, i ≤ k ∧ k < v (a + 3) ∧ v (a + 4 + 2 * k) = d ∧ v (a + 4 + 2 * k + 1) = r) ∧ C_names_L2 n σ kx K (zI i) c (zI d) (zI r) = some (zI 1)) ∨ ((¬ ∃ k, i ≤ k ∧ k < v (a + 3) ∧ v (a + 4 + 2 * k) = d ∧ v (a + 4 + 2 * k + 1) = r) ∧ C_names_L2 n σ kx K (zI i) c (zI d) (zI r) = kx (zI (v (a + 3))) c (zI d) (zI r)) := by
  have h3 := hc.2.1
  obtain ⟨d1, d2⟩ := hd
  obtain ⟨r1, r2⟩ := hr
  induction K with
  | zero => intro i _ _ h; omega
  | succ K ih =>
    intro i i0 i1 hK
    by_cases hx : v (a + 3) ≤ i
    · obtain rfl : i = v (a + 3) := by omega
      refine Or.inr ⟨ex_end (P := fun k => v (a + 4 + 2 * k) = d ∧ v (a + 4 + 2 * k + 1) = r) hx, ?_⟩
      unfold C_names_L2
      simp (disch := omega) only [l0, l1, l2, l3, l4, l5, l6, l7, l8, l10, l12, l16, l20, l24, l26, l40, l64, l80, l100, l255, l256, l288, l312, l400, l992, l1940, l24980, l25240, xI, xL, xR, zI_neg, zI_add, zI_sub, zI_mul, zI_le, zI_lt, zI_eq, zI_in, zI_nat, Option.bind_some, lt9, hq, Int.add_zero, Int.sub_self, true_or, or_true, true_and, and_true, false_or, or_false, Int.cast_ofNat_Int, ↓reduceIte, hct.2.1, if_pos, if_neg]
    · rw [ex_step (P := fun k => v (a + 4 + 2 * k) = d ∧ v (a + 4 + 2 * k + 1) = r) (show i < v (a + 3) by omega)]
      have hk := hct.2.2.1 i i0 (by omega)
      have hki := hc.2.2.1 i i0 (by omega)
      by_cases hr : v (a + 4 + 2 * i) = d ∧ v (a + 4 + 2 * i + 1) = r
      · refine Or.inl ⟨Or.inl hr, ?_⟩
        conv => lhs; unfold C_names_L2
        simp (disch := omega) only [l0, l1, l2, l3, l4, l5, l6, l7, l8, l10, l12, l16, l20, l24, l26, l40, l64, l80, l100, l255, l256, l288, l312, l400, l992, l1940, l24980, l25240, xI, xL, xR, zI_neg, zI_add, zI_sub, zI_mul, zI_le, zI_lt, zI_eq, zI_in, zI_nat, Option.bind_some, lt9, hq, Int.add_zero, Int.sub_self, true_or, or_true, true_and, and_true, false_or, or_false, Int.cast_ofNat_Int, ↓reduceIte, hct.2.1, hk.1, hk.2, if_pos hr.1, if_pos hr.2, if_pos, if_neg]
      · have e3 : C_names_L2 n σ kx (K + 1) (zI i) c (zI d) (zI r) = C_names_L2 n σ kx K (zI (i + 1)) c (zI d) (zI r) := by
          conv => lhs; unfold C_names_L2
          by_cases h1 : v (a + 4 + 2 * i) = d
          · simp (disch := omega) only [l0, l1, l2, l3, l4, l5, l6, l7, l8, l10, l12, l16, l20, l24, l26, l40, l64, l80, l100, l255, l256, l288, l312, l400, l992, l1940, l24980, l25240, xI, xL, xR, zI_neg, zI_add, zI_sub, zI_mul, zI_le, zI_lt, zI_eq, zI_in, zI_nat, Option.bind_some, lt9, hq, Int.add_zero, Int.sub_self, true_or, or_true, true_and, and_true, false_or, or_false, Int.cast_ofNat_Int, ↓reduceIte, hct.2.1, hk.1, hk.2, if_pos h1, if_neg (show ¬ v (a + 4 + 2 * i + 1) = r from fun z => hr ⟨h1, z⟩), if_pos, if_neg]
          · simp (disch := omega) only [l0, l1, l2, l3, l4, l5, l6, l7, l8, l10, l12, l16, l20, l24, l26, l40, l64, l80, l100, l255, l256, l288, l312, l400, l992, l1940, l24980, l25240, xI, xL, xR, zI_neg, zI_add, zI_sub, zI_mul, zI_le, zI_lt, zI_eq, zI_in, zI_nat, Option.bind_some, lt9, hq, Int.add_zero, Int.sub_self, true_or, or_true, true_and, and_true, false_or, or_false, Int.cast_ofNat_Int, ↓reduceIte, hct.2.1, hk.1, hk.2, if_neg h1, if_pos, if_neg]
        rw [e3]
        rcases ih (i + 1) (by omega) (by omega) (by omega) with ⟨q1, q2⟩ | ⟨q1, q2⟩
        · exact Or.inl ⟨Or.inr q1, q2⟩
        · exact Or.inr ⟨fun z => z.elim hr q1, q2⟩
theorem eC_names {σ : hT} {v : Int → Int} {c : Nat} {a : Int} (h16 : v 16 ≤ 24) (hc : cw v a) (hct : ct σ c v a) {d r : Int} (hd : i32 d) (hr : i32 r) {n : Nat} (hn : 7 ≤ n) : ∃ y, C_names n σ c (zI d) (zI r) = some (zI y) ∧ (y = 0 ∨ y = 1) ∧ (y = 1 ↔ ∃ k, 0 ≤ k ∧ k < v (a + 3) ∧ v (a + 4 + 2 * k) = d ∧ v (a + 4 + 2 * k + 1) = r) := by
  have h3 := hc.2.1
  unfold C_names lt9
  rcases eC_names_L h16 hc hct hd hr n (fun (p1 : Int32) (j2 : Nat) (p4 : Int32) (p5 : Int32) => some 0) n 0 (by omega) (by omega) (by omega) with ⟨q1, q2⟩ | ⟨q1, q2⟩
  · exact ⟨1, q2, Or.inr rfl, fun _ => q1, fun _ => rfl⟩
  · exact ⟨0, q2, Or.inl rfl, fun z => absurd z (by decide), fun z => absurd z q1⟩
