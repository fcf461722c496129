def RefC (ok : Prop) (c : Int) (f : (Int → Int) → Int → Int) (s : zT) (σ : hT) (M : Option (Int32 × hT)) (ans : Int → Int → Int) : Prop :=
  ∃ th acc s' σ', Cm ok c f s th acc s' ∧ M = some (zI (ans th acc), σ') ∧ MSt σ' s' ∧ σ'.2 = σ.2 ∧ (∀ g j, (g < 15 ∨ 19 < g ∧ g < 500 ∨ 600 ≤ g) → σ'.1 g j = σ.1 g j) ∧ σ'.1 500 0 0 = zI th
theorem frW {P : Nat → Prop} {σ σ' : hT} (h : fr P σ σ') (hP : ∀ f, P f → 15 ≤ f ∧ f ≤ 19 ∨ 500 ≤ f ∧ f < 600) : σ'.2 = σ.2 ∧ ∀ g j, (g < 15 ∨ 19 < g ∧ g < 500 ∨ 600 ≤ g) → σ'.1 g j = σ.1 g j := ⟨h.1, fun g j hg => h.2 g j (fun z => by have := hP g z; omega)⟩
theorem body_close {σ1 σ2 : hT} {v u w : Int → Int} {pl : Int} {n : Nat} (hn : 25241 ≤ n) (h : MS σ1 v w 0 pl) (h2 : mN σ2 u) (hf : fr (fun f => f = 15) σ1 σ2) (hu : wf u) (ht : σ1.1 500 0 0 = zI 0) :
    ∃ σ3, M_close n σ2 = some ((), σ3) ∧ MS σ3 (cls u) (cls u) 0 pl ∧ σ3.2 = σ1.2 ∧ (∀ g j, (g < 15 ∨ 19 < g ∧ g < 500 ∨ 600 ≤ g) → σ3.1 g j = σ1.1 g j) ∧ σ3.1 500 0 0 = zI 0 := by
  have hM : MS σ2 u w 0 pl := ⟨h2, fun k h0 h1 => by rw [hf.2 16 0 (by decide)]; exact h.2.1 k h0 h1, by rw [hf.2 504 0 (by decide)]; exact h.2.2.1, by rw [hf.2 505 0 (by decide)]; exact h.2.2.2⟩
  obtain ⟨σ3, q1, q2, q3⟩ := eM_close hM hu hn
  have f1 := frW hf (by omega)
  have f2 := frW q3 (by intro f z; simp only [pCls] at z; omega)
  exact ⟨σ3, q1, q2, f2.1.trans f1.1, fun g j hg => (f2.2 g j hg).trans (f1.2 g j hg), by rw [q3.2 500 0 (by decide), hf.2 500 0 (by decide)]; exact ht⟩
theorem cw_c {v v' : Int → Int} {a : Int} (h16 : v 16 ≤ v' 16) (he : ∀ k, 2 ≤ k → k < 80 → v' (a + k) = v (a + k)) (h : cw v a) : cw v' a := by
  obtain ⟨h1, h2, h3, h4⟩ := h
  refine ⟨?_, ?_, ?_, ?_⟩
  · rw [he 2 (by omega) (by omega)]; exact h1
  · rw [he 3 (by omega) (by omega)]; exact h2
  · intro k k0 k1
    rw [he 3 (by omega) (by omega)] at k1
    have e1 := he (4 + 2 * k) (by omega) (by omega)
    have e2 := he (4 + 2 * k + 1) (by omega) (by omega)
    rw [← Int.add_assoc] at e1
    rw [← Int.add_assoc, ← Int.add_assoc] at e2
    rw [e1, e2]
    have := h3 k k0 k1
    omega
  · intro i i0 i1
    rw [he 2 (by omega) (by omega)] at i1
    have e1 := he (16 + i) (by omega) (by omega)
    rw [← Int.add_assoc] at e1
    rw [e1]
    exact h4 i i0 i1
theorem fx_c {v v' : Int → Int} {a : Int} (hm : ∀ d, 0 ≤ d → d < v 16 → v (20 + 80 * d) ≤ v' (20 + 80 * d)) (he : ∀ k, 2 ≤ k → k < 80 → v' (a + k) = v (a + k)) (hc : cw v a) (h : fx v a) : fx v' a := by
  intro k k0 k1
  have h2 := hc.2.1
  rw [he 3 (by omega) (by omega)] at k1
  have e1 := he (4 + 2 * k) (by omega) (by omega)
  have e2 := he (4 + 2 * k + 1) (by omega) (by omega)
  rw [← Int.add_assoc] at e1
  rw [← Int.add_assoc, ← Int.add_assoc] at e2
  rw [e1, e2]
  have h3 := hc.2.2.1 k k0 k1
  have := h k k0 k1
  have := hm _ h3.1 h3.2.1
  omega
theorem wfD_c {v v' : Int → Int} {d : Int} (hd : 0 ≤ d) (h16 : v 16 ≤ v' 16) (hm : ∀ d, 0 ≤ d → d < v 16 → v (20 + 80 * d) ≤ v' (20 + 80 * d)) (he : ∀ k, 0 ≤ k → k < 80 → v' (20 + 80 * d + k) = v (20 + 80 * d + k)) (hr : ∀ r k, 0 ≤ r → r < 12 → 0 ≤ k → k < 80 → v' (1940 + 80 * (12 * d + r) + k) = v (1940 + 80 * (12 * d + r) + k)) (h : wfD v d) : wfD v' d := by
  obtain ⟨h1, h2, h3, h4⟩ := h
  have e0 := he 0 (by omega) (by omega)
  rw [Int.add_zero] at e0
  have e1 := he 1 (by omega) (by omega)
  refine ⟨by rw [e0]; exact h1, by rw [e1]; exact h2, ?_, ?_⟩
  · intro z
    rw [e1] at z
    exact cw_c h16 (fun k k0 k1 => he k (by omega) k1) (h3 z)
  · intro r r0 r1
    rw [e0] at r1
    have q0 := hr r 0 r0 (by omega) (by omega) (by omega)
    rw [Int.add_zero] at q0
    have q1 := hr r 1 r0 (by omega) (by omega) (by omega)
    obtain ⟨g1, g2, g3, g4⟩ := h4 r r0 r1
    refine ⟨by rw [q0]; exact g1, by rw [q1]; exact g2, ?_, ?_⟩
    · exact cw_c h16 (fun k k0 k1 => hr r k r0 (by omega) (by omega) k1) g3
    · exact fx_c hm (fun k k0 k1 => hr r k r0 (by omega) (by omega) k1) g3 g4
theorem cntE_c {v v' : Int → Int} {a : Int} (n : Nat) (he : ∀ k : Int, 0 ≤ k → k < n → v' (a + k) = v (a + k)) : cntE v' a n = cntE v a n := by
  induction n with
  | zero => rfl
  | succ n ih =>
    unfold cntE
    rw [ih (fun k h0 h1 => he k h0 (by omega)), he n (by omega) (by omega)]
theorem wfB_c {v v' : Int → Int} {b : Int} (hb : 0 ≤ b) (he : ∀ k, 0 ≤ k → k < 26 → v' (24980 + 26 * b + k) = v (24980 + 26 * b + k)) (h : wfB v b) : wfB v' b := by
  obtain ⟨h1, h2, h3, h4⟩ := h
  have e0 := he 0 (by omega) (by omega)
  rw [Int.add_zero] at e0
  have e1 := he 1 (by omega) (by omega)
  refine ⟨by rw [e0]; exact h1, by rw [e1]; exact h2, fun k k0 k1 => ?_, fun z => ?_⟩
  · have e := he (2 + k) (by omega) (by omega)
    rw [← Int.add_assoc] at e
    rw [e]; exact h3 k k0 k1
  · rw [e0] at z
    rw [e1, cntE_c (v := v) 24 (fun k k0 k1 => by have e := he (2 + k) (by omega) (by omega); rw [← Int.add_assoc] at e; exact e)]
    exact h4 z
theorem allR_c {v v' : Int → Int} (n : Nat) (he : ∀ d : Int, 0 ≤ d → d < n → v' (20 + 80 * d) = v (20 + 80 * d)) : allR v' n = allR v n := by
  induction n with
  | zero => rfl
  | succ n ih =>
    unfold allR
    rw [ih (fun d h0 h1 => he d h0 (by omega)), he n (by omega) (by omega)]
theorem wf_low {v v' : Int → Int} (h : wf v) (h16 : v' 16 = v 16) (he : ∀ k, 20 ≤ k → v' k = v k) (hp : ∀ p, 0 ≤ p → p < 16 → 0 ≤ v' p ∧ v' p ≤ 7) (h17 : 0 ≤ v' 17 ∧ v' 17 ≤ 400) : wf v' := by
  obtain ⟨g1, g2, g3, g4, g5, g6⟩ := h
  refine ⟨by rw [h16]; exact g1, hp, h17, fun d d0 d1 => ?_, ?_, fun b b0 b1 => ?_⟩
  · rw [h16] at d1
    exact wfD_c d0 (by omega) (fun d d0 d1 => by rw [he _ (by omega)]; omega) (fun k k0 k1 => he _ (by omega)) (fun r k r0 r1 k0 k1 => he _ (by omega)) (g4 d d0 d1)
  · rw [h16, allR_c _ (fun d d0 d1 => he _ (by omega))]; exact g5
  · exact wfB_c b0 (fun k k0 k1 => he _ (by omega)) (g6 b b0 b1)
theorem mv_at {v : Int → Int} {c k : Int} (h : k ≠ 17) (h2 : k ≠ 18) : mv v c k = v k := by
  unfold mv; rw [uv_n h2, uv_n h]
theorem mv_17 {v : Int → Int} {c : Int} : mv v c 17 = v 17 - c := by
  unfold mv; rw [uv_n (by decide), uv_s]
theorem wf_mv {v : Int → Int} {c : Int} (h : wf v) (hc : 0 ≤ c) (h17 : c ≤ v 17) : wf (mv v c) := by
  have g3 := h.2.2.1
  exact wf_low h (mv_at (by decide) (by decide)) (fun k hk => mv_at (by omega) (by omega)) (fun p p0 p1 => by rw [mv_at (by omega) (by omega)]; exact h.2.1 p p0 p1) (by rw [mv_17]; omega)
theorem wf_cls {v : Int → Int} (h : wf v) : wf (cls v) := by
  unfold cls
  split
  · rename_i z
    have := need_rng h
    exact wf_low h (by rw [uv_n (by decide), uv_n (by decide)]) (fun k hk => by rw [uv_n (by omega), uv_n (by omega)]) (fun p p0 p1 => by rw [uv_n (by omega), uv_n (by omega)]; exact h.2.1 p p0 p1) (by rw [uv_n (by decide), uv_s]; omega)
  · exact h
theorem wf_person {v : Int → Int} {p r : Int} (h : wf v) (h17 : 1 ≤ v 17) (hk : 0 ≤ p ∧ p < 16 ∧ 0 ≤ r ∧ r < 8) : wf (uv (mv v 1) p r) := by
  have h2 := wf_mv h (by omega) h17
  refine wf_low h2 (uv_n (by omega)) (fun k hk2 => uv_n (by omega)) (fun q q0 q1 => ?_) (by rw [uv_n (by omega)]; exact h2.2.2.1)
  by_cases e : q = p
  · subst e; rw [uv_s]; omega
  · rw [uv_n e]; exact h2.2.1 q q0 q1
theorem eM_person {σ : hT} {s : zT} (hs : MSt σ s) (ho : okS s) {p r : Int} (hp : i32 p) (hr : i32 r) {n : Nat} (hn : 25241 ≤ n) :
    RefC (0 ≤ p ∧ p < 16 ∧ 0 ≤ r ∧ r < 8) 1 (fun u => uv u p r) s σ (M_person n σ (zI p) (zI r)) (fun _ acc => acc) := by
  obtain ⟨hp1, hp2⟩ := hp
  obtain ⟨hr1, hr2⟩ := hr
  have := Cm_ref (ok := 0 ≤ p ∧ p < 16 ∧ 0 ≤ r ∧ r < 8) (c := 1) (f := fun u => uv u p r) hs ho (why := if 0 ≤ p ∧ p < 16 ∧ 0 ≤ r ∧ r < 8 then 0 else 7) (by split <;> omega) (by split <;> omega) (by split <;> omega) (by omega) (by omega)
    (fun σ9 y8 => if y8 = 0 then some (0, σ9) else if in9 (zI p) 25240 then lt9 (sI σ9 15 0 (zI p).toNatClampNeg (zI r)) fun σ12 => Option.bind (M_close n σ12) fun ⟨y16, σ17⟩ => some (1, σ17) else none) (fun _ acc => acc)
    (fun σ1 th h1 h2 => ⟨σ1, rfl, rfl⟩)
    (fun hk h17 σ1 pl hM hf ht => by
      obtain ⟨σ3, q1, q2, q3, q4, q5⟩ := body_close hn hM (mN_s hM.1 hk.1 p.toNat rfl) (fr.rf.s (P := fun f => f = 15) rfl) (wf_person ho.1 h17 hk) ht
      refine ⟨σ3, ?_, q2, q3, q4, q5⟩
      simp (disch := omega) only [l0, l1, l2, l3, l4, l5, l6, l7, l8, l10, l12, l16, l20, l24, l26, l40, l64, l80, l100, l255, l256, l288, l312, l400, l992, l1940, l24980, l25240, xI, xL, xR, zI_neg, zI_add, zI_sub, zI_mul, zI_le, zI_lt, zI_eq, zI_in, zI_nat, Option.bind_some, lt9, hq, Int.add_zero, Int.sub_self, true_or, or_true, true_and, and_true, false_or, or_false, Int.cast_ofNat_Int, ↓reduceIte, if_pos, if_neg]
      rw [q1]
      rfl)
  obtain ⟨th, acc, s', σ', a1, a2, a3⟩ := this
  refine ⟨th, acc, s', σ', a1, ?_, a3⟩
  rw [← a2]
  unfold M_person
  by_cases h1 : 0 ≤ p ∧ p < 16
  · by_cases h2 : 0 ≤ r
    · by_cases h3 : r < 8
      · simp (disch := omega) only [l0, l1, l2, l3, l4, l5, l6, l7, l8, l10, l12, l16, l20, l24, l26, l40, l64, l80, l100, l255, l256, l288, l312, l400, l992, l1940, l24980, l25240, xI, xL, xR, zI_neg, zI_add, zI_sub, zI_mul, zI_le, zI_lt, zI_eq, zI_in, zI_nat, Option.bind_some, lt9, hq, Int.add_zero, Int.sub_self, true_or, or_true, true_and, and_true, false_or, or_false, Int.cast_ofNat_Int, ↓reduceIte, eM_isPerson hp1 hp2, if_pos, if_neg]
      · simp (disch := omega) only [l0, l1, l2, l3, l4, l5, l6, l7, l8, l10, l12, l16, l20, l24, l26, l40, l64, l80, l100, l255, l256, l288, l312, l400, l992, l1940, l24980, l25240, xI, xL, xR, zI_neg, zI_add, zI_sub, zI_mul, zI_le, zI_lt, zI_eq, zI_in, zI_nat, Option.bind_some, lt9, hq, Int.add_zero, Int.sub_self, true_or, or_true, true_and, and_true, false_or, or_false, Int.cast_ofNat_Int, ↓reduceIte, eM_isPerson hp1 hp2, if_pos, if_neg]
    · simp (disch := omega) only [l0, l1, l2, l3, l4, l5, l6, l7, l8, l10, l12, l16, l20, l24, l26, l40, l64, l80, l100, l255, l256, l288, l312, l400, l992, l1940, l24980, l25240, xI, xL, xR, zI_neg, zI_add, zI_sub, zI_mul, zI_le, zI_lt, zI_eq, zI_in, zI_nat, Option.bind_some, lt9, hq, Int.add_zero, Int.sub_self, true_or, or_true, true_and, and_true, false_or, or_false, Int.cast_ofNat_Int, ↓reduceIte, eM_isPerson hp1 hp2, if_pos, if_neg]
  · simp (disch := omega) only [l0, l1, l2, l3, l4, l5, l6, l7, l8, l10, l12, l16, l20, l24, l26, l40, l64, l80, l100, l255, l256, l288, l312, l400, l992, l1940, l24980, l25240, xI, xL, xR, zI_neg, zI_add, zI_sub, zI_mul, zI_le, zI_lt, zI_eq, zI_in, zI_nat, Option.bind_some, lt9, hq, Int.add_zero, Int.sub_self, true_or, or_true, true_and, and_true, false_or, or_false, Int.cast_ofNat_Int, ↓reduceIte, eM_isPerson hp1 hp2, if_pos, if_neg]
