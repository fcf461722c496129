theorem ct_0 {σ : hT} {c : Nat} {v : Int → Int} {a : Int} (h : ct0 σ c) (h2 : v (a + 2) = 0) (h3 : v (a + 3) = 0) : ct σ c v a := by
  refine ⟨by rw [h2]; exact h.1, by rw [h3]; exact h.2.1, fun k k0 k1 => by omega, fun j j0 j1 => ?_⟩
  rw [h.2.2 j j0 j1]
  intro t i ht hi
  have e : byt v a (8 * j + t) = 0 := by
    unfold byt; rw [if_neg (by omega)]
  rw [e]
  simp
theorem nD_i {σ : hT} {n f j : Nat} (h : ¬ (((f = 701 ∨ f = 702) ∧ j = n) ∨ ((f = 601 ∨ f = 604 ∨ f = 21 ∨ f = 22) ∧ (j = 3 * n ∨ j = 3 * n + 1)))) : (nD σ n).1 f j = σ.1 f j := by
  unfold nD
  show r3 _ 22 _ _ f j = _
  rw [r3_ne (by omega)]
  show r3 _ 21 _ _ f j = _
  rw [r3_ne (by omega)]
  show r3 _ 604 _ _ f j = _
  rw [r3_ne (by omega)]
  show r3 _ 601 _ _ f j = _
  rw [r3_ne (by omega)]
  show r3 _ 22 _ _ f j = _
  rw [r3_ne (by omega)]
  show r3 _ 21 _ _ f j = _
  rw [r3_ne (by omega)]
  show r3 _ 604 _ _ f j = _
  rw [r3_ne (by omega)]
  show r3 _ 601 _ _ f j = _
  rw [r3_ne (by omega)]
  show r3 _ 702 _ _ f j = _
  rw [r3_ne (by omega)]
  show r3 _ 701 _ _ f j = _
  rw [r3_ne (by omega)]
  rfl
theorem nD_l {σ : hT} {n j : Nat} (h : j ≠ 3 * n) (h2 : j ≠ 3 * n + 1) : (nD σ n).2.1 20 j = σ.2.1 20 j := by
  unfold nD
  show r3 _ 20 _ _ 20 j = _
  rw [r3_ne (by omega)]
  show r3 _ 20 _ _ 20 j = _
  rw [r3_ne (by omega)]
  rfl
theorem nD_r {σ : hT} {n f j : Nat} (h : ¬ (f = 23 ∧ j = n)) : (nD σ n).2.2 f j = σ.2.2 f j := by
  unfold nD
  show r3 _ 23 _ _ f j = _
  rw [r3_ne h]
theorem nD_fo {σ : hT} {n : Nat} : fO n σ (nD σ n) := ⟨fun f j h => nD_r h, fun j h => nD_l (by omega) (by omega), fun f j h => nD_i (by omega)⟩
theorem nD_7 {σ : hT} {n : Nat} : (nD σ n).1 701 n 0 = zI 0 ∧ (nD σ n).1 702 n 0 = zI (-1) := by
  unfold nD
  simp (disch := decide) only [rO9, rS9, lI9]
  exact ⟨rfl, rfl⟩
theorem nD_0 {σ : hT} {n : Nat} : ct0 (nD σ n) (3 * n) := by
  have e1 : 3 * n ≠ 3 * n + 1 := by omega
  refine ⟨?_, ?_, fun j _ _ => ?_⟩
  · unfold nD
    simp (disch := first | decide | exact e1) only [rO9, rJ9, rS9, lI9]
    rfl
  · unfold nD
    simp (disch := first | decide | exact e1) only [rO9, rJ9, rS9, lI9]
    rfl
  · unfold nD
    simp (disch := first | decide | exact e1) only [rL9, lJ9, lS9]
theorem eV_drwR {σ : hT} {v : Int → Int} {g : Nat} (hC : CA σ v g) (hw : wf v) {p : Int} (hp : i32 p) : V_drawingRefusal σ (zI p) = some (zI (whyD v p)) := by
  have h16 := hw.1
  have hA := hw.2.2.2.2.1
  have e2 : V_hasRight σ (zI p) (zI 1) = some (zI (if rts v p % 2 = 0 then 0 else 1)) := eV_hasRight (m := 1) hC hw hp (and1 (rts_rng hw p))
  unfold V_drawingRefusal whyD
  by_cases hR : rts v p % 2 = 0
  · rw [if_pos hR] at e2 ⊢
    simp (disch := omega) only [l0, l1, l2, l3, l4, l5, l6, l7, l8, l10, l12, l16, l20, l24, l26, l40, l64, l80, l100, l255, l256, l288, l312, l400, l992, l1940, l24980, l25240, xI, xL, xR, zI_neg, zI_add, zI_sub, zI_mul, zI_le, zI_lt, zI_eq, zI_in, zI_nat, Option.bind_some, lt9, hq, Int.add_zero, Int.sub_self, true_or, or_true, true_and, and_true, false_or, or_false, Int.cast_ofNat_Int, ↓reduceIte, e2, if_pos, if_neg]
  · rw [if_neg hR] at e2 ⊢
    by_cases h1 : v 16 = 24
    · rw [if_pos h1]
      simp (disch := omega) only [l0, l1, l2, l3, l4, l5, l6, l7, l8, l10, l12, l16, l20, l24, l26, l40, l64, l80, l100, l255, l256, l288, l312, l400, l992, l1940, l24980, l25240, xI, xL, xR, zI_neg, zI_add, zI_sub, zI_mul, zI_le, zI_lt, zI_eq, zI_in, zI_nat, Option.bind_some, lt9, hq, Int.add_zero, Int.sub_self, true_or, or_true, true_and, and_true, false_or, or_false, Int.cast_ofNat_Int, ↓reduceIte, e2, hC.2.1, hC.2.2.1, if_pos, if_neg]
    · rw [if_neg h1]
      by_cases h2 : allR v (v 16).toNat = 100
      · simp (disch := omega) only [l0, l1, l2, l3, l4, l5, l6, l7, l8, l10, l12, l16, l20, l24, l26, l40, l64, l80, l100, l255, l256, l288, l312, l400, l992, l1940, l24980, l25240, xI, xL, xR, zI_neg, zI_add, zI_sub, zI_mul, zI_le, zI_lt, zI_eq, zI_in, zI_nat, Option.bind_some, lt9, hq, Int.add_zero, Int.sub_self, true_or, or_true, true_and, and_true, false_or, or_false, Int.cast_ofNat_Int, ↓reduceIte, e2, hC.2.1, hC.2.2.1, if_pos, if_neg]
      · simp (disch := omega) only [l0, l1, l2, l3, l4, l5, l6, l7, l8, l10, l12, l16, l20, l24, l26, l40, l64, l80, l100, l255, l256, l288, l312, l400, l992, l1940, l24980, l25240, xI, xL, xR, zI_neg, zI_add, zI_sub, zI_mul, zI_le, zI_lt, zI_eq, zI_in, zI_nat, Option.bind_some, lt9, hq, Int.add_zero, Int.sub_self, true_or, or_true, true_and, and_true, false_or, or_false, Int.cast_ofNat_Int, ↓reduceIte, e2, hC.2.1, hC.2.2.1, if_pos, if_neg]
def gDrw (n nw : Nat) (a1 : Int32) : Option Int32 × hT → oT := fun ⟨y7o, σ8⟩ => ex9 y7o σ8 fun y7 => if y7 = 0 then some (some (-1), σ8) else lt9 (nD σ8 nw) fun σ27 => Option.bind (D_addRevision σ27 nw a1 (12 * nw)) fun ⟨y31, σ32⟩ => if in9 (xI σ32 102 0 0) 24 then lt9 (sR σ32 9 0 ((xI σ32 102 0 0)).toNatClampNeg (some nw)) fun σ37 => lt9 (sI σ37 102 0 0 ((xI σ37 102 0 0) + 1)) fun σ42 => lt9 (sI σ42 103 0 0 ((xI σ42 103 0 0) + 1)) fun σ45 => Option.bind (V_finish n σ45 2) fun ⟨y48, σ49⟩ => if (xI σ32 102 0 0) = (-1) then none else some (some (xI σ32 102 0 0), σ49) else none
theorem eV_drawing {σ : hT} {s : zT} {g : Nat} (hS : CaS σ s g) (ho : okS s) {p : Int} (hp : i32 p) {n nw : Nat} (hn : 993 ≤ n) (hnw : nw = (s.1 16).toNat) :
    ClsC (drwOk s.1 p) 2 (fDrw p) s g g σ (V_drawing n σ (zI p) nw) (fun acc => if acc = 1 then s.1 16 else -1) := by
  have hpw := hS.2.2.2.2.2.1
  rcases ho.2.1 with hf | hf
  · rw [hf] at hpw
    have h16 := ho.1.1
    have hA := ho.1.2.2.2.2.1
    refine ClsC.mk hf hS ho (fun _ _ _ => rfl) (why := whyD s.1 p) whyD_rng.1 whyD_rng.2 whyD_ok (by omega) (by omega) (gDrw n nw (zI p)) ?_ (fun σ1 => rfl) (fun σ1 => rfl) ?_
    · unfold V_drawing
      rw [nP0 hpw]
      show Option.bind (V_drawingRefusal σ (zI p)) _ = _
      rw [eV_drwR hS.1 ho.1 hp]
      rfl
    · intro hk h17 hpl σ1 hC hP h8
      have hu := wf_mv (c := 2) ho.1 (by omega) h17
      have mva : ∀ k, k ≠ 17 → k ≠ 18 → mv s.1 2 k = s.1 k := fun k a b => mv_at a b
      have u17 : mv s.1 2 17 = s.1 17 - 2 := mv_17
      have u18 : mv s.1 2 18 = s.1 18 + 1 := uv_s
      generalize hU : mv s.1 2 = u at *
      have e16 : u 16 = s.1 16 := mva 16 (by omega) (by omega)
      have u19 : u 19 = s.1 19 := mva 19 (by omega) (by omega)
      have hAe : allR u (u 16).toNat = allR s.1 (s.1 16).toNat := by
        rw [e16]; exact allR_c _ (fun e a b => mva _ (by omega) (by omega))
      have hk1 := hk.2.1
      have hk2 := hk.2.2
      have pr : 0 ≤ p ∧ p < 16 := by
        apply Classical.byContradiction
        intro z
        apply hk.1
        unfold rts; rw [if_neg z]; rfl
      have hwf := wf_drw (p := p) hu pr (by omega) (by omega)
      obtain ⟨σ2, a1, a2, a3, a4, a5, a6, a7, a8, a9⟩ := eD_addRev (σ := nD σ1 nw) (d := nw) (nw := 12 * nw) (p := p) (m := 0) nD_7.1 (by omega) (by omega) (by omega)
      have hO : fO nw σ1 σ2 := nD_fo.tr (a2.o (by omega))
      have e102 : σ2.1 102 0 0 = zI (u 16) := by rw [hO.2.2 102 0 (by omega)]; exact hC.2.1
      have e103 : σ2.1 103 0 0 = zI (allR u (u 16).toNat) := by
        rw [a2.2.2 103 0 (by omega), nD_i (by omega)]; exact hC.2.2.1
      obtain ⟨σ3, hσ3⟩ : ∃ σ3, σ3 = sI (sI (sR σ2 9 0 nw (some nw)) 102 0 0 (zI (u 16 + 1))) 103 0 0 (zI (allR u (u 16).toNat + 1)) := ⟨_, rfl⟩
      have i3 : ∀ f j, f ≠ 102 → f ≠ 103 → σ3.1 f j = σ2.1 f j := fun f j x y => by rw [hσ3, rO y, rO x]; rfl
      have l3 : σ3.2.1 = σ2.2.1 := by rw [hσ3]; rfl
      have r3' : ∀ f j, f ≠ 9 → σ3.2.2 f j = σ2.2.2 f j := fun f j x => by rw [hσ3]; exact r3_ne (fun z => x z.1)
      have r9 : ∀ k, k ≠ nw → σ3.2.2 9 0 k = σ2.2.2 9 0 k := fun k x => by
        rw [hσ3]
        show r3 σ2.2.2 9 0 (up9 (σ2.2.2 9 0) nw (some nw)) 9 0 k = _
        rw [r3_self]; exact if_neg x
      have r9s : σ3.2.2 9 0 nw = some nw := by
        rw [hσ3]
        show r3 σ2.2.2 9 0 (up9 (σ2.2.2 9 0) nw (some nw)) 9 0 nw = _
        rw [r3_self]; exact if_pos rfl
      have eq3 : ∀ c, eqC σ2 σ3 c := fun c => ⟨i3 601 c (by decide) (by decide), i3 604 c (by decide) (by decide), i3 21 c (by decide) (by decide), i3 22 c (by decide) (by decide), by rw [l3]⟩
      have hnw' : (nw : Int) = u 16 := by omega
      have hfo : ∀ k, k ≠ 16 → ¬ (20 + 80 * u 16 ≤ k ∧ k < 20 + 80 * u 16 + 80) → ¬ (1940 + 960 * u 16 ≤ k ∧ k < 1940 + 960 * u 16 + 80) → fDrw p u k = u k := fun k z0 z1 z2 => fDrw_o (by omega) z0 (by omega) (by omega)
      have f16 : fDrw p u 16 = u 16 + 1 := fDrw_16 (by omega)
      have hC3 : CA σ3 (fDrw p u) g := by
        refine ⟨fun q q0 q1 => ?_, ?_, ?_, fun e e0 e1 => ?_, fun b b0 b1 => ?_, ?_⟩
        · rw [i3 8 0 (by decide) (by decide), hO.2.2 8 0 (by omega), hfo q (by omega) (by omega) (by omega)]; exact hC.1 q q0 q1
        · rw [hσ3, rO (by decide), rS, f16]
        · rw [hσ3, rS, f16]
          have f0 := fDrw_d (v := u) (p := p) (k := 0) (by omega) (by omega) (by omega) (by omega)
          rw [Int.add_zero, if_pos rfl] at f0
          rw [show (u 16 + 1).toNat = (u 16).toNat + 1 by omega]
          show _ = zI (allR (fDrw p u) (u 16).toNat + fDrw p u (20 + 80 * ((u 16).toNat : Int)))
          rw [show (((u 16).toNat : Nat) : Int) = u 16 by omega, f0, allR_c (v := u) (v' := fDrw p u) _ (fun d d0 d1 => hfo _ (by omega) (by omega) (by omega))]
        · rw [f16] at e1
          by_cases ee : e = u 16
          · subst ee
            have ent : (u 16).toNat = nw := by omega
            have f0 := fDrw_d (v := u) (p := p) (k := 0) (by omega) (by omega) (by omega) (by omega)
            have f1 := fDrw_d (v := u) (p := p) (k := 1) (by omega) (by omega) (by omega) (by omega)
            rw [Int.add_zero, if_pos rfl] at f0
            rw [if_neg (by decide)] at f1
            refine ⟨?_, ?_, ?_, ⟨fun z => ?_, fun z => ?_⟩, fun r r0 r1 => ?_⟩
            · rw [ent]; exact r9s
            · rw [ent, i3 701 _ (by decide) (by decide), a5, f0]; rfl
            · rw [ent, i3 702 _ (by decide) (by decide), a2.2.2 702 _ (by omega), nD_7.2, f1]; rfl
            · rw [f1] at z; omega
            · rw [ent]
              exact (nD_0.to (a2.eq (by omega))).to (eq3 _)
            · rw [f0] at r1
              obtain rfl : r = 0 := by omega
              have esn : sn (u 16) 0 = 12 * nw := by show (12 * u 16 + 0).toNat = _; omega
              have g0 := fDrw_r (v := u) (p := p) (k := 0) (by omega) (by omega) (by omega) (by omega)
              have g1 := fDrw_r (v := u) (p := p) (k := 1) (by omega) (by omega) (by omega) (by omega)
              have g2 := fDrw_r (v := u) (p := p) (k := 2) (by omega) (by omega) (by omega) (by omega)
              have g3 := fDrw_r (v := u) (p := p) (k := 3) (by omega) (by omega) (by omega) (by omega)
              rw [Int.add_zero (1940 + 80 * (12 * u 16 + 0)), if_neg (by decide)] at g0
              rw [if_pos rfl] at g1
              rw [if_neg (by decide)] at g2 g3
              refine ⟨?_, ?_, ?_, ?_⟩
              · rw [ent, r3' 23 _ (by decide), esn]; exact a6
              · rw [esn, i3 801 _ (by decide) (by decide), a3, g1]
              · rw [esn, i3 802 _ (by decide) (by decide), a4, g0]
              · rw [esn]
                exact ct_0 ((a9 nD_0).to (eq3 _)) g2 g3
          · have e2 : e < u 16 := by omega
            have q := (hC.2.2.2.1 e e0 e2).o (v' := fDrw p u) hO e0 (by omega) (hu.2.2.2.1 e e0 e2) (fun k k0 k1 => hfo _ (by omega) (by omega) (by omega)) (fun r k r0 r1 k0 k1 => hfo _ (by omega) (by omega) (by have := (hu.2.2.2.1 e e0 e2).1; omega))
            refine ⟨by rw [r9 _ (by omega)]; exact q.1, by rw [i3 701 _ (by decide) (by decide)]; exact q.2.1, by rw [i3 702 _ (by decide) (by decide)]; exact q.2.2.1, (eq3 _).cp q.2.2.2.1, fun r r0 r1 => ?_⟩
            have qq := q.2.2.2.2 r r0 r1
            exact ⟨by rw [r3' 23 _ (by decide)]; exact qq.1, by rw [i3 801 _ (by decide) (by decide)]; exact qq.2.1, by rw [i3 802 _ (by decide) (by decide)]; exact qq.2.2.1, (eq3 _).ct qq.2.2.2⟩
        · refine cBl.v (v := u) ?_ (fun k k0 k1 => hfo _ (by omega) (by omega) (by omega))
          rcases hC.2.2.2.2.1 b b0 b1 with ⟨h1, h2⟩ | ⟨h1, j, h2, h3, h4, h5⟩
          · exact Or.inl ⟨h1, by rw [r3' 10 0 (by decide), hO.1 10 0 (by omega)]; exact h2⟩
          · exact Or.inr ⟨h1, j, h2, by rw [r3' 10 0 (by decide), hO.1 10 0 (by omega)]; exact h3, by rw [i3 202 _ (by decide) (by decide), hO.2.2 202 _ (by omega)]; exact h4, fun k k0 k1 => by rw [i3 11 _ (by decide) (by decide), hO.2.2 11 _ (by omega)]; exact h5 k k0 k1⟩
        · rw [r3' 105 0 (by decide), hO.1 105 0 (by omega)]; exact hC.2.2.2.2.2
      have hP3 : cPg σ3 s.1 0 s.2.2.2 := hP.fr (fun f x y => by rw [i3 f 0 (by omega) (by omega)]; exact hO.p f x y)
      obtain ⟨σ4, c1, c2, c3, c4, c5⟩ := eV_finish hC3 hwf hP3 hpl (by omega) (by rw [hfo 17 (by omega) (by omega) (by omega)]; exact u17) (by rw [hfo 18 (by omega) (by omega) (by omega)]; exact u18) (by rw [hfo 19 (by omega) (by omega) (by omega)]; exact u19) hn
      refine ⟨σ4, ?_, ⟨c2, c3, c4⟩, (hO.f.tr (fun f j z => i3 f j (by omega) (by omega))).tr c5.f⟩
      show Option.bind (D_addRevision (nD σ1 nw) nw (zI p) (12 * nw)) _ = _
      rw [a1, Option.bind_some]
      have ent : (u 16).toNat = nw := by omega
      have e102' : (sR σ2 9 0 nw (some nw)).1 102 0 0 = zI (u 16) := e102
      have e103' : (sI (sR σ2 9 0 nw (some nw)) 102 0 0 (zI (u 16 + 1))).1 103 0 0 = zI (allR u (u 16).toNat) := by rw [rO (by decide)]; exact e103
      have c1' : V_finish n (sI (sI (sR σ2 9 0 nw (some nw)) 102 0 0 (zI (u 16 + 1))) 103 0 0 (zI (allR u nw + 1))) (zI 2) = some ((), σ4) := by rw [← c1, hσ3, ent]
      simp (disch := omega) only [l0, l1, l2, l3, l4, l5, l6, l7, l8, l10, l12, l16, l20, l24, l26, l40, l64, l80, l100, l255, l256, l288, l312, l400, l992, l1940, l24980, l25240, xI, xL, xR, zI_neg, zI_add, zI_sub, zI_mul, zI_le, zI_lt, zI_eq, zI_in, zI_nat, Option.bind_some, lt9, hq, Int.add_zero, Int.sub_self, true_or, or_true, true_and, and_true, false_or, or_false, Int.cast_ofNat_Int, ↓reduceIte, e102, ent, e102', e103', c1', if_pos, if_neg]
      rw [e16]
  · rw [hf] at hpw
    exact ClsC.off hf hS (by unfold V_drawing; rw [nP1 hpw]; rfl)
