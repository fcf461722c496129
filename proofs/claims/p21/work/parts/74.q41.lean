def gBas (n nw : Nat) (a1 pg : Int32) : Option Int32 × hT → oT := fun ⟨y13o, σ14⟩ => ex9 y13o σ14 fun y13 => if y13 = 0 then some (some (-1), σ14) else hq (xR σ14 105 0 0) (none) fun j18 => if in9 a1 10 then lt9 (sR σ14 10 0 (a1).toNatClampNeg (some j18)) fun σ23 => lt9 (nB σ23 nw) fun σ32 => lt9 (sR σ32 105 0 0 (some nw)) fun σ36 => Option.bind (V_finish n σ36 pg) fun ⟨y39, σ40⟩ => if (xI σ40 202 j18 0) = (-1) then none else some (some (xI σ40 202 j18 0), σ40) else none
theorem qS {σ : hT} {f j k : Nat} {x : Option Nat} : (sR σ f j k x).2.2 f j k = x := by
  show r3 σ.2.2 f j (up9 (σ.2.2 f j) k x) f j k = _
  rw [r3_self]; exact if_pos rfl
theorem qK {σ : hT} {f j k k' : Nat} {x : Option Nat} (h : k' ≠ k) : (sR σ f j k x).2.2 f j k' = σ.2.2 f j k' := by
  show r3 σ.2.2 f j (up9 (σ.2.2 f j) k x) f j k' = _
  rw [r3_self]; exact if_neg h
theorem qO {σ : hT} {f j k f' j' : Nat} {x : Option Nat} (h : f' ≠ f) : (sR σ f j k x).2.2 f' j' = σ.2.2 f' j' := r3_ne (fun z => h z.1)
theorem nB_i {σ : hT} {n f j : Nat} (h : ¬ ((f = 202 ∨ f = 11 ∨ f = 12) ∧ j = n)) : (nB σ n).1 f j = σ.1 f j := by
  unfold nB
  show r3 _ 12 _ _ f j = _
  rw [r3_ne (by omega)]
  show r3 _ 11 _ _ f j = _
  rw [r3_ne (by omega)]
  show r3 _ 202 _ _ f j = _
  rw [r3_ne (by omega)]
theorem eV_baseline {σ : hT} {s : zT} {g : Nat} (hS : CaS σ s g) (ho : okS s) {b d : Int} (hb : i32 b) (hd : i32 d) {n : Nat} (hn : 993 ≤ n) :
    ClsC (basOk s.1 b d) (cosB s.1 d) (fBas b (cmF s.1 (12 * d + rel s.1 d))) s g (g + 1) σ (V_baseline n σ (zI b) (zI d) (g + 1)) (fun acc => if acc = 1 then cntC (cmF s.1 (12 * d + rel s.1 d)) 24 else -1) := by
  have hpw := hS.2.2.2.2.2.1
  rcases ho.2.1 with hf | hf
  · rw [hf] at hpw
    obtain ⟨why, σ1, m, q1, q2, q3, q4, q5, q6, q7, q8, q9⟩ := eV_basR ho.1 hb hd (show 25 ≤ n by omega) hS.1
    have hS1 : CaS σ1 s g := hS.fr q2.v (fun f x y => q2.2 f 0 (by omega))
    have h15 : f15 σ σ1 := fun f j z => q2.2 f j (by omega)
    have ep := eB_pagesTaken q6 q7 q8
    have e105 := hS1.1.2.2.2.2.2
    have hV : V_baseline n σ (zI b) (zI d) (g + 1) = Option.bind (V_mayWrite σ1 (zI why) (zI (1 + (m + 7) / 8))) (gBas n (g + 1) (zI b) (zI (1 + (m + 7) / 8))) := by
      unfold V_baseline
      rw [nP0 hpw]
      show Option.bind (V_baselineRefusal n σ (zI b) (zI d)) _ = _
      rw [q1, Option.bind_some]
      dsimp only [hq, xR]
      rw [e105]
      dsimp only [hq]
      rw [ep]
      rfl
    by_cases hk : basOk s.1 b d
    · have hw0 := q5.mp hk
      obtain ⟨hm, hc⟩ := q9 hw0
      have ecos : 1 + (m + 7) / 8 = cosB s.1 d := by unfold cosB; rw [hm]
      rw [ecos] at hV
      have hcr := cntC_rng (cmF s.1 (12 * d + rel s.1 d)) 24
      have hcb : 1 ≤ cosB s.1 d ∧ cosB s.1 d ≤ 5 := by unfold cosB; omega
      refine ClsC.mk hf hS1 ho h15 q3 q4 q5 (by omega) (by omega) _ hV (fun σ1 => rfl) (fun σ1 => rfl) ?_
      intro _ h17 hpl σ2 hC hP h8
      obtain ⟨hb10, hd16, hbv, hrel, hnp, hno⟩ := hk
      have hu := wf_mv (c := cosB s.1 d) ho.1 (by omega) h17
      have mva : ∀ k, k ≠ 17 → k ≠ 18 → mv s.1 (cosB s.1 d) k = s.1 k := fun k a b => mv_at a b
      have u17 : mv s.1 (cosB s.1 d) 17 = s.1 17 - cosB s.1 d := mv_17
      have u18 : mv s.1 (cosB s.1 d) 18 = s.1 18 + 1 := uv_s
      generalize hU : mv s.1 (cosB s.1 d) = u at *
      generalize hc' : cmF s.1 (12 * d + rel s.1 d) = c at *
      have hcr2 : ∀ e, 0 ≤ e → e < 24 → -1 ≤ c e ∧ c e < 12 := fun e _ _ => by rw [← hc']; exact cmF_rng _ _ _
      have hwf := wf_bas (b := b) (c := c) hu hb10 hcr2
      have hfo : ∀ k, k < 24980 → fBas b c u k = u k := fun k z => fBas_o (by omega)
      obtain ⟨σ3, hσ3⟩ : ∃ σ3, σ3 = sR (nB (sR σ2 10 0 b.toNat (some g)) (g + 1)) 105 0 0 (some (g + 1)) := ⟨_, rfl⟩
      have i3 : ∀ f j, ¬ ((f = 202 ∨ f = 11 ∨ f = 12) ∧ j = g + 1) → σ3.1 f j = σ2.1 f j := fun f j x => by
        rw [hσ3]
        exact (show (sR (nB (sR σ2 10 0 b.toNat (some g)) (g + 1)) 105 0 0 (some (g + 1))).1 f j = _ from nB_i x)
      have l3 : σ3.2.1 = σ2.2.1 := by rw [hσ3]; rfl
      have r3' : ∀ f j, f ≠ 10 → f ≠ 105 → σ3.2.2 f j = σ2.2.2 f j := fun f j x y => by
        rw [hσ3, qO y]
        exact qO (σ := σ2) x
      have r10 : ∀ k, k ≠ b.toNat → σ3.2.2 10 0 k = σ2.2.2 10 0 k := fun k x => by
        rw [hσ3, qO (by decide)]
        exact qK (σ := σ2) x
      have r10s : σ3.2.2 10 0 b.toNat = some g := by
        rw [hσ3, qO (by decide)]
        exact qS (σ := σ2)
      have r105 : σ3.2.2 105 0 0 = some (g + 1) := by
        rw [hσ3, qS]
      have eq3 : ∀ c, eqC σ2 σ3 c := fun c => ⟨i3 601 c (by omega), i3 604 c (by omega), i3 21 c (by omega), i3 22 c (by omega), by rw [l3]⟩
      have d11 : ∀ e : Int, 0 ≤ e → e < 24 → σ2.1 11 g e.toNat = zI (c e) := fun e e0 e1 => by rw [h8.2 11 g (by omega)]; exact hc e e0 e1
      have d202 : σ2.1 202 g 0 = zI m := by rw [h8.2 202 g (by omega)]; exact q6
      have hC3 : CA σ3 (fBas b c u) (g + 1) := by
        refine ⟨fun q q0 q1 => ?_, ?_, ?_, fun e e0 e1 => ?_, fun b' b0 b1 => ?_, r105⟩
        · rw [i3 8 0 (by omega), hfo q (by omega)]; exact hC.1 q q0 q1
        · rw [i3 102 0 (by omega), hfo 16 (by omega)]; exact hC.2.1
        · rw [i3 103 0 (by omega), hfo 16 (by omega), allR_c (v := u) (v' := fBas b c u) _ (fun d d0 d1 => hfo _ (by have := hu.1; omega))]; exact hC.2.2.1
        · rw [hfo 16 (by omega)] at e1
          have h16 := hu.1
          have q := hC.2.2.2.1 e e0 e1
          refine cDr.v (v := u) ⟨?_, ?_, ?_, (eq3 _).cp q.2.2.2.1, fun r r0 r1 => ?_⟩ (hu.2.2.2.1 e e0 e1) (fun k k0 k1 => hfo _ (by omega)) (fun r k r0 r1 k0 k1 => hfo _ (by have := (hu.2.2.2.1 e e0 e1).1; omega))
          · rw [r3' 9 0 (by decide) (by decide)]; exact q.1
          · rw [i3 701 _ (by omega)]; exact q.2.1
          · rw [i3 702 _ (by omega)]; exact q.2.2.1
          · have qq := q.2.2.2.2 r r0 r1
            exact ⟨by rw [r3' 23 _ (by decide) (by decide)]; exact qq.1, by rw [i3 801 _ (by omega)]; exact qq.2.1, by rw [i3 802 _ (by omega)]; exact qq.2.2.1, (eq3 _).ct qq.2.2.2⟩
        · by_cases ee : b' = b
          · subst ee
            refine Or.inr ⟨fBas_0, g, by omega, r10s, ?_, fun k k0 k1 => ?_⟩
            · rw [i3 202 g (by omega), d202, fBas_1, hm]
            · rw [i3 11 g (by omega), d11 k k0 k1, fBas_e k0 k1]; congr 1; omega
          · refine cBl.v (v := u) ?_ (fun k k0 k1 => fBas_o (by omega))
            rcases hC.2.2.2.2.1 b' b0 b1 with ⟨h1, h2⟩ | ⟨h1, j, h2, h3, h4, h5⟩
            · exact Or.inl ⟨h1, by rw [r10 _ (by omega)]; exact h2⟩
            · exact Or.inr ⟨h1, j, by omega, by rw [r10 _ (by omega)]; exact h3, by rw [i3 202 _ (by omega)]; exact h4, fun k k0 k1 => by rw [i3 11 _ (by omega)]; exact h5 k k0 k1⟩
      have hP3 : cPg σ3 s.1 0 s.2.2.2 := hP.fr (fun f x y => i3 f 0 (by omega))
      obtain ⟨σ4, c1, c2, c3, c4, c5⟩ := eV_finish hC3 hwf hP3 hpl (by omega) (by rw [hfo 17 (by omega)]; exact u17) (by rw [hfo 18 (by omega)]; exact u18) (by rw [hfo 19 (by omega)]; exact mva 19 (by omega) (by omega)) hn
      refine ⟨σ4, ?_, ⟨c2, c3, c4⟩, (show f15 σ2 σ3 from fun f j z => i3 f j (by omega)).tr c5.f⟩
      have e105' := hC.2.2.2.2.2
      have e202 : σ4.1 202 g 0 = zI m := by rw [c5.2 202 g (by omega), i3 202 g (by omega)]; exact d202
      obtain ⟨b1, b2⟩ := hb
      unfold gBas
      simp (disch := omega) only [l0, l1, l2, l3, l4, l5, l6, l7, l8, l10, l12, l16, l20, l24, l26, l40, l64, l80, l100, l255, l256, l288, l312, l400, l992, l1940, l24980, l25240, xI, xL, xR, zI_neg, zI_add, zI_sub, zI_mul, zI_le, zI_lt, zI_eq, zI_in, zI_nat, Option.bind_some, lt9, hq, Int.add_zero, Int.sub_self, true_or, or_true, true_and, and_true, false_or, or_false, Int.cast_ofNat_Int, ↓reduceIte, ex9, e105', if_pos, if_neg]
      rw [← hσ3, c1]
      simp (disch := omega) only [l0, l1, l2, l3, l4, l5, l6, l7, l8, l10, l12, l16, l20, l24, l26, l40, l64, l80, l100, l255, l256, l288, l312, l400, l992, l1940, l24980, l25240, xI, xL, xR, zI_neg, zI_add, zI_sub, zI_mul, zI_le, zI_lt, zI_eq, zI_in, zI_nat, Option.bind_some, lt9, hq, Int.add_zero, Int.sub_self, true_or, or_true, true_and, and_true, false_or, or_false, Int.cast_ofNat_Int, ↓reduceIte, e202, if_pos, if_neg]
      rw [hm]
    · have hw0 : why ≠ 0 := fun z => hk (q5.mpr z)
      refine ClsC.noc (ok := basOk s.1 b d) (c := 1 + (m + 7) / 8) (f := fBas b (cmF s.1 (12 * d + rel s.1 d))) (gn := g) (ans := fun acc => if acc = 1 then cntC (cmF s.1 (12 * d + rel s.1 d)) 24 else -1) hk hk rfl ?_
      exact ClsC.mk hf hS1 ho h15 q3 q4 q5 (by omega) (by omega) _ hV (fun σ1 => rfl) (fun σ1 => rfl) (fun z => absurd z hk)
  · rw [hf] at hpw
    exact ClsC.off hf hS (by unfold V_baseline; rw [nP1 hpw]; rfl)
