theorem ClsC.noc {ok ok' : Prop} {c c' : Int} {f f' : (Int → Int) → Int → Int} {s : zT} {g gn gn' : Nat} {σ : hT} {V : oT} {ans ans' : Int → Int} (hn : ¬ ok) (hn' : ¬ ok') (ha : ans 0 = ans' 0) (h : ClsC ok c f s g gn σ V ans) : ClsC ok' c' f' s g gn' σ V ans' := by
  obtain ⟨th, acc, s', σ', h1, h2, h3, h4⟩ := h
  have e : acc = 0 := by
    rcases h1 with ⟨p1, rfl, rfl, rfl⟩ | ⟨p1, p2, rfl, rfl, rfl⟩ | ⟨p1, p2, p3, p4, p5, rfl, rfl, rfl⟩ | ⟨p1, p2, p3, p4, rfl, rfl, rfl⟩
    · rfl
    · rfl
    · rfl
    · exact absurd p2 hn
  subst e
  exact ⟨th, 0, s', σ', h1.noc hn hn', by rw [h2, ha], h3, h4⟩
def gChk (n j : Nat) (a2 : Int32) (nw : Nat) (q25 : Int32) : Option Int32 × hT → oT := fun ⟨y36o, σ37⟩ => ex9 y36o σ37 fun y36 => if y36 = 0 then some (some (-1), σ37) else Option.bind (D_addRevision σ37 j a2 nw) fun ⟨y40, σ41⟩ => Option.bind (D_endLoan n σ41 j) fun ⟨y45, σ46⟩ => lt9 (sI σ46 103 0 0 ((xI σ46 103 0 0) + 1)) fun σ48 => Option.bind (V_finish n σ48 q25) fun ⟨y51, σ52⟩ => if (D_newest σ52 j) = (-1) then none else some (some (D_newest σ52 j), σ52)
def gCh0 : Option Int32 × hT → oT := fun ⟨y17o, σ18⟩ => ex9 y17o σ18 fun y17 => if y17 = 0 then some (some (-1), σ18) else none
theorem sV_checkIn {n : Nat} {σ : hT} {a1 a2 : Int32} {nw : Nat} {o : Option Nat} (h1 : V_needPower σ = some (some (), σ)) (h2 : V_drawingAt σ a1 = some o) : V_checkIn n σ a1 a2 nw = hq o (Option.bind (V_copyRefusal σ none a2) fun y10 => (fun x11 : oT => if y10 = 0 then Option.bind (V_checkInRefusal n σ a1 none) fun y14 => none else x11) (Option.bind (V_mayWrite σ y10 0) gCh0)) (fun j8 => Option.bind (V_copyRefusal σ (some j8) a2) fun y22 => (fun X : hT → Int32 → Int32 → oT => if y22 = 0 then Option.bind (V_checkInRefusal n σ a1 (some j8)) fun y29 => Option.bind (K_sizeOf n σ (3 * j8)) fun ⟨y33, σ34⟩ => X (σ34) (2 + y33) y29 else X σ 0 y22) (fun σ24 q25 q26 => Option.bind (V_mayWrite σ24 q26 q25) (gChk n j8 a2 nw q25))) := by
  unfold V_checkIn
  rw [h1]
  show Option.bind (V_drawingAt σ a1) _ = _
  rw [h2]
  rfl
theorem eV_checkIn {σ : hT} {s : zT} {g : Nat} (hS : CaS σ s g) (ho : okS s) {d p : Int} (hd : i32 d) (hp : i32 p) {n nw : Nat} (hn : 993 ≤ n) (hnw : (0 ≤ d ∧ d < s.1 16) → s.1 (20 + 80 * d) ≠ 12 → nw = sn d (s.1 (20 + 80 * d))) :
    ClsC (chkOk s.1 d p) (cosC s.1 d) (fChk d p) s g g σ (V_checkIn n σ (zI d) (zI p) nw) (fun acc => if acc = 1 then s.1 (20 + 80 * d) else -1) := by
  have hpw := hS.2.2.2.2.2.1
  rcases ho.2.1 with hf | hf
  · rw [hf] at hpw
    rw [sV_checkIn (nP0 hpw) (eV_drawingAt hS.1 ho.1 hd)]
    by_cases h : 0 ≤ d ∧ d < s.1 16
    · rw [if_pos h]
      have h16 := ho.1.1
      have hD := ho.1.2.2.2.1 d h.1 h.2
      have hm := hD.1
      have cD := hS.1.2.2.2.1 d h.1 h.2
      rcases kV_copy hS.1 ho.1 hp h (fun y22 => (fun X : hT → Int32 → Int32 → oT => if y22 = 0 then Option.bind (V_checkInRefusal n σ (zI d) (some d.toNat)) fun y29 => Option.bind (K_sizeOf n σ (3 * d.toNat)) fun ⟨y33, σ34⟩ => X (σ34) (2 + y33) y29 else X σ 0 y22) (fun σ24 q25 q26 => Option.bind (V_mayWrite σ24 q26 q25) (gChk n d.toNat (zI p) nw q25))) with ⟨hnc, why, q1, q2⟩ | ⟨hcp, q1⟩
      · have hno : ¬ chkOk s.1 d p := fun z => hnc z.1
        refine ClsC.noc (ok := chkOk s.1 d p) (c := 0) (f := fChk d p) (gn := g) (ans := fun acc => if acc = 1 then s.1 (20 + 80 * d) else -1) hno hno rfl ?_
        exact ClsC.mk hf hS ho (fun _ _ _ => rfl) (why := why) (by omega) (by omega) ⟨fun z => absurd z hno, fun z => by omega⟩ (by omega) (by omega) (gChk n d.toNat (zI p) nw (zI 0)) (q1.trans (if_neg (zI_n0 (by omega)))) (fun σ1 => rfl) (fun σ1 => rfl) (fun z => absurd z hno)
      · obtain ⟨-, -, d24, hout, hcw, hp16⟩ := cpOk_cw ho.1 hcp
        have hct := cD.2.2.2.1.1 hout
        obtain ⟨why, w1, w2, w3, w4⟩ := eV_chkR hS.1 ho.1 h.1 h.2 hout (show 25 ≤ n by omega)
        obtain ⟨σ1, k1, k2⟩ := eK_sizeOf hcw hct hn
        have hcc := cosC_rng hcw
        have hS1 : CaS σ1 s g := hS.fr k2.v (fun f a b => k2.2.2 f 0 (by omega) (by omega))
        refine ClsC.mk hf hS1 ho (fun f j z => k2.2.2 f j (by omega) (by omega)) (why := why) w2 w3 ⟨fun z => w4.mpr z.2, fun z => ⟨hcp, w4.mp z⟩⟩ (by omega) (by omega) (gChk n d.toNat (zI p) nw (zI (cosC s.1 d))) (q1.trans ?_) (fun σ1 => rfl) (fun σ1 => rfl) ?_
        · show (if zI 0 = 0 then Option.bind (V_checkInRefusal n σ (zI d) (some d.toNat)) _ else _) = _
          rw [if_pos (show zI 0 = 0 from rfl), w1, Option.bind_some, k1, Option.bind_some]
          show Option.bind (V_mayWrite σ1 (zI why) (2 + zI _)) (gChk n d.toNat (zI p) nw (2 + zI _)) = _
          rw [l2, zI_add]
          rfl
        · intro hk h17 hpl σ2 hC hP h8
          have hu := wf_mv (c := cosC s.1 d) ho.1 (by omega) h17
          have mva : ∀ k, k ≠ 17 → k ≠ 18 → mv s.1 (cosC s.1 d) k = s.1 k := fun k a b => mv_at a b
          generalize hU : mv s.1 (cosC s.1 d) = u at *
          have e16 : u 16 = s.1 16 := mva 16 (by omega) (by omega)
          have em : u (20 + 80 * d) = s.1 (20 + 80 * d) := mva _ (by omega) (by omega)
          have eo : u (20 + 80 * d + 1) = s.1 (20 + 80 * d + 1) := mva _ (by omega) (by omega)
          have d1 : d < u 16 := by omega
          have cU := hC.2.2.2.1 d h.1 d1
          have hDu := hu.2.2.2.1 d h.1 d1
          have hcwu := hDu.2.2.1 (by omega)
          have hctu := cU.2.2.2.1.1 (by omega)
          have hm12 : s.1 (20 + 80 * d) ≠ 12 := hk.2.2.2.1
          have hnw := hnw h hm12
          have hsn := sn_v (d := d) (r := s.1 (20 + 80 * d)) h.1 (by omega)
          obtain ⟨σ3, a1, a2, a3, a4, a5, a6, a7, a8, a9⟩ := eD_addRev (nw := nw) (p := p) cU.2.1 (by omega) (by omega) (by omega)
          obtain ⟨σ4, b1, b2, b3⟩ := eC_clear (σ := sI σ3 702 d.toNat 0 (zI (-1))) (c := 3 * d.toNat) (show 9 ≤ n by omega)
          have hO3 : fO d.toNat σ2 σ3 := a2.o (by omega)
          have hO4 : fO d.toNat σ3 σ4 := (fO.rf.i (f := 702) (j := d.toNat) (k := 0) (x := zI (-1)) (by omega)).tr (b2.o (by omega))
          have ot4 : ∀ f j, f ≠ 601 → f ≠ 604 → f ≠ 21 → f ≠ 22 → f ≠ 702 → σ4.1 f j = σ3.1 f j := fun f j a b c dd e => (b2.1 f j (by omega)).trans (rO e)
          have e103 : σ4.1 103 0 0 = zI (allR u (u 16).toNat) := by
            rw [ot4 103 0 (by decide) (by decide) (by decide) (by decide) (by decide), a2.2.2 103 0 (by omega)]; exact hC.2.2.1
          have hO5 : fO d.toNat σ2 (sI σ4 103 0 0 (zI (allR u (u 16).toNat + 1))) := (hO3.tr hO4).i (by omega)
          have er4 : σ4.2.2 = σ3.2.2 := b2.2.2
          have hlk : ¬ lackP u (20 + 80 * d) := fun ⟨k, k0, k1, k2⟩ => hk.2.2.1 ⟨k, k0, by rw [← mva _ (by omega) (by omega)]; exact k1, by
            have hb3 := hcwu.2.1
            have hkk := hcwu.2.2.1 k k0 k1
            have t1 := mva (20 + 80 * d + 4 + 2 * k) (by omega) (by omega)
            have t2 := mva (20 + 80 * d + 4 + 2 * k + 1) (by omega) (by omega)
            rw [t1] at hkk k2
            rw [t2, mva (20 + 80 * s.1 (20 + 80 * d + 4 + 2 * k)) (by omega) (by omega)] at k2
            exact k2⟩
          have hAe : allR u (u 16).toNat = allR s.1 (s.1 16).toNat := by
            rw [e16]; exact allR_c _ (fun e a b => mva _ (by omega) (by omega))
          have hwf := wf_chk (p := p) hu h.1 d1 hp16 hcwu hlk (by omega) (by rw [hAe]; exact hk.2.2.2.2)
          have hfo : ∀ k, ¬ (20 + 80 * d ≤ k ∧ k < 20 + 80 * d + 80) → ¬ (1940 + 960 * d ≤ k ∧ k < 1940 + 960 * d + 960) → fChk d p u k = u k := fun k z1 z2 => fChk_o h.1 (by omega) (by omega) (by omega) (by omega)
          have hC5 : CA (sI σ4 103 0 0 (zI (allR u (u 16).toNat + 1))) (fChk d p u) g := by
            refine hC.upd hu h.1 d1 hO5 hfo ?_ ⟨?_, ?_, ?_, ⟨fun z => ?_, fun z => ?_⟩, fun r r0 r1 => ?_⟩
            · rw [rS, hfo 16 (by omega) (by omega), allR_add h.1 (u 16).toNat (by omega) fChk_0 (fun e e0 e1 e2 => fChk_o h.1 (by omega) (by omega) (by omega) (by omega))]
            · show σ4.2.2 9 0 d.toNat = _
              rw [er4, a2.1 9 0 (by omega)]; exact cU.1
            · rw [rO (by decide), ot4 701 _ (by decide) (by decide) (by decide) (by decide) (by decide), a5, fChk_0]
            · rw [rO (by decide), b2.1 702 _ (by omega), rS, fChk_1]; rfl
            · rw [fChk_1] at z; omega
            · exact b3.to ⟨rO (by decide), rO (by decide), rO (by decide), rO (by decide), rfl⟩
            · rw [fChk_0] at r1
              have hsr := sn_v (d := d) (r := r) h.1 r0
              by_cases er : r = s.1 (20 + 80 * d)
              · subst er
                refine ⟨?_, ?_, ?_, ?_⟩
                · show σ4.2.2 23 d.toNat _ = some (sn d _)
                  rw [er4, ← em, a6, em, hnw]
                · rw [← hnw, rO (by decide), ot4 801 _ (by decide) (by decide) (by decide) (by decide) (by decide), a3]
                  have := fChk_r (v := u) (d := d) (p := p) (k := 1) h.1 (by omega) (by omega) (by omega) (by omega) (by omega)
                  rw [em] at this
                  rw [this]; rfl
                · rw [← hnw, rO (by decide), ot4 802 _ (by decide) (by decide) (by decide) (by decide) (by decide), a4]
                  have := fChk_r (v := u) (d := d) (p := p) (k := 0) h.1 (by omega) (by omega) (by omega) (by omega) (by omega)
                  rw [em, Int.add_zero] at this
                  rw [this]; rfl
                · rw [← hnw]
                  have c1 := a8 u _ hcwu hctu
                  have c2 : ct σ4 (3 * nw + 2) u (20 + 80 * d) := (b2.eq (by omega)).ct (eqC.ct ⟨rO (by decide), rO (by decide), rO (by decide), rO (by decide), rfl⟩ c1)
                  have c3 : ct (sI σ4 103 0 0 (zI (allR u (u 16).toNat + 1))) (3 * nw + 2) u (20 + 80 * d) := eqC.ct ⟨rO (by decide), rO (by decide), rO (by decide), rO (by decide), rfl⟩ c2
                  refine c3.to eqC.rf hcwu (fun k k0 k1 => ?_)
                  have := fChk_r (v := u) (d := d) (p := p) (k := k) h.1 (by omega) (by omega) (by omega) (by omega) (by omega)
                  rw [em, if_neg (by omega), if_neg (by omega)] at this
                  exact this
              · have r2 : r < u (20 + 80 * d) := by omega
                have c := cU.2.2.2.2 r r0 r2
                refine cRv.v (v := u) ⟨?_, ?_, ?_, ?_⟩ (hDu.2.2.2 r r0 r2).2.2.1 (fun k k0 k1 => fChk_o h.1 (by omega) (by omega) (by omega) (by omega))
                · show σ4.2.2 23 d.toNat _ = _
                  rw [er4, a7 _ (by omega)]; exact c.1
                · rw [rO (by decide), ot4 801 _ (by decide) (by decide) (by decide) (by decide) (by decide), a2.2.2 801 _ (by omega)]; exact c.2.1
                · rw [rO (by decide), ot4 802 _ (by decide) (by decide) (by decide) (by decide) (by decide), a2.2.2 802 _ (by omega)]; exact c.2.2.1
                · have c1 : ct σ3 (3 * sn d r + 2) u _ := (a2.eq (by omega)).ct c.2.2.2
                  have c2 : ct σ4 (3 * sn d r + 2) u _ := (b2.eq (by omega)).ct (eqC.ct ⟨rO (by decide), rO (by decide), rO (by decide), rO (by decide), rfl⟩ c1)
                  exact eqC.ct ⟨rO (by decide), rO (by decide), rO (by decide), rO (by decide), rfl⟩ c2
          have u17 : u 17 = s.1 17 - cosC s.1 d := by rw [← hU, mv_17]
          have u18 : u 18 = s.1 18 + 1 := by rw [← hU]; exact uv_s
          have u19 : u 19 = s.1 19 := mva 19 (by omega) (by omega)
          obtain ⟨σ6, c1, c2, c3, c4, c5⟩ := eV_finish hC5 hwf (hP.fr hO5.p) hpl (by omega) (by rw [hfo 17 (by omega) (by omega)]; exact u17) (by rw [hfo 18 (by omega) (by omega)]; exact u18) (by rw [hfo 19 (by omega) (by omega)]; exact u19) hn
          refine ⟨σ6, ?_, ⟨c2, c3, c4⟩, hO5.f.tr c5.f⟩
          have en : D_newest σ6 d.toNat = zI (s.1 (20 + 80 * d)) := by
            unfold D_newest
            have : σ6.1 701 d.toNat 0 = zI (u (20 + 80 * d) + 1) := by
              rw [c5.2 701 _ (by omega), rO (by decide), ot4 701 _ (by decide) (by decide) (by decide) (by decide) (by decide), a5]
            simp (disch := omega) only [l0, l1, l2, l3, l4, l5, l6, l7, l8, l10, l12, l16, l20, l24, l26, l40, l64, l80, l100, l255, l256, l288, l312, l400, l992, l1940, l24980, l25240, xI, xL, xR, zI_neg, zI_add, zI_sub, zI_mul, zI_le, zI_lt, zI_eq, zI_in, zI_nat, Option.bind_some, lt9, hq, Int.add_zero, Int.sub_self, true_or, or_true, true_and, and_true, false_or, or_false, Int.cast_ofNat_Int, ↓reduceIte, this]
            rw [em]; congr 1; omega
          have b1' : D_endLoan n σ3 d.toNat = some ((), σ4) := by
            unfold D_endLoan lt9
            dsimp only
            rw [lm1, b1]; rfl
          show Option.bind (D_addRevision σ2 d.toNat (zI p) nw) _ = _
          rw [a1, Option.bind_some]
          show Option.bind (D_endLoan n σ3 d.toNat) _ = _
          rw [b1', Option.bind_some]
          show Option.bind (V_finish n (sI σ4 103 0 0 ((σ4.1 103 0 0) + zI 1)) (zI (cosC s.1 d))) _ = _
          rw [e103, zI_add, c1, Option.bind_some]
          dsimp only
          rw [en, if_neg (by rw [lm1, zI_eq (by omega) (by omega) (by omega) (by omega)]; omega)]
          rfl
    · rw [if_neg h]
      have hno : ¬ chkOk s.1 d p := fun z => h ⟨z.1.2.1, z.1.2.2.1⟩
      obtain ⟨why, q1, q2⟩ := kV_copyN hS.1 ho.1 hp (fun y10 => (fun x11 : oT => if y10 = 0 then Option.bind (V_checkInRefusal n σ (zI d) none) fun y14 => none else x11) (Option.bind (V_mayWrite σ y10 0) gCh0))
      refine ClsC.noc (ok := chkOk s.1 d p) (c := 0) (f := fChk d p) (gn := g) (ans := fun acc => if acc = 1 then s.1 (20 + 80 * d) else -1) hno hno rfl ?_
      exact ClsC.mk hf hS ho (fun _ _ _ => rfl) (why := why) (by omega) (by omega) ⟨fun z => absurd z hno, fun z => by omega⟩ (by omega) (by omega) gCh0 (q1.trans (if_neg (zI_n0 (by omega)))) (fun σ1 => rfl) (fun σ1 => rfl) (fun z => absurd z hno)
  · rw [hf] at hpw
    exact ClsC.off hf hS (by unfold V_checkIn; rw [nP1 hpw]; rfl)
