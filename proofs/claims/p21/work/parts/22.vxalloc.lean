

set_option maxHeartbeats 4000000 in
set_option maxRecDepth 100000 in
theorem x_V_drawing (l : Launch) (dC : Nat → ClassId) (dI : Nat → Nat → Nat) (ad : Nat → Nat → Nat) (ca : Nat → Nat → ClassId) (dom : List (Nat × Nat)) (sz : Nat) (n : Nat) (σ : hT) (a1 : Int32) (nw : Nat) (hm0 : (0, 0) ∈ dom) (hN : dom.Nodup) (hC : clo dom σ.2.2) (σ' : hT) (hfl : l.stackTraces = false) (hf : V_drawing n σ a1 nw = some (none, σ')) : tMet l yV_drawing (.code yV_drawing cV_drawing 4 (some .int) :: aw) ({ frames := 7, cells := 1, slots := 6, locals := 103 }) (hX (dC, dI) sz ad ca dom σ [.ref (ad 0 0), .int a1]) nIS (va_A (w9 ad ca dom σ) sz) (fun H1 => va_P (dC, dI) kCl (w9 ad ca dom σ') H1 ∧ va_D (va_A (w9 ad ca dom σ) sz) (w9 ad ca dom σ') ∧ clo dom σ'.2.2) := by
  refine tOfW (cc := cV_drawing) (maxL := 4) (ret := (some .int)) (by decide) rfl ?_
  intro p e s m args below meth c s₁ B hml hno hv
  obtain ⟨rfl, hv⟩ := hv
  have hx := B.exec
  have hb := B.bytes
  have hts : ∀ w ∈ aw, w.before _ s = true := fun w h => atoms_spec (ws := (.code yV_drawing cV_drawing 4 (some .int) :: aw)) B.pre w (List.mem_cons_of_mem _ h)
  have hown : s.vm.findClass RV = some m.cls := findClass_of_methodNamed B.named
  have hlocks := B.notSynchronized
  obtain ⟨hsz, hP, hK, hD0, hG, hE⟩ := hv
  subst hsz
  have hD := hD0.self (sz := s.heap.size)
  generalize hAe : va_A (w9 ad ca dom σ) s.heap.size = A at hD ⊢
  have hA : ∀ q : Nat, s.heap.size ≤ q → A q := fun q h => by rw [← hAe]; exact Or.inr h
  have hSA : ∀ q : Nat, q < s.heap.size → A q → xS ad dom q := fun q h z => by rw [← hAe] at z; exact w9_xS z h
  obtain ⟨H, hH⟩ : ∃ H, H = s.heap := ⟨_, rfl⟩
  have hS : va_S A s.heap H [] := by rw [hH]; exact va_S.rf
  rw [← hH] at hP ⊢
  unfold V_drawing at hf
  have hl := lv_entry ([.ref (ad 0 0), .int a1]) (n := 4) (Nat.le_of_ble_eq_true rfl)
  rw [lg_entry_eq]
  generalize (lg_sl ([.ref (ad 0 0), .int a1]) ++ List.replicate (4 - (lg_sl ([.ref (ad 0 0), .int a1])).length) Slot.unset).toArray = ls at hl ⊢
  have hl : lv_has ls 4 [(0, .ref (ad 0 0)), (1, .int a1)] := hl
  refine lv_aload_n (pc := 0) hx hb dV_drawing_0 rfl (lv_at hl 0 rfl) ?_
  obtain ⟨q1, hq1, eq1⟩ := at_0 (ad := ad) (ca := ca) (σ := σ) hm0
  obtain ⟨⟨y2o, σ3⟩, hy2, hf⟩ := ob hf
  rcases y2o with _ | y2
  · have h9 := ex9_x hf
    subst h9
    have hFc := w9_free hD hS hA
    exact tPassV (pc := 1) (As := []) (rest := []) ⟨hx, hb, hml, hown, hts⟩ (x_V_needPower l dC dI ad ca dom H.size σ hm0 hN hC σ3 hfl hy2) (cwV 0 hts (gV wd_499 wd_500 wd_501 wd_254 wd_498) rfl rfl rfl (by decide +kernel) ⟨Nat.le_of_ble_eq_true rfl, Nat.le_of_ble_eq_true rfl⟩) ⟨hX_blind, va_recv (q := (RV, TV, 9)) (q0 := q1) (ci := 0) hK.1 hP rfl eq1, hX_pre hP hK hD hG hE hS hSA⟩ rfl hl.1 rfl (lv_room (Nat.le_of_ble_eq_true rfl)) dV_drawing_1 ⟨Nat.le_of_ble_eq_true rfl, Nat.le_of_ble_eq_true rfl⟩ hno hlocks hS (fun x h => hFc _ h) (fun H1 h => ⟨h.1, h.2.1.weaken (fun _ _ _ z => hFc _ z), h.2.2⟩)
  replace hf := ex9_s hf
  have hFc := w9_free hD hS hA
  refine va_callv (pc := 1) (va_runV (As := []) (rest := []) ⟨hx, hb, hml, hown, hts⟩ (t_V_needPower l dC dI ad ca dom H.size σ hm0 hN hC y2 σ3 hy2) (cwV 0 hts (gV wd_499 wd_500 wd_501 wd_254 wd_498) rfl rfl rfl (by decide +kernel) ⟨Nat.le_of_ble_eq_true rfl, Nat.le_of_ble_eq_true rfl⟩) ⟨hW_blind, va_recv (q := (RV, TV, 9)) (q0 := q1) (ci := 0) hK.1 hP rfl eq1, hW_pre hP hK hD hG⟩ rfl rfl hl.1 rfl (lv_room (Nat.le_of_ble_eq_true rfl)) dV_drawing_1 ⟨Nat.le_of_ble_eq_true rfl, Nat.le_of_ble_eq_true rfl⟩) hS (fun q _ h => hFc q h) hFc (fun u t H1 locs ht hvm hr9 hB hz1 hk1 hS => ?_)
  obtain ⟨hP, hD, hC⟩ := hB
  rw [ht] at hP
  replace hD := hD.weaken (fun _ _ _ h => hFc _ h)
  generalize H1 = H at hP hS ⊢
  refine lv_aload_n (pc := 4) hx hb dV_drawing_4 rfl (lv_at hl 0 rfl) ?_
  refine lv_aload_n (pc := 5) hx hb dV_drawing_5 rfl (lv_at hl 0 rfl) ?_
  refine lv_iload_n (pc := 6) hx hb dV_drawing_6 rfl (lv_at hl 1 rfl) ?_
  obtain ⟨q4, hq4, eq4⟩ := at_0 (ad := ad) (ca := ca) (σ := σ3) hm0
  obtain ⟨y5, hy5, hf⟩ := ob hf
  refine vp_callSi (pc := 7) (W.runV (As := [.int a1]) (rest := [.ref (ad 0 0)]) ⟨hx, hb, hml, hown, hts⟩ (t_V_drawingRefusal l dC dI ad ca dom σ3 a1 hm0 hN hC y5 hy5) (cwV 1 hts (gV wd_682 wd_683 wd_684 wd_254 wd_681) rfl rfl rfl (by decide +kernel) ⟨Nat.le_of_ble_eq_true rfl, Nat.le_of_ble_eq_true rfl⟩) ⟨hR_blind, va_recv (q := (RV, TV, 9)) (q0 := q4) (ci := 0) hK.1 hP rfl eq4, hR_pre hP hK hG⟩ rfl rfl hl.1 rfl (lv_room (Nat.le_of_ble_eq_true rfl)) dV_drawing_7 ⟨Nat.le_of_ble_eq_true rfl, Nat.le_of_ble_eq_true rfl⟩) (fun r9 hr9 => ?_)
  refine W.eq (g2 := F0 m 10 ls [.int y5, .ref (ad 0 0)]) (by rw [hr9]) ?_
  refine lv_iconst (pc := 10) (v := 2) hx hb dV_drawing_10 (by decide) ?_
  obtain ⟨q6, hq6, eq6⟩ := at_0 (ad := ad) (ca := ca) (σ := σ3) hm0
  obtain ⟨⟨y7o, σ8⟩, hy7, hf⟩ := ob hf
  rcases y7o with _ | y7
  · have h9 := ex9_x hf
    subst h9
    have hFc := w9_free hD hS hA
    exact tPassV (pc := 11) (As := [.int y5, .int 2]) (rest := []) ⟨hx, hb, hml, hown, hts⟩ (x_V_mayWrite l dC dI ad ca dom H.size σ3 y5 2 hm0 hN hC σ8 hfl hy7) (cwV 2 hts (gV wd_491 wd_492 wd_493 wd_254 wd_490) rfl rfl rfl (by decide +kernel) ⟨Nat.le_of_ble_eq_true rfl, Nat.le_of_ble_eq_true rfl⟩) ⟨hX_blind, va_recv (q := (RV, TV, 9)) (q0 := q6) (ci := 0) hK.1 hP rfl eq6, hX_pre hP hK hD hG hE hS hSA⟩ rfl hl.1 rfl (lv_room (Nat.le_of_ble_eq_true rfl)) dV_drawing_11 ⟨Nat.le_of_ble_eq_true rfl, Nat.le_of_ble_eq_true rfl⟩ hno hlocks hS (fun x h => hFc _ h) (fun H1 h => ⟨h.1, h.2.1.weaken (fun _ _ _ z => hFc _ z), h.2.2⟩)
  replace hf := ex9_s hf
  have hFc := w9_free hD hS hA
  refine va_calli (pc := 11) (va_runV (As := [.int y5, .int 2]) (rest := []) ⟨hx, hb, hml, hown, hts⟩ (t_V_mayWrite l dC dI ad ca dom H.size σ3 y5 2 hm0 hN hC y7 σ8 hy7) (cwV 2 hts (gV wd_491 wd_492 wd_493 wd_254 wd_490) rfl rfl rfl (by decide +kernel) ⟨Nat.le_of_ble_eq_true rfl, Nat.le_of_ble_eq_true rfl⟩) ⟨hW_blind, va_recv (q := (RV, TV, 9)) (q0 := q6) (ci := 0) hK.1 hP rfl eq6, hW_pre hP hK hD hG⟩ rfl rfl hl.1 rfl (lv_room (Nat.le_of_ble_eq_true rfl)) dV_drawing_11 ⟨Nat.le_of_ble_eq_true rfl, Nat.le_of_ble_eq_true rfl⟩) hS (fun q _ h => hFc q h) hFc (fun r9 u t H1 locs ht hvm hr9 hB hz1 hk1 hS => ?_)
  obtain ⟨hP, hD, hC⟩ := hB
  rw [ht] at hP
  replace hD := hD.weaken (fun _ _ _ h => hFc _ h)
  generalize H1 = H at hP hS ⊢
  refine W.eq (g2 := F0 m 14 ls [.int y7]) (by rw [hr9]) ?_
  refine lv_if_ne (pc := 14) (tgt := 19) hx hb dV_drawing_14 rfl (fun h9 => ?_) (fun h9 => ?_)
  · replace hf := ite_f h9 hf
    refine nt9 ?_ hf
    repeat (first | exact nt_n | exact nt_s | refine nt_i ?_ ?_ | (refine nt_b (fun y => ?_); obtain ⟨y1, y2⟩ := y; dsimp only) | refine nt_b (fun y => ?_) | refine nt_l (fun y => ?_) | refine nt_q ?_ (fun y => ?_))
  · replace hf := ite_t h9 hf
    refine lv_iconst (pc := 17) (v := (-1)) hx hb dV_drawing_17 (by decide) ?_
    exact nomatch hf
set_option maxHeartbeats 4000000 in
set_option maxRecDepth 100000 in
theorem x_V_checkIn (l : Launch) (dC : Nat → ClassId) (dI : Nat → Nat → Nat) (ad : Nat → Nat → Nat) (ca : Nat → Nat → ClassId) (dom : List (Nat × Nat)) (sz : Nat) (n : Nat) (σ : hT) (a1 : Int32) (a2 : Int32) (nw : Nat) (hm0 : (0, 0) ∈ dom) (hN : dom.Nodup) (hC : clo dom σ.2.2) (σ' : hT) (hfl : l.stackTraces = false) (hf : V_checkIn n σ a1 a2 nw = some (none, σ')) : tMet l yV_checkIn (.code yV_checkIn cV_checkIn 6 (some .int) :: aw) ({ frames := 7, cells := 1, slots := 6, locals := 135 }) (hX (dC, dI) sz ad ca dom σ [.ref (ad 0 0), .int a1, .int a2]) nIS (va_A (w9 ad ca dom σ) sz) (fun H1 => va_P (dC, dI) kCl (w9 ad ca dom σ') H1 ∧ va_D (va_A (w9 ad ca dom σ) sz) (w9 ad ca dom σ') ∧ clo dom σ'.2.2) := by
  refine tOfW (cc := cV_checkIn) (maxL := 6) (ret := (some .int)) (by decide) rfl ?_
  intro p e s m args below meth c s₁ B hml hno hv
  obtain ⟨rfl, hv⟩ := hv
  have hx := B.exec
  have hb := B.bytes
  have hts : ∀ w ∈ aw, w.before _ s = true := fun w h => atoms_spec (ws := (.code yV_checkIn cV_checkIn 6 (some .int) :: aw)) B.pre w (List.mem_cons_of_mem _ h)
  have hown : s.vm.findClass RV = some m.cls := findClass_of_methodNamed B.named
  have hlocks := B.notSynchronized
  obtain ⟨hsz, hP, hK, hD0, hG, hE⟩ := hv
  subst hsz
  have hD := hD0.self (sz := s.heap.size)
  generalize hAe : va_A (w9 ad ca dom σ) s.heap.size = A at hD ⊢
  have hA : ∀ q : Nat, s.heap.size ≤ q → A q := fun q h => by rw [← hAe]; exact Or.inr h
  have hSA : ∀ q : Nat, q < s.heap.size → A q → xS ad dom q := fun q h z => by rw [← hAe] at z; exact w9_xS z h
  obtain ⟨H, hH⟩ : ∃ H, H = s.heap := ⟨_, rfl⟩
  have hS : va_S A s.heap H [] := by rw [hH]; exact va_S.rf
  rw [← hH] at hP ⊢
  unfold V_checkIn at hf
  have hl := lv_entry ([.ref (ad 0 0), .int a1, .int a2]) (n := 6) (Nat.le_of_ble_eq_true rfl)
  rw [lg_entry_eq]
  generalize (lg_sl ([.ref (ad 0 0), .int a1, .int a2]) ++ List.replicate (6 - (lg_sl ([.ref (ad 0 0), .int a1, .int a2])).length) Slot.unset).toArray = ls at hl ⊢
  have hl : lv_has ls 6 [(0, .ref (ad 0 0)), (1, .int a1), (2, .int a2)] := hl
  refine lv_aload_n (pc := 0) hx hb dV_checkIn_0 rfl (lv_at hl 0 rfl) ?_
  obtain ⟨q1, hq1, eq1⟩ := at_0 (ad := ad) (ca := ca) (σ := σ) hm0
  obtain ⟨⟨y2o, σ3⟩, hy2, hf⟩ := ob hf
  rcases y2o with _ | y2
  · have h9 := ex9_x hf
    subst h9
    have hFc := w9_free hD hS hA
    exact tPassV (pc := 1) (As := []) (rest := []) ⟨hx, hb, hml, hown, hts⟩ (x_V_needPower l dC dI ad ca dom H.size σ hm0 hN hC σ3 hfl hy2) (cwV 0 hts (gV wd_499 wd_500 wd_501 wd_254 wd_498) rfl rfl rfl (by decide +kernel) ⟨Nat.le_of_ble_eq_true rfl, Nat.le_of_ble_eq_true rfl⟩) ⟨hX_blind, va_recv (q := (RV, TV, 9)) (q0 := q1) (ci := 0) hK.1 hP rfl eq1, hX_pre hP hK hD hG hE hS hSA⟩ rfl hl.1 rfl (lv_room (Nat.le_of_ble_eq_true rfl)) dV_checkIn_1 ⟨Nat.le_of_ble_eq_true rfl, Nat.le_of_ble_eq_true rfl⟩ hno hlocks hS (fun x h => hFc _ h) (fun H1 h => ⟨h.1, h.2.1.weaken (fun _ _ _ z => hFc _ z), h.2.2⟩)
  replace hf := ex9_s hf
  have hFc := w9_free hD hS hA
  refine va_callv (pc := 1) (va_runV (As := []) (rest := []) ⟨hx, hb, hml, hown, hts⟩ (t_V_needPower l dC dI ad ca dom H.size σ hm0 hN hC y2 σ3 hy2) (cwV 0 hts (gV wd_499 wd_500 wd_501 wd_254 wd_498) rfl rfl rfl (by decide +kernel) ⟨Nat.le_of_ble_eq_true rfl, Nat.le_of_ble_eq_true rfl⟩) ⟨hW_blind, va_recv (q := (RV, TV, 9)) (q0 := q1) (ci := 0) hK.1 hP rfl eq1, hW_pre hP hK hD hG⟩ rfl rfl hl.1 rfl (lv_room (Nat.le_of_ble_eq_true rfl)) dV_checkIn_1 ⟨Nat.le_of_ble_eq_true rfl, Nat.le_of_ble_eq_true rfl⟩) hS (fun q _ h => hFc q h) hFc (fun u t H1 locs ht hvm hr9 hB hz1 hk1 hS => ?_)
  obtain ⟨hP, hD, hC⟩ := hB
  rw [ht] at hP
  replace hD := hD.weaken (fun _ _ _ h => hFc _ h)
  generalize H1 = H at hP hS ⊢
  refine lv_aload_n (pc := 4) hx hb dV_checkIn_4 rfl (lv_at hl 0 rfl) ?_
  refine lv_iload_n (pc := 5) hx hb dV_checkIn_5 rfl (lv_at hl 1 rfl) ?_
  obtain ⟨q4, hq4, eq4⟩ := at_0 (ad := ad) (ca := ca) (σ := σ3) hm0
  obtain ⟨y5, hy5, hf⟩ := ob hf
  refine va_cse (pc := 6) (W.runV (As := [.int a1]) (rest := []) ⟨hx, hb, hml, hown, hts⟩ (t_V_drawingAt l dC dI ad ca dom σ3 a1 hm0 hN hC y5 hy5) (cwV 1 hts (gV wd_317 wd_318 wd_319 wd_254 wd_316) rfl rfl rfl (by decide +kernel) ⟨Nat.le_of_ble_eq_true rfl, Nat.le_of_ble_eq_true rfl⟩) ⟨hR_blind, va_recv (q := (RV, TV, 9)) (q0 := q4) (ci := 0) hK.1 hP rfl eq4, hR_pre hP hK hG⟩ rfl rfl hl.1 rfl (lv_room (Nat.le_of_ble_eq_true rfl)) dV_checkIn_6 ⟨Nat.le_of_ble_eq_true rfl, Nat.le_of_ble_eq_true rfl⟩) (fun r9 hr9 => ?_)
  obtain ⟨hr9, hmy6⟩ := hr9
  refine W.eq (g2 := F0 m 9 ls [va_re (ad 6) y5]) (by rw [hr9]) ?_
  rcases hE7 : y5 with _ | j8
  · replace hf := hq_n hE7 hf
    refine W.eq (g2 := F0 m 9 ls [.null]) rfl ?_
    refine lv_astore_nN (pc := 9) hx hb dV_checkIn_9 rfl hl (by decide) rfl (fun ls hl => ?_)
    have hl : lv_has ls 6 [(3, .null), (0, .ref (ad 0 0)), (1, .int a1), (2, .int a2)] := hl
    refine lv_aload_n (pc := 10) hx hb dV_checkIn_10 rfl (lv_at hl 1 rfl) ?_
    refine lv_aload_nN (pc := 11) hx hb dV_checkIn_11 rfl (lv_at hl 0 rfl) ?_
    refine lv_iload_n (pc := 12) hx hb dV_checkIn_12 rfl (lv_at hl 3 rfl) ?_
    obtain ⟨q9, hq9, eq9⟩ := at_0 (ad := ad) (ca := ca) (σ := σ3) hm0
    obtain ⟨y10, hy10, hf⟩ := ob hf
    refine vp_callSi (pc := 13) (W.runV (As := [.null, .int a2]) (rest := []) ⟨hx, hb, hml, hown, hts⟩ (t_V_copyRefusal l dC dI ad ca dom σ3 none a2 hm0 (fun _ z => nomatch z) hN hC y10 hy10) (cwV 2 hts (gV wd_511 wd_512 wd_513 wd_254 wd_510) rfl rfl rfl (by decide +kernel) ⟨Nat.le_of_ble_eq_true rfl, Nat.le_of_ble_eq_true rfl⟩) ⟨hR_blind, va_recv (q := (RV, TV, 9)) (q0 := q9) (ci := 0) hK.1 hP rfl eq9, hR_pre hP hK hG⟩ rfl rfl hl.1 rfl (lv_room (Nat.le_of_ble_eq_true rfl)) dV_checkIn_13 ⟨Nat.le_of_ble_eq_true rfl, Nat.le_of_ble_eq_true rfl⟩) (fun r9 hr9 => ?_)
    refine W.eq (g2 := F0 m 16 ls [.int y10]) (by rw [hr9]) ?_
    refine lv_istore (pc := 16) hx hb dV_checkIn_16 hl (by decide) rfl (fun ls hl => ?_)
    have hl : lv_has ls 6 [(4, .int y10), (3, .null), (0, .ref (ad 0 0)), (1, .int a1), (2, .int a2)] := hl
    refine lv_iconst (pc := 18) (v := 0) hx hb dV_checkIn_18 (by decide) ?_
    refine lv_istore (pc := 19) hx hb dV_checkIn_19 hl (by decide) rfl (fun ls hl => ?_)
    have hl : lv_has ls 6 [(5, .int 0), (4, .int y10), (3, .null), (0, .ref (ad 0 0)), (1, .int a1), (2, .int a2)] := hl
    refine lv_iload (pc := 21) hx hb dV_checkIn_21 (lv_at hl 1 rfl) ?_
    obtain ⟨x11, hx11, hf⟩ := lt_9 hf
    refine jnF (τ := (Heap) × (List Loc) × (Array Slot)) (fun pc st z => W p l e _ s m _ below meth c z.1 z.2.1 0 0 _ (F0 m pc z.2.2 st)) (pc0 := 23) (st0 := [.int y10]) (z0 := (H, _, ls)) 49 (fun z => []) (fun z => va_P (dC, dI) kCl (w9 ad ca dom (σ3)) z.1 ∧ va_D A (w9 ad ca dom (σ3)) ∧ va_S A s.heap z.1 z.2.1 ∧ lv_has z.2.2 6 [(5, .int 0), (4, .int y10), (3, .null), (0, .ref (ad 0 0)), (1, .int a1), (2, .int a2)]) (fun z => x11) (none, σ') ?_ ?_
    · intro hJx11
      dsimp only at hJx11 ⊢
      refine lv_if_ne (pc := 23) (tgt := 49) hx hb dV_checkIn_23 rfl (fun h12 => ?_) (fun h12 => ?_)
      · replace hf := ite_f h12 hf
        have hl := lv_sub hl (l' := [(5, .int 0), (4, .int y10), (3, .null), (0, .ref (ad 0 0)), (1, .int a1), (2, .int a2)]) [0, 1, 2, 3, 4, 5] rfl
        exact hJx11 (H, _, ls) ⟨hP, hD, hS, hl⟩ hf
      · replace hf := ite_t h12 hf
        refine lv_aload_n (pc := 26) hx hb dV_checkIn_26 rfl (lv_at hl 3 rfl) ?_
        refine lv_iload_n (pc := 27) hx hb dV_checkIn_27 rfl (lv_at hl 4 rfl) ?_
        refine lv_aload_nN (pc := 28) hx hb dV_checkIn_28 rfl (lv_at hl 2 rfl) ?_
        obtain ⟨q13, hq13, eq13⟩ := at_0 (ad := ad) (ca := ca) (σ := σ3) hm0
        obtain ⟨y14, hy14, hf⟩ := ob hf
        refine vp_callSi (pc := 29) (W.runV (As := [.int a1, .null]) (rest := []) ⟨hx, hb, hml, hown, hts⟩ (t_V_checkInRefusal l dC dI ad ca dom n σ3 a1 none hm0 (fun _ z => nomatch z) hN hC y14 hy14) (cwV 2 hts (gV wd_693 wd_694 wd_695 wd_254 wd_692) rfl rfl rfl (by decide +kernel) ⟨Nat.le_of_ble_eq_true rfl, Nat.le_of_ble_eq_true rfl⟩) ⟨hR_blind, va_recv (q := (RV, TV, 9)) (q0 := q13) (ci := 0) hK.1 hP rfl eq13, hR_pre hP hK hG⟩ rfl rfl hl.1 rfl (lv_room (Nat.le_of_ble_eq_true rfl)) dV_checkIn_29 ⟨Nat.le_of_ble_eq_true rfl, Nat.le_of_ble_eq_true rfl⟩) (fun r9 hr9 => ?_)
        refine W.eq (g2 := F0 m 32 ls [.int y14]) (by rw [hr9]) ?_
        refine lv_istore (pc := 32) hx hb dV_checkIn_32 hl (by decide) rfl (fun ls hl => ?_)
        have hl : lv_has ls 6 [(4, .int y14), (5, .int 0), (3, .null), (0, .ref (ad 0 0)), (1, .int a1), (2, .int a2)] := hl
        refine lv_iconst (pc := 34) (v := 2) hx hb dV_checkIn_34 (by decide) ?_
        refine lv_aload_n (pc := 35) hx hb dV_checkIn_35 rfl (lv_at hl 3 rfl) ?_
        obtain ⟨q15, hq15, eq15⟩ := at_0 (ad := ad) (ca := ca) (σ := σ3) hm0
        refine va_get (D := (dC, dI)) (cl := kCl) (C := RV) (T := TV) (N := 9) (pc := 36) hx hb hts inV hown hK.1 hP q15 eq15 rfl 6 (by decide) (hts _ wd_360) (fun _ h9 => h9) rfl dV_checkIn_36 ?_
        refine lv_aload_nN (pc := 39) hx hb dV_checkIn_39 rfl (lv_at hl 2 rfl) ?_
        exact nomatch hf
    · rintro ⟨H, locs, ls⟩ ⟨hP, hD, hS, hl⟩ hf
      dsimp only at hP hD hS hl hf ⊢
      rw [hx11] at hf
      have hl : lv_has ls 6 [(5, .int 0), (4, .int y10), (3, .null), (0, .ref (ad 0 0)), (1, .int a1), (2, .int a2)] := hl
      refine lv_aload_n (pc := 49) hx hb dV_checkIn_49 rfl (lv_at hl 3 rfl) ?_
      refine lv_iload (pc := 50) hx hb dV_checkIn_50 (lv_at hl 1 rfl) ?_
      refine lv_iload (pc := 52) hx hb dV_checkIn_52 (lv_at hl 0 rfl) ?_
      obtain ⟨q16, hq16, eq16⟩ := at_0 (ad := ad) (ca := ca) (σ := σ3) hm0
      obtain ⟨⟨y17o, σ18⟩, hy17, hf⟩ := ob hf
      rcases y17o with _ | y17
      · have h9 := ex9_x hf
        subst h9
        have hFc := w9_free hD hS hA
        exact tPassV (pc := 54) (As := [.int y10, .int 0]) (rest := []) ⟨hx, hb, hml, hown, hts⟩ (x_V_mayWrite l dC dI ad ca dom H.size σ3 y10 0 hm0 hN hC σ18 hfl hy17) (cwV 2 hts (gV wd_491 wd_492 wd_493 wd_254 wd_490) rfl rfl rfl (by decide +kernel) ⟨Nat.le_of_ble_eq_true rfl, Nat.le_of_ble_eq_true rfl⟩) ⟨hX_blind, va_recv (q := (RV, TV, 9)) (q0 := q16) (ci := 0) hK.1 hP rfl eq16, hX_pre hP hK hD hG hE hS hSA⟩ rfl hl.1 rfl (lv_room (Nat.le_of_ble_eq_true rfl)) dV_checkIn_54 ⟨Nat.le_of_ble_eq_true rfl, Nat.le_of_ble_eq_true rfl⟩ hno hlocks hS (fun x h => hFc _ h) (fun H1 h => ⟨h.1, h.2.1.weaken (fun _ _ _ z => hFc _ z), h.2.2⟩)
      replace hf := ex9_s hf
      have hFc := w9_free hD hS hA
      refine va_calli (pc := 54) (va_runV (As := [.int y10, .int 0]) (rest := []) ⟨hx, hb, hml, hown, hts⟩ (t_V_mayWrite l dC dI ad ca dom H.size σ3 y10 0 hm0 hN hC y17 σ18 hy17) (cwV 2 hts (gV wd_491 wd_492 wd_493 wd_254 wd_490) rfl rfl rfl (by decide +kernel) ⟨Nat.le_of_ble_eq_true rfl, Nat.le_of_ble_eq_true rfl⟩) ⟨hW_blind, va_recv (q := (RV, TV, 9)) (q0 := q16) (ci := 0) hK.1 hP rfl eq16, hW_pre hP hK hD hG⟩ rfl rfl hl.1 rfl (lv_room (Nat.le_of_ble_eq_true rfl)) dV_checkIn_54 ⟨Nat.le_of_ble_eq_true rfl, Nat.le_of_ble_eq_true rfl⟩) hS (fun q _ h => hFc q h) hFc (fun r9 u t H1 locs ht hvm hr9 hB hz1 hk1 hS => ?_)
      obtain ⟨hP, hD, hC⟩ := hB
      rw [ht] at hP
      replace hD := hD.weaken (fun _ _ _ h => hFc _ h)
      generalize H1 = H at hP hS ⊢
      refine W.eq (g2 := F0 m 57 ls [.int y17]) (by rw [hr9]) ?_
      refine lv_if_ne (pc := 57) (tgt := 62) hx hb dV_checkIn_57 rfl (fun h19 => ?_) (fun h19 => ?_)
      · replace hf := ite_f h19 hf
        refine lv_aload_nN (pc := 62) hx hb dV_checkIn_62 rfl (lv_at hl 2 rfl) ?_
        refine lv_iload_n (pc := 63) hx hb dV_checkIn_63 rfl (lv_at hl 5 rfl) ?_
        exact nomatch hf
      · replace hf := ite_t h19 hf
        refine lv_iconst (pc := 60) (v := (-1)) hx hb dV_checkIn_60 (by decide) ?_
        exact nomatch hf
  · replace hf := hq_s hE7 hf
    have hm20 : (6, j8) ∈ dom := (hmy6 _ hE7)
    refine W.eq (g2 := F0 m 9 ls [.ref (ad 6 j8)]) rfl ?_
    refine lv_astore_n (pc := 9) hx hb dV_checkIn_9 rfl hl (by decide) rfl (fun ls hl => ?_)
    have hl : lv_has ls 6 [(3, .ref (ad 6 j8)), (0, .ref (ad 0 0)), (1, .int a1), (2, .int a2)] := hl
    refine lv_aload_n (pc := 10) hx hb dV_checkIn_10 rfl (lv_at hl 1 rfl) ?_
    refine lv_aload_n (pc := 11) hx hb dV_checkIn_11 rfl (lv_at hl 0 rfl) ?_
    refine lv_iload_n (pc := 12) hx hb dV_checkIn_12 rfl (lv_at hl 3 rfl) ?_
    obtain ⟨q21, hq21, eq21⟩ := at_0 (ad := ad) (ca := ca) (σ := σ3) hm0
    obtain ⟨y22, hy22, hf⟩ := ob hf
    refine vp_callSi (pc := 13) (W.runV (As := [.ref (ad 6 j8), .int a2]) (rest := []) ⟨hx, hb, hml, hown, hts⟩ (t_V_copyRefusal l dC dI ad ca dom σ3 (some j8) a2 hm0 (fun _ z => Option.some.inj z ▸ hm20) hN hC y22 hy22) (cwV 2 hts (gV wd_511 wd_512 wd_513 wd_254 wd_510) rfl rfl rfl (by decide +kernel) ⟨Nat.le_of_ble_eq_true rfl, Nat.le_of_ble_eq_true rfl⟩) ⟨hR_blind, va_recv (q := (RV, TV, 9)) (q0 := q21) (ci := 0) hK.1 hP rfl eq21, hR_pre hP hK hG⟩ rfl rfl hl.1 rfl (lv_room (Nat.le_of_ble_eq_true rfl)) dV_checkIn_13 ⟨Nat.le_of_ble_eq_true rfl, Nat.le_of_ble_eq_true rfl⟩) (fun r9 hr9 => ?_)
    refine W.eq (g2 := F0 m 16 ls [.int y22]) (by rw [hr9]) ?_
    refine lv_istore (pc := 16) hx hb dV_checkIn_16 hl (by decide) rfl (fun ls hl => ?_)
    have hl : lv_has ls 6 [(4, .int y22), (3, .ref (ad 6 j8)), (0, .ref (ad 0 0)), (1, .int a1), (2, .int a2)] := hl
    refine lv_iconst (pc := 18) (v := 0) hx hb dV_checkIn_18 (by decide) ?_
    refine lv_istore (pc := 19) hx hb dV_checkIn_19 hl (by decide) rfl (fun ls hl => ?_)
    have hl : lv_has ls 6 [(5, .int 0), (4, .int y22), (3, .ref (ad 6 j8)), (0, .ref (ad 0 0)), (1, .int a1), (2, .int a2)] := hl
    refine lv_iload (pc := 21) hx hb dV_checkIn_21 (lv_at hl 1 rfl) ?_
    obtain ⟨x23, hx23, hf⟩ := lt_9 hf
    refine jnF (τ := (hT) × (Int32) × (Int32) × (Heap) × (List Loc) × (Array Slot)) (fun pc st z => W p l e _ s m _ below meth c z.2.2.2.1 z.2.2.2.2.1 0 0 _ (F0 m pc z.2.2.2.2.2 st)) (pc0 := 23) (st0 := [.int y22]) (z0 := (σ3, 0, 0, H, _, ls)) 49 (fun z => []) (fun z => va_P (dC, dI) kCl (w9 ad ca dom z.1) z.2.2.2.1 ∧ va_D A (w9 ad ca dom z.1) ∧ va_S A s.heap z.2.2.2.1 z.2.2.2.2.1 ∧ clo dom z.1.2.2 ∧ lv_has z.2.2.2.2.2 6 [(5, .int z.2.1), (4, .int z.2.2.1), (3, .ref (ad 6 j8)), (0, .ref (ad 0 0)), (1, .int a1), (2, .int a2)]) (fun z => x23 z.1 z.2.1 z.2.2.1) (none, σ') ?_ ?_
    · intro hJx23
      dsimp only at hJx23 ⊢
      refine lv_if_ne (pc := 23) (tgt := 49) hx hb dV_checkIn_23 rfl (fun h27 => ?_) (fun h27 => ?_)
      · replace hf := ite_f h27 hf
        have hl := lv_sub hl (l' := [(5, .int 0), (4, .int y22), (3, .ref (ad 6 j8)), (0, .ref (ad 0 0)), (1, .int a1), (2, .int a2)]) [0, 1, 2, 3, 4, 5] rfl
        exact hJx23 (σ3, 0, y22, H, _, ls) ⟨hP, hD, hS, hC, hl⟩ hf
      · replace hf := ite_t h27 hf
        refine lv_aload_n (pc := 26) hx hb dV_checkIn_26 rfl (lv_at hl 3 rfl) ?_
        refine lv_iload_n (pc := 27) hx hb dV_checkIn_27 rfl (lv_at hl 4 rfl) ?_
        refine lv_aload_n (pc := 28) hx hb dV_checkIn_28 rfl (lv_at hl 2 rfl) ?_
        obtain ⟨q28, hq28, eq28⟩ := at_0 (ad := ad) (ca := ca) (σ := σ3) hm0
        obtain ⟨y29, hy29, hf⟩ := ob hf
        refine vp_callSi (pc := 29) (W.runV (As := [.int a1, .ref (ad 6 j8)]) (rest := []) ⟨hx, hb, hml, hown, hts⟩ (t_V_checkInRefusal l dC dI ad ca dom n σ3 a1 (some j8) hm0 (fun _ z => Option.some.inj z ▸ hm20) hN hC y29 hy29) (cwV 2 hts (gV wd_693 wd_694 wd_695 wd_254 wd_692) rfl rfl rfl (by decide +kernel) ⟨Nat.le_of_ble_eq_true rfl, Nat.le_of_ble_eq_true rfl⟩) ⟨hR_blind, va_recv (q := (RV, TV, 9)) (q0 := q28) (ci := 0) hK.1 hP rfl eq28, hR_pre hP hK hG⟩ rfl rfl hl.1 rfl (lv_room (Nat.le_of_ble_eq_true rfl)) dV_checkIn_29 ⟨Nat.le_of_ble_eq_true rfl, Nat.le_of_ble_eq_true rfl⟩) (fun r9 hr9 => ?_)
        refine W.eq (g2 := F0 m 32 ls [.int y29]) (by rw [hr9]) ?_
        refine lv_istore (pc := 32) hx hb dV_checkIn_32 hl (by decide) rfl (fun ls hl => ?_)
        have hl : lv_has ls 6 [(4, .int y29), (5, .int 0), (3, .ref (ad 6 j8)), (0, .ref (ad 0 0)), (1, .int a1), (2, .int a2)] := hl
        refine lv_iconst (pc := 34) (v := 2) hx hb dV_checkIn_34 (by decide) ?_
        refine lv_aload_n (pc := 35) hx hb dV_checkIn_35 rfl (lv_at hl 3 rfl) ?_
        obtain ⟨q30, hq30, eq30⟩ := at_0 (ad := ad) (ca := ca) (σ := σ3) hm0
        refine va_get (D := (dC, dI)) (cl := kCl) (C := RV) (T := TV) (N := 9) (pc := 36) hx hb hts inV hown hK.1 hP q30 eq30 rfl 6 (by decide) (hts _ wd_360) (fun _ h9 => h9) rfl dV_checkIn_36 ?_
        refine lv_aload_n (pc := 39) hx hb dV_checkIn_39 rfl (lv_at hl 2 rfl) ?_
        obtain ⟨q31, hq31, eq31⟩ := at_6 (ad := ad) (ca := ca) (σ := σ3) hm20
        refine va_get (D := (dC, dI)) (cl := kCl) (C := RD) (T := TD) (N := 5) (pc := 40) hx hb hts inD hown hK.1 hP q31 eq31 rfl 3 (by decide) (hts _ wd_368) (fun _ h9 => h9) rfl dV_checkIn_40 ?_
        obtain ⟨q32, hq32, eq32⟩ := at_2 (ad := ad) (ca := ca) (σ := σ3) (cm_0_6 hC hm0)
        obtain ⟨⟨y33, σ34⟩, hy33, hf⟩ := ob hf
        have hFc := w9_free hD hS hA
        refine va_calli (pc := 43) (va_runV (As := [.ref (ad 5 (3 * j8))]) (rest := [.int 2]) ⟨hx, hb, hml, hown, hts⟩ (t_K_sizeOf l dC dI ad ca dom H.size n σ3 (3 * j8) (cm_0_6 hC hm0) (cm_6_3 hC hm20) hN hC y33 σ34 hy33) (cwV 1 hts (gV wd_565 wd_566 wd_567 wd_275 wd_564) rfl rfl rfl (by decide +kernel) ⟨Nat.le_of_ble_eq_true rfl, Nat.le_of_ble_eq_true rfl⟩) ⟨hW_blind, va_recv (q := (RK, TK, 3)) (q0 := q32) (ci := 2) hK.1 hP rfl eq32, hW_pre hP hK hD hG⟩ rfl rfl hl.1 rfl (lv_room (Nat.le_of_ble_eq_true rfl)) dV_checkIn_43 ⟨Nat.le_of_ble_eq_true rfl, Nat.le_of_ble_eq_true rfl⟩) hS (fun q _ h => hFc q h) hFc (fun r9 u t H1 locs ht hvm hr9 hB hz1 hk1 hS => ?_)
        obtain ⟨hP, hD, hC⟩ := hB
        rw [ht] at hP
        replace hD := hD.weaken (fun _ _ _ h => hFc _ h)
        generalize H1 = H at hP hS ⊢
        refine W.eq (g2 := F0 m 46 ls [.int y33, .int 2]) (by rw [hr9]) ?_
        refine lv_iadd (pc := 46) hx hb dV_checkIn_46 ?_
        refine lv_istore (pc := 47) hx hb dV_checkIn_47 hl (by decide) rfl (fun ls hl => ?_)
        have hl : lv_has ls 6 [(5, .int (2 + y33)), (4, .int y29), (3, .ref (ad 6 j8)), (0, .ref (ad 0 0)), (1, .int a1), (2, .int a2)] := hl
        have hl := lv_sub hl (l' := [(5, .int (2 + y33)), (4, .int y29), (3, .ref (ad 6 j8)), (0, .ref (ad 0 0)), (1, .int a1), (2, .int a2)]) [0, 1, 2, 3, 4, 5] rfl
        exact hJx23 (σ34, (2 + y33), y29, H, _, ls) ⟨hP, hD, hS, hC, hl⟩ hf
    · rintro ⟨σ24, q25, q26, H, locs, ls⟩ ⟨hP, hD, hS, hC, hl⟩ hf
      dsimp only at hP hD hS hC hl hf ⊢
      rw [hx23] at hf
      have hl : lv_has ls 6 [(5, .int q25), (4, .int q26), (3, .ref (ad 6 j8)), (0, .ref (ad 0 0)), (1, .int a1), (2, .int a2)] := hl
      refine lv_aload_n (pc := 49) hx hb dV_checkIn_49 rfl (lv_at hl 3 rfl) ?_
      refine lv_iload (pc := 50) hx hb dV_checkIn_50 (lv_at hl 1 rfl) ?_
      refine lv_iload (pc := 52) hx hb dV_checkIn_52 (lv_at hl 0 rfl) ?_
      obtain ⟨q35, hq35, eq35⟩ := at_0 (ad := ad) (ca := ca) (σ := σ24) hm0
      obtain ⟨⟨y36o, σ37⟩, hy36, hf⟩ := ob hf
      rcases y36o with _ | y36
      · have h9 := ex9_x hf
        subst h9
        have hFc := w9_free hD hS hA
        exact tPassV (pc := 54) (As := [.int q26, .int q25]) (rest := []) ⟨hx, hb, hml, hown, hts⟩ (x_V_mayWrite l dC dI ad ca dom H.size σ24 q26 q25 hm0 hN hC σ37 hfl hy36) (cwV 2 hts (gV wd_491 wd_492 wd_493 wd_254 wd_490) rfl rfl rfl (by decide +kernel) ⟨Nat.le_of_ble_eq_true rfl, Nat.le_of_ble_eq_true rfl⟩) ⟨hX_blind, va_recv (q := (RV, TV, 9)) (q0 := q35) (ci := 0) hK.1 hP rfl eq35, hX_pre hP hK hD hG hE hS hSA⟩ rfl hl.1 rfl (lv_room (Nat.le_of_ble_eq_true rfl)) dV_checkIn_54 ⟨Nat.le_of_ble_eq_true rfl, Nat.le_of_ble_eq_true rfl⟩ hno hlocks hS (fun x h => hFc _ h) (fun H1 h => ⟨h.1, h.2.1.weaken (fun _ _ _ z => hFc _ z), h.2.2⟩)
      replace hf := ex9_s hf
      have hFc := w9_free hD hS hA
      refine va_calli (pc := 54) (va_runV (As := [.int q26, .int q25]) (rest := []) ⟨hx, hb, hml, hown, hts⟩ (t_V_mayWrite l dC dI ad ca dom H.size σ24 q26 q25 hm0 hN hC y36 σ37 hy36) (cwV 2 hts (gV wd_491 wd_492 wd_493 wd_254 wd_490) rfl rfl rfl (by decide +kernel) ⟨Nat.le_of_ble_eq_true rfl, Nat.le_of_ble_eq_true rfl⟩) ⟨hW_blind, va_recv (q := (RV, TV, 9)) (q0 := q35) (ci := 0) hK.1 hP rfl eq35, hW_pre hP hK hD hG⟩ rfl rfl hl.1 rfl (lv_room (Nat.le_of_ble_eq_true rfl)) dV_checkIn_54 ⟨Nat.le_of_ble_eq_true rfl, Nat.le_of_ble_eq_true rfl⟩) hS (fun q _ h => hFc q h) hFc (fun r9 u t H1 locs ht hvm hr9 hB hz1 hk1 hS => ?_)
      obtain ⟨hP, hD, hC⟩ := hB
      rw [ht] at hP
      replace hD := hD.weaken (fun _ _ _ h => hFc _ h)
      generalize H1 = H at hP hS ⊢
      refine W.eq (g2 := F0 m 57 ls [.int y36]) (by rw [hr9]) ?_
      refine lv_if_ne (pc := 57) (tgt := 62) hx hb dV_checkIn_57 rfl (fun h38 => ?_) (fun h38 => ?_)
      · replace hf := ite_f h38 hf
        refine lv_aload_n (pc := 62) hx hb dV_checkIn_62 rfl (lv_at hl 2 rfl) ?_
        refine lv_iload_n (pc := 63) hx hb dV_checkIn_63 rfl (lv_at hl 5 rfl) ?_
        refine nt9 ?_ hf
        repeat (first | exact nt_n | exact nt_s | refine nt_i ?_ ?_ | (refine nt_b (fun y => ?_); obtain ⟨y1, y2⟩ := y; dsimp only) | refine nt_b (fun y => ?_) | refine nt_l (fun y => ?_) | refine nt_q ?_ (fun y => ?_))
      · replace hf := ite_t h38 hf
        refine lv_iconst (pc := 60) (v := (-1)) hx hb dV_checkIn_60 (by decide) ?_
        exact nomatch hf
set_option maxHeartbeats 4000000 in
set_option maxRecDepth 100000 in
theorem x_V_baseline (l : Launch) (dC : Nat → ClassId) (dI : Nat → Nat → Nat) (ad : Nat → Nat → Nat) (ca : Nat → Nat → ClassId) (dom : List (Nat × Nat)) (sz : Nat) (n : Nat) (σ : hT) (a1 : Int32) (a2 : Int32) (nw : Nat) (hm0 : (0, 0) ∈ dom) (hN : dom.Nodup) (hC : clo dom σ.2.2) (σ' : hT) (hfl : l.stackTraces = false) (hf : V_baseline n σ a1 a2 nw = some (none, σ')) : tMet l yV_baseline (.code yV_baseline cV_baseline 6 (some .int) :: aw) ({ frames := 7, cells := 1, slots := 6, locals := 142 }) (hX (dC, dI) sz ad ca dom σ [.ref (ad 0 0), .int a1, .int a2]) nIS (va_A (w9 ad ca dom σ) sz) (fun H1 => va_P (dC, dI) kCl (w9 ad ca dom σ') H1 ∧ va_D (va_A (w9 ad ca dom σ) sz) (w9 ad ca dom σ') ∧ clo dom σ'.2.2) := by
  refine tOfW (cc := cV_baseline) (maxL := 6) (ret := (some .int)) (by decide) rfl ?_
  intro p e s m args below meth c s₁ B hml hno hv
  obtain ⟨rfl, hv⟩ := hv
  have hx := B.exec
  have hb := B.bytes
  have hts : ∀ w ∈ aw, w.before _ s = true := fun w h => atoms_spec (ws := (.code yV_baseline cV_baseline 6 (some .int) :: aw)) B.pre w (List.mem_cons_of_mem _ h)
  have hown : s.vm.findClass RV = some m.cls := findClass_of_methodNamed B.named
  have hlocks := B.notSynchronized
  obtain ⟨hsz, hP, hK, hD0, hG, hE⟩ := hv
  subst hsz
  have hD := hD0.self (sz := s.heap.size)
  generalize hAe : va_A (w9 ad ca dom σ) s.heap.size = A at hD ⊢
  have hA : ∀ q : Nat, s.heap.size ≤ q → A q := fun q h => by rw [← hAe]; exact Or.inr h
  have hSA : ∀ q : Nat, q < s.heap.size → A q → xS ad dom q := fun q h z => by rw [← hAe] at z; exact w9_xS z h
  obtain ⟨H, hH⟩ : ∃ H, H = s.heap := ⟨_, rfl⟩
  have hS : va_S A s.heap H [] := by rw [hH]; exact va_S.rf
  rw [← hH] at hP ⊢
  unfold V_baseline at hf
  have hl := lv_entry ([.ref (ad 0 0), .int a1, .int a2]) (n := 6) (Nat.le_of_ble_eq_true rfl)
  rw [lg_entry_eq]
  generalize (lg_sl ([.ref (ad 0 0), .int a1, .int a2]) ++ List.replicate (6 - (lg_sl ([.ref (ad 0 0), .int a1, .int a2])).length) Slot.unset).toArray = ls at hl ⊢
  have hl : lv_has ls 6 [(0, .ref (ad 0 0)), (1, .int a1), (2, .int a2)] := hl
  refine lv_aload_n (pc := 0) hx hb dV_baseline_0 rfl (lv_at hl 0 rfl) ?_
  obtain ⟨q1, hq1, eq1⟩ := at_0 (ad := ad) (ca := ca) (σ := σ) hm0
  obtain ⟨⟨y2o, σ3⟩, hy2, hf⟩ := ob hf
  rcases y2o with _ | y2
  · have h9 := ex9_x hf
    subst h9
    have hFc := w9_free hD hS hA
    exact tPassV (pc := 1) (As := []) (rest := []) ⟨hx, hb, hml, hown, hts⟩ (x_V_needPower l dC dI ad ca dom H.size σ hm0 hN hC σ3 hfl hy2) (cwV 0 hts (gV wd_499 wd_500 wd_501 wd_254 wd_498) rfl rfl rfl (by decide +kernel) ⟨Nat.le_of_ble_eq_true rfl, Nat.le_of_ble_eq_true rfl⟩) ⟨hX_blind, va_recv (q := (RV, TV, 9)) (q0 := q1) (ci := 0) hK.1 hP rfl eq1, hX_pre hP hK hD hG hE hS hSA⟩ rfl hl.1 rfl (lv_room (Nat.le_of_ble_eq_true rfl)) dV_baseline_1 ⟨Nat.le_of_ble_eq_true rfl, Nat.le_of_ble_eq_true rfl⟩ hno hlocks hS (fun x h => hFc _ h) (fun H1 h => ⟨h.1, h.2.1.weaken (fun _ _ _ z => hFc _ z), h.2.2⟩)
  replace hf := ex9_s hf
  have hFc := w9_free hD hS hA
  refine va_callv (pc := 1) (va_runV (As := []) (rest := []) ⟨hx, hb, hml, hown, hts⟩ (t_V_needPower l dC dI ad ca dom H.size σ hm0 hN hC y2 σ3 hy2) (cwV 0 hts (gV wd_499 wd_500 wd_501 wd_254 wd_498) rfl rfl rfl (by decide +kernel) ⟨Nat.le_of_ble_eq_true rfl, Nat.le_of_ble_eq_true rfl⟩) ⟨hW_blind, va_recv (q := (RV, TV, 9)) (q0 := q1) (ci := 0) hK.1 hP rfl eq1, hW_pre hP hK hD hG⟩ rfl rfl hl.1 rfl (lv_room (Nat.le_of_ble_eq_true rfl)) dV_baseline_1 ⟨Nat.le_of_ble_eq_true rfl, Nat.le_of_ble_eq_true rfl⟩) hS (fun q _ h => hFc q h) hFc (fun u t H1 locs ht hvm hr9 hB hz1 hk1 hS => ?_)
  obtain ⟨hP, hD, hC⟩ := hB
  rw [ht] at hP
  replace hD := hD.weaken (fun _ _ _ h => hFc _ h)
  generalize H1 = H at hP hS ⊢
  refine lv_aload_n (pc := 4) hx hb dV_baseline_4 rfl (lv_at hl 0 rfl) ?_
  refine lv_iload_n (pc := 5) hx hb dV_baseline_5 rfl (lv_at hl 1 rfl) ?_
  refine lv_iload_n (pc := 6) hx hb dV_baseline_6 rfl (lv_at hl 2 rfl) ?_
  obtain ⟨q4, hq4, eq4⟩ := at_0 (ad := ad) (ca := ca) (σ := σ3) hm0
  obtain ⟨⟨y5, σ6⟩, hy5, hf⟩ := ob hf
  have hFc := w9_free hD hS hA
  refine va_calli (pc := 7) (va_runV (As := [.int a1, .int a2]) (rest := []) ⟨hx, hb, hml, hown, hts⟩ (t_V_baselineRefusal l dC dI ad ca dom H.size n σ3 a1 a2 hm0 hN hC y5 σ6 hy5) (cwV 2 hts (gV wd_697 wd_698 wd_699 wd_254 wd_696) rfl rfl rfl (by decide +kernel) ⟨Nat.le_of_ble_eq_true rfl, Nat.le_of_ble_eq_true rfl⟩) ⟨hW_blind, va_recv (q := (RV, TV, 9)) (q0 := q4) (ci := 0) hK.1 hP rfl eq4, hW_pre hP hK hD hG⟩ rfl rfl hl.1 rfl (lv_room (Nat.le_of_ble_eq_true rfl)) dV_baseline_7 ⟨Nat.le_of_ble_eq_true rfl, Nat.le_of_ble_eq_true rfl⟩) hS (fun q _ h => hFc q h) hFc (fun r9 u t H1 locs ht hvm hr9 hB hz1 hk1 hS => ?_)
  obtain ⟨hP, hD, hC⟩ := hB
  rw [ht] at hP
  replace hD := hD.weaken (fun _ _ _ h => hFc _ h)
  generalize H1 = H at hP hS ⊢
  refine W.eq (g2 := F0 m 10 ls [.int y5]) (by rw [hr9]) ?_
  refine lv_istore_n (pc := 10) hx hb dV_baseline_10 rfl hl (by decide) rfl (fun ls hl => ?_)
  have hl : lv_has ls 6 [(3, .int y5), (0, .ref (ad 0 0)), (1, .int a1), (2, .int a2)] := hl
  refine lv_aload_n (pc := 11) hx hb dV_baseline_11 rfl (lv_at hl 1 rfl) ?_
  obtain ⟨q7, hq7, eq7⟩ := at_0 (ad := ad) (ca := ca) (σ := σ6) hm0
  refine va_get (D := (dC, dI)) (cl := kCl) (C := RV) (T := TV) (N := 9) (pc := 12) hx hb hts inV hown hK.1 hP q7 eq7 rfl 5 (by decide) (hts _ wd_427) (fun _ h9 => h9) rfl dV_baseline_12 ?_
  rcases hE8 : xR σ6 105 0 0 with _ | j9
  · replace hf := hq_n hE8 hf
    refine W.eq (g2 := F0 m 15 ls [.null]) rfl ?_
    exact nomatch hf
  · replace hf := hq_s hE8 hf
    have hm10 : (1, j9) ∈ dom := (cq_0_5 hC hm0 hE8)
    refine W.eq (g2 := F0 m 15 ls [.ref (ad 1 j9)]) rfl ?_
    obtain ⟨q11, hq11, eq11⟩ := at_1 (ad := ad) (ca := ca) (σ := σ6) hm10
    refine vp_callSi (pc := 15) (W.runV (As := []) (rest := []) ⟨hx, hb, hml, hown, hts⟩ (t_B_pagesTaken l dC dI ad ca dom σ6 j9 hm10 hN hC (B_pagesTaken σ6 j9) rfl) (cwV 0 hts (gV wd_375 wd_376 wd_377 wd_378 wd_374) rfl rfl rfl (by decide +kernel) ⟨Nat.le_of_ble_eq_true rfl, Nat.le_of_ble_eq_true rfl⟩) ⟨hR_blind, va_recv (q := (RB, TB, 3)) (q0 := q11) (ci := 1) hK.1 hP rfl eq11, hR_pre hP hK hG⟩ rfl rfl hl.1 rfl (lv_room (Nat.le_of_ble_eq_true rfl)) dV_baseline_15 ⟨Nat.le_of_ble_eq_true rfl, Nat.le_of_ble_eq_true rfl⟩) (fun r9 hr9 => ?_)
    refine W.eq (g2 := F0 m 18 ls [.int (B_pagesTaken σ6 j9)]) (by rw [hr9]) ?_
    refine lv_istore (pc := 18) hx hb dV_baseline_18 hl (by decide) rfl (fun ls hl => ?_)
    have hl : lv_has ls 6 [(4, .int (B_pagesTaken σ6 j9)), (3, .int y5), (0, .ref (ad 0 0)), (1, .int a1), (2, .int a2)] := hl
    refine lv_aload_n (pc := 20) hx hb dV_baseline_20 rfl (lv_at hl 2 rfl) ?_
    refine lv_iload_n (pc := 21) hx hb dV_baseline_21 rfl (lv_at hl 1 rfl) ?_
    refine lv_iload (pc := 22) hx hb dV_baseline_22 (lv_at hl 0 rfl) ?_
    obtain ⟨q12, hq12, eq12⟩ := at_0 (ad := ad) (ca := ca) (σ := σ6) hm0
    obtain ⟨⟨y13o, σ14⟩, hy13, hf⟩ := ob hf
    rcases y13o with _ | y13
    · have h9 := ex9_x hf
      subst h9
      have hFc := w9_free hD hS hA
      exact tPassV (pc := 24) (As := [.int y5, .int (B_pagesTaken σ6 j9)]) (rest := []) ⟨hx, hb, hml, hown, hts⟩ (x_V_mayWrite l dC dI ad ca dom H.size σ6 y5 (B_pagesTaken σ6 j9) hm0 hN hC σ14 hfl hy13) (cwV 2 hts (gV wd_491 wd_492 wd_493 wd_254 wd_490) rfl rfl rfl (by decide +kernel) ⟨Nat.le_of_ble_eq_true rfl, Nat.le_of_ble_eq_true rfl⟩) ⟨hX_blind, va_recv (q := (RV, TV, 9)) (q0 := q12) (ci := 0) hK.1 hP rfl eq12, hX_pre hP hK hD hG hE hS hSA⟩ rfl hl.1 rfl (lv_room (Nat.le_of_ble_eq_true rfl)) dV_baseline_24 ⟨Nat.le_of_ble_eq_true rfl, Nat.le_of_ble_eq_true rfl⟩ hno hlocks hS (fun x h => hFc _ h) (fun H1 h => ⟨h.1, h.2.1.weaken (fun _ _ _ z => hFc _ z), h.2.2⟩)
    replace hf := ex9_s hf
    have hFc := w9_free hD hS hA
    refine va_calli (pc := 24) (va_runV (As := [.int y5, .int (B_pagesTaken σ6 j9)]) (rest := []) ⟨hx, hb, hml, hown, hts⟩ (t_V_mayWrite l dC dI ad ca dom H.size σ6 y5 (B_pagesTaken σ6 j9) hm0 hN hC y13 σ14 hy13) (cwV 2 hts (gV wd_491 wd_492 wd_493 wd_254 wd_490) rfl rfl rfl (by decide +kernel) ⟨Nat.le_of_ble_eq_true rfl, Nat.le_of_ble_eq_true rfl⟩) ⟨hW_blind, va_recv (q := (RV, TV, 9)) (q0 := q12) (ci := 0) hK.1 hP rfl eq12, hW_pre hP hK hD hG⟩ rfl rfl hl.1 rfl (lv_room (Nat.le_of_ble_eq_true rfl)) dV_baseline_24 ⟨Nat.le_of_ble_eq_true rfl, Nat.le_of_ble_eq_true rfl⟩) hS (fun q _ h => hFc q h) hFc (fun r9 u t H1 locs ht hvm hr9 hB hz1 hk1 hS => ?_)
    obtain ⟨hP, hD, hC⟩ := hB
    rw [ht] at hP
    replace hD := hD.weaken (fun _ _ _ h => hFc _ h)
    generalize H1 = H at hP hS ⊢
    refine W.eq (g2 := F0 m 27 ls [.int y13]) (by rw [hr9]) ?_
    refine lv_if_ne (pc := 27) (tgt := 32) hx hb dV_baseline_27 rfl (fun h15 => ?_) (fun h15 => ?_)
    · replace hf := ite_f h15 hf
      refine lv_aload_n (pc := 32) hx hb dV_baseline_32 rfl (lv_at hl 2 rfl) ?_
      obtain ⟨q16, hq16, eq16⟩ := at_0 (ad := ad) (ca := ca) (σ := σ14) hm0
      refine va_get (D := (dC, dI)) (cl := kCl) (C := RV) (T := TV) (N := 9) (pc := 33) hx hb hts inV hown hK.1 hP q16 eq16 rfl 5 (by decide) (hts _ wd_427) (fun _ h9 => h9) rfl dV_baseline_33 ?_
      rcases hE17 : xR σ14 105 0 0 with _ | j18
      · replace hf := hq_n hE17 hf
        refine W.eq (g2 := F0 m 36 ls [.null]) rfl ?_
        refine lv_astoreN (pc := 36) hx hb dV_baseline_36 hl (by decide) rfl (fun ls hl => ?_)
        have hl : lv_has ls 6 [(5, .null), (4, .int (B_pagesTaken σ6 j9)), (3, .int y5), (0, .ref (ad 0 0)), (1, .int a1), (2, .int a2)] := hl
        refine lv_aload_n (pc := 38) hx hb dV_baseline_38 rfl (lv_at hl 3 rfl) ?_
        obtain ⟨q19, hq19, eq19⟩ := at_0 (ad := ad) (ca := ca) (σ := σ14) hm0
        refine va_get (D := (dC, dI)) (cl := kCl) (C := RV) (T := TV) (N := 9) (pc := 39) hx hb hts inV hown hK.1 hP q19 eq19 rfl 4 (by decide) (hts _ wd_322) (fun _ h9 => h9) rfl dV_baseline_39 ?_
        refine lv_iload_n (pc := 42) hx hb dV_baseline_42 rfl (lv_at hl 4 rfl) ?_
        refine lv_aloadN (pc := 43) hx hb dV_baseline_43 (lv_at hl 0 rfl) ?_
        exact nomatch hf
      · replace hf := hq_s hE17 hf
        have hm21 : (1, j18) ∈ dom := (cq_0_5 hC hm0 hE17)
        refine W.eq (g2 := F0 m 36 ls [.ref (ad 1 j18)]) rfl ?_
        refine lv_astore (pc := 36) hx hb dV_baseline_36 hl (by decide) rfl (fun ls hl => ?_)
        have hl : lv_has ls 6 [(5, .ref (ad 1 j18)), (4, .int (B_pagesTaken σ6 j9)), (3, .int y5), (0, .ref (ad 0 0)), (1, .int a1), (2, .int a2)] := hl
        refine lv_aload_n (pc := 38) hx hb dV_baseline_38 rfl (lv_at hl 3 rfl) ?_
        obtain ⟨q22, hq22, eq22⟩ := at_0 (ad := ad) (ca := ca) (σ := σ14) hm0
        refine va_get (D := (dC, dI)) (cl := kCl) (C := RV) (T := TV) (N := 9) (pc := 39) hx hb hts inV hown hK.1 hP q22 eq22 rfl 4 (by decide) (hts _ wd_322) (fun _ h9 => h9) rfl dV_baseline_39 ?_
        refine lv_iload_n (pc := 42) hx hb dV_baseline_42 rfl (lv_at hl 4 rfl) ?_
        refine lv_aload (pc := 43) hx hb dV_baseline_43 (lv_at hl 0 rfl) ?_
        obtain ⟨hv24, hf⟩ := ite_s hf
        obtain ⟨q25, hq25, eq25⟩ := at_10 (ad := ad) (ca := ca) (σ := σ14) (cm_0_4 hC hm0)
        obtain ⟨q26, hq26, eq26⟩ := at_1 (ad := ad) (ca := ca) (σ := σ14) hm21
        refine va_astq (D := (dC, dI)) (cl := kCl) (r := (RB, TB, 3)) (pc := 45) hx hb (hK.2 10 0 (.object "DrawingVault$Baseline") (cm_0_4 hC hm0) rfl) hP hD hS q25 0 q26 1 eq25 rfl eq26 rfl (hv24) dV_baseline_45 (fun H locs hP hD hS => ?_)
        have hCn := cs_10 (j := 0) (k := (a1).toNatClampNeg) (v := some j18) hC (fun _ z => Option.some.inj z ▸ hm21)
        obtain ⟨σ23, hσ23, hf⟩ := lt_9 hf
        obtain ⟨hP, hD⟩ := w9_rR 10 rfl hN hq25 hσ23 (pa_10) hP hD
        have hC : clo dom σ23.2.2 := by rw [hσ23]; exact hCn
        refine lv_aload_n (pc := 46) hx hb dV_baseline_46 rfl (lv_at hl 3 rfl) ?_
        refine nt9 ?_ hf
        repeat (first | exact nt_n | exact nt_s | refine nt_i ?_ ?_ | (refine nt_b (fun y => ?_); obtain ⟨y1, y2⟩ := y; dsimp only) | refine nt_b (fun y => ?_) | refine nt_l (fun y => ?_) | refine nt_q ?_ (fun y => ?_))
    · replace hf := ite_t h15 hf
      refine lv_iconst (pc := 30) (v := (-1)) hx hb dV_baseline_30 (by decide) ?_
      exact nomatch hf
