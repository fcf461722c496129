abbrev cL_drawing : ByteArray := method_4_code
abbrev yL_drawing : MethodName := ⟨"DrawingVaultLaw", "drawing", "(LDrawingVault;I[J)I"⟩
theorem dL_drawing_0 : decode cL_drawing 0 = .ok (.aload_n 2, 1) := by decide +kernel
theorem dL_drawing_1 : decode cL_drawing 1 = .ok (.iconst 0, 1) := by decide +kernel
theorem dL_drawing_2 : decode cL_drawing 2 = .ok (.aload_n 0, 1) := by decide +kernel
theorem dL_drawing_3 : decode cL_drawing 3 = .ok (.iload_n 1, 1) := by decide +kernel
theorem dL_drawing_4 : decode cL_drawing 4 = .ok (.invokevirtual 15, 3) := by decide +kernel
theorem dL_drawing_7 : decode cL_drawing 7 = .ok (.i2l, 1) := by decide +kernel
theorem dL_drawing_8 : decode cL_drawing 8 = .ok (.lastore, 1) := by decide +kernel
theorem dL_drawing_9 : decode cL_drawing 9 = .ok (.goto 6, 3) := by decide +kernel
theorem dL_drawing_12 : decode cL_drawing 12 = .ok (.astore_n 3, 1) := by decide +kernel
theorem dL_drawing_13 : decode cL_drawing 13 = .ok (.iconst 1, 1) := by decide +kernel
theorem dL_drawing_14 : decode cL_drawing 14 = .ok (.ireturn, 1) := by decide +kernel
theorem dL_drawing_15 : decode cL_drawing 15 = .ok (.iconst 0, 1) := by decide +kernel
theorem dL_drawing_16 : decode cL_drawing 16 = .ok (.ireturn, 1) := by decide +kernel
abbrev cL_checkIn : ByteArray := method_11_code
abbrev yL_checkIn : MethodName := ⟨"DrawingVaultLaw", "checkIn", "(LDrawingVault;II[J)I"⟩
theorem dL_checkIn_0 : decode cL_checkIn 0 = .ok (.aload_n 3, 1) := by decide +kernel
theorem dL_checkIn_1 : decode cL_checkIn 1 = .ok (.iconst 0, 1) := by decide +kernel
theorem dL_checkIn_2 : decode cL_checkIn 2 = .ok (.aload_n 0, 1) := by decide +kernel
theorem dL_checkIn_3 : decode cL_checkIn 3 = .ok (.iload_n 1, 1) := by decide +kernel
theorem dL_checkIn_4 : decode cL_checkIn 4 = .ok (.iload_n 2, 1) := by decide +kernel
theorem dL_checkIn_5 : decode cL_checkIn 5 = .ok (.invokevirtual 40, 3) := by decide +kernel
theorem dL_checkIn_8 : decode cL_checkIn 8 = .ok (.i2l, 1) := by decide +kernel
theorem dL_checkIn_9 : decode cL_checkIn 9 = .ok (.lastore, 1) := by decide +kernel
theorem dL_checkIn_10 : decode cL_checkIn 10 = .ok (.goto 7, 3) := by decide +kernel
theorem dL_checkIn_13 : decode cL_checkIn 13 = .ok (.astore 4, 2) := by decide +kernel
theorem dL_checkIn_15 : decode cL_checkIn 15 = .ok (.iconst 1, 1) := by decide +kernel
theorem dL_checkIn_16 : decode cL_checkIn 16 = .ok (.ireturn, 1) := by decide +kernel
theorem dL_checkIn_17 : decode cL_checkIn 17 = .ok (.iconst 0, 1) := by decide +kernel
theorem dL_checkIn_18 : decode cL_checkIn 18 = .ok (.ireturn, 1) := by decide +kernel
abbrev cL_baseline : ByteArray := method_15_code
abbrev yL_baseline : MethodName := ⟨"DrawingVaultLaw", "baseline", "(LDrawingVault;II[J)I"⟩
theorem dL_baseline_0 : decode cL_baseline 0 = .ok (.aload_n 3, 1) := by decide +kernel
theorem dL_baseline_1 : decode cL_baseline 1 = .ok (.iconst 0, 1) := by decide +kernel
theorem dL_baseline_2 : decode cL_baseline 2 = .ok (.aload_n 0, 1) := by decide +kernel
theorem dL_baseline_3 : decode cL_baseline 3 = .ok (.iload_n 1, 1) := by decide +kernel
theorem dL_baseline_4 : decode cL_baseline 4 = .ok (.iload_n 2, 1) := by decide +kernel
theorem dL_baseline_5 : decode cL_baseline 5 = .ok (.invokevirtual 53, 3) := by decide +kernel
theorem dL_baseline_8 : decode cL_baseline 8 = .ok (.i2l, 1) := by decide +kernel
theorem dL_baseline_9 : decode cL_baseline 9 = .ok (.lastore, 1) := by decide +kernel
theorem dL_baseline_10 : decode cL_baseline 10 = .ok (.goto 7, 3) := by decide +kernel
theorem dL_baseline_13 : decode cL_baseline 13 = .ok (.astore 4, 2) := by decide +kernel
theorem dL_baseline_15 : decode cL_baseline 15 = .ok (.iconst 1, 1) := by decide +kernel
theorem dL_baseline_16 : decode cL_baseline 16 = .ok (.ireturn, 1) := by decide +kernel
theorem dL_baseline_17 : decode cL_baseline 17 = .ok (.iconst 0, 1) := by decide +kernel
theorem dL_baseline_18 : decode cL_baseline 18 = .ok (.ireturn, 1) := by decide +kernel
theorem wd_762 : (.code ⟨"DrawingVault", "drawing", "(I)I"⟩ prog_1_method_3_code 4 (Option.some .int) : Cond) ∈ aw := aw_in (tb_2 (List.mem_of_getElem? (i := 115) rfl)) rfl
theorem wd_763 : (.methodLink "DrawingVaultLaw" 15 ⟨"DrawingVault", "drawing", "(I)I"⟩ : Cond) ∈ aw := aw_in (tb_2 (List.mem_of_getElem? (i := 112) rfl)) rfl
theorem wd_764 : (.instanceMethod ⟨"DrawingVault", "drawing", "(I)I"⟩ : Cond) ∈ aw := aw_in (tb_2 (List.mem_of_getElem? (i := 113) rfl)) rfl
theorem wd_765 : (.selects "DrawingVault" ⟨"DrawingVault", "drawing", "(I)I"⟩ ⟨"DrawingVault", "drawing", "(I)I"⟩ : Cond) ∈ aw := aw_in (tb_2 (List.mem_of_getElem? (i := 114) rfl)) rfl
theorem wd_766 : (.code ⟨"DrawingVault", "checkIn", "(II)I"⟩ prog_1_method_10_code 6 (Option.some .int) : Cond) ∈ aw := aw_in (tb_3 (List.mem_of_getElem? (i := 71) rfl)) rfl
theorem wd_767 : (.methodLink "DrawingVaultLaw" 40 ⟨"DrawingVault", "checkIn", "(II)I"⟩ : Cond) ∈ aw := aw_in (tb_3 (List.mem_of_getElem? (i := 68) rfl)) rfl
theorem wd_768 : (.instanceMethod ⟨"DrawingVault", "checkIn", "(II)I"⟩ : Cond) ∈ aw := aw_in (tb_3 (List.mem_of_getElem? (i := 69) rfl)) rfl
theorem wd_769 : (.selects "DrawingVault" ⟨"DrawingVault", "checkIn", "(II)I"⟩ ⟨"DrawingVault", "checkIn", "(II)I"⟩ : Cond) ∈ aw := aw_in (tb_3 (List.mem_of_getElem? (i := 70) rfl)) rfl
theorem wd_770 : (.code ⟨"DrawingVault", "baseline", "(II)I"⟩ prog_1_method_14_code 6 (Option.some .int) : Cond) ∈ aw := aw_in (tb_3 (List.mem_of_getElem? (i := 164) rfl)) rfl
theorem wd_771 : (.methodLink "DrawingVaultLaw" 53 ⟨"DrawingVault", "baseline", "(II)I"⟩ : Cond) ∈ aw := aw_in (tb_3 (List.mem_of_getElem? (i := 161) rfl)) rfl
theorem wd_772 : (.instanceMethod ⟨"DrawingVault", "baseline", "(II)I"⟩ : Cond) ∈ aw := aw_in (tb_3 (List.mem_of_getElem? (i := 162) rfl)) rfl
theorem wd_773 : (.selects "DrawingVault" ⟨"DrawingVault", "baseline", "(II)I"⟩ ⟨"DrawingVault", "baseline", "(II)I"⟩ : Cond) ∈ aw := aw_in (tb_3 (List.mem_of_getElem? (i := 163) rfl)) rfl

def L_drawing (n : Nat) (σ : hT) (a1 : Int32) (nw : Nat) : Option (Int32 × hT) := Option.bind (V_drawing n σ a1 nw) fun ⟨y2o, σ3⟩ => cx9 y2o (some (1, σ3)) fun y2 => lt9 (sL σ3 24 0 0 ((y2).toInt64)) fun σ7 => some (0, σ7)
set_option maxHeartbeats 4000000 in
set_option maxRecDepth 100000 in
theorem t_L_drawing (l : Launch) (dC : Nat → ClassId) (dI : Nat → Nat → Nat) (ad : Nat → Nat → Nat) (ca : Nat → Nat → ClassId) (dom : List (Nat × Nat)) (sz : Nat) (n : Nat) (σ : hT) (a1 : Int32) (nw : Nat) (hm0 : (0, 0) ∈ dom) (hm2 : (24, 0) ∈ dom) (hfr6 : ∀ r ∈ row6 nw, r ∉ dom) (hfr7 : ∀ r ∈ row7 (12 * nw), r ∉ dom) (hN : dom.Nodup) (hC : clo dom σ.2.2) (hfl : l.stackTraces = false) (ρ : Int32) (σ' : hT) (hf : L_drawing n σ a1 nw = some (ρ, σ')) : Met l yL_drawing (.codeWith yL_drawing cL_drawing 4 (some .int) [(0, 9, 12, 13)] :: aw) ({ frames := 8, cells := 15, slots := 95, locals := 148 }) (hX (dC, dI) sz ad ca dom σ [.ref (ad 0 0), .int a1, .ref (ad 24 0)]) (va_Qi (fun r (_ : ((Nat → Nat → Nat) × (Nat → Nat → ClassId))) => r = ρ) (fun u t => hBn (dC, dI) (va_A (w9 ad ca dom σ) sz) ad dom u.1 u.2 (dmL ρ (xL σ' 24 0 0) dom (row6 nw ++ row7 (12 * nw))) σ' t) (va_A (w9 ad ca dom σ) sz)) 15 95 (va_A (w9 ad ca dom σ) sz) := by
  refine va_MetW (hh := [(0, 9, 12, 13)]) (cc := cL_drawing) (maxL := 4) (ret := (some .int)) (by decide) rfl ?_
  intro p e s m args below meth c s₁ B hml hv
  obtain ⟨rfl, hv⟩ := hv
  obtain ⟨m9, meth9, c9, hn9, g1, g2, -, -, g6, -⟩ := Cond.codeWith_spec (atoms_spec (ws := (.codeWith yL_drawing cL_drawing 4 (some .int) [(0, 9, 12, 13)] :: aw)) B.pre _ List.mem_cons_self)
  cases Option.some.inj (hn9.symm.trans B.named)
  cases Option.some.inj (g1.symm.trans B.method)
  cases Option.some.inj (g2.symm.trans (Stand.of_body B).code)
  have htab := tab1 g6
  have hx := B.exec
  have hb := B.bytes
  have hr := B.returns
  have hts : ∀ w ∈ aw, w.before _ s = true := fun w h => atoms_spec (ws := (.codeWith yL_drawing cL_drawing 4 (some .int) [(0, 9, 12, 13)] :: aw)) B.pre w (List.mem_cons_of_mem _ h)
  have hown : s.vm.findClass RL = some m.cls := findClass_of_methodNamed B.named
  have hlocks := B.notSynchronized
  obtain ⟨hsz, hP, hK, hD0, hG, hE⟩ := hv
  subst hsz
  have hD := hD0.self (sz := s.heap.size)
  generalize hAe : va_A (w9 ad ca dom σ) s.heap.size = A at hD ⊢
  have hSA : ∀ q : Nat, q < s.heap.size → A q → xS ad dom q := fun q h z => by rw [← hAe] at z; exact w9_xS z h
  have hA : ∀ q : Nat, s.heap.size ≤ q → A q := fun q h => by rw [← hAe]; exact Or.inr h
  obtain ⟨H, hH⟩ : ∃ H, H = s.heap := ⟨_, rfl⟩
  have hS : va_S A s.heap H [] := by rw [hH]; exact va_S.rf
  rw [← hH] at hP ⊢
  unfold L_drawing at hf
  have hl := lv_entry ([.ref (ad 0 0), .int a1, .ref (ad 24 0)]) (n := 4) (Nat.le_of_ble_eq_true rfl)
  rw [lg_entry_eq]
  generalize (lg_sl ([.ref (ad 0 0), .int a1, .ref (ad 24 0)]) ++ List.replicate (4 - (lg_sl ([.ref (ad 0 0), .int a1, .ref (ad 24 0)])).length) Slot.unset).toArray = ls at hl ⊢
  have hl : lv_has ls 4 [(0, .ref (ad 0 0)), (1, .int a1), (2, .ref (ad 24 0))] := hl
  refine lv_aload_n (pc := 0) hx hb dL_drawing_0 rfl (lv_at hl 2 rfl) ?_
  refine lv_iconst (pc := 1) (v := 0) hx hb dL_drawing_1 (by decide) ?_
  refine lv_aload_n (pc := 2) hx hb dL_drawing_2 rfl (lv_at hl 0 rfl) ?_
  refine lv_iload_n (pc := 3) hx hb dL_drawing_3 rfl (lv_at hl 1 rfl) ?_
  obtain ⟨q1, hq1, eq1⟩ := at_0 (ad := ad) (ca := ca) (σ := σ) hm0
  obtain ⟨⟨y2o, σ3⟩, hy2, hf⟩ := ob hf
  rcases y2o with _ | y2
  · replace hf := cx_n hf
    have hFc := w9_free hD hS hA
    refine tCatchV (pc := 4) (As := [.int a1]) (rest := [.int 0, .ref (ad 24 0)]) (C := RV) (E := nIS) (name := nIS) ⟨hx, hb, hml, hown, hts⟩ (x_V_drawing l dC dI ad ca dom H.size n σ a1 nw hm0 hN hC σ3 hfl hy2) (cwV 1 hts (gV wd_763 wd_764 wd_765 wd_254 wd_762) rfl rfl rfl (by decide +kernel) ⟨Nat.le_of_ble_eq_true rfl, Nat.le_of_ble_eq_true rfl⟩) ⟨hX_blind, va_recv (q := (RV, TV, 9)) (q0 := q1) (ci := 0) hK.1 hP rfl eq1, hX_pre hP hK hD hG hE hS hSA⟩ rfl hl.1 rfl (lv_room (Nat.le_of_ble_eq_true rfl)) dL_drawing_4 ⟨Nat.le_of_ble_eq_true rfl, Nat.le_of_ble_eq_true rfl⟩ htab (by decide) (by decide) (hts _ wd_704) (va_Nw.use rfl hE.2.1) (fun q4 L9 H1 hq9 hz9 hL9 hB9 hk9 => ?_)
    obtain ⟨hP, hD, hC⟩ := hB9
    replace hD := hD.weaken (fun _ _ _ h => hFc _ h)
    have hS := cS9 hS hz9 hL9 hFc hk9
    generalize H1 = H at hP hS ⊢
    refine W.widen (k := 1) (n := 6) (Nat.le_of_ble_eq_true rfl) (Nat.le_of_ble_eq_true rfl) ?_
    refine lv_astore_n (pc := 12) hx hb dL_drawing_12 rfl hl (by decide) rfl (fun ls hl => ?_)
    have hl : lv_has ls 4 [(3, .ref q4), (0, .ref (ad 0 0)), (1, .int a1), (2, .ref (ad 24 0))] := hl
    refine lv_iconst (pc := 13) (v := 1) hx hb dL_drawing_13 (by decide) ?_
    obtain ⟨h8, h9⟩ := Prod.mk.inj (Option.some.inj hf)
    subst h9
    refine W.widen (k := 15) (n := 95) (Nat.le_of_ble_eq_true rfl) (Nat.le_of_ble_eq_true rfl) ?_
    have hdE : dom = dmL ρ (xL σ3 24 0 0) dom (row6 nw ++ row7 (12 * nw)) := (dmL_n h8.symm).symm
    rw [hdE] at hP hD hK hC hN
    exact W.iret (pc := 14) hx hb hr (fun t ht hW => ⟨⟨_, (ad, ca), rfl, h8, (fun _ _ _ => rfl), by rw [ht]; exact hP, hD, hkt.moved hW.alike hK, hC, hN⟩, hS.F ht⟩) hS.2.2 dL_drawing_14
  replace hf := cx_s hf
  have hFc := w9_free hD hS hA
  refine va_calli (pc := 4) (va_runV (As := [.int a1]) (rest := [.int 0, .ref (ad 24 0)]) ⟨hx, hb, hml, hown, hts⟩ (t_V_drawing l dC dI ad ca dom H.size n σ a1 nw hm0 hfr6 hfr7 hN hC y2 σ3 hy2) (cwV 1 hts (gV wd_763 wd_764 wd_765 wd_254 wd_762) rfl rfl rfl (by decide +kernel) ⟨Nat.le_of_ble_eq_true rfl, Nat.le_of_ble_eq_true rfl⟩) ⟨hW_blind, va_recv (q := (RV, TV, 9)) (q0 := q1) (ci := 0) hK.1 hP rfl eq1, hW_pre hP hK hD hG⟩ rfl rfl hl.1 rfl (lv_room (Nat.le_of_ble_eq_true rfl)) dL_drawing_4 ⟨Nat.le_of_ble_eq_true rfl, Nat.le_of_ble_eq_true rfl⟩) hS (fun q _ h => hFc q h) hFc (fun r9 u t H1 locs ht hvm hr9 hB hz1 hk1 hS => ?_)
  have hCo := hC
  obtain ⟨ad1, ca1⟩ := u
  obtain ⟨ha1, hP, hD, hKn, hC, hN1⟩ := hB
  dsimp only at ha1 hP hD hKn
  rw [ht] at hP
  replace hD := hD.weaken (fun _ _ _ h => hFc _ h)
  have hK1 := hkt.moved hvm.symm hKn
  generalize H1 = H at hP hS ⊢
  refine W.widen (k := 15) (n := 95) (Nat.le_of_ble_eq_true rfl) (Nat.le_of_ble_eq_true rfl) ?_
  obtain ⟨dom1, hd1⟩ : ∃ d, d = dm9 y2 dom (row6 nw ++ row7 (12 * nw)) := ⟨_, rfl⟩
  rw [← hd1] at hP hD hK1 hC hN1
  have hdm1 : ∀ r, r ∈ dom → r ∈ dom1 := fun r h => by rw [hd1]; exact dm9_m h
  have hag1 : ∀ κ j, (κ, j) ∈ dom → ad1 κ j = ad κ j := ha1
  have hdo1 : ∀ r, r ∈ dom → r ∈ dom1 := hdm1
  have hm5x := hm0
  have hm5 : (0, 0) ∈ dom1 := hdm1 _ hm5x
  have hm6x := hm2
  have hm6 : (24, 0) ∈ dom1 := hdm1 _ hm6x
  have hl : lv_has ls 4 [(0, .ref (ad1 0 0)), (1, .int a1), (2, .ref (ad1 24 0))] := by simp only [ha1 0 0 hm5x, ha1 24 0 hm6x]; exact hl
  refine W.eq (g2 := F0 m 7 ls [.int y2, .int 0, .ref (ad1 24 0)]) (by first | rfl | simp only [hr9, ha1 0 0 hm5x, ha1 24 0 hm6x]) ?_
  refine lv_i2l (pc := 7) hx hb dL_drawing_7 rfl ?_
  obtain ⟨q8, hq8, eq8⟩ := at_24 (ad := ad1) (ca := ca1) (σ := σ3) hm6
  refine va_last (D := (dC, dI)) (cl := kCl) (pc := 8) hx hb (hK1.2 24 0 .long hm6 rfl) hP hD hS q8 0 eq8 rfl (vp_in_lit 0 1 (by decide)) dL_drawing_8 (fun H locs hP hD hS => ?_)
  obtain ⟨σ7, hσ7, hf⟩ := lt_9 hf
  obtain ⟨hP, hD⟩ := w9_rL 24 rfl hN1 hq8 hσ7 (pr_24) hP hD
  have hC : clo dom1 σ7.2.2 := by rw [hσ7]; exact hC
  refine lv_goto (pc := 9) (tgt := 15) hx hb dL_drawing_9 rfl ?_
  refine lv_iconst (pc := 15) (v := 0) hx hb dL_drawing_15 (by decide) ?_
  obtain ⟨h8, h9⟩ := Prod.mk.inj (Option.some.inj hf)
  subst h9
  have hdE : dom1 = dmL ρ (xL σ7 24 0 0) dom (row6 nw ++ row7 (12 * nw)) := by rw [hd1, ← h8]; exact dmL_y (by rw [hσ7]; exact sL_self)
  rw [hdE] at hP hD hK1 hC hN1
  exact W.iret (pc := 16) hx hb hr (fun t ht hW => ⟨⟨_, (ad1, ca1), rfl, h8, hag1, by rw [ht]; exact hP, hD, hkt.moved hW.alike hK1, hC, hN1⟩, hS.F ht⟩) hS.2.2 dL_drawing_16
def L_checkIn (n : Nat) (σ : hT) (a1 : Int32) (a2 : Int32) (nw : Nat) : Option (Int32 × hT) := Option.bind (V_checkIn n σ a1 a2 nw) fun ⟨y2o, σ3⟩ => cx9 y2o (some (1, σ3)) fun y2 => lt9 (sL σ3 24 0 0 ((y2).toInt64)) fun σ7 => some (0, σ7)
set_option maxHeartbeats 4000000 in
set_option maxRecDepth 100000 in
theorem t_L_checkIn (l : Launch) (dC : Nat → ClassId) (dI : Nat → Nat → Nat) (ad : Nat → Nat → Nat) (ca : Nat → Nat → ClassId) (dom : List (Nat × Nat)) (sz : Nat) (n : Nat) (σ : hT) (a1 : Int32) (a2 : Int32) (nw : Nat) (hm0 : (0, 0) ∈ dom) (hm3 : (24, 0) ∈ dom) (hfr7 : ∀ r ∈ row7 nw, r ∉ dom) (hN : dom.Nodup) (hC : clo dom σ.2.2) (hfl : l.stackTraces = false) (ρ : Int32) (σ' : hT) (hf : L_checkIn n σ a1 a2 nw = some (ρ, σ')) : Met l yL_checkIn (.codeWith yL_checkIn cL_checkIn 5 (some .int) [(0, 10, 13, 13)] :: aw) ({ frames := 8, cells := 5, slots := 28, locals := 160 }) (hX (dC, dI) sz ad ca dom σ [.ref (ad 0 0), .int a1, .int a2, .ref (ad 24 0)]) (va_Qi (fun r (_ : ((Nat → Nat → Nat) × (Nat → Nat → ClassId))) => r = ρ) (fun u t => hBn (dC, dI) (va_A (w9 ad ca dom σ) sz) ad dom u.1 u.2 (dmL ρ (xL σ' 24 0 0) dom (row7 nw)) σ' t) (va_A (w9 ad ca dom σ) sz)) 5 28 (va_A (w9 ad ca dom σ) sz) := by
  refine va_MetW (hh := [(0, 10, 13, 13)]) (cc := cL_checkIn) (maxL := 5) (ret := (some .int)) (by decide) rfl ?_
  intro p e s m args below meth c s₁ B hml hv
  obtain ⟨rfl, hv⟩ := hv
  obtain ⟨m9, meth9, c9, hn9, g1, g2, -, -, g6, -⟩ := Cond.codeWith_spec (atoms_spec (ws := (.codeWith yL_checkIn cL_checkIn 5 (some .int) [(0, 10, 13, 13)] :: aw)) B.pre _ List.mem_cons_self)
  cases Option.some.inj (hn9.symm.trans B.named)
  cases Option.some.inj (g1.symm.trans B.method)
  cases Option.some.inj (g2.symm.trans (Stand.of_body B).code)
  have htab := tab1 g6
  have hx := B.exec
  have hb := B.bytes
  have hr := B.returns
  have hts : ∀ w ∈ aw, w.before _ s = true := fun w h => atoms_spec (ws := (.codeWith yL_checkIn cL_checkIn 5 (some .int) [(0, 10, 13, 13)] :: aw)) B.pre w (List.mem_cons_of_mem _ h)
  have hown : s.vm.findClass RL = some m.cls := findClass_of_methodNamed B.named
  have hlocks := B.notSynchronized
  obtain ⟨hsz, hP, hK, hD0, hG, hE⟩ := hv
  subst hsz
  have hD := hD0.self (sz := s.heap.size)
  generalize hAe : va_A (w9 ad ca dom σ) s.heap.size = A at hD ⊢
  have hSA : ∀ q : Nat, q < s.heap.size → A q → xS ad dom q := fun q h z => by rw [← hAe] at z; exact w9_xS z h
  have hA : ∀ q : Nat, s.heap.size ≤ q → A q := fun q h => by rw [← hAe]; exact Or.inr h
  obtain ⟨H, hH⟩ : ∃ H, H = s.heap := ⟨_, rfl⟩
  have hS : va_S A s.heap H [] := by rw [hH]; exact va_S.rf
  rw [← hH] at hP ⊢
  unfold L_checkIn at hf
  have hl := lv_entry ([.ref (ad 0 0), .int a1, .int a2, .ref (ad 24 0)]) (n := 5) (Nat.le_of_ble_eq_true rfl)
  rw [lg_entry_eq]
  generalize (lg_sl ([.ref (ad 0 0), .int a1, .int a2, .ref (ad 24 0)]) ++ List.replicate (5 - (lg_sl ([.ref (ad 0 0), .int a1, .int a2, .ref (ad 24 0)])).length) Slot.unset).toArray = ls at hl ⊢
  have hl : lv_has ls 5 [(0, .ref (ad 0 0)), (1, .int a1), (2, .int a2), (3, .ref (ad 24 0))] := hl
  refine lv_aload_n (pc := 0) hx hb dL_checkIn_0 rfl (lv_at hl 3 rfl) ?_
  refine lv_iconst (pc := 1) (v := 0) hx hb dL_checkIn_1 (by decide) ?_
  refine lv_aload_n (pc := 2) hx hb dL_checkIn_2 rfl (lv_at hl 0 rfl) ?_
  refine lv_iload_n (pc := 3) hx hb dL_checkIn_3 rfl (lv_at hl 1 rfl) ?_
  refine lv_iload_n (pc := 4) hx hb dL_checkIn_4 rfl (lv_at hl 2 rfl) ?_
  obtain ⟨q1, hq1, eq1⟩ := at_0 (ad := ad) (ca := ca) (σ := σ) hm0
  obtain ⟨⟨y2o, σ3⟩, hy2, hf⟩ := ob hf
  rcases y2o with _ | y2
  · replace hf := cx_n hf
    have hFc := w9_free hD hS hA
    refine tCatchV (pc := 5) (As := [.int a1, .int a2]) (rest := [.int 0, .ref (ad 24 0)]) (C := RV) (E := nIS) (name := nIS) ⟨hx, hb, hml, hown, hts⟩ (x_V_checkIn l dC dI ad ca dom H.size n σ a1 a2 nw hm0 hN hC σ3 hfl hy2) (cwV 2 hts (gV wd_767 wd_768 wd_769 wd_254 wd_766) rfl rfl rfl (by decide +kernel) ⟨Nat.le_of_ble_eq_true rfl, Nat.le_of_ble_eq_true rfl⟩) ⟨hX_blind, va_recv (q := (RV, TV, 9)) (q0 := q1) (ci := 0) hK.1 hP rfl eq1, hX_pre hP hK hD hG hE hS hSA⟩ rfl hl.1 rfl (lv_room (Nat.le_of_ble_eq_true rfl)) dL_checkIn_5 ⟨Nat.le_of_ble_eq_true rfl, Nat.le_of_ble_eq_true rfl⟩ htab (by decide) (by decide) (hts _ wd_704) (va_Nw.use rfl hE.2.1) (fun q4 L9 H1 hq9 hz9 hL9 hB9 hk9 => ?_)
    obtain ⟨hP, hD, hC⟩ := hB9
    replace hD := hD.weaken (fun _ _ _ h => hFc _ h)
    have hS := cS9 hS hz9 hL9 hFc hk9
    generalize H1 = H at hP hS ⊢
    refine W.widen (k := 1) (n := 6) (Nat.le_of_ble_eq_true rfl) (Nat.le_of_ble_eq_true rfl) ?_
    refine lv_astore (pc := 13) hx hb dL_checkIn_13 hl (by decide) rfl (fun ls hl => ?_)
    have hl : lv_has ls 5 [(4, .ref q4), (0, .ref (ad 0 0)), (1, .int a1), (2, .int a2), (3, .ref (ad 24 0))] := hl
    refine lv_iconst (pc := 15) (v := 1) hx hb dL_checkIn_15 (by decide) ?_
    obtain ⟨h8, h9⟩ := Prod.mk.inj (Option.some.inj hf)
    subst h9
    refine W.widen (k := 5) (n := 28) (Nat.le_of_ble_eq_true rfl) (Nat.le_of_ble_eq_true rfl) ?_
    have hdE : dom = dmL ρ (xL σ3 24 0 0) dom (row7 nw) := (dmL_n h8.symm).symm
    rw [hdE] at hP hD hK hC hN
    exact W.iret (pc := 16) hx hb hr (fun t ht hW => ⟨⟨_, (ad, ca), rfl, h8, (fun _ _ _ => rfl), by rw [ht]; exact hP, hD, hkt.moved hW.alike hK, hC, hN⟩, hS.F ht⟩) hS.2.2 dL_checkIn_16
  replace hf := cx_s hf
  have hFc := w9_free hD hS hA
  refine va_calli (pc := 5) (va_runV (As := [.int a1, .int a2]) (rest := [.int 0, .ref (ad 24 0)]) ⟨hx, hb, hml, hown, hts⟩ (t_V_checkIn l dC dI ad ca dom H.size n σ a1 a2 nw hm0 hfr7 hN hC y2 σ3 hy2) (cwV 2 hts (gV wd_767 wd_768 wd_769 wd_254 wd_766) rfl rfl rfl (by decide +kernel) ⟨Nat.le_of_ble_eq_true rfl, Nat.le_of_ble_eq_true rfl⟩) ⟨hW_blind, va_recv (q := (RV, TV, 9)) (q0 := q1) (ci := 0) hK.1 hP rfl eq1, hW_pre hP hK hD hG⟩ rfl rfl hl.1 rfl (lv_room (Nat.le_of_ble_eq_true rfl)) dL_checkIn_5 ⟨Nat.le_of_ble_eq_true rfl, Nat.le_of_ble_eq_true rfl⟩) hS (fun q _ h => hFc q h) hFc (fun r9 u t H1 locs ht hvm hr9 hB hz1 hk1 hS => ?_)
  have hCo := hC
  obtain ⟨ad1, ca1⟩ := u
  obtain ⟨ha1, hP, hD, hKn, hC, hN1⟩ := hB
  dsimp only at ha1 hP hD hKn
  rw [ht] at hP
  replace hD := hD.weaken (fun _ _ _ h => hFc _ h)
  have hK1 := hkt.moved hvm.symm hKn
  generalize H1 = H at hP hS ⊢
  refine W.widen (k := 5) (n := 28) (Nat.le_of_ble_eq_true rfl) (Nat.le_of_ble_eq_true rfl) ?_
  obtain ⟨dom1, hd1⟩ : ∃ d, d = dm9 y2 dom (row7 nw) := ⟨_, rfl⟩
  rw [← hd1] at hP hD hK1 hC hN1
  have hdm1 : ∀ r, r ∈ dom → r ∈ dom1 := fun r h => by rw [hd1]; exact dm9_m h
  have hag1 : ∀ κ j, (κ, j) ∈ dom → ad1 κ j = ad κ j := ha1
  have hdo1 : ∀ r, r ∈ dom → r ∈ dom1 := hdm1
  have hm5x := hm0
  have hm5 : (0, 0) ∈ dom1 := hdm1 _ hm5x
  have hm6x := hm3
  have hm6 : (24, 0) ∈ dom1 := hdm1 _ hm6x
  have hl : lv_has ls 5 [(0, .ref (ad1 0 0)), (1, .int a1), (2, .int a2), (3, .ref (ad1 24 0))] := by simp only [ha1 0 0 hm5x, ha1 24 0 hm6x]; exact hl
  refine W.eq (g2 := F0 m 8 ls [.int y2, .int 0, .ref (ad1 24 0)]) (by first | rfl | simp only [hr9, ha1 0 0 hm5x, ha1 24 0 hm6x]) ?_
  refine lv_i2l (pc := 8) hx hb dL_checkIn_8 rfl ?_
  obtain ⟨q8, hq8, eq8⟩ := at_24 (ad := ad1) (ca := ca1) (σ := σ3) hm6
  refine va_last (D := (dC, dI)) (cl := kCl) (pc := 9) hx hb (hK1.2 24 0 .long hm6 rfl) hP hD hS q8 0 eq8 rfl (vp_in_lit 0 1 (by decide)) dL_checkIn_9 (fun H locs hP hD hS => ?_)
  obtain ⟨σ7, hσ7, hf⟩ := lt_9 hf
  obtain ⟨hP, hD⟩ := w9_rL 24 rfl hN1 hq8 hσ7 (pr_24) hP hD
  have hC : clo dom1 σ7.2.2 := by rw [hσ7]; exact hC
  refine lv_goto (pc := 10) (tgt := 17) hx hb dL_checkIn_10 rfl ?_
  refine lv_iconst (pc := 17) (v := 0) hx hb dL_checkIn_17 (by decide) ?_
  obtain ⟨h8, h9⟩ := Prod.mk.inj (Option.some.inj hf)
  subst h9
  have hdE : dom1 = dmL ρ (xL σ7 24 0 0) dom (row7 nw) := by rw [hd1, ← h8]; exact dmL_y (by rw [hσ7]; exact sL_self)
  rw [hdE] at hP hD hK1 hC hN1
  exact W.iret (pc := 18) hx hb hr (fun t ht hW => ⟨⟨_, (ad1, ca1), rfl, h8, hag1, by rw [ht]; exact hP, hD, hkt.moved hW.alike hK1, hC, hN1⟩, hS.F ht⟩) hS.2.2 dL_checkIn_18
def L_baseline (n : Nat) (σ : hT) (a1 : Int32) (a2 : Int32) (nw : Nat) : Option (Int32 × hT) := Option.bind (V_baseline n σ a1 a2 nw) fun ⟨y2o, σ3⟩ => cx9 y2o (some (1, σ3)) fun y2 => lt9 (sL σ3 24 0 0 ((y2).toInt64)) fun σ7 => some (0, σ7)
set_option maxHeartbeats 4000000 in
set_option maxRecDepth 100000 in
theorem t_L_baseline (l : Launch) (dC : Nat → ClassId) (dI : Nat → Nat → Nat) (ad : Nat → Nat → Nat) (ca : Nat → Nat → ClassId) (dom : List (Nat × Nat)) (sz : Nat) (n : Nat) (σ : hT) (a1 : Int32) (a2 : Int32) (nw : Nat) (hm0 : (0, 0) ∈ dom) (hm3 : (24, 0) ∈ dom) (hfr1 : ∀ r ∈ row1 nw, r ∉ dom) (hN : dom.Nodup) (hC : clo dom σ.2.2) (hfl : l.stackTraces = false) (ρ : Int32) (σ' : hT) (hf : L_baseline n σ a1 a2 nw = some (ρ, σ')) : Met l yL_baseline (.codeWith yL_baseline cL_baseline 5 (some .int) [(0, 10, 13, 13)] :: aw) ({ frames := 8, cells := 3, slots := 51, locals := 167 }) (hX (dC, dI) sz ad ca dom σ [.ref (ad 0 0), .int a1, .int a2, .ref (ad 24 0)]) (va_Qi (fun r (_ : ((Nat → Nat → Nat) × (Nat → Nat → ClassId))) => r = ρ) (fun u t => hBn (dC, dI) (va_A (w9 ad ca dom σ) sz) ad dom u.1 u.2 (dmL ρ (xL σ' 24 0 0) dom (row1 nw)) σ' t) (va_A (w9 ad ca dom σ) sz)) 3 51 (va_A (w9 ad ca dom σ) sz) := by
  refine va_MetW (hh := [(0, 10, 13, 13)]) (cc := cL_baseline) (maxL := 5) (ret := (some .int)) (by decide) rfl ?_
  intro p e s m args below meth c s₁ B hml hv
  obtain ⟨rfl, hv⟩ := hv
  obtain ⟨m9, meth9, c9, hn9, g1, g2, -, -, g6, -⟩ := Cond.codeWith_spec (atoms_spec (ws := (.codeWith yL_baseline cL_baseline 5 (some .int) [(0, 10, 13, 13)] :: aw)) B.pre _ List.mem_cons_self)
  cases Option.some.inj (hn9.symm.trans B.named)
  cases Option.some.inj (g1.symm.trans B.method)
  cases Option.some.inj (g2.symm.trans (Stand.of_body B).code)
  have htab := tab1 g6
  have hx := B.exec
  have hb := B.bytes
  have hr := B.returns
  have hts : ∀ w ∈ aw, w.before _ s = true := fun w h => atoms_spec (ws := (.codeWith yL_baseline cL_baseline 5 (some .int) [(0, 10, 13, 13)] :: aw)) B.pre w (List.mem_cons_of_mem _ h)
  have hown : s.vm.findClass RL = some m.cls := findClass_of_methodNamed B.named
  have hlocks := B.notSynchronized
  obtain ⟨hsz, hP, hK, hD0, hG, hE⟩ := hv
  subst hsz
  have hD := hD0.self (sz := s.heap.size)
  generalize hAe : va_A (w9 ad ca dom σ) s.heap.size = A at hD ⊢
  have hSA : ∀ q : Nat, q < s.heap.size → A q → xS ad dom q := fun q h z => by rw [← hAe] at z; exact w9_xS z h
  have hA : ∀ q : Nat, s.heap.size ≤ q → A q := fun q h => by rw [← hAe]; exact Or.inr h
  obtain ⟨H, hH⟩ : ∃ H, H = s.heap := ⟨_, rfl⟩
  have hS : va_S A s.heap H [] := by rw [hH]; exact va_S.rf
  rw [← hH] at hP ⊢
  unfold L_baseline at hf
  have hl := lv_entry ([.ref (ad 0 0), .int a1, .int a2, .ref (ad 24 0)]) (n := 5) (Nat.le_of_ble_eq_true rfl)
  rw [lg_entry_eq]
  generalize (lg_sl ([.ref (ad 0 0), .int a1, .int a2, .ref (ad 24 0)]) ++ List.replicate (5 - (lg_sl ([.ref (ad 0 0), .int a1, .int a2, .ref (ad 24 0)])).length) Slot.unset).toArray = ls at hl ⊢
  have hl : lv_has ls 5 [(0, .ref (ad 0 0)), (1, .int a1), (2, .int a2), (3, .ref (ad 24 0))] := hl
  refine lv_aload_n (pc := 0) hx hb dL_baseline_0 rfl (lv_at hl 3 rfl) ?_
  refine lv_iconst (pc := 1) (v := 0) hx hb dL_baseline_1 (by decide) ?_
  refine lv_aload_n (pc := 2) hx hb dL_baseline_2 rfl (lv_at hl 0 rfl) ?_
  refine lv_iload_n (pc := 3) hx hb dL_baseline_3 rfl (lv_at hl 1 rfl) ?_
  refine lv_iload_n (pc := 4) hx hb dL_baseline_4 rfl (lv_at hl 2 rfl) ?_
  obtain ⟨q1, hq1, eq1⟩ := at_0 (ad := ad) (ca := ca) (σ := σ) hm0
  obtain ⟨⟨y2o, σ3⟩, hy2, hf⟩ := ob hf
  rcases y2o with _ | y2
  · replace hf := cx_n hf
    have hFc := w9_free hD hS hA
    refine tCatchV (pc := 5) (As := [.int a1, .int a2]) (rest := [.int 0, .ref (ad 24 0)]) (C := RV) (E := nIS) (name := nIS) ⟨hx, hb, hml, hown, hts⟩ (x_V_baseline l dC dI ad ca dom H.size n σ a1 a2 nw hm0 hN hC σ3 hfl hy2) (cwV 2 hts (gV wd_771 wd_772 wd_773 wd_254 wd_770) rfl rfl rfl (by decide +kernel) ⟨Nat.le_of_ble_eq_true rfl, Nat.le_of_ble_eq_true rfl⟩) ⟨hX_blind, va_recv (q := (RV, TV, 9)) (q0 := q1) (ci := 0) hK.1 hP rfl eq1, hX_pre hP hK hD hG hE hS hSA⟩ rfl hl.1 rfl (lv_room (Nat.le_of_ble_eq_true rfl)) dL_baseline_5 ⟨Nat.le_of_ble_eq_true rfl, Nat.le_of_ble_eq_true rfl⟩ htab (by decide) (by decide) (hts _ wd_704) (va_Nw.use rfl hE.2.1) (fun q4 L9 H1 hq9 hz9 hL9 hB9 hk9 => ?_)
    obtain ⟨hP, hD, hC⟩ := hB9
    replace hD := hD.weaken (fun _ _ _ h => hFc _ h)
    have hS := cS9 hS hz9 hL9 hFc hk9
    generalize H1 = H at hP hS ⊢
    refine W.widen (k := 1) (n := 6) (Nat.le_of_ble_eq_true rfl) (Nat.le_of_ble_eq_true rfl) ?_
    refine lv_astore (pc := 13) hx hb dL_baseline_13 hl (by decide) rfl (fun ls hl => ?_)
    have hl : lv_has ls 5 [(4, .ref q4), (0, .ref (ad 0 0)), (1, .int a1), (2, .int a2), (3, .ref (ad 24 0))] := hl
    refine lv_iconst (pc := 15) (v := 1) hx hb dL_baseline_15 (by decide) ?_
    obtain ⟨h8, h9⟩ := Prod.mk.inj (Option.some.inj hf)
    subst h9
    refine W.widen (k := 3) (n := 51) (Nat.le_of_ble_eq_true rfl) (Nat.le_of_ble_eq_true rfl) ?_
    have hdE : dom = dmL ρ (xL σ3 24 0 0) dom (row1 nw) := (dmL_n h8.symm).symm
    rw [hdE] at hP hD hK hC hN
    exact W.iret (pc := 16) hx hb hr (fun t ht hW => ⟨⟨_, (ad, ca), rfl, h8, (fun _ _ _ => rfl), by rw [ht]; exact hP, hD, hkt.moved hW.alike hK, hC, hN⟩, hS.F ht⟩) hS.2.2 dL_baseline_16
  replace hf := cx_s hf
  have hFc := w9_free hD hS hA
  refine va_calli (pc := 5) (va_runV (As := [.int a1, .int a2]) (rest := [.int 0, .ref (ad 24 0)]) ⟨hx, hb, hml, hown, hts⟩ (t_V_baseline l dC dI ad ca dom H.size n σ a1 a2 nw hm0 hfr1 hN hC y2 σ3 hy2) (cwV 2 hts (gV wd_771 wd_772 wd_773 wd_254 wd_770) rfl rfl rfl (by decide +kernel) ⟨Nat.le_of_ble_eq_true rfl, Nat.le_of_ble_eq_true rfl⟩) ⟨hW_blind, va_recv (q := (RV, TV, 9)) (q0 := q1) (ci := 0) hK.1 hP rfl eq1, hW_pre hP hK hD hG⟩ rfl rfl hl.1 rfl (lv_room (Nat.le_of_ble_eq_true rfl)) dL_baseline_5 ⟨Nat.le_of_ble_eq_true rfl, Nat.le_of_ble_eq_true rfl⟩) hS (fun q _ h => hFc q h) hFc (fun r9 u t H1 locs ht hvm hr9 hB hz1 hk1 hS => ?_)
  have hCo := hC
  obtain ⟨ad1, ca1⟩ := u
  obtain ⟨ha1, hP, hD, hKn, hC, hN1⟩ := hB
  dsimp only at ha1 hP hD hKn
  rw [ht] at hP
  replace hD := hD.weaken (fun _ _ _ h => hFc _ h)
  have hK1 := hkt.moved hvm.symm hKn
  generalize H1 = H at hP hS ⊢
  refine W.widen (k := 3) (n := 51) (Nat.le_of_ble_eq_true rfl) (Nat.le_of_ble_eq_true rfl) ?_
  obtain ⟨dom1, hd1⟩ : ∃ d, d = dm9 y2 dom (row1 nw) := ⟨_, rfl⟩
  rw [← hd1] at hP hD hK1 hC hN1
  have hdm1 : ∀ r, r ∈ dom → r ∈ dom1 := fun r h => by rw [hd1]; exact dm9_m h
  have hag1 : ∀ κ j, (κ, j) ∈ dom → ad1 κ j = ad κ j := ha1
  have hdo1 : ∀ r, r ∈ dom → r ∈ dom1 := hdm1
  have hm5x := hm0
  have hm5 : (0, 0) ∈ dom1 := hdm1 _ hm5x
  have hm6x := hm3
  have hm6 : (24, 0) ∈ dom1 := hdm1 _ hm6x
  have hl : lv_has ls 5 [(0, .ref (ad1 0 0)), (1, .int a1), (2, .int a2), (3, .ref (ad1 24 0))] := by simp only [ha1 0 0 hm5x, ha1 24 0 hm6x]; exact hl
  refine W.eq (g2 := F0 m 8 ls [.int y2, .int 0, .ref (ad1 24 0)]) (by first | rfl | simp only [hr9, ha1 0 0 hm5x, ha1 24 0 hm6x]) ?_
  refine lv_i2l (pc := 8) hx hb dL_baseline_8 rfl ?_
  obtain ⟨q8, hq8, eq8⟩ := at_24 (ad := ad1) (ca := ca1) (σ := σ3) hm6
  refine va_last (D := (dC, dI)) (cl := kCl) (pc := 9) hx hb (hK1.2 24 0 .long hm6 rfl) hP hD hS q8 0 eq8 rfl (vp_in_lit 0 1 (by decide)) dL_baseline_9 (fun H locs hP hD hS => ?_)
  obtain ⟨σ7, hσ7, hf⟩ := lt_9 hf
  obtain ⟨hP, hD⟩ := w9_rL 24 rfl hN1 hq8 hσ7 (pr_24) hP hD
  have hC : clo dom1 σ7.2.2 := by rw [hσ7]; exact hC
  refine lv_goto (pc := 10) (tgt := 17) hx hb dL_baseline_10 rfl ?_
  refine lv_iconst (pc := 17) (v := 0) hx hb dL_baseline_17 (by decide) ?_
  obtain ⟨h8, h9⟩ := Prod.mk.inj (Option.some.inj hf)
  subst h9
  have hdE : dom1 = dmL ρ (xL σ7 24 0 0) dom (row1 nw) := by rw [hd1, ← h8]; exact dmL_y (by rw [hσ7]; exact sL_self)
  rw [hdE] at hP hD hK1 hC hN1
  exact W.iret (pc := 18) hx hb hr (fun t ht hW => ⟨⟨_, (ad1, ca1), rfl, h8, hag1, by rw [ht]; exact hP, hD, hkt.moved hW.alike hK1, hC, hN1⟩, hS.F ht⟩) hS.2.2 dL_baseline_18
