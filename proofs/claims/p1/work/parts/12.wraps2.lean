abbrev cL_look : ByteArray := method_16_code
abbrev yL_look : MethodName := ⟨"DrawingVaultLaw", "look", "(LDrawingVault;III[J)I"⟩
theorem dL_look_0 : decode cL_look 0 = .ok (.aload 4, 2) := by decide +kernel
theorem dL_look_2 : decode cL_look 2 = .ok (.iconst 0, 1) := by decide +kernel
theorem dL_look_3 : decode cL_look 3 = .ok (.aload_n 0, 1) := by decide +kernel
theorem dL_look_4 : decode cL_look 4 = .ok (.iload_n 1, 1) := by decide +kernel
theorem dL_look_5 : decode cL_look 5 = .ok (.iload_n 2, 1) := by decide +kernel
theorem dL_look_6 : decode cL_look 6 = .ok (.iload_n 3, 1) := by decide +kernel
theorem dL_look_7 : decode cL_look 7 = .ok (.invokevirtual 56, 3) := by decide +kernel
theorem dL_look_15 : decode cL_look 15 = .ok (.astore 5, 2) := by decide +kernel
theorem dL_look_17 : decode cL_look 17 = .ok (.iconst 1, 1) := by decide +kernel
theorem dL_look_18 : decode cL_look 18 = .ok (.ireturn, 1) := by decide +kernel
abbrev cL_reference : ByteArray := method_17_code
abbrev yL_reference : MethodName := ⟨"DrawingVaultLaw", "reference", "(LDrawingVault;IIII[J)I"⟩
theorem dL_reference_0 : decode cL_reference 0 = .ok (.aload 5, 2) := by decide +kernel
theorem dL_reference_2 : decode cL_reference 2 = .ok (.iconst 0, 1) := by decide +kernel
theorem dL_reference_3 : decode cL_reference 3 = .ok (.aload_n 0, 1) := by decide +kernel
theorem dL_reference_4 : decode cL_reference 4 = .ok (.iload_n 1, 1) := by decide +kernel
theorem dL_reference_5 : decode cL_reference 5 = .ok (.iload_n 2, 1) := by decide +kernel
theorem dL_reference_6 : decode cL_reference 6 = .ok (.iload_n 3, 1) := by decide +kernel
theorem dL_reference_7 : decode cL_reference 7 = .ok (.iload 4, 2) := by decide +kernel
theorem dL_reference_9 : decode cL_reference 9 = .ok (.invokevirtual 62, 3) := by decide +kernel
theorem dL_reference_17 : decode cL_reference 17 = .ok (.astore 6, 2) := by decide +kernel
theorem dL_reference_19 : decode cL_reference 19 = .ok (.iconst 1, 1) := by decide +kernel
theorem dL_reference_20 : decode cL_reference 20 = .ok (.ireturn, 1) := by decide +kernel
abbrev cL_about : ByteArray := method_18_code
abbrev yL_about : MethodName := ⟨"DrawingVaultLaw", "about", "(LDrawingVault;II[J)I"⟩
theorem dL_about_0 : decode cL_about 0 = .ok (.aload_n 3, 1) := by decide +kernel
theorem dL_about_1 : decode cL_about 1 = .ok (.iconst 0, 1) := by decide +kernel
theorem dL_about_2 : decode cL_about 2 = .ok (.aload_n 0, 1) := by decide +kernel
theorem dL_about_3 : decode cL_about 3 = .ok (.iload_n 1, 1) := by decide +kernel
theorem dL_about_4 : decode cL_about 4 = .ok (.iload_n 2, 1) := by decide +kernel
theorem dL_about_5 : decode cL_about 5 = .ok (.invokevirtual 66, 3) := by decide +kernel
theorem dL_about_13 : decode cL_about 13 = .ok (.astore 4, 2) := by decide +kernel
theorem dL_about_15 : decode cL_about 15 = .ok (.iconst 1, 1) := by decide +kernel
theorem dL_about_16 : decode cL_about 16 = .ok (.ireturn, 1) := by decide +kernel
abbrev cL_inBaseline : ByteArray := method_19_code
abbrev yL_inBaseline : MethodName := ⟨"DrawingVaultLaw", "inBaseline", "(LDrawingVault;III[J)I"⟩
theorem dL_inBaseline_0 : decode cL_inBaseline 0 = .ok (.aload 4, 2) := by decide +kernel
theorem dL_inBaseline_2 : decode cL_inBaseline 2 = .ok (.iconst 0, 1) := by decide +kernel
theorem dL_inBaseline_3 : decode cL_inBaseline 3 = .ok (.aload_n 0, 1) := by decide +kernel
theorem dL_inBaseline_4 : decode cL_inBaseline 4 = .ok (.iload_n 1, 1) := by decide +kernel
theorem dL_inBaseline_5 : decode cL_inBaseline 5 = .ok (.iload_n 2, 1) := by decide +kernel
theorem dL_inBaseline_6 : decode cL_inBaseline 6 = .ok (.iload_n 3, 1) := by decide +kernel
theorem dL_inBaseline_7 : decode cL_inBaseline 7 = .ok (.invokevirtual 69, 3) := by decide +kernel
theorem dL_inBaseline_15 : decode cL_inBaseline 15 = .ok (.astore 5, 2) := by decide +kernel
theorem dL_inBaseline_17 : decode cL_inBaseline 17 = .ok (.iconst 1, 1) := by decide +kernel
theorem dL_inBaseline_18 : decode cL_inBaseline 18 = .ok (.ireturn, 1) := by decide +kernel
abbrev cL_difference : ByteArray := method_20_code
abbrev yL_difference : MethodName := ⟨"DrawingVaultLaw", "difference", "(LDrawingVault;IIII[J)I"⟩
theorem dL_difference_0 : decode cL_difference 0 = .ok (.aload 5, 2) := by decide +kernel
theorem dL_difference_2 : decode cL_difference 2 = .ok (.iconst 0, 1) := by decide +kernel
theorem dL_difference_3 : decode cL_difference 3 = .ok (.aload_n 0, 1) := by decide +kernel
theorem dL_difference_4 : decode cL_difference 4 = .ok (.iload_n 1, 1) := by decide +kernel
theorem dL_difference_5 : decode cL_difference 5 = .ok (.iload_n 2, 1) := by decide +kernel
theorem dL_difference_6 : decode cL_difference 6 = .ok (.iload_n 3, 1) := by decide +kernel
theorem dL_difference_7 : decode cL_difference 7 = .ok (.iload 4, 2) := by decide +kernel
theorem dL_difference_9 : decode cL_difference 9 = .ok (.invokevirtual 72, 3) := by decide +kernel
theorem dL_difference_17 : decode cL_difference 17 = .ok (.astore 6, 2) := by decide +kernel
theorem dL_difference_19 : decode cL_difference 19 = .ok (.iconst 1, 1) := by decide +kernel
theorem dL_difference_20 : decode cL_difference 20 = .ok (.ireturn, 1) := by decide +kernel
theorem wd_371 : (.methodLink "DrawingVaultLaw" 56 ⟨"DrawingVault", "look", "(III)I"⟩ : Cond) ∈ aw := aw_in (tb_3 (List.mem_of_getElem? (i := 194) rfl)) rfl
theorem wd_372 : (.instanceMethod ⟨"DrawingVault", "look", "(III)I"⟩ : Cond) ∈ aw := aw_in (tb_3 (List.mem_of_getElem? (i := 195) rfl)) rfl
theorem wd_373 : (.selects "DrawingVault" ⟨"DrawingVault", "look", "(III)I"⟩ ⟨"DrawingVault", "look", "(III)I"⟩ : Cond) ∈ aw := aw_in (tb_3 (List.mem_of_getElem? (i := 196) rfl)) rfl
theorem wd_374 : (.code ⟨"DrawingVault", "look", "(III)I"⟩ prog_1_method_16_code 5 (Option.some .int) : Cond) ∈ aw := aw_in (tb_3 (List.mem_of_getElem? (i := 197) rfl)) rfl
theorem wd_375 : (.classLink "DrawingVaultLaw" 60 "java/lang/IndexOutOfBoundsException" : Cond) ∈ aw := aw_in (tb_3 (List.mem_of_getElem? (i := 193) rfl)) rfl
theorem wd_376 : (.methodLink "DrawingVaultLaw" 62 ⟨"DrawingVault", "reference", "(IIII)I"⟩ : Cond) ∈ aw := aw_in (tb_3 (List.mem_of_getElem? (i := 223) rfl)) rfl
theorem wd_377 : (.instanceMethod ⟨"DrawingVault", "reference", "(IIII)I"⟩ : Cond) ∈ aw := aw_in (tb_3 (List.mem_of_getElem? (i := 224) rfl)) rfl
theorem wd_378 : (.selects "DrawingVault" ⟨"DrawingVault", "reference", "(IIII)I"⟩ ⟨"DrawingVault", "reference", "(IIII)I"⟩ : Cond) ∈ aw := aw_in (tb_3 (List.mem_of_getElem? (i := 225) rfl)) rfl
theorem wd_379 : (.code ⟨"DrawingVault", "reference", "(IIII)I"⟩ prog_1_method_17_code 8 (Option.some .int) : Cond) ∈ aw := aw_in (tb_3 (List.mem_of_getElem? (i := 226) rfl)) rfl
theorem wd_380 : (.methodLink "DrawingVaultLaw" 66 ⟨"DrawingVault", "about", "(II)I"⟩ : Cond) ∈ aw := aw_in (tb_3 (List.mem_of_getElem? (i := 230) rfl)) rfl
theorem wd_381 : (.instanceMethod ⟨"DrawingVault", "about", "(II)I"⟩ : Cond) ∈ aw := aw_in (tb_3 (List.mem_of_getElem? (i := 231) rfl)) rfl
theorem wd_382 : (.selects "DrawingVault" ⟨"DrawingVault", "about", "(II)I"⟩ ⟨"DrawingVault", "about", "(II)I"⟩ : Cond) ∈ aw := aw_in (tb_3 (List.mem_of_getElem? (i := 232) rfl)) rfl
theorem wd_383 : (.code ⟨"DrawingVault", "about", "(II)I"⟩ prog_1_method_18_code 4 (Option.some .int) : Cond) ∈ aw := aw_in (tb_3 (List.mem_of_getElem? (i := 233) rfl)) rfl
theorem wd_384 : (.methodLink "DrawingVaultLaw" 69 ⟨"DrawingVault", "inBaseline", "(III)I"⟩ : Cond) ∈ aw := aw_in (tb_4 (List.mem_of_getElem? (i := 0) rfl)) rfl
theorem wd_385 : (.instanceMethod ⟨"DrawingVault", "inBaseline", "(III)I"⟩ : Cond) ∈ aw := aw_in (tb_4 (List.mem_of_getElem? (i := 1) rfl)) rfl
theorem wd_386 : (.selects "DrawingVault" ⟨"DrawingVault", "inBaseline", "(III)I"⟩ ⟨"DrawingVault", "inBaseline", "(III)I"⟩ : Cond) ∈ aw := aw_in (tb_4 (List.mem_of_getElem? (i := 2) rfl)) rfl
theorem wd_387 : (.code ⟨"DrawingVault", "inBaseline", "(III)I"⟩ prog_1_method_19_code 6 (Option.some .int) : Cond) ∈ aw := aw_in (tb_4 (List.mem_of_getElem? (i := 3) rfl)) rfl
theorem wd_388 : (.methodLink "DrawingVaultLaw" 72 ⟨"DrawingVault", "difference", "(IIII)I"⟩ : Cond) ∈ aw := aw_in (tb_4 (List.mem_of_getElem? (i := 11) rfl)) rfl
theorem wd_389 : (.instanceMethod ⟨"DrawingVault", "difference", "(IIII)I"⟩ : Cond) ∈ aw := aw_in (tb_4 (List.mem_of_getElem? (i := 12) rfl)) rfl
theorem wd_390 : (.selects "DrawingVault" ⟨"DrawingVault", "difference", "(IIII)I"⟩ ⟨"DrawingVault", "difference", "(IIII)I"⟩ : Cond) ∈ aw := aw_in (tb_4 (List.mem_of_getElem? (i := 13) rfl)) rfl
theorem wd_391 : (.code ⟨"DrawingVault", "difference", "(IIII)I"⟩ prog_1_method_21_code 9 (Option.some .int) : Cond) ∈ aw := aw_in (tb_4 (List.mem_of_getElem? (i := 14) rfl)) rfl

set_option maxHeartbeats 4000000 in
set_option maxRecDepth 100000 in
theorem l_look (l : Launch) (dC : Nat → ClassId) (dI : Nat → Nat → Nat) (sz : Nat) (x : Nat) (rt : Nat) (dr : Nat) (bs : Nat) (df : Nat) (ch : Nat) (pg : Nat) (rs : Int32) (ou : Nat) (cU : ClassId) (fo : Nat → Int64) (dd : Int32) (vv : Int32) (ww : Int32) (hfl : l.stackTraces = false) : Met l yL_look (.codeWith yL_look cL_look 6 (some .int) [(0, 12, 15, 60)] :: aw) ({ frames := 7, cells := 1, slots := 6, locals := 105 }) (pWy (dC, dI) sz [(x, .inr (0, [.ref rt, .ref dr, .int 0, .int 0, .ref bs, .ref df, .ref ch, .ref pg, .int rs])), (ou, .inl (cU, 1, .inr (.inl fo)))] [(cU, .long)] [.ref x, .int dd, .int vv, .int ww, .ref ou]) (va_Qi (fun r (_ : Unit) => r = 1) (fun _ t => wW (dC, dI) (va_A [(x, .inr (0, [.ref rt, .ref dr, .int 0, .int 0, .ref bs, .ref df, .ref ch, .ref pg, .int rs])), (ou, .inl (cU, 1, .inr (.inl fo)))] sz) [] [] t) (va_A [(x, .inr (0, [.ref rt, .ref dr, .int 0, .int 0, .ref bs, .ref df, .ref ch, .ref pg, .int rs])), (ou, .inl (cU, 1, .inr (.inl fo)))] sz)) 1 6 (va_A [(x, .inr (0, [.ref rt, .ref dr, .int 0, .int 0, .ref bs, .ref df, .ref ch, .ref pg, .int rs])), (ou, .inl (cU, 1, .inr (.inl fo)))] sz) := by
  refine va_MetW (hh := [(0, 12, 15, 60)]) (cc := cL_look) (maxL := 6) (ret := (some .int)) (by decide) rfl ?_
  intro p e s m args below meth c s₁ B hml hv
  obtain ⟨rfl, hv⟩ := hv
  obtain ⟨m9, meth9, c9, hn9, g1, g2, -, -, g6, -⟩ := Cond.codeWith_spec (atoms_spec (ws := (.codeWith yL_look cL_look 6 (some .int) [(0, 12, 15, 60)] :: aw)) B.pre _ List.mem_cons_self)
  cases Option.some.inj (hn9.symm.trans B.named)
  cases Option.some.inj (g1.symm.trans B.method)
  cases Option.some.inj (g2.symm.trans (Stand.of_body B).code)
  have htab := tab1 g6
  have hx := B.exec
  have hb := B.bytes
  have hr := B.returns
  have hts : ∀ w ∈ aw, w.before _ s = true := fun w h => atoms_spec (ws := (.codeWith yL_look cL_look 6 (some .int) [(0, 12, 15, 60)] :: aw)) B.pre w (List.mem_cons_of_mem _ h)
  have hown : s.vm.findClass RL = some m.cls := findClass_of_methodNamed B.named
  have hlocks := B.notSynchronized
  obtain ⟨hsz, hP, hK, hD0, hE⟩ := hv
  subst hsz
  have hD := hD0.self (sz := s.heap.size)
  generalize hAe : va_A [(x, .inr (0, [.ref rt, .ref dr, .int 0, .int 0, .ref bs, .ref df, .ref ch, .ref pg, .int rs])), (ou, .inl (cU, 1, .inr (.inl fo)))] s.heap.size = A at hD ⊢
  have hA : ∀ q : Nat, s.heap.size ≤ q → A q := fun q h => by rw [← hAe]; exact Or.inr h
  obtain ⟨H, hH⟩ : ∃ H, H = s.heap := ⟨_, rfl⟩
  have hS : va_S A s.heap H [] := by rw [hH]; exact va_S.rf
  rw [← hH] at hP ⊢
  have hP : va_P (dC, dI) kCl [(x, .inr (0, [.ref rt, .ref dr, .int 0, .int 0, .ref bs, .ref df, .ref ch, .ref pg, .int rs])), (ou, .inl (cU, 1, .inr (.inl fo)))] H := hP
  have hl := lv_entry ([.ref x, .int dd, .int vv, .int ww, .ref ou]) (n := 6) (Nat.le_of_ble_eq_true rfl)
  rw [lg_entry_eq]
  generalize (lg_sl ([.ref x, .int dd, .int vv, .int ww, .ref ou]) ++ List.replicate (6 - (lg_sl ([.ref x, .int dd, .int vv, .int ww, .ref ou])).length) Slot.unset).toArray = ls at hl ⊢
  have hl : lv_has ls 6 [(0, .ref x), (1, .int dd), (2, .int vv), (3, .int ww), (4, .ref ou)] := hl
  refine lv_aload (pc := 0) hx hb dL_look_0 (lv_at hl 4 rfl) ?_
  refine lv_iconst (pc := 2) (v := 0) hx hb dL_look_2 (by decide) ?_
  refine lv_aload_n (pc := 3) hx hb dL_look_3 rfl (lv_at hl 0 rfl) ?_
  refine lv_iload_n (pc := 4) hx hb dL_look_4 rfl (lv_at hl 1 rfl) ?_
  refine lv_iload_n (pc := 5) hx hb dL_look_5 rfl (lv_at hl 2 rfl) ?_
  refine lv_iload_n (pc := 6) hx hb dL_look_6 rfl (lv_at hl 3 rfl) ?_
  refine tCall (pc := 7) (As := [.int dd, .int vv, .int ww]) (rest := [.int 0, .ref ou]) (C := RV) (E := nIX) (name := nIX) ⟨hx, hb, hml, hown, hts⟩ (v_look l dC dI x rt dr bs df ch pg rs dd vv ww hfl) (cwV 3 hts (gV wd_371 wd_372 wd_373 wd_35 wd_374) rfl rfl rfl (by decide +kernel) ⟨Nat.le_of_ble_eq_true rfl, Nat.le_of_ble_eq_true rfl⟩) ⟨pRx_blind, va_recv (q := (RV, TV, 9)) (q0 := 0) (ci := 0) hK hP rfl rfl, pRx_pre (hP.sub (ws' := [(x, .inr (0, [.ref rt, .ref dr, .int 0, .int 0, .ref bs, .ref df, .ref ch, .ref pg, .int rs]))]) [0] rfl) (hK.sub (tys' := []) [] rfl) (fun U hU hW => xE_warm hW (fun q hq => by rw [hU, hH]) hE)⟩ rfl hl.1 rfl (lv_room (Nat.le_of_ble_eq_true rfl)) dL_look_7 ⟨Nat.le_of_ble_eq_true rfl, Nat.le_of_ble_eq_true rfl⟩ htab (by decide) (by decide) (hts _ wd_375) (va_Nw.use rfl hE.1) (fun q1 H1 hz hk => ?_)
  have hS : va_S A s.heap H1 [] := ⟨by rw [← hH]; exact hz, fun z h1 _ => by rw [← hH] at h1 ⊢; exact hk z h1, fun _ h => nomatch h⟩
  have hP : va_P (dC, dI) kCl ([] : va_W) H1 := va_nil
  have hD : va_D A ([] : va_W) := va_nilD
  refine W.eq (g2 := F0 m 15 ls [.ref q1]) rfl ?_
  refine W.widen (k := 1) (n := 6) (Nat.le_of_ble_eq_true rfl) (Nat.le_of_ble_eq_true rfl) ?_
  refine lv_astore (pc := 15) hx hb dL_look_15 hl (by decide) rfl (fun ls hl => ?_)
  have hl : lv_has ls 6 [(5, .ref q1), (0, .ref x), (1, .int dd), (2, .int vv), (3, .int ww), (4, .ref ou)] := hl
  refine lv_iconst (pc := 17) (v := 1) hx hb dL_look_17 (by decide) ?_
  have hP9 := hP.sub (ws' := []) [] rfl
  have hD9 := hD.sub (ws' := []) [] (by decide) rfl
  have hK9 := hK.sub (tys' := []) [] rfl
  exact W.iret (pc := 18) hx hb hr (fun t ht hW => ⟨⟨_, (), rfl, rfl, by rw [ht]; exact hP9, va_K.moved hW.alike hK9, hD9⟩, hS.F ht⟩) hS.2.2 dL_look_18
set_option maxHeartbeats 4000000 in
set_option maxRecDepth 100000 in
theorem l_reference (l : Launch) (dC : Nat → ClassId) (dI : Nat → Nat → Nat) (sz : Nat) (x : Nat) (rt : Nat) (dr : Nat) (bs : Nat) (df : Nat) (ch : Nat) (pg : Nat) (rs : Int32) (ou : Nat) (cU : ClassId) (fo : Nat → Int64) (dd : Int32) (vv : Int32) (kk : Int32) (ww : Int32) (hfl : l.stackTraces = false) : Met l yL_reference (.codeWith yL_reference cL_reference 7 (some .int) [(0, 14, 17, 60)] :: aw) ({ frames := 7, cells := 1, slots := 6, locals := 108 }) (pWy (dC, dI) sz [(x, .inr (0, [.ref rt, .ref dr, .int 0, .int 0, .ref bs, .ref df, .ref ch, .ref pg, .int rs])), (ou, .inl (cU, 1, .inr (.inl fo)))] [(cU, .long)] [.ref x, .int dd, .int vv, .int kk, .int ww, .ref ou]) (va_Qi (fun r (_ : Unit) => r = 1) (fun _ t => wW (dC, dI) (va_A [(x, .inr (0, [.ref rt, .ref dr, .int 0, .int 0, .ref bs, .ref df, .ref ch, .ref pg, .int rs])), (ou, .inl (cU, 1, .inr (.inl fo)))] sz) [] [] t) (va_A [(x, .inr (0, [.ref rt, .ref dr, .int 0, .int 0, .ref bs, .ref df, .ref ch, .ref pg, .int rs])), (ou, .inl (cU, 1, .inr (.inl fo)))] sz)) 1 6 (va_A [(x, .inr (0, [.ref rt, .ref dr, .int 0, .int 0, .ref bs, .ref df, .ref ch, .ref pg, .int rs])), (ou, .inl (cU, 1, .inr (.inl fo)))] sz) := by
  refine va_MetW (hh := [(0, 14, 17, 60)]) (cc := cL_reference) (maxL := 7) (ret := (some .int)) (by decide) rfl ?_
  intro p e s m args below meth c s₁ B hml hv
  obtain ⟨rfl, hv⟩ := hv
  obtain ⟨m9, meth9, c9, hn9, g1, g2, -, -, g6, -⟩ := Cond.codeWith_spec (atoms_spec (ws := (.codeWith yL_reference cL_reference 7 (some .int) [(0, 14, 17, 60)] :: aw)) B.pre _ List.mem_cons_self)
  cases Option.some.inj (hn9.symm.trans B.named)
  cases Option.some.inj (g1.symm.trans B.method)
  cases Option.some.inj (g2.symm.trans (Stand.of_body B).code)
  have htab := tab1 g6
  have hx := B.exec
  have hb := B.bytes
  have hr := B.returns
  have hts : ∀ w ∈ aw, w.before _ s = true := fun w h => atoms_spec (ws := (.codeWith yL_reference cL_reference 7 (some .int) [(0, 14, 17, 60)] :: aw)) B.pre w (List.mem_cons_of_mem _ h)
  have hown : s.vm.findClass RL = some m.cls := findClass_of_methodNamed B.named
  have hlocks := B.notSynchronized
  obtain ⟨hsz, hP, hK, hD0, hE⟩ := hv
  subst hsz
  have hD := hD0.self (sz := s.heap.size)
  generalize hAe : va_A [(x, .inr (0, [.ref rt, .ref dr, .int 0, .int 0, .ref bs, .ref df, .ref ch, .ref pg, .int rs])), (ou, .inl (cU, 1, .inr (.inl fo)))] s.heap.size = A at hD ⊢
  have hA : ∀ q : Nat, s.heap.size ≤ q → A q := fun q h => by rw [← hAe]; exact Or.inr h
  obtain ⟨H, hH⟩ : ∃ H, H = s.heap := ⟨_, rfl⟩
  have hS : va_S A s.heap H [] := by rw [hH]; exact va_S.rf
  rw [← hH] at hP ⊢
  have hP : va_P (dC, dI) kCl [(x, .inr (0, [.ref rt, .ref dr, .int 0, .int 0, .ref bs, .ref df, .ref ch, .ref pg, .int rs])), (ou, .inl (cU, 1, .inr (.inl fo)))] H := hP
  have hl := lv_entry ([.ref x, .int dd, .int vv, .int kk, .int ww, .ref ou]) (n := 7) (Nat.le_of_ble_eq_true rfl)
  rw [lg_entry_eq]
  generalize (lg_sl ([.ref x, .int dd, .int vv, .int kk, .int ww, .ref ou]) ++ List.replicate (7 - (lg_sl ([.ref x, .int dd, .int vv, .int kk, .int ww, .ref ou])).length) Slot.unset).toArray = ls at hl ⊢
  have hl : lv_has ls 7 [(0, .ref x), (1, .int dd), (2, .int vv), (3, .int kk), (4, .int ww), (5, .ref ou)] := hl
  refine lv_aload (pc := 0) hx hb dL_reference_0 (lv_at hl 5 rfl) ?_
  refine lv_iconst (pc := 2) (v := 0) hx hb dL_reference_2 (by decide) ?_
  refine lv_aload_n (pc := 3) hx hb dL_reference_3 rfl (lv_at hl 0 rfl) ?_
  refine lv_iload_n (pc := 4) hx hb dL_reference_4 rfl (lv_at hl 1 rfl) ?_
  refine lv_iload_n (pc := 5) hx hb dL_reference_5 rfl (lv_at hl 2 rfl) ?_
  refine lv_iload_n (pc := 6) hx hb dL_reference_6 rfl (lv_at hl 3 rfl) ?_
  refine lv_iload (pc := 7) hx hb dL_reference_7 (lv_at hl 4 rfl) ?_
  refine tCall (pc := 9) (As := [.int dd, .int vv, .int kk, .int ww]) (rest := [.int 0, .ref ou]) (C := RV) (E := nIX) (name := nIX) ⟨hx, hb, hml, hown, hts⟩ (v_reference l dC dI x rt dr bs df ch pg rs dd vv kk ww hfl) (cwV 4 hts (gV wd_376 wd_377 wd_378 wd_35 wd_379) rfl rfl rfl (by decide +kernel) ⟨Nat.le_of_ble_eq_true rfl, Nat.le_of_ble_eq_true rfl⟩) ⟨pRx_blind, va_recv (q := (RV, TV, 9)) (q0 := 0) (ci := 0) hK hP rfl rfl, pRx_pre (hP.sub (ws' := [(x, .inr (0, [.ref rt, .ref dr, .int 0, .int 0, .ref bs, .ref df, .ref ch, .ref pg, .int rs]))]) [0] rfl) (hK.sub (tys' := []) [] rfl) (fun U hU hW => xE_warm hW (fun q hq => by rw [hU, hH]) hE)⟩ rfl hl.1 rfl (lv_room (Nat.le_of_ble_eq_true rfl)) dL_reference_9 ⟨Nat.le_of_ble_eq_true rfl, Nat.le_of_ble_eq_true rfl⟩ htab (by decide) (by decide) (hts _ wd_375) (va_Nw.use rfl hE.1) (fun q1 H1 hz hk => ?_)
  have hS : va_S A s.heap H1 [] := ⟨by rw [← hH]; exact hz, fun z h1 _ => by rw [← hH] at h1 ⊢; exact hk z h1, fun _ h => nomatch h⟩
  have hP : va_P (dC, dI) kCl ([] : va_W) H1 := va_nil
  have hD : va_D A ([] : va_W) := va_nilD
  refine W.eq (g2 := F0 m 17 ls [.ref q1]) rfl ?_
  refine W.widen (k := 1) (n := 6) (Nat.le_of_ble_eq_true rfl) (Nat.le_of_ble_eq_true rfl) ?_
  refine lv_astore (pc := 17) hx hb dL_reference_17 hl (by decide) rfl (fun ls hl => ?_)
  have hl : lv_has ls 7 [(6, .ref q1), (0, .ref x), (1, .int dd), (2, .int vv), (3, .int kk), (4, .int ww), (5, .ref ou)] := hl
  refine lv_iconst (pc := 19) (v := 1) hx hb dL_reference_19 (by decide) ?_
  have hP9 := hP.sub (ws' := []) [] rfl
  have hD9 := hD.sub (ws' := []) [] (by decide) rfl
  have hK9 := hK.sub (tys' := []) [] rfl
  exact W.iret (pc := 20) hx hb hr (fun t ht hW => ⟨⟨_, (), rfl, rfl, by rw [ht]; exact hP9, va_K.moved hW.alike hK9, hD9⟩, hS.F ht⟩) hS.2.2 dL_reference_20
set_option maxHeartbeats 4000000 in
set_option maxRecDepth 100000 in
theorem l_about (l : Launch) (dC : Nat → ClassId) (dI : Nat → Nat → Nat) (sz : Nat) (x : Nat) (rt : Nat) (dr : Nat) (bs : Nat) (df : Nat) (ch : Nat) (pg : Nat) (rs : Int32) (ou : Nat) (cU : ClassId) (fo : Nat → Int64) (dd : Int32) (ww : Int32) (hfl : l.stackTraces = false) : Met l yL_about (.codeWith yL_about cL_about 5 (some .int) [(0, 10, 13, 60)] :: aw) ({ frames := 7, cells := 1, slots := 6, locals := 104 }) (pWy (dC, dI) sz [(x, .inr (0, [.ref rt, .ref dr, .int 0, .int 0, .ref bs, .ref df, .ref ch, .ref pg, .int rs])), (ou, .inl (cU, 1, .inr (.inl fo)))] [(cU, .long)] [.ref x, .int dd, .int ww, .ref ou]) (va_Qi (fun r (_ : Unit) => r = 1) (fun _ t => wW (dC, dI) (va_A [(x, .inr (0, [.ref rt, .ref dr, .int 0, .int 0, .ref bs, .ref df, .ref ch, .ref pg, .int rs])), (ou, .inl (cU, 1, .inr (.inl fo)))] sz) [] [] t) (va_A [(x, .inr (0, [.ref rt, .ref dr, .int 0, .int 0, .ref bs, .ref df, .ref ch, .ref pg, .int rs])), (ou, .inl (cU, 1, .inr (.inl fo)))] sz)) 1 6 (va_A [(x, .inr (0, [.ref rt, .ref dr, .int 0, .int 0, .ref bs, .ref df, .ref ch, .ref pg, .int rs])), (ou, .inl (cU, 1, .inr (.inl fo)))] sz) := by
  refine va_MetW (hh := [(0, 10, 13, 60)]) (cc := cL_about) (maxL := 5) (ret := (some .int)) (by decide) rfl ?_
  intro p e s m args below meth c s₁ B hml hv
  obtain ⟨rfl, hv⟩ := hv
  obtain ⟨m9, meth9, c9, hn9, g1, g2, -, -, g6, -⟩ := Cond.codeWith_spec (atoms_spec (ws := (.codeWith yL_about cL_about 5 (some .int) [(0, 10, 13, 60)] :: aw)) B.pre _ List.mem_cons_self)
  cases Option.some.inj (hn9.symm.trans B.named)
  cases Option.some.inj (g1.symm.trans B.method)
  cases Option.some.inj (g2.symm.trans (Stand.of_body B).code)
  have htab := tab1 g6
  have hx := B.exec
  have hb := B.bytes
  have hr := B.returns
  have hts : ∀ w ∈ aw, w.before _ s = true := fun w h => atoms_spec (ws := (.codeWith yL_about cL_about 5 (some .int) [(0, 10, 13, 60)] :: aw)) B.pre w (List.mem_cons_of_mem _ h)
  have hown : s.vm.findClass RL = some m.cls := findClass_of_methodNamed B.named
  have hlocks := B.notSynchronized
  obtain ⟨hsz, hP, hK, hD0, hE⟩ := hv
  subst hsz
  have hD := hD0.self (sz := s.heap.size)
  generalize hAe : va_A [(x, .inr (0, [.ref rt, .ref dr, .int 0, .int 0, .ref bs, .ref df, .ref ch, .ref pg, .int rs])), (ou, .inl (cU, 1, .inr (.inl fo)))] s.heap.size = A at hD ⊢
  have hA : ∀ q : Nat, s.heap.size ≤ q → A q := fun q h => by rw [← hAe]; exact Or.inr h
  obtain ⟨H, hH⟩ : ∃ H, H = s.heap := ⟨_, rfl⟩
  have hS : va_S A s.heap H [] := by rw [hH]; exact va_S.rf
  rw [← hH] at hP ⊢
  have hP : va_P (dC, dI) kCl [(x, .inr (0, [.ref rt, .ref dr, .int 0, .int 0, .ref bs, .ref df, .ref ch, .ref pg, .int rs])), (ou, .inl (cU, 1, .inr (.inl fo)))] H := hP
  have hl := lv_entry ([.ref x, .int dd, .int ww, .ref ou]) (n := 5) (Nat.le_of_ble_eq_true rfl)
  rw [lg_entry_eq]
  generalize (lg_sl ([.ref x, .int dd, .int ww, .ref ou]) ++ List.replicate (5 - (lg_sl ([.ref x, .int dd, .int ww, .ref ou])).length) Slot.unset).toArray = ls at hl ⊢
  have hl : lv_has ls 5 [(0, .ref x), (1, .int dd), (2, .int ww), (3, .ref ou)] := hl
  refine lv_aload_n (pc := 0) hx hb dL_about_0 rfl (lv_at hl 3 rfl) ?_
  refine lv_iconst (pc := 1) (v := 0) hx hb dL_about_1 (by decide) ?_
  refine lv_aload_n (pc := 2) hx hb dL_about_2 rfl (lv_at hl 0 rfl) ?_
  refine lv_iload_n (pc := 3) hx hb dL_about_3 rfl (lv_at hl 1 rfl) ?_
  refine lv_iload_n (pc := 4) hx hb dL_about_4 rfl (lv_at hl 2 rfl) ?_
  refine tCall (pc := 5) (As := [.int dd, .int ww]) (rest := [.int 0, .ref ou]) (C := RV) (E := nIX) (name := nIX) ⟨hx, hb, hml, hown, hts⟩ (v_about l dC dI x rt dr bs df ch pg rs dd ww hfl) (cwV 2 hts (gV wd_380 wd_381 wd_382 wd_35 wd_383) rfl rfl rfl (by decide +kernel) ⟨Nat.le_of_ble_eq_true rfl, Nat.le_of_ble_eq_true rfl⟩) ⟨pRx_blind, va_recv (q := (RV, TV, 9)) (q0 := 0) (ci := 0) hK hP rfl rfl, pRx_pre (hP.sub (ws' := [(x, .inr (0, [.ref rt, .ref dr, .int 0, .int 0, .ref bs, .ref df, .ref ch, .ref pg, .int rs]))]) [0] rfl) (hK.sub (tys' := []) [] rfl) (fun U hU hW => xE_warm hW (fun q hq => by rw [hU, hH]) hE)⟩ rfl hl.1 rfl (lv_room (Nat.le_of_ble_eq_true rfl)) dL_about_5 ⟨Nat.le_of_ble_eq_true rfl, Nat.le_of_ble_eq_true rfl⟩ htab (by decide) (by decide) (hts _ wd_375) (va_Nw.use rfl hE.1) (fun q1 H1 hz hk => ?_)
  have hS : va_S A s.heap H1 [] := ⟨by rw [← hH]; exact hz, fun z h1 _ => by rw [← hH] at h1 ⊢; exact hk z h1, fun _ h => nomatch h⟩
  have hP : va_P (dC, dI) kCl ([] : va_W) H1 := va_nil
  have hD : va_D A ([] : va_W) := va_nilD
  refine W.eq (g2 := F0 m 13 ls [.ref q1]) rfl ?_
  refine W.widen (k := 1) (n := 6) (Nat.le_of_ble_eq_true rfl) (Nat.le_of_ble_eq_true rfl) ?_
  refine lv_astore (pc := 13) hx hb dL_about_13 hl (by decide) rfl (fun ls hl => ?_)
  have hl : lv_has ls 5 [(4, .ref q1), (0, .ref x), (1, .int dd), (2, .int ww), (3, .ref ou)] := hl
  refine lv_iconst (pc := 15) (v := 1) hx hb dL_about_15 (by decide) ?_
  have hP9 := hP.sub (ws' := []) [] rfl
  have hD9 := hD.sub (ws' := []) [] (by decide) rfl
  have hK9 := hK.sub (tys' := []) [] rfl
  exact W.iret (pc := 16) hx hb hr (fun t ht hW => ⟨⟨_, (), rfl, rfl, by rw [ht]; exact hP9, va_K.moved hW.alike hK9, hD9⟩, hS.F ht⟩) hS.2.2 dL_about_16
set_option maxHeartbeats 4000000 in
set_option maxRecDepth 100000 in
theorem l_inBaseline (l : Launch) (dC : Nat → ClassId) (dI : Nat → Nat → Nat) (sz : Nat) (x : Nat) (rt : Nat) (dr : Nat) (bs : Nat) (df : Nat) (ch : Nat) (pg : Nat) (rs : Int32) (cB : ClassId) (ou : Nat) (cU : ClassId) (fo : Nat → Int64) (nn : Int32) (kk : Int32) (ww : Int32) (hfl : l.stackTraces = false) : Met l yL_inBaseline (.codeWith yL_inBaseline cL_inBaseline 6 (some .int) [(0, 12, 15, 60)] :: aw) ({ frames := 7, cells := 1, slots := 6, locals := 106 }) (pWy (dC, dI) sz [(x, .inr (0, [.ref rt, .ref dr, .int 0, .int 0, .ref bs, .ref df, .ref ch, .ref pg, .int rs])), (bs, .inl (cB, 10, .inr (.inr (.inr (.inr (fun _ => none)))))), (ou, .inl (cU, 1, .inr (.inl fo)))] [(cB, .object "DrawingVault$Baseline"), (cU, .long)] [.ref x, .int nn, .int kk, .int ww, .ref ou]) (va_Qi (fun r (_ : Unit) => r = 1) (fun _ t => wW (dC, dI) (va_A [(x, .inr (0, [.ref rt, .ref dr, .int 0, .int 0, .ref bs, .ref df, .ref ch, .ref pg, .int rs])), (bs, .inl (cB, 10, .inr (.inr (.inr (.inr (fun _ => none)))))), (ou, .inl (cU, 1, .inr (.inl fo)))] sz) [] [] t) (va_A [(x, .inr (0, [.ref rt, .ref dr, .int 0, .int 0, .ref bs, .ref df, .ref ch, .ref pg, .int rs])), (bs, .inl (cB, 10, .inr (.inr (.inr (.inr (fun _ => none)))))), (ou, .inl (cU, 1, .inr (.inl fo)))] sz)) 1 6 (va_A [(x, .inr (0, [.ref rt, .ref dr, .int 0, .int 0, .ref bs, .ref df, .ref ch, .ref pg, .int rs])), (bs, .inl (cB, 10, .inr (.inr (.inr (.inr (fun _ => none)))))), (ou, .inl (cU, 1, .inr (.inl fo)))] sz) := by
  refine va_MetW (hh := [(0, 12, 15, 60)]) (cc := cL_inBaseline) (maxL := 6) (ret := (some .int)) (by decide) rfl ?_
  intro p e s m args below meth c s₁ B hml hv
  obtain ⟨rfl, hv⟩ := hv
  obtain ⟨m9, meth9, c9, hn9, g1, g2, -, -, g6, -⟩ := Cond.codeWith_spec (atoms_spec (ws := (.codeWith yL_inBaseline cL_inBaseline 6 (some .int) [(0, 12, 15, 60)] :: aw)) B.pre _ List.mem_cons_self)
  cases Option.some.inj (hn9.symm.trans B.named)
  cases Option.some.inj (g1.symm.trans B.method)
  cases Option.some.inj (g2.symm.trans (Stand.of_body B).code)
  have htab := tab1 g6
  have hx := B.exec
  have hb := B.bytes
  have hr := B.returns
  have hts : ∀ w ∈ aw, w.before _ s = true := fun w h => atoms_spec (ws := (.codeWith yL_inBaseline cL_inBaseline 6 (some .int) [(0, 12, 15, 60)] :: aw)) B.pre w (List.mem_cons_of_mem _ h)
  have hown : s.vm.findClass RL = some m.cls := findClass_of_methodNamed B.named
  have hlocks := B.notSynchronized
  obtain ⟨hsz, hP, hK, hD0, hE⟩ := hv
  subst hsz
  have hD := hD0.self (sz := s.heap.size)
  generalize hAe : va_A [(x, .inr (0, [.ref rt, .ref dr, .int 0, .int 0, .ref bs, .ref df, .ref ch, .ref pg, .int rs])), (bs, .inl (cB, 10, .inr (.inr (.inr (.inr (fun _ => none)))))), (ou, .inl (cU, 1, .inr (.inl fo)))] s.heap.size = A at hD ⊢
  have hA : ∀ q : Nat, s.heap.size ≤ q → A q := fun q h => by rw [← hAe]; exact Or.inr h
  obtain ⟨H, hH⟩ : ∃ H, H = s.heap := ⟨_, rfl⟩
  have hS : va_S A s.heap H [] := by rw [hH]; exact va_S.rf
  rw [← hH] at hP ⊢
  have hP : va_P (dC, dI) kCl [(x, .inr (0, [.ref rt, .ref dr, .int 0, .int 0, .ref bs, .ref df, .ref ch, .ref pg, .int rs])), (bs, .inl (cB, 10, .inr (.inr (.inr (.inr (fun _ => none)))))), (ou, .inl (cU, 1, .inr (.inl fo)))] H := hP
  have hl := lv_entry ([.ref x, .int nn, .int kk, .int ww, .ref ou]) (n := 6) (Nat.le_of_ble_eq_true rfl)
  rw [lg_entry_eq]
  generalize (lg_sl ([.ref x, .int nn, .int kk, .int ww, .ref ou]) ++ List.replicate (6 - (lg_sl ([.ref x, .int nn, .int kk, .int ww, .ref ou])).length) Slot.unset).toArray = ls at hl ⊢
  have hl : lv_has ls 6 [(0, .ref x), (1, .int nn), (2, .int kk), (3, .int ww), (4, .ref ou)] := hl
  refine lv_aload (pc := 0) hx hb dL_inBaseline_0 (lv_at hl 4 rfl) ?_
  refine lv_iconst (pc := 2) (v := 0) hx hb dL_inBaseline_2 (by decide) ?_
  refine lv_aload_n (pc := 3) hx hb dL_inBaseline_3 rfl (lv_at hl 0 rfl) ?_
  refine lv_iload_n (pc := 4) hx hb dL_inBaseline_4 rfl (lv_at hl 1 rfl) ?_
  refine lv_iload_n (pc := 5) hx hb dL_inBaseline_5 rfl (lv_at hl 2 rfl) ?_
  refine lv_iload_n (pc := 6) hx hb dL_inBaseline_6 rfl (lv_at hl 3 rfl) ?_
  refine tCall (pc := 7) (As := [.int nn, .int kk, .int ww]) (rest := [.int 0, .ref ou]) (C := RV) (E := nIX) (name := nIX) ⟨hx, hb, hml, hown, hts⟩ (v_inBaseline l dC dI x rt dr bs df ch pg rs cB nn kk ww hfl) (cwV 3 hts (gV wd_384 wd_385 wd_386 wd_35 wd_387) rfl rfl rfl (by decide +kernel) ⟨Nat.le_of_ble_eq_true rfl, Nat.le_of_ble_eq_true rfl⟩) ⟨pRx_blind, va_recv (q := (RV, TV, 9)) (q0 := 0) (ci := 0) hK hP rfl rfl, pRx_pre (hP.sub (ws' := [(x, .inr (0, [.ref rt, .ref dr, .int 0, .int 0, .ref bs, .ref df, .ref ch, .ref pg, .int rs])), (bs, .inl (cB, 10, .inr (.inr (.inr (.inr (fun _ => none))))))]) [0, 1] rfl) (hK.sub (tys' := [(cB, .object "DrawingVault$Baseline")]) [0] rfl) (fun U hU hW => xE_warm hW (fun q hq => by rw [hU, hH]) hE)⟩ rfl hl.1 rfl (lv_room (Nat.le_of_ble_eq_true rfl)) dL_inBaseline_7 ⟨Nat.le_of_ble_eq_true rfl, Nat.le_of_ble_eq_true rfl⟩ htab (by decide) (by decide) (hts _ wd_375) (va_Nw.use rfl hE.1) (fun q1 H1 hz hk => ?_)
  have hS : va_S A s.heap H1 [] := ⟨by rw [← hH]; exact hz, fun z h1 _ => by rw [← hH] at h1 ⊢; exact hk z h1, fun _ h => nomatch h⟩
  have hP : va_P (dC, dI) kCl ([] : va_W) H1 := va_nil
  have hD : va_D A ([] : va_W) := va_nilD
  refine W.eq (g2 := F0 m 15 ls [.ref q1]) rfl ?_
  refine W.widen (k := 1) (n := 6) (Nat.le_of_ble_eq_true rfl) (Nat.le_of_ble_eq_true rfl) ?_
  refine lv_astore (pc := 15) hx hb dL_inBaseline_15 hl (by decide) rfl (fun ls hl => ?_)
  have hl : lv_has ls 6 [(5, .ref q1), (0, .ref x), (1, .int nn), (2, .int kk), (3, .int ww), (4, .ref ou)] := hl
  refine lv_iconst (pc := 17) (v := 1) hx hb dL_inBaseline_17 (by decide) ?_
  have hP9 := hP.sub (ws' := []) [] rfl
  have hD9 := hD.sub (ws' := []) [] (by decide) rfl
  have hK9 := hK.sub (tys' := []) [] rfl
  exact W.iret (pc := 18) hx hb hr (fun t ht hW => ⟨⟨_, (), rfl, rfl, by rw [ht]; exact hP9, va_K.moved hW.alike hK9, hD9⟩, hS.F ht⟩) hS.2.2 dL_inBaseline_18
set_option maxHeartbeats 4000000 in
set_option maxRecDepth 100000 in
theorem l_difference (l : Launch) (dC : Nat → ClassId) (dI : Nat → Nat → Nat) (sz : Nat) (x : Nat) (rt : Nat) (dr : Nat) (bs : Nat) (df : Nat) (ch : Nat) (pg : Nat) (rs : Int32) (ou : Nat) (cU : ClassId) (fo : Nat → Int64) (dd : Int32) (vv : Int32) (ov : Int32) (kk : Int32) (hfl : l.stackTraces = false) : Met l yL_difference (.codeWith yL_difference cL_difference 7 (some .int) [(0, 14, 17, 60)] :: aw) ({ frames := 7, cells := 1, slots := 6, locals := 109 }) (pWy (dC, dI) sz [(x, .inr (0, [.ref rt, .ref dr, .int 0, .int 0, .ref bs, .ref df, .ref ch, .ref pg, .int rs])), (ou, .inl (cU, 1, .inr (.inl fo)))] [(cU, .long)] [.ref x, .int dd, .int vv, .int ov, .int kk, .ref ou]) (va_Qi (fun r (_ : Unit) => r = 1) (fun _ t => wW (dC, dI) (va_A [(x, .inr (0, [.ref rt, .ref dr, .int 0, .int 0, .ref bs, .ref df, .ref ch, .ref pg, .int rs])), (ou, .inl (cU, 1, .inr (.inl fo)))] sz) [] [] t) (va_A [(x, .inr (0, [.ref rt, .ref dr, .int 0, .int 0, .ref bs, .ref df, .ref ch, .ref pg, .int rs])), (ou, .inl (cU, 1, .inr (.inl fo)))] sz)) 1 6 (va_A [(x, .inr (0, [.ref rt, .ref dr, .int 0, .int 0, .ref bs, .ref df, .ref ch, .ref pg, .int rs])), (ou, .inl (cU, 1, .inr (.inl fo)))] sz) := by
  refine va_MetW (hh := [(0, 14, 17, 60)]) (cc := cL_difference) (maxL := 7) (ret := (some .int)) (by decide) rfl ?_
  intro p e s m args below meth c s₁ B hml hv
  obtain ⟨rfl, hv⟩ := hv
  obtain ⟨m9, meth9, c9, hn9, g1, g2, -, -, g6, -⟩ := Cond.codeWith_spec (atoms_spec (ws := (.codeWith yL_difference cL_difference 7 (some .int) [(0, 14, 17, 60)] :: aw)) B.pre _ List.mem_cons_self)
  cases Option.some.inj (hn9.symm.trans B.named)
  cases Option.some.inj (g1.symm.trans B.method)
  cases Option.some.inj (g2.symm.trans (Stand.of_body B).code)
  have htab := tab1 g6
  have hx := B.exec
  have hb := B.bytes
  have hr := B.returns
  have hts : ∀ w ∈ aw, w.before _ s = true := fun w h => atoms_spec (ws := (.codeWith yL_difference cL_difference 7 (some .int) [(0, 14, 17, 60)] :: aw)) B.pre w (List.mem_cons_of_mem _ h)
  have hown : s.vm.findClass RL = some m.cls := findClass_of_methodNamed B.named
  have hlocks := B.notSynchronized
  obtain ⟨hsz, hP, hK, hD0, hE⟩ := hv
  subst hsz
  have hD := hD0.self (sz := s.heap.size)
  generalize hAe : va_A [(x, .inr (0, [.ref rt, .ref dr, .int 0, .int 0, .ref bs, .ref df, .ref ch, .ref pg, .int rs])), (ou, .inl (cU, 1, .inr (.inl fo)))] s.heap.size = A at hD ⊢
  have hA : ∀ q : Nat, s.heap.size ≤ q → A q := fun q h => by rw [← hAe]; exact Or.inr h
  obtain ⟨H, hH⟩ : ∃ H, H = s.heap := ⟨_, rfl⟩
  have hS : va_S A s.heap H [] := by rw [hH]; exact va_S.rf
  rw [← hH] at hP ⊢
  have hP : va_P (dC, dI) kCl [(x, .inr (0, [.ref rt, .ref dr, .int 0, .int 0, .ref bs, .ref df, .ref ch, .ref pg, .int rs])), (ou, .inl (cU, 1, .inr (.inl fo)))] H := hP
  have hl := lv_entry ([.ref x, .int dd, .int vv, .int ov, .int kk, .ref ou]) (n := 7) (Nat.le_of_ble_eq_true rfl)
  rw [lg_entry_eq]
  generalize (lg_sl ([.ref x, .int dd, .int vv, .int ov, .int kk, .ref ou]) ++ List.replicate (7 - (lg_sl ([.ref x, .int dd, .int vv, .int ov, .int kk, .ref ou])).length) Slot.unset).toArray = ls at hl ⊢
  have hl : lv_has ls 7 [(0, .ref x), (1, .int dd), (2, .int vv), (3, .int ov), (4, .int kk), (5, .ref ou)] := hl
  refine lv_aload (pc := 0) hx hb dL_difference_0 (lv_at hl 5 rfl) ?_
  refine lv_iconst (pc := 2) (v := 0) hx hb dL_difference_2 (by decide) ?_
  refine lv_aload_n (pc := 3) hx hb dL_difference_3 rfl (lv_at hl 0 rfl) ?_
  refine lv_iload_n (pc := 4) hx hb dL_difference_4 rfl (lv_at hl 1 rfl) ?_
  refine lv_iload_n (pc := 5) hx hb dL_difference_5 rfl (lv_at hl 2 rfl) ?_
  refine lv_iload_n (pc := 6) hx hb dL_difference_6 rfl (lv_at hl 3 rfl) ?_
  refine lv_iload (pc := 7) hx hb dL_difference_7 (lv_at hl 4 rfl) ?_
  refine tCall (pc := 9) (As := [.int dd, .int vv, .int ov, .int kk]) (rest := [.int 0, .ref ou]) (C := RV) (E := nIX) (name := nIX) ⟨hx, hb, hml, hown, hts⟩ (v_difference l dC dI x rt dr bs df ch pg rs dd vv ov kk hfl) (cwV 4 hts (gV wd_388 wd_389 wd_390 wd_35 wd_391) rfl rfl rfl (by decide +kernel) ⟨Nat.le_of_ble_eq_true rfl, Nat.le_of_ble_eq_true rfl⟩) ⟨pRx_blind, va_recv (q := (RV, TV, 9)) (q0 := 0) (ci := 0) hK hP rfl rfl, pRx_pre (hP.sub (ws' := [(x, .inr (0, [.ref rt, .ref dr, .int 0, .int 0, .ref bs, .ref df, .ref ch, .ref pg, .int rs]))]) [0] rfl) (hK.sub (tys' := []) [] rfl) (fun U hU hW => xE_warm hW (fun q hq => by rw [hU, hH]) hE)⟩ rfl hl.1 rfl (lv_room (Nat.le_of_ble_eq_true rfl)) dL_difference_9 ⟨Nat.le_of_ble_eq_true rfl, Nat.le_of_ble_eq_true rfl⟩ htab (by decide) (by decide) (hts _ wd_375) (va_Nw.use rfl hE.1) (fun q1 H1 hz hk => ?_)
  have hS : va_S A s.heap H1 [] := ⟨by rw [← hH]; exact hz, fun z h1 _ => by rw [← hH] at h1 ⊢; exact hk z h1, fun _ h => nomatch h⟩
  have hP : va_P (dC, dI) kCl ([] : va_W) H1 := va_nil
  have hD : va_D A ([] : va_W) := va_nilD
  refine W.eq (g2 := F0 m 17 ls [.ref q1]) rfl ?_
  refine W.widen (k := 1) (n := 6) (Nat.le_of_ble_eq_true rfl) (Nat.le_of_ble_eq_true rfl) ?_
  refine lv_astore (pc := 17) hx hb dL_difference_17 hl (by decide) rfl (fun ls hl => ?_)
  have hl : lv_has ls 7 [(6, .ref q1), (0, .ref x), (1, .int dd), (2, .int vv), (3, .int ov), (4, .int kk), (5, .ref ou)] := hl
  refine lv_iconst (pc := 19) (v := 1) hx hb dL_difference_19 (by decide) ?_
  have hP9 := hP.sub (ws' := []) [] rfl
  have hD9 := hD.sub (ws' := []) [] (by decide) rfl
  have hK9 := hK.sub (tys' := []) [] rfl
  exact W.iret (pc := 20) hx hb hr (fun t ht hW => ⟨⟨_, (), rfl, rfl, by rw [ht]; exact hP9, va_K.moved hW.alike hK9, hD9⟩, hS.F ht⟩) hS.2.2 dL_difference_20
