abbrev cP_failAhead : ByteArray := prog_6_method_2_code
abbrev yP_failAhead : MethodName := ⟨"DrawingVault$Pages", "failAhead", "(I)V"⟩
theorem dP_failAhead_0 : decode cP_failAhead 0 = .ok (.aload_n 0, 1) := by decide +kernel
theorem dP_failAhead_1 : decode cP_failAhead 1 = .ok (.iconst 1, 1) := by decide +kernel
theorem dP_failAhead_2 : decode cP_failAhead 2 = .ok (.putfield 15, 3) := by decide +kernel
theorem dP_failAhead_5 : decode cP_failAhead 5 = .ok (.aload_n 0, 1) := by decide +kernel
theorem dP_failAhead_6 : decode cP_failAhead 6 = .ok (.iload_n 1, 1) := by decide +kernel
theorem dP_failAhead_7 : decode cP_failAhead 7 = .ok (.putfield 19, 3) := by decide +kernel
theorem dP_failAhead_10 : decode cP_failAhead 10 = .ok (.return_, 1) := by decide +kernel
abbrev cP_switchOn : ByteArray := prog_6_method_3_code
abbrev yP_switchOn : MethodName := ⟨"DrawingVault$Pages", "switchOn", "()V"⟩
theorem dP_switchOn_0 : decode cP_switchOn 0 = .ok (.aload_n 0, 1) := by decide +kernel
theorem dP_switchOn_1 : decode cP_switchOn 1 = .ok (.iconst 0, 1) := by decide +kernel
theorem dP_switchOn_2 : decode cP_switchOn 2 = .ok (.putfield 22, 3) := by decide +kernel
theorem dP_switchOn_5 : decode cP_switchOn 5 = .ok (.aload_n 0, 1) := by decide +kernel
theorem dP_switchOn_6 : decode cP_switchOn 6 = .ok (.iconst 0, 1) := by decide +kernel
theorem dP_switchOn_7 : decode cP_switchOn 7 = .ok (.putfield 15, 3) := by decide +kernel
theorem dP_switchOn_10 : decode cP_switchOn 10 = .ok (.return_, 1) := by decide +kernel
abbrev cP_failsBy : ByteArray := prog_6_method_4_code
abbrev yP_failsBy : MethodName := ⟨"DrawingVault$Pages", "failsBy", "(I)Z"⟩
theorem dP_failsBy_0 : decode cP_failsBy 0 = .ok (.aload_n 0, 1) := by decide +kernel
theorem dP_failsBy_1 : decode cP_failsBy 1 = .ok (.getfield 15, 3) := by decide +kernel
theorem dP_failsBy_4 : decode cP_failsBy 4 = .ok (.ifCond .eq 15, 3) := by decide +kernel
theorem dP_failsBy_7 : decode cP_failsBy 7 = .ok (.iload_n 1, 1) := by decide +kernel
theorem dP_failsBy_8 : decode cP_failsBy 8 = .ok (.aload_n 0, 1) := by decide +kernel
theorem dP_failsBy_9 : decode cP_failsBy 9 = .ok (.getfield 19, 3) := by decide +kernel
theorem dP_failsBy_12 : decode cP_failsBy 12 = .ok (.if_icmp .le 7, 3) := by decide +kernel
theorem dP_failsBy_15 : decode cP_failsBy 15 = .ok (.iconst 1, 1) := by decide +kernel
theorem dP_failsBy_16 : decode cP_failsBy 16 = .ok (.goto 4, 3) := by decide +kernel
theorem dP_failsBy_19 : decode cP_failsBy 19 = .ok (.iconst 0, 1) := by decide +kernel
theorem dP_failsBy_20 : decode cP_failsBy 20 = .ok (.ireturn, 1) := by decide +kernel
abbrev cP_write : ByteArray := prog_6_method_5_code
abbrev yP_write : MethodName := ⟨"DrawingVault$Pages", "write", "(I)V"⟩
theorem dP_write_0 : decode cP_write 0 = .ok (.aload_n 0, 1) := by decide +kernel
theorem dP_write_1 : decode cP_write 1 = .ok (.dup, 1) := by decide +kernel
theorem dP_write_2 : decode cP_write 2 = .ok (.getfield 9, 3) := by decide +kernel
theorem dP_write_5 : decode cP_write 5 = .ok (.iload_n 1, 1) := by decide +kernel
theorem dP_write_6 : decode cP_write 6 = .ok (.isub, 1) := by decide +kernel
theorem dP_write_7 : decode cP_write 7 = .ok (.putfield 9, 3) := by decide +kernel
theorem dP_write_10 : decode cP_write 10 = .ok (.aload_n 0, 1) := by decide +kernel
theorem dP_write_11 : decode cP_write 11 = .ok (.dup, 1) := by decide +kernel
theorem dP_write_12 : decode cP_write 12 = .ok (.getfield 25, 3) := by decide +kernel
theorem dP_write_15 : decode cP_write 15 = .ok (.iconst 1, 1) := by decide +kernel
theorem dP_write_16 : decode cP_write 16 = .ok (.iadd, 1) := by decide +kernel
theorem dP_write_17 : decode cP_write 17 = .ok (.putfield 25, 3) := by decide +kernel
theorem dP_write_20 : decode cP_write 20 = .ok (.aload_n 0, 1) := by decide +kernel
theorem dP_write_21 : decode cP_write 21 = .ok (.getfield 15, 3) := by decide +kernel
theorem dP_write_24 : decode cP_write 24 = .ok (.ifCond .eq 13, 3) := by decide +kernel
theorem dP_write_27 : decode cP_write 27 = .ok (.aload_n 0, 1) := by decide +kernel
theorem dP_write_28 : decode cP_write 28 = .ok (.dup, 1) := by decide +kernel
theorem dP_write_29 : decode cP_write 29 = .ok (.getfield 19, 3) := by decide +kernel
theorem dP_write_32 : decode cP_write 32 = .ok (.iload_n 1, 1) := by decide +kernel
theorem dP_write_33 : decode cP_write 33 = .ok (.isub, 1) := by decide +kernel
theorem dP_write_34 : decode cP_write 34 = .ok (.putfield 19, 3) := by decide +kernel
theorem dP_write_37 : decode cP_write 37 = .ok (.return_, 1) := by decide +kernel
abbrev cP_areLow : ByteArray := prog_6_method_6_code
abbrev yP_areLow : MethodName := ⟨"DrawingVault$Pages", "areLow", "()Z"⟩
theorem dP_areLow_0 : decode cP_areLow 0 = .ok (.aload_n 0, 1) := by decide +kernel
theorem dP_areLow_1 : decode cP_areLow 1 = .ok (.getfield 9, 3) := by decide +kernel
theorem dP_areLow_4 : decode cP_areLow 4 = .ok (.bipush 40, 2) := by decide +kernel
theorem dP_areLow_6 : decode cP_areLow 6 = .ok (.if_icmp .ge 7, 3) := by decide +kernel
theorem dP_areLow_9 : decode cP_areLow 9 = .ok (.iconst 1, 1) := by decide +kernel
theorem dP_areLow_10 : decode cP_areLow 10 = .ok (.goto 4, 3) := by decide +kernel
theorem dP_areLow_13 : decode cP_areLow 13 = .ok (.iconst 0, 1) := by decide +kernel
theorem dP_areLow_14 : decode cP_areLow 14 = .ok (.ireturn, 1) := by decide +kernel
abbrev cP_copyForward : ByteArray := prog_6_method_7_code
abbrev yP_copyForward : MethodName := ⟨"DrawingVault$Pages", "copyForward", "(I)V"⟩
theorem dP_copyForward_0 : decode cP_copyForward 0 = .ok (.sipush 400, 3) := by decide +kernel
theorem dP_copyForward_3 : decode cP_copyForward 3 = .ok (.iload_n 1, 1) := by decide +kernel
theorem dP_copyForward_4 : decode cP_copyForward 4 = .ok (.isub, 1) := by decide +kernel
theorem dP_copyForward_5 : decode cP_copyForward 5 = .ok (.bipush 40, 2) := by decide +kernel
theorem dP_copyForward_7 : decode cP_copyForward 7 = .ok (.if_icmp .lt 22, 3) := by decide +kernel
theorem dP_copyForward_10 : decode cP_copyForward 10 = .ok (.aload_n 0, 1) := by decide +kernel
theorem dP_copyForward_11 : decode cP_copyForward 11 = .ok (.sipush 400, 3) := by decide +kernel
theorem dP_copyForward_14 : decode cP_copyForward 14 = .ok (.iload_n 1, 1) := by decide +kernel
theorem dP_copyForward_15 : decode cP_copyForward 15 = .ok (.isub, 1) := by decide +kernel
theorem dP_copyForward_16 : decode cP_copyForward 16 = .ok (.putfield 9, 3) := by decide +kernel
theorem dP_copyForward_19 : decode cP_copyForward 19 = .ok (.aload_n 0, 1) := by decide +kernel
theorem dP_copyForward_20 : decode cP_copyForward 20 = .ok (.dup, 1) := by decide +kernel
theorem dP_copyForward_21 : decode cP_copyForward 21 = .ok (.getfield 28, 3) := by decide +kernel
theorem dP_copyForward_24 : decode cP_copyForward 24 = .ok (.iconst 1, 1) := by decide +kernel
theorem dP_copyForward_25 : decode cP_copyForward 25 = .ok (.iadd, 1) := by decide +kernel
theorem dP_copyForward_26 : decode cP_copyForward 26 = .ok (.putfield 28, 3) := by decide +kernel
theorem dP_copyForward_29 : decode cP_copyForward 29 = .ok (.return_, 1) := by decide +kernel
theorem wd_72 : (.fieldLink "DrawingVault$Pages" 15 "DrawingVault$Pages" "failureAhead" "Z" : Cond) ∈ aw := aw_in (tb_1 (List.mem_of_getElem? (i := 84) rfl)) rfl
theorem wd_73 : (.fieldLink "DrawingVault$Pages" 19 "DrawingVault$Pages" "beforeFailure" "I" : Cond) ∈ aw := aw_in (tb_1 (List.mem_of_getElem? (i := 85) rfl)) rfl
theorem wd_74 : (.fieldLink "DrawingVault$Pages" 22 "DrawingVault$Pages" "failed" "Z" : Cond) ∈ aw := aw_in (tb_1 (List.mem_of_getElem? (i := 82) rfl)) rfl
theorem wd_75 : (.fieldLink "DrawingVault$Pages" 9 "DrawingVault$Pages" "free" "I" : Cond) ∈ aw := aw_in (tb_1 (List.mem_of_getElem? (i := 76) rfl)) rfl
theorem wd_76 : (.fieldLink "DrawingVault$Pages" 25 "DrawingVault$Pages" "commands" "I" : Cond) ∈ aw := aw_in (tb_1 (List.mem_of_getElem? (i := 78) rfl)) rfl
theorem wd_77 : (.fieldLink "DrawingVault$Pages" 28 "DrawingVault$Pages" "copiedForward" "I" : Cond) ∈ aw := aw_in (tb_1 (List.mem_of_getElem? (i := 80) rfl)) rfl

set_option maxHeartbeats 4000000 in
set_option maxRecDepth 100000 in
theorem gp_failAhead (l : Launch) (dC : Nat → ClassId) (dI : Nat → Nat → Nat) (sz : Nat) (pg : Nat) (fr : Int32) (cm : Int32) (cf : Int32) (fa : Int32) (fh : Int32) (bf : Int32) (nn : Int32) : Met l yP_failAhead (.code yP_failAhead cP_failAhead 2 none :: aw) ({ frames := 0, cells := 0, slots := 0, locals := 0 }) (pW (dC, dI) sz [(pg, .inr (3, [.int fr, .int cm, .int cf, .int fa, .int fh, .int bf]))] [] [.ref pg, .int nn]) (va_Qv (fun (_ : Unit) => True) (fun _ t => wW (dC, dI) (va_A [(pg, .inr (3, [.int fr, .int cm, .int cf, .int fa, .int fh, .int bf]))] sz) [(pg, .inr (3, [.int fr, .int cm, .int cf, .int fa, .int 1, .int nn]))] [] t) (va_A [(pg, .inr (3, [.int fr, .int cm, .int cf, .int fa, .int fh, .int bf]))] sz)) 0 0 (va_A [(pg, .inr (3, [.int fr, .int cm, .int cf, .int fa, .int fh, .int bf]))] sz) := by
  refine Met.ofW (cc := cP_failAhead) (maxL := 2) (ret := none) (by decide) rfl ?_
  intro p e s m args below meth c s₁ B hml hv
  obtain ⟨rfl, hv⟩ := hv
  have hx := B.exec
  have hb := B.bytes
  have hr := B.returns
  have hts : ∀ w ∈ aw, w.before _ s = true := fun w h => atoms_spec (ws := (.code yP_failAhead cP_failAhead 2 none :: aw)) B.pre w (List.mem_cons_of_mem _ h)
  have hown : s.vm.findClass RP = some m.cls := findClass_of_methodNamed B.named
  have hlocks := B.notSynchronized
  obtain ⟨hsz, hP, hK, hD0, hG⟩ := hv
  subst hsz
  have hD := hD0.self (sz := s.heap.size)
  generalize hAe : va_A [(pg, .inr (3, [.int fr, .int cm, .int cf, .int fa, .int fh, .int bf]))] s.heap.size = A at hD ⊢
  have hA : ∀ q : Nat, s.heap.size ≤ q → A q := fun q h => by rw [← hAe]; exact Or.inr h
  obtain ⟨H, hH⟩ : ∃ H, H = s.heap := ⟨_, rfl⟩
  have hS : va_S A s.heap H [] := by rw [hH]; exact va_S.rf
  rw [← hH] at hP ⊢
  have hP : va_P (dC, dI) kCl [(pg, .inr (3, [.int fr, .int cm, .int cf, .int fa, .int fh, .int bf]))] H := hP
  have hl := lv_entry ([.ref pg, .int nn]) (n := 2) (Nat.le_of_ble_eq_true rfl)
  rw [lg_entry_eq]
  generalize (lg_sl ([.ref pg, .int nn]) ++ List.replicate (2 - (lg_sl ([.ref pg, .int nn])).length) Slot.unset).toArray = ls at hl ⊢
  have hl : lv_has ls 2 [(0, .ref pg), (1, .int nn)] := hl
  refine lv_aload_n (pc := 0) hx hb dP_failAhead_0 rfl (lv_at hl 0 rfl) ?_
  refine lv_iconst (pc := 1) (v := 1) hx hb dP_failAhead_1 (by decide) ?_
  refine va_put (D := (dC, dI)) (cl := kCl) (ci := 3) (v := .int 1) (ty := .boolean) (C := RP) (T := TP) (N := 6) (pc := 2) hx hb hts inP tyP tyP_ok nmP hown hK hP hD hS 0 rfl rfl 4 (by decide) (hts _ wd_72) (fun _ h9 => h9) rfl (by decide +kernel) rfl rfl (Nat.le_of_ble_eq_true rfl) dP_failAhead_2 (fun H locs hP hD hS => ?_)
  have hP : va_P (dC, dI) kCl [(pg, .inr (3, [.int fr, .int cm, .int cf, .int fa, .int 1, .int bf]))] H := hP
  have hD : va_D A [(pg, .inr (3, [.int fr, .int cm, .int cf, .int fa, .int 1, .int bf]))] := hD
  refine lv_aload_n (pc := 5) hx hb dP_failAhead_5 rfl (lv_at hl 0 rfl) ?_
  refine lv_iload_n (pc := 6) hx hb dP_failAhead_6 rfl (lv_at hl 1 rfl) ?_
  refine va_put (D := (dC, dI)) (cl := kCl) (ci := 3) (v := .int nn) (ty := .int) (C := RP) (T := TP) (N := 6) (pc := 7) hx hb hts inP tyP tyP_ok nmP hown hK hP hD hS 0 rfl rfl 5 (by decide) (hts _ wd_73) (fun _ h9 => h9) rfl (by decide +kernel) rfl rfl (Nat.le_of_ble_eq_true rfl) dP_failAhead_7 (fun H locs hP hD hS => ?_)
  have hP : va_P (dC, dI) kCl [(pg, .inr (3, [.int fr, .int cm, .int cf, .int fa, .int 1, .int nn]))] H := hP
  have hD : va_D A [(pg, .inr (3, [.int fr, .int cm, .int cf, .int fa, .int 1, .int nn]))] := hD
  have hP9 := hP.sub (ws' := [(pg, .inr (3, [.int fr, .int cm, .int cf, .int fa, .int 1, .int nn]))]) [0] rfl
  have hD9 := hD.sub (ws' := [(pg, .inr (3, [.int fr, .int cm, .int cf, .int fa, .int 1, .int nn]))]) [0] (by decide) rfl
  have hK9 := hK.sub (tys' := []) [] rfl
  exact W.vret (pc := 10) hx hb hr (fun t ht hW => ⟨⟨(), rfl, trivial, by rw [ht]; exact hP9, va_K.moved hW.alike hK9, hD9⟩, hS.F ht⟩) hS.2.2 dP_failAhead_10
set_option maxHeartbeats 4000000 in
set_option maxRecDepth 100000 in
theorem gp_switchOn (l : Launch) (dC : Nat → ClassId) (dI : Nat → Nat → Nat) (sz : Nat) (pg : Nat) (fr : Int32) (cm : Int32) (cf : Int32) (fa : Int32) (fh : Int32) (bf : Int32) : Met l yP_switchOn (.code yP_switchOn cP_switchOn 1 none :: aw) ({ frames := 0, cells := 0, slots := 0, locals := 0 }) (pW (dC, dI) sz [(pg, .inr (3, [.int fr, .int cm, .int cf, .int fa, .int fh, .int bf]))] [] [.ref pg]) (va_Qv (fun (_ : Unit) => True) (fun _ t => wW (dC, dI) (va_A [(pg, .inr (3, [.int fr, .int cm, .int cf, .int fa, .int fh, .int bf]))] sz) [(pg, .inr (3, [.int fr, .int cm, .int cf, .int 0, .int 0, .int bf]))] [] t) (va_A [(pg, .inr (3, [.int fr, .int cm, .int cf, .int fa, .int fh, .int bf]))] sz)) 0 0 (va_A [(pg, .inr (3, [.int fr, .int cm, .int cf, .int fa, .int fh, .int bf]))] sz) := by
  refine Met.ofW (cc := cP_switchOn) (maxL := 1) (ret := none) (by decide) rfl ?_
  intro p e s m args below meth c s₁ B hml hv
  obtain ⟨rfl, hv⟩ := hv
  have hx := B.exec
  have hb := B.bytes
  have hr := B.returns
  have hts : ∀ w ∈ aw, w.before _ s = true := fun w h => atoms_spec (ws := (.code yP_switchOn cP_switchOn 1 none :: aw)) B.pre w (List.mem_cons_of_mem _ h)
  have hown : s.vm.findClass RP = some m.cls := findClass_of_methodNamed B.named
  have hlocks := B.notSynchronized
  obtain ⟨hsz, hP, hK, hD0, hG⟩ := hv
  subst hsz
  have hD := hD0.self (sz := s.heap.size)
  generalize hAe : va_A [(pg, .inr (3, [.int fr, .int cm, .int cf, .int fa, .int fh, .int bf]))] s.heap.size = A at hD ⊢
  have hA : ∀ q : Nat, s.heap.size ≤ q → A q := fun q h => by rw [← hAe]; exact Or.inr h
  obtain ⟨H, hH⟩ : ∃ H, H = s.heap := ⟨_, rfl⟩
  have hS : va_S A s.heap H [] := by rw [hH]; exact va_S.rf
  rw [← hH] at hP ⊢
  have hP : va_P (dC, dI) kCl [(pg, .inr (3, [.int fr, .int cm, .int cf, .int fa, .int fh, .int bf]))] H := hP
  have hl := lv_entry ([.ref pg]) (n := 1) (Nat.le_of_ble_eq_true rfl)
  rw [lg_entry_eq]
  generalize (lg_sl ([.ref pg]) ++ List.replicate (1 - (lg_sl ([.ref pg])).length) Slot.unset).toArray = ls at hl ⊢
  have hl : lv_has ls 1 [(0, .ref pg)] := hl
  refine lv_aload_n (pc := 0) hx hb dP_switchOn_0 rfl (lv_at hl 0 rfl) ?_
  refine lv_iconst (pc := 1) (v := 0) hx hb dP_switchOn_1 (by decide) ?_
  refine va_put (D := (dC, dI)) (cl := kCl) (ci := 3) (v := .int 0) (ty := .boolean) (C := RP) (T := TP) (N := 6) (pc := 2) hx hb hts inP tyP tyP_ok nmP hown hK hP hD hS 0 rfl rfl 3 (by decide) (hts _ wd_74) (fun _ h9 => h9) rfl (by decide +kernel) rfl rfl (Nat.le_of_ble_eq_true rfl) dP_switchOn_2 (fun H locs hP hD hS => ?_)
  have hP : va_P (dC, dI) kCl [(pg, .inr (3, [.int fr, .int cm, .int cf, .int 0, .int fh, .int bf]))] H := hP
  have hD : va_D A [(pg, .inr (3, [.int fr, .int cm, .int cf, .int 0, .int fh, .int bf]))] := hD
  refine lv_aload_n (pc := 5) hx hb dP_switchOn_5 rfl (lv_at hl 0 rfl) ?_
  refine lv_iconst (pc := 6) (v := 0) hx hb dP_switchOn_6 (by decide) ?_
  refine va_put (D := (dC, dI)) (cl := kCl) (ci := 3) (v := .int 0) (ty := .boolean) (C := RP) (T := TP) (N := 6) (pc := 7) hx hb hts inP tyP tyP_ok nmP hown hK hP hD hS 0 rfl rfl 4 (by decide) (hts _ wd_72) (fun _ h9 => h9) rfl (by decide +kernel) rfl rfl (Nat.le_of_ble_eq_true rfl) dP_switchOn_7 (fun H locs hP hD hS => ?_)
  have hP : va_P (dC, dI) kCl [(pg, .inr (3, [.int fr, .int cm, .int cf, .int 0, .int 0, .int bf]))] H := hP
  have hD : va_D A [(pg, .inr (3, [.int fr, .int cm, .int cf, .int 0, .int 0, .int bf]))] := hD
  have hP9 := hP.sub (ws' := [(pg, .inr (3, [.int fr, .int cm, .int cf, .int 0, .int 0, .int bf]))]) [0] rfl
  have hD9 := hD.sub (ws' := [(pg, .inr (3, [.int fr, .int cm, .int cf, .int 0, .int 0, .int bf]))]) [0] (by decide) rfl
  have hK9 := hK.sub (tys' := []) [] rfl
  exact W.vret (pc := 10) hx hb hr (fun t ht hW => ⟨⟨(), rfl, trivial, by rw [ht]; exact hP9, va_K.moved hW.alike hK9, hD9⟩, hS.F ht⟩) hS.2.2 dP_switchOn_10
set_option maxHeartbeats 4000000 in
set_option maxRecDepth 100000 in
theorem gp_failsBy (l : Launch) (dC : Nat → ClassId) (dI : Nat → Nat → Nat) (pg : Nat) (fr : Int32) (cm : Int32) (cf : Int32) (fa : Int32) (fh : Int32) (bf : Int32) (kk : Int32) : Met l yP_failsBy (.code yP_failsBy cP_failsBy 2 (some .boolean) :: aw) ({ frames := 0, cells := 0, slots := 0, locals := 0 }) (pR (dC, dI) [(pg, .inr (3, [.int fr, .int cm, .int cf, .int fa, .int fh, .int bf]))] [] [.ref pg, .int kk]) (vp_Si (fun r => (r = 1 ∧ (¬ fh = 0 ∧ ¬ kk ≤ bf)) ∨ (r = 0 ∧ (fh = 0 ∨ kk ≤ bf)))) 0 0 (fun _ => False) := by
  refine Met.ofW (cc := cP_failsBy) (maxL := 2) (ret := (some .boolean)) (by decide) rfl ?_
  intro p e s m args below meth c s₁ B hml hv
  obtain ⟨rfl, hv⟩ := hv
  have hx := B.exec
  have hb := B.bytes
  have hr := B.returns
  have hts : ∀ w ∈ aw, w.before _ s = true := fun w h => atoms_spec (ws := (.code yP_failsBy cP_failsBy 2 (some .boolean) :: aw)) B.pre w (List.mem_cons_of_mem _ h)
  have hown : s.vm.findClass RP = some m.cls := findClass_of_methodNamed B.named
  have hlocks := B.notSynchronized
  obtain ⟨hP, hK, hG⟩ := hv
  obtain ⟨H, hH⟩ : ∃ H, H = s.heap := ⟨_, rfl⟩
  rw [← hH] at hP ⊢
  have hl := lv_entry ([.ref pg, .int kk]) (n := 2) (Nat.le_of_ble_eq_true rfl)
  rw [lg_entry_eq]
  generalize (lg_sl ([.ref pg, .int kk]) ++ List.replicate (2 - (lg_sl ([.ref pg, .int kk])).length) Slot.unset).toArray = ls at hl ⊢
  have hl : lv_has ls 2 [(0, .ref pg), (1, .int kk)] := hl
  refine lv_aload_n (pc := 0) hx hb dP_failsBy_0 rfl (lv_at hl 0 rfl) ?_
  refine va_get (D := (dC, dI)) (cl := kCl) (C := RP) (T := TP) (N := 6) (pc := 1) hx hb hts inP hown hK hP 0 rfl rfl 4 (by decide) (hts _ wd_72) (fun _ h9 => h9) rfl dP_failsBy_1 ?_
  refine lv_if_eq (pc := 4) (tgt := 19) hx hb dP_failsBy_4 rfl (fun h1 => ?_) (fun h1 => ?_)
  · refine lv_iconst (pc := 19) (v := 0) hx hb dP_failsBy_19 (by decide) ?_
    exact W.zret (pc := 20) hx hb hr rfl (fun t ht hW => ⟨_, rfl, (Or.inr ⟨rfl, by first | assumption | exact ⟨by assumption, by assumption⟩ | exact Or.inl (by assumption) | exact Or.inr (by assumption) | exact Or.inr (Or.inl (by assumption)) | exact Or.inr (Or.inr (by assumption)) | simp_all⟩), ht.trans hH⟩) (fun q h => nomatch h) dP_failsBy_20
  · refine lv_iload_n (pc := 7) hx hb dP_failsBy_7 rfl (lv_at hl 1 rfl) ?_
    refine lv_aload_n (pc := 8) hx hb dP_failsBy_8 rfl (lv_at hl 0 rfl) ?_
    refine va_get (D := (dC, dI)) (cl := kCl) (C := RP) (T := TP) (N := 6) (pc := 9) hx hb hts inP hown hK hP 0 rfl rfl 5 (by decide) (hts _ wd_73) (fun _ h9 => h9) rfl dP_failsBy_9 ?_
    refine lv_icmp_le (pc := 12) (tgt := 19) hx hb dP_failsBy_12 rfl (fun h2 => ?_) (fun h2 => ?_)
    · refine lv_iconst (pc := 19) (v := 0) hx hb dP_failsBy_19 (by decide) ?_
      exact W.zret (pc := 20) hx hb hr rfl (fun t ht hW => ⟨_, rfl, (Or.inr ⟨rfl, by first | assumption | exact ⟨by assumption, by assumption⟩ | exact Or.inl (by assumption) | exact Or.inr (by assumption) | exact Or.inr (Or.inl (by assumption)) | exact Or.inr (Or.inr (by assumption)) | simp_all⟩), ht.trans hH⟩) (fun q h => nomatch h) dP_failsBy_20
    · refine lv_iconst (pc := 15) (v := 1) hx hb dP_failsBy_15 (by decide) ?_
      refine lv_goto (pc := 16) (tgt := 20) hx hb dP_failsBy_16 rfl ?_
      exact W.zret (pc := 20) hx hb hr rfl (fun t ht hW => ⟨_, rfl, (Or.inl ⟨rfl, by first | assumption | exact ⟨by assumption, by assumption⟩ | exact Or.inl (by assumption) | exact Or.inr (by assumption) | exact Or.inr (Or.inl (by assumption)) | exact Or.inr (Or.inr (by assumption)) | simp_all⟩), ht.trans hH⟩) (fun q h => nomatch h) dP_failsBy_20
set_option maxHeartbeats 4000000 in
set_option maxRecDepth 100000 in
theorem gp_write0 (l : Launch) (dC : Nat → ClassId) (dI : Nat → Nat → Nat) (sz : Nat) (pg : Nat) (fr : Int32) (cm : Int32) (cf : Int32) (fa : Int32) (fh : Int32) (bf : Int32) (kk : Int32) (hs : fh = 0) : Met l yP_write (.code yP_write cP_write 2 none :: aw) ({ frames := 0, cells := 0, slots := 0, locals := 0 }) (pW (dC, dI) sz [(pg, .inr (3, [.int fr, .int cm, .int cf, .int fa, .int fh, .int bf]))] [] [.ref pg, .int kk]) (va_Qv (fun (_ : Unit) => True) (fun _ t => wW (dC, dI) (va_A [(pg, .inr (3, [.int fr, .int cm, .int cf, .int fa, .int fh, .int bf]))] sz) [(pg, .inr (3, [.int (fr - kk), .int (cm + 1), .int cf, .int fa, .int fh, .int bf]))] [] t) (va_A [(pg, .inr (3, [.int fr, .int cm, .int cf, .int fa, .int fh, .int bf]))] sz)) 0 0 (va_A [(pg, .inr (3, [.int fr, .int cm, .int cf, .int fa, .int fh, .int bf]))] sz) := by
  refine Met.ofW (cc := cP_write) (maxL := 2) (ret := none) (by decide) rfl ?_
  intro p e s m args below meth c s₁ B hml hv
  obtain ⟨rfl, hv⟩ := hv
  have hx := B.exec
  have hb := B.bytes
  have hr := B.returns
  have hts : ∀ w ∈ aw, w.before _ s = true := fun w h => atoms_spec (ws := (.code yP_write cP_write 2 none :: aw)) B.pre w (List.mem_cons_of_mem _ h)
  have hown : s.vm.findClass RP = some m.cls := findClass_of_methodNamed B.named
  have hlocks := B.notSynchronized
  obtain ⟨hsz, hP, hK, hD0, hG⟩ := hv
  subst hsz
  have hD := hD0.self (sz := s.heap.size)
  generalize hAe : va_A [(pg, .inr (3, [.int fr, .int cm, .int cf, .int fa, .int fh, .int bf]))] s.heap.size = A at hD ⊢
  have hA : ∀ q : Nat, s.heap.size ≤ q → A q := fun q h => by rw [← hAe]; exact Or.inr h
  obtain ⟨H, hH⟩ : ∃ H, H = s.heap := ⟨_, rfl⟩
  have hS : va_S A s.heap H [] := by rw [hH]; exact va_S.rf
  rw [← hH] at hP ⊢
  have hP : va_P (dC, dI) kCl [(pg, .inr (3, [.int fr, .int cm, .int cf, .int fa, .int fh, .int bf]))] H := hP
  have hl := lv_entry ([.ref pg, .int kk]) (n := 2) (Nat.le_of_ble_eq_true rfl)
  rw [lg_entry_eq]
  generalize (lg_sl ([.ref pg, .int kk]) ++ List.replicate (2 - (lg_sl ([.ref pg, .int kk])).length) Slot.unset).toArray = ls at hl ⊢
  have hl : lv_has ls 2 [(0, .ref pg), (1, .int kk)] := hl
  refine lv_aload_n (pc := 0) hx hb dP_write_0 rfl (lv_at hl 0 rfl) ?_
  refine lv_dup (pc := 1) hx hb dP_write_1 rfl ?_
  refine va_get (D := (dC, dI)) (cl := kCl) (C := RP) (T := TP) (N := 6) (pc := 2) hx hb hts inP hown hK hP 0 rfl rfl 0 (by decide) (hts _ wd_75) (fun _ h9 => h9) rfl dP_write_2 ?_
  refine lv_iload_n (pc := 5) hx hb dP_write_5 rfl (lv_at hl 1 rfl) ?_
  refine lv_isub (pc := 6) hx hb dP_write_6 ?_
  refine va_put (D := (dC, dI)) (cl := kCl) (ci := 3) (v := .int (fr - kk)) (ty := .int) (C := RP) (T := TP) (N := 6) (pc := 7) hx hb hts inP tyP tyP_ok nmP hown hK hP hD hS 0 rfl rfl 0 (by decide) (hts _ wd_75) (fun _ h9 => h9) rfl (by decide +kernel) rfl rfl (Nat.le_of_ble_eq_true rfl) dP_write_7 (fun H locs hP hD hS => ?_)
  have hP : va_P (dC, dI) kCl [(pg, .inr (3, [.int (fr - kk), .int cm, .int cf, .int fa, .int fh, .int bf]))] H := hP
  have hD : va_D A [(pg, .inr (3, [.int (fr - kk), .int cm, .int cf, .int fa, .int fh, .int bf]))] := hD
  refine lv_aload_n (pc := 10) hx hb dP_write_10 rfl (lv_at hl 0 rfl) ?_
  refine lv_dup (pc := 11) hx hb dP_write_11 rfl ?_
  refine va_get (D := (dC, dI)) (cl := kCl) (C := RP) (T := TP) (N := 6) (pc := 12) hx hb hts inP hown hK hP 0 rfl rfl 1 (by decide) (hts _ wd_76) (fun _ h9 => h9) rfl dP_write_12 ?_
  refine lv_iconst (pc := 15) (v := 1) hx hb dP_write_15 (by decide) ?_
  refine lv_iadd (pc := 16) hx hb dP_write_16 ?_
  refine va_put (D := (dC, dI)) (cl := kCl) (ci := 3) (v := .int (cm + 1)) (ty := .int) (C := RP) (T := TP) (N := 6) (pc := 17) hx hb hts inP tyP tyP_ok nmP hown hK hP hD hS 0 rfl rfl 1 (by decide) (hts _ wd_76) (fun _ h9 => h9) rfl (by decide +kernel) rfl rfl (Nat.le_of_ble_eq_true rfl) dP_write_17 (fun H locs hP hD hS => ?_)
  have hP : va_P (dC, dI) kCl [(pg, .inr (3, [.int (fr - kk), .int (cm + 1), .int cf, .int fa, .int fh, .int bf]))] H := hP
  have hD : va_D A [(pg, .inr (3, [.int (fr - kk), .int (cm + 1), .int cf, .int fa, .int fh, .int bf]))] := hD
  refine lv_aload_n (pc := 20) hx hb dP_write_20 rfl (lv_at hl 0 rfl) ?_
  refine va_get (D := (dC, dI)) (cl := kCl) (C := RP) (T := TP) (N := 6) (pc := 21) hx hb hts inP hown hK hP 0 rfl rfl 4 (by decide) (hts _ wd_72) (fun _ h9 => h9) rfl dP_write_21 ?_
  refine lv_if_eq (pc := 24) (tgt := 37) hx hb dP_write_24 rfl (fun h1 => ?_) (fun h1 => absurd hs h1)
  have hP9 := hP.sub (ws' := [(pg, .inr (3, [.int (fr - kk), .int (cm + 1), .int cf, .int fa, .int fh, .int bf]))]) [0] rfl
  have hD9 := hD.sub (ws' := [(pg, .inr (3, [.int (fr - kk), .int (cm + 1), .int cf, .int fa, .int fh, .int bf]))]) [0] (by decide) rfl
  have hK9 := hK.sub (tys' := []) [] rfl
  exact W.vret (pc := 37) hx hb hr (fun t ht hW => ⟨⟨(), rfl, trivial, by rw [ht]; exact hP9, va_K.moved hW.alike hK9, hD9⟩, hS.F ht⟩) hS.2.2 dP_write_37
set_option maxHeartbeats 4000000 in
set_option maxRecDepth 100000 in
theorem gp_write1 (l : Launch) (dC : Nat → ClassId) (dI : Nat → Nat → Nat) (sz : Nat) (pg : Nat) (fr : Int32) (cm : Int32) (cf : Int32) (fa : Int32) (fh : Int32) (bf : Int32) (kk : Int32) (hs : ¬ fh = 0) : Met l yP_write (.code yP_write cP_write 2 none :: aw) ({ frames := 0, cells := 0, slots := 0, locals := 0 }) (pW (dC, dI) sz [(pg, .inr (3, [.int fr, .int cm, .int cf, .int fa, .int fh, .int bf]))] [] [.ref pg, .int kk]) (va_Qv (fun (_ : Unit) => True) (fun _ t => wW (dC, dI) (va_A [(pg, .inr (3, [.int fr, .int cm, .int cf, .int fa, .int fh, .int bf]))] sz) [(pg, .inr (3, [.int (fr - kk), .int (cm + 1), .int cf, .int fa, .int fh, .int (bf - kk)]))] [] t) (va_A [(pg, .inr (3, [.int fr, .int cm, .int cf, .int fa, .int fh, .int bf]))] sz)) 0 0 (va_A [(pg, .inr (3, [.int fr, .int cm, .int cf, .int fa, .int fh, .int bf]))] sz) := by
  refine Met.ofW (cc := cP_write) (maxL := 2) (ret := none) (by decide) rfl ?_
  intro p e s m args below meth c s₁ B hml hv
  obtain ⟨rfl, hv⟩ := hv
  have hx := B.exec
  have hb := B.bytes
  have hr := B.returns
  have hts : ∀ w ∈ aw, w.before _ s = true := fun w h => atoms_spec (ws := (.code yP_write cP_write 2 none :: aw)) B.pre w (List.mem_cons_of_mem _ h)
  have hown : s.vm.findClass RP = some m.cls := findClass_of_methodNamed B.named
  have hlocks := B.notSynchronized
  obtain ⟨hsz, hP, hK, hD0, hG⟩ := hv
  subst hsz
  have hD := hD0.self (sz := s.heap.size)
  generalize hAe : va_A [(pg, .inr (3, [.int fr, .int cm, .int cf, .int fa, .int fh, .int bf]))] s.heap.size = A at hD ⊢
  have hA : ∀ q : Nat, s.heap.size ≤ q → A q := fun q h => by rw [← hAe]; exact Or.inr h
  obtain ⟨H, hH⟩ : ∃ H, H = s.heap := ⟨_, rfl⟩
  have hS : va_S A s.heap H [] := by rw [hH]; exact va_S.rf
  rw [← hH] at hP ⊢
  have hP : va_P (dC, dI) kCl [(pg, .inr (3, [.int fr, .int cm, .int cf, .int fa, .int fh, .int bf]))] H := hP
  have hl := lv_entry ([.ref pg, .int kk]) (n := 2) (Nat.le_of_ble_eq_true rfl)
  rw [lg_entry_eq]
  generalize (lg_sl ([.ref pg, .int kk]) ++ List.replicate (2 - (lg_sl ([.ref pg, .int kk])).length) Slot.unset).toArray = ls at hl ⊢
  have hl : lv_has ls 2 [(0, .ref pg), (1, .int kk)] := hl
  refine lv_aload_n (pc := 0) hx hb dP_write_0 rfl (lv_at hl 0 rfl) ?_
  refine lv_dup (pc := 1) hx hb dP_write_1 rfl ?_
  refine va_get (D := (dC, dI)) (cl := kCl) (C := RP) (T := TP) (N := 6) (pc := 2) hx hb hts inP hown hK hP 0 rfl rfl 0 (by decide) (hts _ wd_75) (fun _ h9 => h9) rfl dP_write_2 ?_
  refine lv_iload_n (pc := 5) hx hb dP_write_5 rfl (lv_at hl 1 rfl) ?_
  refine lv_isub (pc := 6) hx hb dP_write_6 ?_
  refine va_put (D := (dC, dI)) (cl := kCl) (ci := 3) (v := .int (fr - kk)) (ty := .int) (C := RP) (T := TP) (N := 6) (pc := 7) hx hb hts inP tyP tyP_ok nmP hown hK hP hD hS 0 rfl rfl 0 (by decide) (hts _ wd_75) (fun _ h9 => h9) rfl (by decide +kernel) rfl rfl (Nat.le_of_ble_eq_true rfl) dP_write_7 (fun H locs hP hD hS => ?_)
  have hP : va_P (dC, dI) kCl [(pg, .inr (3, [.int (fr - kk), .int cm, .int cf, .int fa, .int fh, .int bf]))] H := hP
  have hD : va_D A [(pg, .inr (3, [.int (fr - kk), .int cm, .int cf, .int fa, .int fh, .int bf]))] := hD
  refine lv_aload_n (pc := 10) hx hb dP_write_10 rfl (lv_at hl 0 rfl) ?_
  refine lv_dup (pc := 11) hx hb dP_write_11 rfl ?_
  refine va_get (D := (dC, dI)) (cl := kCl) (C := RP) (T := TP) (N := 6) (pc := 12) hx hb hts inP hown hK hP 0 rfl rfl 1 (by decide) (hts _ wd_76) (fun _ h9 => h9) rfl dP_write_12 ?_
  refine lv_iconst (pc := 15) (v := 1) hx hb dP_write_15 (by decide) ?_
  refine lv_iadd (pc := 16) hx hb dP_write_16 ?_
  refine va_put (D := (dC, dI)) (cl := kCl) (ci := 3) (v := .int (cm + 1)) (ty := .int) (C := RP) (T := TP) (N := 6) (pc := 17) hx hb hts inP tyP tyP_ok nmP hown hK hP hD hS 0 rfl rfl 1 (by decide) (hts _ wd_76) (fun _ h9 => h9) rfl (by decide +kernel) rfl rfl (Nat.le_of_ble_eq_true rfl) dP_write_17 (fun H locs hP hD hS => ?_)
  have hP : va_P (dC, dI) kCl [(pg, .inr (3, [.int (fr - kk), .int (cm + 1), .int cf, .int fa, .int fh, .int bf]))] H := hP
  have hD : va_D A [(pg, .inr (3, [.int (fr - kk), .int (cm + 1), .int cf, .int fa, .int fh, .int bf]))] := hD
  refine lv_aload_n (pc := 20) hx hb dP_write_20 rfl (lv_at hl 0 rfl) ?_
  refine va_get (D := (dC, dI)) (cl := kCl) (C := RP) (T := TP) (N := 6) (pc := 21) hx hb hts inP hown hK hP 0 rfl rfl 4 (by decide) (hts _ wd_72) (fun _ h9 => h9) rfl dP_write_21 ?_
  refine lv_if_eq (pc := 24) (tgt := 37) hx hb dP_write_24 rfl (fun h1 => absurd h1 hs) (fun h1 => ?_)
  refine lv_aload_n (pc := 27) hx hb dP_write_27 rfl (lv_at hl 0 rfl) ?_
  refine lv_dup (pc := 28) hx hb dP_write_28 rfl ?_
  refine va_get (D := (dC, dI)) (cl := kCl) (C := RP) (T := TP) (N := 6) (pc := 29) hx hb hts inP hown hK hP 0 rfl rfl 5 (by decide) (hts _ wd_73) (fun _ h9 => h9) rfl dP_write_29 ?_
  refine lv_iload_n (pc := 32) hx hb dP_write_32 rfl (lv_at hl 1 rfl) ?_
  refine lv_isub (pc := 33) hx hb dP_write_33 ?_
  refine va_put (D := (dC, dI)) (cl := kCl) (ci := 3) (v := .int (bf - kk)) (ty := .int) (C := RP) (T := TP) (N := 6) (pc := 34) hx hb hts inP tyP tyP_ok nmP hown hK hP hD hS 0 rfl rfl 5 (by decide) (hts _ wd_73) (fun _ h9 => h9) rfl (by decide +kernel) rfl rfl (Nat.le_of_ble_eq_true rfl) dP_write_34 (fun H locs hP hD hS => ?_)
  have hP : va_P (dC, dI) kCl [(pg, .inr (3, [.int (fr - kk), .int (cm + 1), .int cf, .int fa, .int fh, .int (bf - kk)]))] H := hP
  have hD : va_D A [(pg, .inr (3, [.int (fr - kk), .int (cm + 1), .int cf, .int fa, .int fh, .int (bf - kk)]))] := hD
  have hP9 := hP.sub (ws' := [(pg, .inr (3, [.int (fr - kk), .int (cm + 1), .int cf, .int fa, .int fh, .int (bf - kk)]))]) [0] rfl
  have hD9 := hD.sub (ws' := [(pg, .inr (3, [.int (fr - kk), .int (cm + 1), .int cf, .int fa, .int fh, .int (bf - kk)]))]) [0] (by decide) rfl
  have hK9 := hK.sub (tys' := []) [] rfl
  exact W.vret (pc := 37) hx hb hr (fun t ht hW => ⟨⟨(), rfl, trivial, by rw [ht]; exact hP9, va_K.moved hW.alike hK9, hD9⟩, hS.F ht⟩) hS.2.2 dP_write_37
set_option maxHeartbeats 4000000 in
set_option maxRecDepth 100000 in
theorem gp_areLow (l : Launch) (dC : Nat → ClassId) (dI : Nat → Nat → Nat) (pg : Nat) (fr : Int32) (cm : Int32) (cf : Int32) (fa : Int32) (fh : Int32) (bf : Int32) : Met l yP_areLow (.code yP_areLow cP_areLow 1 (some .boolean) :: aw) ({ frames := 0, cells := 0, slots := 0, locals := 0 }) (pR (dC, dI) [(pg, .inr (3, [.int fr, .int cm, .int cf, .int fa, .int fh, .int bf]))] [] [.ref pg]) (vp_Si (fun r => (r = 1 ∧ (¬ (40 : Int32) ≤ fr)) ∨ (r = 0 ∧ ((40 : Int32) ≤ fr)))) 0 0 (fun _ => False) := by
  refine Met.ofW (cc := cP_areLow) (maxL := 1) (ret := (some .boolean)) (by decide) rfl ?_
  intro p e s m args below meth c s₁ B hml hv
  obtain ⟨rfl, hv⟩ := hv
  have hx := B.exec
  have hb := B.bytes
  have hr := B.returns
  have hts : ∀ w ∈ aw, w.before _ s = true := fun w h => atoms_spec (ws := (.code yP_areLow cP_areLow 1 (some .boolean) :: aw)) B.pre w (List.mem_cons_of_mem _ h)
  have hown : s.vm.findClass RP = some m.cls := findClass_of_methodNamed B.named
  have hlocks := B.notSynchronized
  obtain ⟨hP, hK, hG⟩ := hv
  obtain ⟨H, hH⟩ : ∃ H, H = s.heap := ⟨_, rfl⟩
  rw [← hH] at hP ⊢
  have hl := lv_entry ([.ref pg]) (n := 1) (Nat.le_of_ble_eq_true rfl)
  rw [lg_entry_eq]
  generalize (lg_sl ([.ref pg]) ++ List.replicate (1 - (lg_sl ([.ref pg])).length) Slot.unset).toArray = ls at hl ⊢
  have hl : lv_has ls 1 [(0, .ref pg)] := hl
  refine lv_aload_n (pc := 0) hx hb dP_areLow_0 rfl (lv_at hl 0 rfl) ?_
  refine va_get (D := (dC, dI)) (cl := kCl) (C := RP) (T := TP) (N := 6) (pc := 1) hx hb hts inP hown hK hP 0 rfl rfl 0 (by decide) (hts _ wd_75) (fun _ h9 => h9) rfl dP_areLow_1 ?_
  refine lv_bipush (pc := 4) (v := 40) hx hb dP_areLow_4 (by decide) ?_
  refine lv_icmp_ge (pc := 6) (tgt := 13) hx hb dP_areLow_6 rfl (fun h1 => ?_) (fun h1 => ?_)
  · refine lv_iconst (pc := 13) (v := 0) hx hb dP_areLow_13 (by decide) ?_
    exact W.zret (pc := 14) hx hb hr rfl (fun t ht hW => ⟨_, rfl, (Or.inr ⟨rfl, by first | assumption | exact ⟨by assumption, by assumption⟩ | exact Or.inl (by assumption) | exact Or.inr (by assumption) | exact Or.inr (Or.inl (by assumption)) | exact Or.inr (Or.inr (by assumption)) | simp_all⟩), ht.trans hH⟩) (fun q h => nomatch h) dP_areLow_14
  · refine lv_iconst (pc := 9) (v := 1) hx hb dP_areLow_9 (by decide) ?_
    refine lv_goto (pc := 10) (tgt := 14) hx hb dP_areLow_10 rfl ?_
    exact W.zret (pc := 14) hx hb hr rfl (fun t ht hW => ⟨_, rfl, (Or.inl ⟨rfl, by first | assumption | exact ⟨by assumption, by assumption⟩ | exact Or.inl (by assumption) | exact Or.inr (by assumption) | exact Or.inr (Or.inl (by assumption)) | exact Or.inr (Or.inr (by assumption)) | simp_all⟩), ht.trans hH⟩) (fun q h => nomatch h) dP_areLow_14
set_option maxHeartbeats 4000000 in
set_option maxRecDepth 100000 in
theorem gp_copyForward0 (l : Launch) (dC : Nat → ClassId) (dI : Nat → Nat → Nat) (sz : Nat) (pg : Nat) (fr : Int32) (cm : Int32) (cf : Int32) (fa : Int32) (fh : Int32) (bf : Int32) (nd : Int32) (hs : (400 - nd) < 40) : Met l yP_copyForward (.code yP_copyForward cP_copyForward 2 none :: aw) ({ frames := 0, cells := 0, slots := 0, locals := 0 }) (pW (dC, dI) sz [(pg, .inr (3, [.int fr, .int cm, .int cf, .int fa, .int fh, .int bf]))] [] [.ref pg, .int nd]) (va_Qv (fun (_ : Unit) => True) (fun _ t => wW (dC, dI) (va_A [(pg, .inr (3, [.int fr, .int cm, .int cf, .int fa, .int fh, .int bf]))] sz) [(pg, .inr (3, [.int fr, .int cm, .int cf, .int fa, .int fh, .int bf]))] [] t) (va_A [(pg, .inr (3, [.int fr, .int cm, .int cf, .int fa, .int fh, .int bf]))] sz)) 0 0 (va_A [(pg, .inr (3, [.int fr, .int cm, .int cf, .int fa, .int fh, .int bf]))] sz) := by
  refine Met.ofW (cc := cP_copyForward) (maxL := 2) (ret := none) (by decide) rfl ?_
  intro p e s m args below meth c s₁ B hml hv
  obtain ⟨rfl, hv⟩ := hv
  have hx := B.exec
  have hb := B.bytes
  have hr := B.returns
  have hts : ∀ w ∈ aw, w.before _ s = true := fun w h => atoms_spec (ws := (.code yP_copyForward cP_copyForward 2 none :: aw)) B.pre w (List.mem_cons_of_mem _ h)
  have hown : s.vm.findClass RP = some m.cls := findClass_of_methodNamed B.named
  have hlocks := B.notSynchronized
  obtain ⟨hsz, hP, hK, hD0, hG⟩ := hv
  subst hsz
  have hD := hD0.self (sz := s.heap.size)
  generalize hAe : va_A [(pg, .inr (3, [.int fr, .int cm, .int cf, .int fa, .int fh, .int bf]))] s.heap.size = A at hD ⊢
  have hA : ∀ q : Nat, s.heap.size ≤ q → A q := fun q h => by rw [← hAe]; exact Or.inr h
  obtain ⟨H, hH⟩ : ∃ H, H = s.heap := ⟨_, rfl⟩
  have hS : va_S A s.heap H [] := by rw [hH]; exact va_S.rf
  rw [← hH] at hP ⊢
  have hP : va_P (dC, dI) kCl [(pg, .inr (3, [.int fr, .int cm, .int cf, .int fa, .int fh, .int bf]))] H := hP
  have hl := lv_entry ([.ref pg, .int nd]) (n := 2) (Nat.le_of_ble_eq_true rfl)
  rw [lg_entry_eq]
  generalize (lg_sl ([.ref pg, .int nd]) ++ List.replicate (2 - (lg_sl ([.ref pg, .int nd])).length) Slot.unset).toArray = ls at hl ⊢
  have hl : lv_has ls 2 [(0, .ref pg), (1, .int nd)] := hl
  refine lv_sipush (pc := 0) (v := 400) hx hb dP_copyForward_0 (by decide) ?_
  refine lv_iload_n (pc := 3) hx hb dP_copyForward_3 rfl (lv_at hl 1 rfl) ?_
  refine lv_isub (pc := 4) hx hb dP_copyForward_4 ?_
  refine lv_bipush (pc := 5) (v := 40) hx hb dP_copyForward_5 (by decide) ?_
  refine lv_icmp_lt (pc := 7) (tgt := 29) hx hb dP_copyForward_7 rfl (fun h1 => ?_) (fun h1 => absurd hs h1)
  have hP9 := hP.sub (ws' := [(pg, .inr (3, [.int fr, .int cm, .int cf, .int fa, .int fh, .int bf]))]) [0] rfl
  have hD9 := hD.sub (ws' := [(pg, .inr (3, [.int fr, .int cm, .int cf, .int fa, .int fh, .int bf]))]) [0] (by decide) rfl
  have hK9 := hK.sub (tys' := []) [] rfl
  exact W.vret (pc := 29) hx hb hr (fun t ht hW => ⟨⟨(), rfl, trivial, by rw [ht]; exact hP9, va_K.moved hW.alike hK9, hD9⟩, hS.F ht⟩) hS.2.2 dP_copyForward_29
set_option maxHeartbeats 4000000 in
set_option maxRecDepth 100000 in
theorem gp_copyForward1 (l : Launch) (dC : Nat → ClassId) (dI : Nat → Nat → Nat) (sz : Nat) (pg : Nat) (fr : Int32) (cm : Int32) (cf : Int32) (fa : Int32) (fh : Int32) (bf : Int32) (nd : Int32) (hs : ¬ (400 - nd) < 40) : Met l yP_copyForward (.code yP_copyForward cP_copyForward 2 none :: aw) ({ frames := 0, cells := 0, slots := 0, locals := 0 }) (pW (dC, dI) sz [(pg, .inr (3, [.int fr, .int cm, .int cf, .int fa, .int fh, .int bf]))] [] [.ref pg, .int nd]) (va_Qv (fun (_ : Unit) => True) (fun _ t => wW (dC, dI) (va_A [(pg, .inr (3, [.int fr, .int cm, .int cf, .int fa, .int fh, .int bf]))] sz) [(pg, .inr (3, [.int (400 - nd), .int cm, .int (cf + 1), .int fa, .int fh, .int bf]))] [] t) (va_A [(pg, .inr (3, [.int fr, .int cm, .int cf, .int fa, .int fh, .int bf]))] sz)) 0 0 (va_A [(pg, .inr (3, [.int fr, .int cm, .int cf, .int fa, .int fh, .int bf]))] sz) := by
  refine Met.ofW (cc := cP_copyForward) (maxL := 2) (ret := none) (by decide) rfl ?_
  intro p e s m args below meth c s₁ B hml hv
  obtain ⟨rfl, hv⟩ := hv
  have hx := B.exec
  have hb := B.bytes
  have hr := B.returns
  have hts : ∀ w ∈ aw, w.before _ s = true := fun w h => atoms_spec (ws := (.code yP_copyForward cP_copyForward 2 none :: aw)) B.pre w (List.mem_cons_of_mem _ h)
  have hown : s.vm.findClass RP = some m.cls := findClass_of_methodNamed B.named
  have hlocks := B.notSynchronized
  obtain ⟨hsz, hP, hK, hD0, hG⟩ := hv
  subst hsz
  have hD := hD0.self (sz := s.heap.size)
  generalize hAe : va_A [(pg, .inr (3, [.int fr, .int cm, .int cf, .int fa, .int fh, .int bf]))] s.heap.size = A at hD ⊢
  have hA : ∀ q : Nat, s.heap.size ≤ q → A q := fun q h => by rw [← hAe]; exact Or.inr h
  obtain ⟨H, hH⟩ : ∃ H, H = s.heap := ⟨_, rfl⟩
  have hS : va_S A s.heap H [] := by rw [hH]; exact va_S.rf
  rw [← hH] at hP ⊢
  have hP : va_P (dC, dI) kCl [(pg, .inr (3, [.int fr, .int cm, .int cf, .int fa, .int fh, .int bf]))] H := hP
  have hl := lv_entry ([.ref pg, .int nd]) (n := 2) (Nat.le_of_ble_eq_true rfl)
  rw [lg_entry_eq]
  generalize (lg_sl ([.ref pg, .int nd]) ++ List.replicate (2 - (lg_sl ([.ref pg, .int nd])).length) Slot.unset).toArray = ls at hl ⊢
  have hl : lv_has ls 2 [(0, .ref pg), (1, .int nd)] := hl
  refine lv_sipush (pc := 0) (v := 400) hx hb dP_copyForward_0 (by decide) ?_
  refine lv_iload_n (pc := 3) hx hb dP_copyForward_3 rfl (lv_at hl 1 rfl) ?_
  refine lv_isub (pc := 4) hx hb dP_copyForward_4 ?_
  refine lv_bipush (pc := 5) (v := 40) hx hb dP_copyForward_5 (by decide) ?_
  refine lv_icmp_lt (pc := 7) (tgt := 29) hx hb dP_copyForward_7 rfl (fun h1 => absurd h1 hs) (fun h1 => ?_)
  refine lv_aload_n (pc := 10) hx hb dP_copyForward_10 rfl (lv_at hl 0 rfl) ?_
  refine lv_sipush (pc := 11) (v := 400) hx hb dP_copyForward_11 (by decide) ?_
  refine lv_iload_n (pc := 14) hx hb dP_copyForward_14 rfl (lv_at hl 1 rfl) ?_
  refine lv_isub (pc := 15) hx hb dP_copyForward_15 ?_
  refine va_put (D := (dC, dI)) (cl := kCl) (ci := 3) (v := .int (400 - nd)) (ty := .int) (C := RP) (T := TP) (N := 6) (pc := 16) hx hb hts inP tyP tyP_ok nmP hown hK hP hD hS 0 rfl rfl 0 (by decide) (hts _ wd_75) (fun _ h9 => h9) rfl (by decide +kernel) rfl rfl (Nat.le_of_ble_eq_true rfl) dP_copyForward_16 (fun H locs hP hD hS => ?_)
  have hP : va_P (dC, dI) kCl [(pg, .inr (3, [.int (400 - nd), .int cm, .int cf, .int fa, .int fh, .int bf]))] H := hP
  have hD : va_D A [(pg, .inr (3, [.int (400 - nd), .int cm, .int cf, .int fa, .int fh, .int bf]))] := hD
  refine lv_aload_n (pc := 19) hx hb dP_copyForward_19 rfl (lv_at hl 0 rfl) ?_
  refine lv_dup (pc := 20) hx hb dP_copyForward_20 rfl ?_
  refine va_get (D := (dC, dI)) (cl := kCl) (C := RP) (T := TP) (N := 6) (pc := 21) hx hb hts inP hown hK hP 0 rfl rfl 2 (by decide) (hts _ wd_77) (fun _ h9 => h9) rfl dP_copyForward_21 ?_
  refine lv_iconst (pc := 24) (v := 1) hx hb dP_copyForward_24 (by decide) ?_
  refine lv_iadd (pc := 25) hx hb dP_copyForward_25 ?_
  refine va_put (D := (dC, dI)) (cl := kCl) (ci := 3) (v := .int (cf + 1)) (ty := .int) (C := RP) (T := TP) (N := 6) (pc := 26) hx hb hts inP tyP tyP_ok nmP hown hK hP hD hS 0 rfl rfl 2 (by decide) (hts _ wd_77) (fun _ h9 => h9) rfl (by decide +kernel) rfl rfl (Nat.le_of_ble_eq_true rfl) dP_copyForward_26 (fun H locs hP hD hS => ?_)
  have hP : va_P (dC, dI) kCl [(pg, .inr (3, [.int (400 - nd), .int cm, .int (cf + 1), .int fa, .int fh, .int bf]))] H := hP
  have hD : va_D A [(pg, .inr (3, [.int (400 - nd), .int cm, .int (cf + 1), .int fa, .int fh, .int bf]))] := hD
  have hP9 := hP.sub (ws' := [(pg, .inr (3, [.int (400 - nd), .int cm, .int (cf + 1), .int fa, .int fh, .int bf]))]) [0] rfl
  have hD9 := hD.sub (ws' := [(pg, .inr (3, [.int (400 - nd), .int cm, .int (cf + 1), .int fa, .int fh, .int bf]))]) [0] (by decide) rfl
  have hK9 := hK.sub (tys' := []) [] rfl
  exact W.vret (pc := 29) hx hb hr (fun t ht hW => ⟨⟨(), rfl, trivial, by rw [ht]; exact hP9, va_K.moved hW.alike hK9, hD9⟩, hS.F ht⟩) hS.2.2 dP_copyForward_29
