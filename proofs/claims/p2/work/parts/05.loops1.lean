abbrev cV_bit : ByteArray := prog_1_method_41_code
abbrev yV_bit : MethodName := ⟨"DrawingVault", "bit", "(I)I"⟩
theorem dV_bit_0 : decode cV_bit 0 = .ok (.iconst 1, 1) := by decide +kernel
theorem dV_bit_1 : decode cV_bit 1 = .ok (.iload_n 0, 1) := by decide +kernel
theorem dV_bit_2 : decode cV_bit 2 = .ok (.ishl, 1) := by decide +kernel
theorem dV_bit_3 : decode cV_bit 3 = .ok (.ireturn, 1) := by decide +kernel
abbrev cC_targetBits : ByteArray := prog_4_method_15_code
abbrev yC_targetBits : MethodName := ⟨"DrawingVault$Content", "targetBits", "()I"⟩
theorem dC_targetBits_0 : decode cC_targetBits 0 = .ok (.iconst 0, 1) := by decide +kernel
theorem dC_targetBits_1 : decode cC_targetBits 1 = .ok (.istore_n 1, 1) := by decide +kernel
theorem dC_targetBits_2 : decode cC_targetBits 2 = .ok (.iconst 0, 1) := by decide +kernel
theorem dC_targetBits_3 : decode cC_targetBits 3 = .ok (.istore_n 2, 1) := by decide +kernel
theorem dC_targetBits_4 : decode cC_targetBits 4 = .ok (.iload_n 2, 1) := by decide +kernel
theorem dC_targetBits_5 : decode cC_targetBits 5 = .ok (.aload_n 0, 1) := by decide +kernel
theorem dC_targetBits_6 : decode cC_targetBits 6 = .ok (.getfield 32, 3) := by decide +kernel
theorem dC_targetBits_9 : decode cC_targetBits 9 = .ok (.if_icmp .ge 21, 3) := by decide +kernel
theorem dC_targetBits_12 : decode cC_targetBits 12 = .ok (.iload_n 1, 1) := by decide +kernel
theorem dC_targetBits_13 : decode cC_targetBits 13 = .ok (.aload_n 0, 1) := by decide +kernel
theorem dC_targetBits_14 : decode cC_targetBits 14 = .ok (.getfield 15, 3) := by decide +kernel
theorem dC_targetBits_17 : decode cC_targetBits 17 = .ok (.iload_n 2, 1) := by decide +kernel
theorem dC_targetBits_18 : decode cC_targetBits 18 = .ok (.iaload, 1) := by decide +kernel
theorem dC_targetBits_19 : decode cC_targetBits 19 = .ok (.invokestatic 65, 3) := by decide +kernel
theorem dC_targetBits_22 : decode cC_targetBits 22 = .ok (.ior, 1) := by decide +kernel
theorem dC_targetBits_23 : decode cC_targetBits 23 = .ok (.istore_n 1, 1) := by decide +kernel
theorem dC_targetBits_24 : decode cC_targetBits 24 = .ok (.iinc 2 1, 3) := by decide +kernel
theorem dC_targetBits_27 : decode cC_targetBits 27 = .ok (.goto (-23), 3) := by decide +kernel
theorem dC_targetBits_30 : decode cC_targetBits 30 = .ok (.iload_n 1, 1) := by decide +kernel
theorem dC_targetBits_31 : decode cC_targetBits 31 = .ok (.ireturn, 1) := by decide +kernel
abbrev cC_names : ByteArray := prog_4_method_14_code
abbrev yC_names : MethodName := ⟨"DrawingVault$Content", "names", "(II)Z"⟩
theorem dC_names_0 : decode cC_names 0 = .ok (.iconst 0, 1) := by decide +kernel
theorem dC_names_1 : decode cC_names 1 = .ok (.istore_n 3, 1) := by decide +kernel
theorem dC_names_2 : decode cC_names 2 = .ok (.iload_n 3, 1) := by decide +kernel
theorem dC_names_3 : decode cC_names 3 = .ok (.aload_n 0, 1) := by decide +kernel
theorem dC_names_4 : decode cC_names 4 = .ok (.getfield 32, 3) := by decide +kernel
theorem dC_names_7 : decode cC_names 7 = .ok (.if_icmp .ge 31, 3) := by decide +kernel
theorem dC_names_10 : decode cC_names 10 = .ok (.aload_n 0, 1) := by decide +kernel
theorem dC_names_11 : decode cC_names 11 = .ok (.getfield 15, 3) := by decide +kernel
theorem dC_names_14 : decode cC_names 14 = .ok (.iload_n 3, 1) := by decide +kernel
theorem dC_names_15 : decode cC_names 15 = .ok (.iaload, 1) := by decide +kernel
theorem dC_names_16 : decode cC_names 16 = .ok (.iload_n 1, 1) := by decide +kernel
theorem dC_names_17 : decode cC_names 17 = .ok (.if_icmp .ne 15, 3) := by decide +kernel
theorem dC_names_20 : decode cC_names 20 = .ok (.aload_n 0, 1) := by decide +kernel
theorem dC_names_21 : decode cC_names 21 = .ok (.getfield 19, 3) := by decide +kernel
theorem dC_names_24 : decode cC_names 24 = .ok (.iload_n 3, 1) := by decide +kernel
theorem dC_names_25 : decode cC_names 25 = .ok (.iaload, 1) := by decide +kernel
theorem dC_names_26 : decode cC_names 26 = .ok (.iload_n 2, 1) := by decide +kernel
theorem dC_names_27 : decode cC_names 27 = .ok (.if_icmp .ne 5, 3) := by decide +kernel
theorem dC_names_30 : decode cC_names 30 = .ok (.iconst 1, 1) := by decide +kernel
theorem dC_names_31 : decode cC_names 31 = .ok (.ireturn, 1) := by decide +kernel
theorem dC_names_32 : decode cC_names 32 = .ok (.iinc 3 1, 3) := by decide +kernel
theorem dC_names_35 : decode cC_names 35 = .ok (.goto (-33), 3) := by decide +kernel
theorem dC_names_38 : decode cC_names 38 = .ok (.iconst 0, 1) := by decide +kernel
theorem dC_names_39 : decode cC_names 39 = .ok (.ireturn, 1) := by decide +kernel
theorem wd_78 : (.code ⟨"DrawingVault", "bit", "(I)I"⟩ prog_1_method_41_code 1 (Option.some .int) : Cond) ∈ aw := aw_in (tb_1 (List.mem_of_getElem? (i := 145) rfl)) rfl
theorem wd_79 : (.initialized "DrawingVault" : Cond) ∈ aw := aw_in (tb_1 (List.mem_of_getElem? (i := 1) rfl)) rfl
theorem wd_80 : (.static ⟨"DrawingVault", "bit", "(I)I"⟩ : Cond) ∈ aw := aw_in (tb_1 (List.mem_of_getElem? (i := 144) rfl)) rfl

theorem nlt_of {a b : Nat} (h : ¬ nI b ≤ nI a) (ha : a < 2 ^ 31) : a < b := by
  rcases Nat.lt_or_ge a b with q | q
  · exact q
  · exact absurd (nI_le q ha) h
theorem nle_of {a b : Nat} (h : nI b ≤ nI a) (ha : a < 2 ^ 31) (hb : b < 2 ^ 31) : b ≤ a := (nI_leI hb ha).mp h
/-- the drawings that a content refers to, as bits -/
def c_bits (ft : Nat → Int32) : Nat → Int32
  | 0 => 0
  | n + 1 => c_bits ft n ||| (1 <<< (ft n &&& 31))

set_option maxHeartbeats 4000000 in
set_option maxRecDepth 100000 in
theorem gv_bit (l : Launch) (dC : Nat → ClassId) (dI : Nat → Nat → Nat) (dd : Int32) : Met l yV_bit (.code yV_bit cV_bit 1 (some .int) :: aw) ({ frames := 0, cells := 0, slots := 0, locals := 0 }) (pR (dC, dI) [] [] [.int dd]) (vp_Si (fun r => r = (1 <<< (dd &&& 31)))) 0 0 (fun _ => False) := by
  refine Met.ofW (cc := cV_bit) (maxL := 1) (ret := (some .int)) (by decide) rfl ?_
  intro p e s m args below meth c s₁ B hml hv
  obtain ⟨rfl, hv⟩ := hv
  have hx := B.exec
  have hb := B.bytes
  have hr := B.returns
  have hts : ∀ w ∈ aw, w.before _ s = true := fun w h => atoms_spec (ws := (.code yV_bit cV_bit 1 (some .int) :: aw)) B.pre w (List.mem_cons_of_mem _ h)
  have hown : s.vm.findClass RV = some m.cls := findClass_of_methodNamed B.named
  have hlocks := B.notSynchronized
  obtain ⟨hP, hK, hG⟩ := hv
  obtain ⟨H, hH⟩ : ∃ H, H = s.heap := ⟨_, rfl⟩
  rw [← hH] at hP ⊢
  have hl := lv_entry ([.int dd]) (n := 1) (Nat.le_of_ble_eq_true rfl)
  rw [lg_entry_eq]
  generalize (lg_sl ([.int dd]) ++ List.replicate (1 - (lg_sl ([.int dd])).length) Slot.unset).toArray = ls at hl ⊢
  have hl : lv_has ls 1 [(0, .int dd)] := hl
  refine lv_iconst (pc := 0) (v := 1) hx hb dV_bit_0 (by decide) ?_
  refine lv_iload_n (pc := 1) hx hb dV_bit_1 rfl (lv_at hl 0 rfl) ?_
  refine lv_ishl (pc := 2) hx hb dV_bit_2 ?_
  exact W.iret (pc := 3) hx hb hr (fun t ht hW => ⟨_, rfl, rfl, ht.trans hH⟩) (fun q h => nomatch h) dV_bit_3
set_option maxHeartbeats 4000000 in
set_option maxRecDepth 100000 in
theorem c_targetBits (l : Launch) (dC : Nat → ClassId) (dI : Nat → Nat → Nat) (ct : Nat) (pc9 : Nat) (tg : Nat) (fx : Nat) (rn : Nat) (bi : Int32) (cT : ClassId) (ft : Nat → Int32) (hr6 : rn ≤ 6) : Met l yC_targetBits (.code yC_targetBits cC_targetBits 3 (some .int) :: aw) ({ frames := 1, cells := 0, slots := 0, locals := 20 }) (pR (dC, dI) [(ct, .inr (5, [.ref pc9, .int bi, .ref tg, .ref fx, .int (nI rn)])), (tg, .inl (cT, 6, .inl ft))] [(cT, .int)] [.ref ct]) (vp_Si (fun r => r = (c_bits ft rn))) 0 0 (fun _ => False) := by
  refine Met.ofW (cc := cC_targetBits) (maxL := 3) (ret := (some .int)) (by decide) rfl ?_
  intro p e s m args below meth c s₁ B hml hv
  obtain ⟨rfl, hv⟩ := hv
  have hx := B.exec
  have hb := B.bytes
  have hr := B.returns
  have hts : ∀ w ∈ aw, w.before _ s = true := fun w h => atoms_spec (ws := (.code yC_targetBits cC_targetBits 3 (some .int) :: aw)) B.pre w (List.mem_cons_of_mem _ h)
  have hown : s.vm.findClass RC = some m.cls := findClass_of_methodNamed B.named
  have hlocks := B.notSynchronized
  obtain ⟨hP, hK, hG⟩ := hv
  obtain ⟨H, hH⟩ : ∃ H, H = s.heap := ⟨_, rfl⟩
  rw [← hH] at hP ⊢
  have hl := lv_entry ([.ref ct]) (n := 3) (Nat.le_of_ble_eq_true rfl)
  rw [lg_entry_eq]
  generalize (lg_sl ([.ref ct]) ++ List.replicate (3 - (lg_sl ([.ref ct])).length) Slot.unset).toArray = ls at hl ⊢
  have hl : lv_has ls 3 [(0, .ref ct)] := hl
  refine lv_iconst (pc := 0) (v := 0) hx hb dC_targetBits_0 (by decide) ?_
  refine lv_istore_n (pc := 1) hx hb dC_targetBits_1 rfl hl (by decide) rfl (fun ls hl => ?_)
  have hl : lv_has ls 3 [(1, .int 0), (0, .ref ct)] := hl
  refine lv_iconst (pc := 2) (v := 0) hx hb dC_targetBits_2 (by decide) ?_
  refine lv_istore_n (pc := 3) hx hb dC_targetBits_3 rfl hl (by decide) rfl (fun ls hl => ?_)
  have hl : lv_has ls 3 [(2, .int 0), (1, .int 0), (0, .ref ct)] := hl
  refine lpM (σ := (Nat) × (Array Slot)) (fun z => W p l e _ s m _ below meth c H ([]) 0 0 _ (F0 m 4 z.2 [])) (fun z => lv_has z.2 3 [(2, .int (nI z.1)), (1, .int (c_bits ft z.1)), (0, .ref ct)] ∧ (z.1 ≤ rn)) (fun z => rn - z.1) ?_ (0, ls) ⟨hl, Nat.zero_le _⟩
  rintro ⟨i, ls⟩ ⟨hl, hi⟩ ih
  try dsimp only at hl hi ih ⊢
  have hl : lv_has ls 3 [(2, .int (nI i)), (1, .int (c_bits ft i)), (0, .ref ct)] := hl
  have hi : i ≤ rn := hi
  refine lv_iload_n (pc := 4) hx hb dC_targetBits_4 rfl (lv_at hl 0 rfl) ?_
  refine lv_aload_n (pc := 5) hx hb dC_targetBits_5 rfl (lv_at hl 2 rfl) ?_
  refine va_get (D := (dC, dI)) (cl := kCl) (C := RC) (T := TC) (N := 5) (pc := 6) hx hb hts inC hown hK hP 0 rfl rfl 4 (by decide) (hts _ wd_46) (fun _ h9 => h9) rfl dC_targetBits_6 ?_
  refine lv_icmp_ge (pc := 9) (tgt := 30) hx hb dC_targetBits_9 rfl (fun h1 => ?_) (fun h1 => ?_)
  · refine lv_iload_n (pc := 30) hx hb dC_targetBits_30 rfl (lv_at hl 1 rfl) ?_
    exact W.iret (pc := 31) hx hb hr (fun t ht hW => ⟨_, rfl, congrArg (c_bits ft) (Nat.le_antisymm hi (nle_of h1 (by omega) (by omega))), ht.trans hH⟩) (fun q h => nomatch h) dC_targetBits_31
  · refine lv_iload_n (pc := 12) hx hb dC_targetBits_12 rfl (lv_at hl 1 rfl) ?_
    refine lv_aload_n (pc := 13) hx hb dC_targetBits_13 rfl (lv_at hl 2 rfl) ?_
    refine va_get (D := (dC, dI)) (cl := kCl) (C := RC) (T := TC) (N := 5) (pc := 14) hx hb hts inC hown hK hP 0 rfl rfl 2 (by decide) (hts _ wd_61) (fun _ h9 => h9) rfl dC_targetBits_14 ?_
    refine lv_iload_n (pc := 17) hx hb dC_targetBits_17 rfl (lv_at hl 0 rfl) ?_
    refine va_iald (D := (dC, dI)) (cl := kCl) (pc := 18) hx hb hK hP 1 0 rfl rfl (vp_in_nI (Nat.lt_of_lt_of_le (nlt_of h1 (by omega)) hr6) (by decide)) dC_targetBits_18 ?_
    refine W.eq (g2 := F0 m 19 ls [.int (ft ((nI i) : Int32).toNatClampNeg), .int (c_bits ft i)]) rfl ?_
    refine lv_topi (fun z2 hz3 => ?_)
    obtain rfl : z2 = ft i := hz3.trans (by rw [nI_clamp (by omega)])
    refine vp_callSi (pc := 19) (va_Run.run <| va_runSN (As := [.int (ft i)]) (rest := [.int (c_bits ft i)]) ⟨hx, hb, hml, hown, hts⟩ (gv_bit l dC dI (ft i)) (⟨va_cnB 1 hts (gI wd_78) rfl rfl rfl (eG_C65 hG) (hts _ wd_79) (by decide +kernel) ⟨Nat.le_of_ble_eq_true rfl, Nat.le_of_ble_eq_true rfl⟩, hts _ wd_80, trivial⟩) ⟨pR_blind, pR_pre (hP.sub (ws' := []) [] rfl) (hK.sub (tys' := []) [] rfl) hG⟩ rfl rfl hl.1 rfl (lv_room (Nat.le_of_ble_eq_true rfl)) dC_targetBits_19 ⟨Nat.le_of_ble_eq_true rfl, Nat.le_of_ble_eq_true rfl⟩) (fun r4 hr5 => ?_)
    obtain rfl : r4 = (1 <<< ((ft i) &&& 31)) := hr5
    refine lv_ior (pc := 22) hx hb dC_targetBits_22 ?_
    refine lv_istore_n (pc := 23) hx hb dC_targetBits_23 rfl hl (by decide) rfl (fun ls hl => ?_)
    have hl : lv_has ls 3 [(1, .int ((c_bits ft i) ||| (1 <<< ((ft i) &&& 31)))), (2, .int (nI i)), (0, .ref ct)] := hl
    refine lv_iinc (pc := 24) (v := (nI (i + 1))) hx hb dC_targetBits_24 hl (k := 1) rfl (nI_1 _) (by decide) rfl (fun ls hl => ?_)
    have hl : lv_has ls 3 [(2, .int (nI (i + 1))), (1, .int ((c_bits ft i) ||| (1 <<< ((ft i) &&& 31)))), (0, .ref ct)] := hl
    refine lv_goto (pc := 27) (tgt := 4) hx hb dC_targetBits_27 rfl ?_
    have hl := lv_sub hl (l' := [(2, .int (nI (i + 1))), (1, .int ((c_bits ft i) ||| (1 <<< ((ft i) &&& 31)))), (0, .ref ct)]) [0, 1, 2] rfl
    exact ih (i + 1, ls) ⟨hl, (nlt_of h1 (by omega))⟩ (by have := nlt_of h1 (by omega); omega)
set_option maxHeartbeats 4000000 in
set_option maxRecDepth 100000 in
theorem c_names (l : Launch) (dC : Nat → ClassId) (dI : Nat → Nat → Nat) (ct : Nat) (pc9 : Nat) (tg : Nat) (fx : Nat) (rn : Nat) (bi : Int32) (cT : ClassId) (ft : Nat → Int32) (cX : ClassId) (ff : Nat → Int32) (tv : Int32) (fv9 : Int32) (hr6 : rn ≤ 6) : Met l yC_names (.code yC_names cC_names 4 (some .boolean) :: aw) ({ frames := 0, cells := 0, slots := 0, locals := 0 }) (pR (dC, dI) [(ct, .inr (5, [.ref pc9, .int bi, .ref tg, .ref fx, .int (nI rn)])), (tg, .inl (cT, 6, .inl ft)), (fx, .inl (cX, 6, .inl ff))] [(cT, .int), (cX, .int)] [.ref ct, .int tv, .int fv9]) (vp_Si (fun r => (r = 1 ∧ (∃ k, k < rn ∧ ft k = tv ∧ ff k = fv9)) ∨ (r = 0 ∧ (∀ k, k < rn → ¬ (ft k = tv ∧ ff k = fv9))))) 0 0 (fun _ => False) := by
  refine Met.ofW (cc := cC_names) (maxL := 4) (ret := (some .boolean)) (by decide) rfl ?_
  intro p e s m args below meth c s₁ B hml hv
  obtain ⟨rfl, hv⟩ := hv
  have hx := B.exec
  have hb := B.bytes
  have hr := B.returns
  have hts : ∀ w ∈ aw, w.before _ s = true := fun w h => atoms_spec (ws := (.code yC_names cC_names 4 (some .boolean) :: aw)) B.pre w (List.mem_cons_of_mem _ h)
  have hown : s.vm.findClass RC = some m.cls := findClass_of_methodNamed B.named
  have hlocks := B.notSynchronized
  obtain ⟨hP, hK, hG⟩ := hv
  obtain ⟨H, hH⟩ : ∃ H, H = s.heap := ⟨_, rfl⟩
  rw [← hH] at hP ⊢
  have hl := lv_entry ([.ref ct, .int tv, .int fv9]) (n := 4) (Nat.le_of_ble_eq_true rfl)
  rw [lg_entry_eq]
  generalize (lg_sl ([.ref ct, .int tv, .int fv9]) ++ List.replicate (4 - (lg_sl ([.ref ct, .int tv, .int fv9])).length) Slot.unset).toArray = ls at hl ⊢
  have hl : lv_has ls 4 [(0, .ref ct), (1, .int tv), (2, .int fv9)] := hl
  refine lv_iconst (pc := 0) (v := 0) hx hb dC_names_0 (by decide) ?_
  refine lv_istore_n (pc := 1) hx hb dC_names_1 rfl hl (by decide) rfl (fun ls hl => ?_)
  have hl : lv_has ls 4 [(3, .int 0), (0, .ref ct), (1, .int tv), (2, .int fv9)] := hl
  refine lpM (σ := (Nat) × (Array Slot)) (fun z => W p l e _ s m _ below meth c H ([]) 0 0 _ (F0 m 2 z.2 [])) (fun z => lv_has z.2 4 [(3, .int (nI z.1)), (0, .ref ct), (1, .int tv), (2, .int fv9)] ∧ (z.1 ≤ rn) ∧ (∀ k, k < z.1 → ¬ (ft k = tv ∧ ff k = fv9))) (fun z => rn - z.1) ?_ (0, ls) ⟨hl, Nat.zero_le _, lt_0⟩
  rintro ⟨i, ls⟩ ⟨hl, hi, hno⟩ ih
  try dsimp only at hl hi hno ih ⊢
  have hl : lv_has ls 4 [(3, .int (nI i)), (0, .ref ct), (1, .int tv), (2, .int fv9)] := hl
  have hi : i ≤ rn := hi
  have hno : ∀ k, k < i → ¬ (ft k = tv ∧ ff k = fv9) := hno
  refine lv_iload_n (pc := 2) hx hb dC_names_2 rfl (lv_at hl 0 rfl) ?_
  refine lv_aload_n (pc := 3) hx hb dC_names_3 rfl (lv_at hl 1 rfl) ?_
  refine va_get (D := (dC, dI)) (cl := kCl) (C := RC) (T := TC) (N := 5) (pc := 4) hx hb hts inC hown hK hP 0 rfl rfl 4 (by decide) (hts _ wd_46) (fun _ h9 => h9) rfl dC_names_4 ?_
  refine lv_icmp_ge (pc := 7) (tgt := 38) hx hb dC_names_7 rfl (fun h1 => ?_) (fun h1 => ?_)
  · refine lv_iconst (pc := 38) (v := 0) hx hb dC_names_38 (by decide) ?_
    exact W.zret (pc := 39) hx hb hr rfl (fun t ht hW => ⟨_, rfl, (Or.inr ⟨rfl, fun k hk => hno k (Nat.lt_of_lt_of_le hk (nle_of h1 (by omega) (by omega)))⟩), ht.trans hH⟩) (fun q h => nomatch h) dC_names_39
  · refine lv_aload_n (pc := 10) hx hb dC_names_10 rfl (lv_at hl 1 rfl) ?_
    refine va_get (D := (dC, dI)) (cl := kCl) (C := RC) (T := TC) (N := 5) (pc := 11) hx hb hts inC hown hK hP 0 rfl rfl 2 (by decide) (hts _ wd_61) (fun _ h9 => h9) rfl dC_names_11 ?_
    refine lv_iload_n (pc := 14) hx hb dC_names_14 rfl (lv_at hl 0 rfl) ?_
    refine va_iald (D := (dC, dI)) (cl := kCl) (pc := 15) hx hb hK hP 1 0 rfl rfl (vp_in_nI (Nat.lt_of_lt_of_le (nlt_of h1 (by omega)) hr6) (by decide)) dC_names_15 ?_
    refine W.eq (g2 := F0 m 16 ls [.int (ft ((nI i) : Int32).toNatClampNeg)]) rfl ?_
    refine lv_topi (fun z2 hz3 => ?_)
    obtain rfl : z2 = ft i := hz3.trans (by rw [nI_clamp (by omega)])
    refine lv_iload_n (pc := 16) hx hb dC_names_16 rfl (lv_at hl 2 rfl) ?_
    refine lv_icmp_ne (pc := 17) (tgt := 32) hx hb dC_names_17 rfl (fun h4 => ?_) (fun h4 => ?_)
    · refine lv_iinc (pc := 32) (v := (nI (i + 1))) hx hb dC_names_32 hl (k := 0) rfl (nI_1 _) (by decide) rfl (fun ls hl => ?_)
      have hl : lv_has ls 4 [(3, .int (nI (i + 1))), (0, .ref ct), (1, .int tv), (2, .int fv9)] := hl
      refine lv_goto (pc := 35) (tgt := 2) hx hb dC_names_35 rfl ?_
      have hl := lv_sub hl (l' := [(3, .int (nI (i + 1))), (0, .ref ct), (1, .int tv), (2, .int fv9)]) [0, 1, 2, 3] rfl
      exact ih (i + 1, ls) ⟨hl, (nlt_of h1 (by omega)), (lt_s hno (fun q => h4 q.1))⟩ (by have := nlt_of h1 (by omega); omega)
    · refine lv_aload_n (pc := 20) hx hb dC_names_20 rfl (lv_at hl 1 rfl) ?_
      refine va_get (D := (dC, dI)) (cl := kCl) (C := RC) (T := TC) (N := 5) (pc := 21) hx hb hts inC hown hK hP 0 rfl rfl 3 (by decide) (hts _ wd_62) (fun _ h9 => h9) rfl dC_names_21 ?_
      refine lv_iload_n (pc := 24) hx hb dC_names_24 rfl (lv_at hl 0 rfl) ?_
      refine va_iald (D := (dC, dI)) (cl := kCl) (pc := 25) hx hb hK hP 2 1 rfl rfl (vp_in_nI (Nat.lt_of_lt_of_le (nlt_of h1 (by omega)) hr6) (by decide)) dC_names_25 ?_
      refine W.eq (g2 := F0 m 26 ls [.int (ff ((nI i) : Int32).toNatClampNeg)]) rfl ?_
      refine lv_topi (fun z5 hz6 => ?_)
      obtain rfl : z5 = ff i := hz6.trans (by rw [nI_clamp (by omega)])
      refine lv_iload_n (pc := 26) hx hb dC_names_26 rfl (lv_at hl 3 rfl) ?_
      refine lv_icmp_ne (pc := 27) (tgt := 32) hx hb dC_names_27 rfl (fun h7 => ?_) (fun h7 => ?_)
      · refine lv_iinc (pc := 32) (v := (nI (i + 1))) hx hb dC_names_32 hl (k := 0) rfl (nI_1 _) (by decide) rfl (fun ls hl => ?_)
        have hl : lv_has ls 4 [(3, .int (nI (i + 1))), (0, .ref ct), (1, .int tv), (2, .int fv9)] := hl
        refine lv_goto (pc := 35) (tgt := 2) hx hb dC_names_35 rfl ?_
        have hl := lv_sub hl (l' := [(3, .int (nI (i + 1))), (0, .ref ct), (1, .int tv), (2, .int fv9)]) [0, 1, 2, 3] rfl
        exact ih (i + 1, ls) ⟨hl, (nlt_of h1 (by omega)), (lt_s hno (fun q => h7 q.2))⟩ (by have := nlt_of h1 (by omega); omega)
      · refine lv_iconst (pc := 30) (v := 1) hx hb dC_names_30 (by decide) ?_
        exact W.zret (pc := 31) hx hb hr rfl (fun t ht hW => ⟨_, rfl, (Or.inl ⟨rfl, i, nlt_of h1 (by omega), h4, h7⟩), ht.trans hH⟩) (fun q h => nomatch h) dC_names_31
