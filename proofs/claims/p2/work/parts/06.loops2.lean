abbrev cC_setBytes : ByteArray := prog_4_method_7_code
abbrev yC_setBytes : MethodName := ⟨"DrawingVault$Content", "setBytes", "(I)V"⟩
theorem dC_setBytes_0 : decode cC_setBytes 0 = .ok (.iload_n 1, 1) := by decide +kernel
theorem dC_setBytes_1 : decode cC_setBytes 1 = .ok (.istore_n 2, 1) := by decide +kernel
theorem dC_setBytes_2 : decode cC_setBytes 2 = .ok (.iload_n 2, 1) := by decide +kernel
theorem dC_setBytes_3 : decode cC_setBytes 3 = .ok (.aload_n 0, 1) := by decide +kernel
theorem dC_setBytes_4 : decode cC_setBytes 4 = .ok (.getfield 28, 3) := by decide +kernel
theorem dC_setBytes_7 : decode cC_setBytes 7 = .ok (.if_icmp .ge 15, 3) := by decide +kernel
theorem dC_setBytes_10 : decode cC_setBytes 10 = .ok (.aload_n 0, 1) := by decide +kernel
theorem dC_setBytes_11 : decode cC_setBytes 11 = .ok (.iload_n 2, 1) := by decide +kernel
theorem dC_setBytes_12 : decode cC_setBytes 12 = .ok (.iconst 0, 1) := by decide +kernel
theorem dC_setBytes_13 : decode cC_setBytes 13 = .ok (.invokevirtual 49, 3) := by decide +kernel
theorem dC_setBytes_16 : decode cC_setBytes 16 = .ok (.iinc 2 1, 3) := by decide +kernel
theorem dC_setBytes_19 : decode cC_setBytes 19 = .ok (.goto (-17), 3) := by decide +kernel
theorem dC_setBytes_22 : decode cC_setBytes 22 = .ok (.aload_n 0, 1) := by decide +kernel
theorem dC_setBytes_23 : decode cC_setBytes 23 = .ok (.iload_n 1, 1) := by decide +kernel
theorem dC_setBytes_24 : decode cC_setBytes 24 = .ok (.putfield 28, 3) := by decide +kernel
theorem dC_setBytes_27 : decode cC_setBytes 27 = .ok (.return_, 1) := by decide +kernel
abbrev cC_removeReference : ByteArray := prog_4_method_13_code
abbrev yC_removeReference : MethodName := ⟨"DrawingVault$Content", "removeReference", "(I)V"⟩
theorem dC_removeReference_0 : decode cC_removeReference 0 = .ok (.aload_n 0, 1) := by decide +kernel
theorem dC_removeReference_1 : decode cC_removeReference 1 = .ok (.dup, 1) := by decide +kernel
theorem dC_removeReference_2 : decode cC_removeReference 2 = .ok (.getfield 32, 3) := by decide +kernel
theorem dC_removeReference_5 : decode cC_removeReference 5 = .ok (.iconst 1, 1) := by decide +kernel
theorem dC_removeReference_6 : decode cC_removeReference 6 = .ok (.isub, 1) := by decide +kernel
theorem dC_removeReference_7 : decode cC_removeReference 7 = .ok (.putfield 32, 3) := by decide +kernel
theorem dC_removeReference_10 : decode cC_removeReference 10 = .ok (.iload_n 1, 1) := by decide +kernel
theorem dC_removeReference_11 : decode cC_removeReference 11 = .ok (.istore_n 2, 1) := by decide +kernel
theorem dC_removeReference_12 : decode cC_removeReference 12 = .ok (.iload_n 2, 1) := by decide +kernel
theorem dC_removeReference_13 : decode cC_removeReference 13 = .ok (.aload_n 0, 1) := by decide +kernel
theorem dC_removeReference_14 : decode cC_removeReference 14 = .ok (.getfield 32, 3) := by decide +kernel
theorem dC_removeReference_17 : decode cC_removeReference 17 = .ok (.if_icmp .ge 37, 3) := by decide +kernel
theorem dC_removeReference_20 : decode cC_removeReference 20 = .ok (.aload_n 0, 1) := by decide +kernel
theorem dC_removeReference_21 : decode cC_removeReference 21 = .ok (.getfield 15, 3) := by decide +kernel
theorem dC_removeReference_24 : decode cC_removeReference 24 = .ok (.iload_n 2, 1) := by decide +kernel
theorem dC_removeReference_25 : decode cC_removeReference 25 = .ok (.aload_n 0, 1) := by decide +kernel
theorem dC_removeReference_26 : decode cC_removeReference 26 = .ok (.getfield 15, 3) := by decide +kernel
theorem dC_removeReference_29 : decode cC_removeReference 29 = .ok (.iload_n 2, 1) := by decide +kernel
theorem dC_removeReference_30 : decode cC_removeReference 30 = .ok (.iconst 1, 1) := by decide +kernel
theorem dC_removeReference_31 : decode cC_removeReference 31 = .ok (.iadd, 1) := by decide +kernel
theorem dC_removeReference_32 : decode cC_removeReference 32 = .ok (.iaload, 1) := by decide +kernel
theorem dC_removeReference_33 : decode cC_removeReference 33 = .ok (.iastore, 1) := by decide +kernel
theorem dC_removeReference_34 : decode cC_removeReference 34 = .ok (.aload_n 0, 1) := by decide +kernel
theorem dC_removeReference_35 : decode cC_removeReference 35 = .ok (.getfield 19, 3) := by decide +kernel
theorem dC_removeReference_38 : decode cC_removeReference 38 = .ok (.iload_n 2, 1) := by decide +kernel
theorem dC_removeReference_39 : decode cC_removeReference 39 = .ok (.aload_n 0, 1) := by decide +kernel
theorem dC_removeReference_40 : decode cC_removeReference 40 = .ok (.getfield 19, 3) := by decide +kernel
theorem dC_removeReference_43 : decode cC_removeReference 43 = .ok (.iload_n 2, 1) := by decide +kernel
theorem dC_removeReference_44 : decode cC_removeReference 44 = .ok (.iconst 1, 1) := by decide +kernel
theorem dC_removeReference_45 : decode cC_removeReference 45 = .ok (.iadd, 1) := by decide +kernel
theorem dC_removeReference_46 : decode cC_removeReference 46 = .ok (.iaload, 1) := by decide +kernel
theorem dC_removeReference_47 : decode cC_removeReference 47 = .ok (.iastore, 1) := by decide +kernel
theorem dC_removeReference_48 : decode cC_removeReference 48 = .ok (.iinc 2 1, 3) := by decide +kernel
theorem dC_removeReference_51 : decode cC_removeReference 51 = .ok (.goto (-39), 3) := by decide +kernel
theorem dC_removeReference_54 : decode cC_removeReference 54 = .ok (.return_, 1) := by decide +kernel
theorem wd_81 : (.code ⟨"DrawingVault$Content", "setByte", "(II)V"⟩ prog_4_method_6_code 5 (Option.none : Option Jvm.ClassFile.FieldType) : Cond) ∈ aw := aw_in (tb_3 (List.mem_of_getElem? (i := 17) rfl)) rfl
theorem wd_82 : (.methodLink "DrawingVault$Content" 49 ⟨"DrawingVault$Content", "setByte", "(II)V"⟩ : Cond) ∈ aw := aw_in (tb_3 (List.mem_of_getElem? (i := 34) rfl)) rfl
theorem wd_83 : (.instanceMethod ⟨"DrawingVault$Content", "setByte", "(II)V"⟩ : Cond) ∈ aw := aw_in (tb_3 (List.mem_of_getElem? (i := 15) rfl)) rfl
theorem wd_84 : (.selects "DrawingVault$Content" ⟨"DrawingVault$Content", "setByte", "(II)V"⟩ ⟨"DrawingVault$Content", "setByte", "(II)V"⟩ : Cond) ∈ aw := aw_in (tb_3 (List.mem_of_getElem? (i := 16) rfl)) rfl

theorem in8 {a : Nat} (h : a < 64) : vp_in (nI a / 8) 8 := by
  have e : nI a / 8 = nI (a / 8) := pk_div (d := 8) (by omega) (by omega) (by omega)
  rw [e]
  exact vp_in_nI (by omega) (by omega)
/-- n bytes from w on set to 0 -/
def c_z (fp : Nat → Int64) (w : Nat) : Nat → Nat → Int64
  | 0 => fp
  | n + 1 => c_set (c_z fp w n) (nI (w + n)) 0
/-- the places from k on moved down by one, as far as i -/
def c_rem (f : Nat → Int32) (k i : Nat) : Nat → Int32 := fun j => if k ≤ j ∧ j < i then f (j + 1) else f j
theorem c_rem_0 (f : Nat → Int32) (k : Nat) : f = c_rem f k k := by
  funext j
  unfold c_rem
  rw [if_neg (by omega)]
theorem c_rem_s {f g : Nat → Int32} {k i : Nat} (hk : k ≤ i) (hi : i + 1 < 2 ^ 31) (h : g = c_rem f k i) : upd g (nI i).toNatClampNeg (g (nI (i + 1)).toNatClampNeg) = c_rem f k (i + 1) := by
  subst h
  rw [nI_clamp (by omega), nI_clamp hi]
  funext j
  unfold upd c_rem
  by_cases e : j = i
  · subst e
    rw [if_pos rfl, if_neg (by omega), if_pos (by omega)]
  · rw [if_neg e]
    by_cases e2 : k ≤ j ∧ j < i
    · rw [if_pos e2, if_pos (by omega)]
    · rw [if_neg e2, if_neg (by omega)]

set_option maxHeartbeats 4000000 in
set_option maxRecDepth 100000 in
theorem c_setBytes (l : Launch) (dC : Nat → ClassId) (dI : Nat → Nat → Nat) (sz : Nat) (ct : Nat) (pc9 : Nat) (tg : Nat) (fx : Nat) (bn : Nat) (wn : Nat) (ri : Int32) (cP : ClassId) (fp : Nat → Int64) (hb64 : bn ≤ 64) (hw64 : wn ≤ 64) : Met l yC_setBytes (.code yC_setBytes cC_setBytes 3 none :: aw) ({ frames := 2, cells := 0, slots := 0, locals := 44 }) (pW (dC, dI) sz [(ct, .inr (5, [.ref pc9, .int (nI bn), .ref tg, .ref fx, .int ri])), (pc9, .inl (cP, 8, .inr (.inl fp)))] [(cP, .long)] [.ref ct, .int (nI wn)]) (va_Qv (fun (_ : Unit) => True) (fun _ t => wW (dC, dI) (va_A [(ct, .inr (5, [.ref pc9, .int (nI bn), .ref tg, .ref fx, .int ri])), (pc9, .inl (cP, 8, .inr (.inl fp)))] sz) [(ct, .inr (5, [.ref pc9, .int (nI wn), .ref tg, .ref fx, .int ri])), (pc9, .inl (cP, 8, .inr (.inl (c_z fp wn (bn - wn)))))] [(cP, .long)] t) (va_A [(ct, .inr (5, [.ref pc9, .int (nI bn), .ref tg, .ref fx, .int ri])), (pc9, .inl (cP, 8, .inr (.inl fp)))] sz)) 0 0 (va_A [(ct, .inr (5, [.ref pc9, .int (nI bn), .ref tg, .ref fx, .int ri])), (pc9, .inl (cP, 8, .inr (.inl fp)))] sz) := by
  refine Met.ofW (cc := cC_setBytes) (maxL := 3) (ret := none) (by decide) rfl ?_
  intro p e s m args below meth c s₁ B hml hv
  obtain ⟨rfl, hv⟩ := hv
  have hx := B.exec
  have hb := B.bytes
  have hr := B.returns
  have hts : ∀ w ∈ aw, w.before _ s = true := fun w h => atoms_spec (ws := (.code yC_setBytes cC_setBytes 3 none :: aw)) B.pre w (List.mem_cons_of_mem _ h)
  have hown : s.vm.findClass RC = some m.cls := findClass_of_methodNamed B.named
  have hlocks := B.notSynchronized
  obtain ⟨hsz, hP, hK, hD0, hG⟩ := hv
  subst hsz
  have hD := hD0.self (sz := s.heap.size)
  generalize hAe : va_A [(ct, .inr (5, [.ref pc9, .int (nI bn), .ref tg, .ref fx, .int ri])), (pc9, .inl (cP, 8, .inr (.inl fp)))] s.heap.size = A at hD ⊢
  have hA : ∀ q : Nat, s.heap.size ≤ q → A q := fun q h => by rw [← hAe]; exact Or.inr h
  obtain ⟨H, hH⟩ : ∃ H, H = s.heap := ⟨_, rfl⟩
  have hS : va_S A s.heap H [] := by rw [hH]; exact va_S.rf
  rw [← hH] at hP ⊢
  have hP : va_P (dC, dI) kCl [(ct, .inr (5, [.ref pc9, .int (nI bn), .ref tg, .ref fx, .int ri])), (pc9, .inl (cP, 8, .inr (.inl fp)))] H := hP
  have hl := lv_entry ([.ref ct, .int (nI wn)]) (n := 3) (Nat.le_of_ble_eq_true rfl)
  rw [lg_entry_eq]
  generalize (lg_sl ([.ref ct, .int (nI wn)]) ++ List.replicate (3 - (lg_sl ([.ref ct, .int (nI wn)])).length) Slot.unset).toArray = ls at hl ⊢
  have hl : lv_has ls 3 [(0, .ref ct), (1, .int (nI wn))] := hl
  refine lv_iload_n (pc := 0) hx hb dC_setBytes_0 rfl (lv_at hl 1 rfl) ?_
  refine lv_istore_n (pc := 1) hx hb dC_setBytes_1 rfl hl (by decide) rfl (fun ls hl => ?_)
  have hl : lv_has ls 3 [(2, .int (nI wn)), (0, .ref ct), (1, .int (nI wn))] := hl
  refine lpM (σ := (Nat) × (Heap) × (List Loc) × (Array Slot)) (fun z => W p l e _ s m _ below meth c z.2.1 z.2.2.1 0 0 _ (F0 m 2 z.2.2.2 [])) (fun z => va_P (dC, dI) kCl [(ct, .inr (5, [.ref pc9, .int (nI bn), .ref tg, .ref fx, .int ri])), (pc9, .inl (cP, 8, .inr (.inl (c_z fp wn z.1))))] z.2.1 ∧ va_D A [(ct, .inr (5, [.ref pc9, .int (nI bn), .ref tg, .ref fx, .int ri])), (pc9, .inl (cP, 8, .inr (.inl (c_z fp wn z.1))))] ∧ va_S A s.heap z.2.1 z.2.2.1 ∧ lv_has z.2.2.2 3 [(2, .int (nI (wn + z.1))), (0, .ref ct), (1, .int (nI wn))] ∧ (z.1 ≤ bn - wn)) (fun z => bn - wn - z.1) ?_ (0, H, _, ls) ⟨hP, hD, hS, hl, Nat.zero_le _⟩
  rintro ⟨n, H, locs, ls⟩ ⟨hP, hD, hS, hl, hn⟩ ih
  try dsimp only at hP hD hS hl hn ih ⊢
  have hP : va_P (dC, dI) kCl [(ct, .inr (5, [.ref pc9, .int (nI bn), .ref tg, .ref fx, .int ri])), (pc9, .inl (cP, 8, .inr (.inl (c_z fp wn n))))] H := hP
  have hD : va_D A [(ct, .inr (5, [.ref pc9, .int (nI bn), .ref tg, .ref fx, .int ri])), (pc9, .inl (cP, 8, .inr (.inl (c_z fp wn n))))] := hD
  have hl : lv_has ls 3 [(2, .int (nI (wn + n))), (0, .ref ct), (1, .int (nI wn))] := hl
  have hn : n ≤ bn - wn := hn
  refine lv_iload_n (pc := 2) hx hb dC_setBytes_2 rfl (lv_at hl 0 rfl) ?_
  refine lv_aload_n (pc := 3) hx hb dC_setBytes_3 rfl (lv_at hl 1 rfl) ?_
  refine va_get (D := (dC, dI)) (cl := kCl) (C := RC) (T := TC) (N := 5) (pc := 4) hx hb hts inC hown hK hP 0 rfl rfl 1 (by decide) (hts _ wd_45) (fun _ h9 => h9) rfl dC_setBytes_4 ?_
  refine lv_icmp_ge (pc := 7) (tgt := 22) hx hb dC_setBytes_7 rfl (fun h1 => ?_) (fun h1 => ?_)
  · refine lv_aload_n (pc := 22) hx hb dC_setBytes_22 rfl (lv_at hl 1 rfl) ?_
    refine lv_iload_n (pc := 23) hx hb dC_setBytes_23 rfl (lv_at hl 2 rfl) ?_
    refine va_put (D := (dC, dI)) (cl := kCl) (ci := 5) (v := .int (nI wn)) (ty := .int) (C := RC) (T := TC) (N := 5) (pc := 24) hx hb hts inC tyC tyC_ok nmC hown hK hP hD hS 0 rfl rfl 1 (by decide) (hts _ wd_45) (fun _ h9 => h9) rfl (by decide +kernel) rfl rfl (Nat.le_of_ble_eq_true rfl) dC_setBytes_24 (fun H locs hP hD hS => ?_)
    have hP : va_P (dC, dI) kCl [(ct, .inr (5, [.ref pc9, .int (nI wn), .ref tg, .ref fx, .int ri])), (pc9, .inl (cP, 8, .inr (.inl (c_z fp wn n))))] H := hP
    have hD : va_D A [(ct, .inr (5, [.ref pc9, .int (nI wn), .ref tg, .ref fx, .int ri])), (pc9, .inl (cP, 8, .inr (.inl (c_z fp wn n))))] := hD
    obtain rfl : n = bn - wn := by have := nle_of h1 (by omega) (by omega); omega
    have hP : va_P (dC, dI) kCl [(ct, .inr (5, [.ref pc9, .int (nI wn), .ref tg, .ref fx, .int ri])), (pc9, .inl (cP, 8, .inr (.inl (c_z fp wn (bn - wn)))))] H := hP
    have hD : va_D A [(ct, .inr (5, [.ref pc9, .int (nI wn), .ref tg, .ref fx, .int ri])), (pc9, .inl (cP, 8, .inr (.inl (c_z fp wn (bn - wn)))))] := hD
    have hP9 := hP.sub (ws' := [(ct, .inr (5, [.ref pc9, .int (nI wn), .ref tg, .ref fx, .int ri])), (pc9, .inl (cP, 8, .inr (.inl (c_z fp wn (bn - wn)))))]) [0, 1] rfl
    have hD9 := hD.sub (ws' := [(ct, .inr (5, [.ref pc9, .int (nI wn), .ref tg, .ref fx, .int ri])), (pc9, .inl (cP, 8, .inr (.inl (c_z fp wn (bn - wn)))))]) [0, 1] (by decide) rfl
    have hK9 := hK.sub (tys' := [(cP, .long)]) [0] rfl
    exact W.vret (pc := 27) hx hb hr (fun t ht hW => ⟨⟨(), rfl, trivial, by rw [ht]; exact hP9, va_K.moved hW.alike hK9, hD9⟩, hS.F ht⟩) hS.2.2 dC_setBytes_27
  · refine lv_aload_n (pc := 10) hx hb dC_setBytes_10 rfl (lv_at hl 1 rfl) ?_
    refine lv_iload_n (pc := 11) hx hb dC_setBytes_11 rfl (lv_at hl 0 rfl) ?_
    refine lv_iconst (pc := 12) (v := 0) hx hb dC_setBytes_12 (by decide) ?_
    have hPc := hP.sub (ws' := [(ct, .inr (5, [.ref pc9, .int (nI bn), .ref tg, .ref fx, .int ri])), (pc9, .inl (cP, 8, .inr (.inl (c_z fp wn n))))]) [0, 1] rfl
    have hDc := hD.sub (ws' := [(ct, .inr (5, [.ref pc9, .int (nI bn), .ref tg, .ref fx, .int ri])), (pc9, .inl (cP, 8, .inr (.inl (c_z fp wn n))))]) [0, 1] (by decide) rfl
    have hKc := hK.sub (tys' := [(cP, .long)]) [0] rfl
    have hFc := va_free (wc := [(ct, .inr (5, [.ref pc9, .int (nI bn), .ref tg, .ref fx, .int ri])), (pc9, .inl (cP, 8, .inr (.inl (c_z fp wn n))))]) hD hS hA [0, 1] rfl
    refine va_callv (pc := 13) (va_runV (As := [.int (nI (wn + n)), .int 0]) (rest := []) ⟨hx, hb, hml, hown, hts⟩ (c_setByte l dC dI H.size ct pc9 tg fx (nI bn) ri cP (c_z fp wn n) (nI (wn + n)) 0 (in8 (by have := nlt_of h1 (by omega); omega))) (cwV 2 hts (gV wd_82 wd_83 wd_84 wd_51 wd_81) rfl rfl rfl (by decide +kernel) ⟨Nat.le_of_ble_eq_true rfl, Nat.le_of_ble_eq_true rfl⟩) ⟨pW_blind, va_recv (q := (RC, TC, 5)) (q0 := 0) (ci := 5) hK hP rfl rfl, pW_pre hPc hKc hDc hG⟩ rfl rfl hl.1 rfl (lv_room (Nat.le_of_ble_eq_true rfl)) dC_setBytes_13 ⟨Nat.le_of_ble_eq_true rfl, Nat.le_of_ble_eq_true rfl⟩) hS (fun q _ h => hFc q h) hFc (fun u t H1 locs ht hvm hr3 hB hz1 hk1 hS => ?_)
    obtain ⟨hP1, hK1, hD1⟩ := hB
    rw [ht] at hP1
    have hK1 := va_K.moved hvm.symm hK1
    obtain ⟨hP, hD⟩ := va_join (wr := []) (w1 := [(ct, .inr (5, [.ref pc9, .int (nI bn), .ref tg, .ref fx, .int ri])), (pc9, .inl (cP, 8, .inr (.inl (c_set (c_z fp wn n) (nI (wn + n)) 0))))]) hP hD [0, 1] [] rfl rfl (by decide) (by decide) hk1 hFc hP1 hD1
    generalize H1 = H at hP hS ⊢
    have hP : va_P (dC, dI) kCl [(ct, .inr (5, [.ref pc9, .int (nI bn), .ref tg, .ref fx, .int ri])), (pc9, .inl (cP, 8, .inr (.inl (c_set (c_z fp wn n) (nI (wn + n)) 0))))] H := hP
    have hD : va_D A [(ct, .inr (5, [.ref pc9, .int (nI bn), .ref tg, .ref fx, .int ri])), (pc9, .inl (cP, 8, .inr (.inl (c_set (c_z fp wn n) (nI (wn + n)) 0))))] := hD
    refine W.widen (k := 0) (n := 0) (Nat.le_of_ble_eq_true rfl) (Nat.le_of_ble_eq_true rfl) ?_
    refine lv_iinc (pc := 16) (v := (nI ((wn + n) + 1))) hx hb dC_setBytes_16 hl (k := 0) rfl (nI_1 _) (by decide) rfl (fun ls hl => ?_)
    have hl : lv_has ls 3 [(2, .int (nI ((wn + n) + 1))), (0, .ref ct), (1, .int (nI wn))] := hl
    refine lv_goto (pc := 19) (tgt := 2) hx hb dC_setBytes_19 rfl ?_
    have hl := lv_sub hl (l' := [(2, .int (nI ((wn + n) + 1))), (0, .ref ct), (1, .int (nI wn))]) [0, 1, 2] rfl
    exact ih (n + 1, H, _, ls) ⟨hP, hD, hS, hl, (by have := nlt_of h1 (by omega); omega)⟩ (by have := nlt_of h1 (by omega); omega)
set_option maxHeartbeats 4000000 in
set_option maxRecDepth 100000 in
theorem c_removeReference (l : Launch) (dC : Nat → ClassId) (dI : Nat → Nat → Nat) (sz : Nat) (ct : Nat) (pc9 : Nat) (tg : Nat) (fx : Nat) (rn : Nat) (kn : Nat) (bi : Int32) (cT : ClassId) (ft : Nat → Int32) (cX : ClassId) (ff : Nat → Int32) (hr5 : rn ≤ 5) (hkr : kn ≤ rn) : Met l yC_removeReference (.code yC_removeReference cC_removeReference 3 none :: aw) ({ frames := 0, cells := 0, slots := 0, locals := 0 }) (pW (dC, dI) sz [(ct, .inr (5, [.ref pc9, .int bi, .ref tg, .ref fx, .int (nI (rn + 1))])), (tg, .inl (cT, 6, .inl ft)), (fx, .inl (cX, 6, .inl ff))] [(cT, .int), (cX, .int)] [.ref ct, .int (nI kn)]) (va_Qv (fun (_ : Unit) => True) (fun _ t => wW (dC, dI) (va_A [(ct, .inr (5, [.ref pc9, .int bi, .ref tg, .ref fx, .int (nI (rn + 1))])), (tg, .inl (cT, 6, .inl ft)), (fx, .inl (cX, 6, .inl ff))] sz) [(ct, .inr (5, [.ref pc9, .int bi, .ref tg, .ref fx, .int (nI rn)])), (tg, .inl (cT, 6, .inl (c_rem ft kn rn))), (fx, .inl (cX, 6, .inl (c_rem ff kn rn)))] [(cT, .int), (cX, .int)] t) (va_A [(ct, .inr (5, [.ref pc9, .int bi, .ref tg, .ref fx, .int (nI (rn + 1))])), (tg, .inl (cT, 6, .inl ft)), (fx, .inl (cX, 6, .inl ff))] sz)) 0 0 (va_A [(ct, .inr (5, [.ref pc9, .int bi, .ref tg, .ref fx, .int (nI (rn + 1))])), (tg, .inl (cT, 6, .inl ft)), (fx, .inl (cX, 6, .inl ff))] sz) := by
  refine Met.ofW (cc := cC_removeReference) (maxL := 3) (ret := none) (by decide) rfl ?_
  intro p e s m args below meth c s₁ B hml hv
  obtain ⟨rfl, hv⟩ := hv
  have hx := B.exec
  have hb := B.bytes
  have hr := B.returns
  have hts : ∀ w ∈ aw, w.before _ s = true := fun w h => atoms_spec (ws := (.code yC_removeReference cC_removeReference 3 none :: aw)) B.pre w (List.mem_cons_of_mem _ h)
  have hown : s.vm.findClass RC = some m.cls := findClass_of_methodNamed B.named
  have hlocks := B.notSynchronized
  obtain ⟨hsz, hP, hK, hD0, hG⟩ := hv
  subst hsz
  have hD := hD0.self (sz := s.heap.size)
  generalize hAe : va_A [(ct, .inr (5, [.ref pc9, .int bi, .ref tg, .ref fx, .int (nI (rn + 1))])), (tg, .inl (cT, 6, .inl ft)), (fx, .inl (cX, 6, .inl ff))] s.heap.size = A at hD ⊢
  have hA : ∀ q : Nat, s.heap.size ≤ q → A q := fun q h => by rw [← hAe]; exact Or.inr h
  obtain ⟨H, hH⟩ : ∃ H, H = s.heap := ⟨_, rfl⟩
  have hS : va_S A s.heap H [] := by rw [hH]; exact va_S.rf
  rw [← hH] at hP ⊢
  have hP : va_P (dC, dI) kCl [(ct, .inr (5, [.ref pc9, .int bi, .ref tg, .ref fx, .int (nI (rn + 1))])), (tg, .inl (cT, 6, .inl ft)), (fx, .inl (cX, 6, .inl ff))] H := hP
  have hl := lv_entry ([.ref ct, .int (nI kn)]) (n := 3) (Nat.le_of_ble_eq_true rfl)
  rw [lg_entry_eq]
  generalize (lg_sl ([.ref ct, .int (nI kn)]) ++ List.replicate (3 - (lg_sl ([.ref ct, .int (nI kn)])).length) Slot.unset).toArray = ls at hl ⊢
  have hl : lv_has ls 3 [(0, .ref ct), (1, .int (nI kn))] := hl
  refine lv_aload_n (pc := 0) hx hb dC_removeReference_0 rfl (lv_at hl 0 rfl) ?_
  refine lv_dup (pc := 1) hx hb dC_removeReference_1 rfl ?_
  refine va_get (D := (dC, dI)) (cl := kCl) (C := RC) (T := TC) (N := 5) (pc := 2) hx hb hts inC hown hK hP 0 rfl rfl 4 (by decide) (hts _ wd_46) (fun _ h9 => h9) rfl dC_removeReference_2 ?_
  refine lv_iconst (pc := 5) (v := 1) hx hb dC_removeReference_5 (by decide) ?_
  refine lv_isub (pc := 6) hx hb dC_removeReference_6 ?_
  refine lv_topi (fun z1 hz2 => ?_)
  obtain rfl : z1 = (nI rn) := hz2.trans (nI_pred _)
  refine va_put (D := (dC, dI)) (cl := kCl) (ci := 5) (v := .int (nI rn)) (ty := .int) (C := RC) (T := TC) (N := 5) (pc := 7) hx hb hts inC tyC tyC_ok nmC hown hK hP hD hS 0 rfl rfl 4 (by decide) (hts _ wd_46) (fun _ h9 => h9) rfl (by decide +kernel) rfl rfl (Nat.le_of_ble_eq_true rfl) dC_removeReference_7 (fun H locs hP hD hS => ?_)
  have hP : va_P (dC, dI) kCl [(ct, .inr (5, [.ref pc9, .int bi, .ref tg, .ref fx, .int (nI rn)])), (tg, .inl (cT, 6, .inl ft)), (fx, .inl (cX, 6, .inl ff))] H := hP
  have hD : va_D A [(ct, .inr (5, [.ref pc9, .int bi, .ref tg, .ref fx, .int (nI rn)])), (tg, .inl (cT, 6, .inl ft)), (fx, .inl (cX, 6, .inl ff))] := hD
  refine lv_iload_n (pc := 10) hx hb dC_removeReference_10 rfl (lv_at hl 1 rfl) ?_
  refine lv_istore_n (pc := 11) hx hb dC_removeReference_11 rfl hl (by decide) rfl (fun ls hl => ?_)
  have hl : lv_has ls 3 [(2, .int (nI kn)), (0, .ref ct), (1, .int (nI kn))] := hl
  refine lpM (σ := (Nat) × (Nat → Int32) × (Nat → Int32) × (Heap) × (List Loc) × (Array Slot)) (fun z => W p l e _ s m _ below meth c z.2.2.2.1 z.2.2.2.2.1 0 0 _ (F0 m 12 z.2.2.2.2.2 [])) (fun z => va_P (dC, dI) kCl [(ct, .inr (5, [.ref pc9, .int bi, .ref tg, .ref fx, .int (nI rn)])), (tg, .inl (cT, 6, .inl z.2.1)), (fx, .inl (cX, 6, .inl z.2.2.1))] z.2.2.2.1 ∧ va_D A [(ct, .inr (5, [.ref pc9, .int bi, .ref tg, .ref fx, .int (nI rn)])), (tg, .inl (cT, 6, .inl z.2.1)), (fx, .inl (cX, 6, .inl z.2.2.1))] ∧ va_S A s.heap z.2.2.2.1 z.2.2.2.2.1 ∧ lv_has z.2.2.2.2.2 3 [(2, .int (nI z.1)), (0, .ref ct), (1, .int (nI kn))] ∧ (kn ≤ z.1 ∧ z.1 ≤ rn) ∧ (z.2.1 = c_rem ft kn z.1) ∧ (z.2.2.1 = c_rem ff kn z.1)) (fun z => rn - z.1) ?_ (kn, ft, ff, H, _, ls) ⟨hP, hD, hS, hl, ⟨Nat.le_refl _, hkr⟩, c_rem_0 _ _, c_rem_0 _ _⟩
  rintro ⟨i, g1, g2, H, locs, ls⟩ ⟨hP, hD, hS, hl, hi, hg1, hg2⟩ ih
  try dsimp only at hP hD hS hl hi hg1 hg2 ih ⊢
  have hP : va_P (dC, dI) kCl [(ct, .inr (5, [.ref pc9, .int bi, .ref tg, .ref fx, .int (nI rn)])), (tg, .inl (cT, 6, .inl g1)), (fx, .inl (cX, 6, .inl g2))] H := hP
  have hD : va_D A [(ct, .inr (5, [.ref pc9, .int bi, .ref tg, .ref fx, .int (nI rn)])), (tg, .inl (cT, 6, .inl g1)), (fx, .inl (cX, 6, .inl g2))] := hD
  have hl : lv_has ls 3 [(2, .int (nI i)), (0, .ref ct), (1, .int (nI kn))] := hl
  have hi : kn ≤ i ∧ i ≤ rn := hi
  have hg1 : g1 = c_rem ft kn i := hg1
  have hg2 : g2 = c_rem ff kn i := hg2
  refine lv_iload_n (pc := 12) hx hb dC_removeReference_12 rfl (lv_at hl 0 rfl) ?_
  refine lv_aload_n (pc := 13) hx hb dC_removeReference_13 rfl (lv_at hl 1 rfl) ?_
  refine va_get (D := (dC, dI)) (cl := kCl) (C := RC) (T := TC) (N := 5) (pc := 14) hx hb hts inC hown hK hP 0 rfl rfl 4 (by decide) (hts _ wd_46) (fun _ h9 => h9) rfl dC_removeReference_14 ?_
  refine lv_icmp_ge (pc := 17) (tgt := 54) hx hb dC_removeReference_17 rfl (fun h3 => ?_) (fun h3 => ?_)
  · obtain rfl : rn = i := by have := nle_of h3 (by omega) (by omega); omega
    subst hg1 hg2
    have hP : va_P (dC, dI) kCl [(ct, .inr (5, [.ref pc9, .int bi, .ref tg, .ref fx, .int (nI rn)])), (tg, .inl (cT, 6, .inl (c_rem ft kn rn))), (fx, .inl (cX, 6, .inl (c_rem ff kn rn)))] H := hP
    have hD : va_D A [(ct, .inr (5, [.ref pc9, .int bi, .ref tg, .ref fx, .int (nI rn)])), (tg, .inl (cT, 6, .inl (c_rem ft kn rn))), (fx, .inl (cX, 6, .inl (c_rem ff kn rn)))] := hD
    have hP9 := hP.sub (ws' := [(ct, .inr (5, [.ref pc9, .int bi, .ref tg, .ref fx, .int (nI rn)])), (tg, .inl (cT, 6, .inl (c_rem ft kn rn))), (fx, .inl (cX, 6, .inl (c_rem ff kn rn)))]) [0, 1, 2] rfl
    have hD9 := hD.sub (ws' := [(ct, .inr (5, [.ref pc9, .int bi, .ref tg, .ref fx, .int (nI rn)])), (tg, .inl (cT, 6, .inl (c_rem ft kn rn))), (fx, .inl (cX, 6, .inl (c_rem ff kn rn)))]) [0, 1, 2] (by decide) rfl
    have hK9 := hK.sub (tys' := [(cT, .int), (cX, .int)]) [0, 1] rfl
    exact W.vret (pc := 54) hx hb hr (fun t ht hW => ⟨⟨(), rfl, trivial, by rw [ht]; exact hP9, va_K.moved hW.alike hK9, hD9⟩, hS.F ht⟩) hS.2.2 dC_removeReference_54
  · refine lv_aload_n (pc := 20) hx hb dC_removeReference_20 rfl (lv_at hl 1 rfl) ?_
    refine va_get (D := (dC, dI)) (cl := kCl) (C := RC) (T := TC) (N := 5) (pc := 21) hx hb hts inC hown hK hP 0 rfl rfl 2 (by decide) (hts _ wd_61) (fun _ h9 => h9) rfl dC_removeReference_21 ?_
    refine lv_iload_n (pc := 24) hx hb dC_removeReference_24 rfl (lv_at hl 0 rfl) ?_
    refine lv_aload_n (pc := 25) hx hb dC_removeReference_25 rfl (lv_at hl 1 rfl) ?_
    refine va_get (D := (dC, dI)) (cl := kCl) (C := RC) (T := TC) (N := 5) (pc := 26) hx hb hts inC hown hK hP 0 rfl rfl 2 (by decide) (hts _ wd_61) (fun _ h9 => h9) rfl dC_removeReference_26 ?_
    refine lv_iload_n (pc := 29) hx hb dC_removeReference_29 rfl (lv_at hl 0 rfl) ?_
    refine lv_iconst (pc := 30) (v := 1) hx hb dC_removeReference_30 (by decide) ?_
    refine lv_iadd (pc := 31) hx hb dC_removeReference_31 ?_
    refine lv_topi (fun z4 hz5 => ?_)
    obtain rfl : z4 = (nI (i + 1)) := hz5.trans (nI_add _ 1)
    refine va_iald (D := (dC, dI)) (cl := kCl) (pc := 32) hx hb hK hP 1 0 rfl rfl (vp_in_nI (show (i + 1) < 6 by have := nlt_of h3 (by omega); omega) (by decide)) dC_removeReference_32 ?_
    refine W.eq (g2 := F0 m 33 ls [.int (g1 ((nI (i + 1)) : Int32).toNatClampNeg), .int (nI i), .ref tg]) rfl ?_
    refine va_iast (D := (dC, dI)) (cl := kCl) (pc := 33) hx hb hK hP hD hS 1 0 rfl rfl (vp_in_nI (show i < 6 by have := nlt_of h3 (by omega); omega) (by decide)) dC_removeReference_33 (fun H locs hP hD hS => ?_)
    have hP : va_P (dC, dI) kCl [(ct, .inr (5, [.ref pc9, .int bi, .ref tg, .ref fx, .int (nI rn)])), (tg, .inl (cT, 6, .inl (upd g1 ((nI i) : Int32).toNatClampNeg (g1 ((nI (i + 1)) : Int32).toNatClampNeg)))), (fx, .inl (cX, 6, .inl g2))] H := hP
    have hD : va_D A [(ct, .inr (5, [.ref pc9, .int bi, .ref tg, .ref fx, .int (nI rn)])), (tg, .inl (cT, 6, .inl (upd g1 ((nI i) : Int32).toNatClampNeg (g1 ((nI (i + 1)) : Int32).toNatClampNeg)))), (fx, .inl (cX, 6, .inl g2))] := hD
    refine lv_aload_n (pc := 34) hx hb dC_removeReference_34 rfl (lv_at hl 1 rfl) ?_
    refine va_get (D := (dC, dI)) (cl := kCl) (C := RC) (T := TC) (N := 5) (pc := 35) hx hb hts inC hown hK hP 0 rfl rfl 3 (by decide) (hts _ wd_62) (fun _ h9 => h9) rfl dC_removeReference_35 ?_
    refine lv_iload_n (pc := 38) hx hb dC_removeReference_38 rfl (lv_at hl 0 rfl) ?_
    refine lv_aload_n (pc := 39) hx hb dC_removeReference_39 rfl (lv_at hl 1 rfl) ?_
    refine va_get (D := (dC, dI)) (cl := kCl) (C := RC) (T := TC) (N := 5) (pc := 40) hx hb hts inC hown hK hP 0 rfl rfl 3 (by decide) (hts _ wd_62) (fun _ h9 => h9) rfl dC_removeReference_40 ?_
    refine lv_iload_n (pc := 43) hx hb dC_removeReference_43 rfl (lv_at hl 0 rfl) ?_
    refine lv_iconst (pc := 44) (v := 1) hx hb dC_removeReference_44 (by decide) ?_
    refine lv_iadd (pc := 45) hx hb dC_removeReference_45 ?_
    refine lv_topi (fun z6 hz7 => ?_)
    obtain rfl : z6 = (nI (i + 1)) := hz7.trans (nI_add _ 1)
    refine va_iald (D := (dC, dI)) (cl := kCl) (pc := 46) hx hb hK hP 2 1 rfl rfl (vp_in_nI (show (i + 1) < 6 by have := nlt_of h3 (by omega); omega) (by decide)) dC_removeReference_46 ?_
    refine W.eq (g2 := F0 m 47 ls [.int (g2 ((nI (i + 1)) : Int32).toNatClampNeg), .int (nI i), .ref fx]) rfl ?_
    refine va_iast (D := (dC, dI)) (cl := kCl) (pc := 47) hx hb hK hP hD hS 2 1 rfl rfl (vp_in_nI (show i < 6 by have := nlt_of h3 (by omega); omega) (by decide)) dC_removeReference_47 (fun H locs hP hD hS => ?_)
    have hP : va_P (dC, dI) kCl [(ct, .inr (5, [.ref pc9, .int bi, .ref tg, .ref fx, .int (nI rn)])), (tg, .inl (cT, 6, .inl (upd g1 ((nI i) : Int32).toNatClampNeg (g1 ((nI (i + 1)) : Int32).toNatClampNeg)))), (fx, .inl (cX, 6, .inl (upd g2 ((nI i) : Int32).toNatClampNeg (g2 ((nI (i + 1)) : Int32).toNatClampNeg))))] H := hP
    have hD : va_D A [(ct, .inr (5, [.ref pc9, .int bi, .ref tg, .ref fx, .int (nI rn)])), (tg, .inl (cT, 6, .inl (upd g1 ((nI i) : Int32).toNatClampNeg (g1 ((nI (i + 1)) : Int32).toNatClampNeg)))), (fx, .inl (cX, 6, .inl (upd g2 ((nI i) : Int32).toNatClampNeg (g2 ((nI (i + 1)) : Int32).toNatClampNeg))))] := hD
    refine lv_iinc (pc := 48) (v := (nI (i + 1))) hx hb dC_removeReference_48 hl (k := 0) rfl (nI_1 _) (by decide) rfl (fun ls hl => ?_)
    have hl : lv_has ls 3 [(2, .int (nI (i + 1))), (0, .ref ct), (1, .int (nI kn))] := hl
    refine lv_goto (pc := 51) (tgt := 12) hx hb dC_removeReference_51 rfl ?_
    have hl := lv_sub hl (l' := [(2, .int (nI (i + 1))), (0, .ref ct), (1, .int (nI kn))]) [0, 1, 2] rfl
    exact ih (i + 1, _, _, H, _, ls) ⟨hP, hD, hS, hl, (by have := nlt_of h3 (by omega); omega), c_rem_s hi.1 (by omega) hg1, c_rem_s hi.1 (by omega) hg2⟩ (by have := nlt_of h3 (by omega); omega)
