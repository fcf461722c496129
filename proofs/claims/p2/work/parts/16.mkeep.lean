abbrev cM_keep : ByteArray := prog_9_method_3_code
abbrev yM_keep : MethodName := ⟨"DrawingVaultModel", "keep", "()V"⟩
theorem dM_keep_0 : decode cM_keep 0 = .ok (.iconst 0, 1) := by decide +kernel
theorem dM_keep_1 : decode cM_keep 1 = .ok (.istore_n 1, 1) := by decide +kernel
theorem dM_keep_2 : decode cM_keep 2 = .ok (.iload_n 1, 1) := by decide +kernel
theorem dM_keep_3 : decode cM_keep 3 = .ok (.sipush 25240, 3) := by decide +kernel
theorem dM_keep_6 : decode cM_keep 6 = .ok (.if_icmp .ge 21, 3) := by decide +kernel
theorem dM_keep_9 : decode cM_keep 9 = .ok (.aload_n 0, 1) := by decide +kernel
theorem dM_keep_10 : decode cM_keep 10 = .ok (.getfield 13, 3) := by decide +kernel
theorem dM_keep_13 : decode cM_keep 13 = .ok (.iload_n 1, 1) := by decide +kernel
theorem dM_keep_14 : decode cM_keep 14 = .ok (.aload_n 0, 1) := by decide +kernel
theorem dM_keep_15 : decode cM_keep 15 = .ok (.getfield 7, 3) := by decide +kernel
theorem dM_keep_18 : decode cM_keep 18 = .ok (.iload_n 1, 1) := by decide +kernel
theorem dM_keep_19 : decode cM_keep 19 = .ok (.iaload, 1) := by decide +kernel
theorem dM_keep_20 : decode cM_keep 20 = .ok (.iastore, 1) := by decide +kernel
theorem dM_keep_21 : decode cM_keep 21 = .ok (.iinc 1 1, 3) := by decide +kernel
theorem dM_keep_24 : decode cM_keep 24 = .ok (.goto (-22), 3) := by decide +kernel
theorem dM_keep_27 : decode cM_keep 27 = .ok (.return_, 1) := by decide +kernel
theorem wd_138 : (.fieldLink "DrawingVaultModel" 13 "DrawingVaultModel" "kept" "[I" : Cond) ∈ aw := aw_in (tb_4 (List.mem_of_getElem? (i := 33) rfl)) rfl

theorem m_keep_s {f g : Nat → Int32} {i : Nat} (hi : i < 2 ^ 31) (h : ∀ j, j < i → g j = f j) : ∀ j, j < i + 1 → upd g (nI i).toNatClampNeg (f i) j = f j := by
  intro j hj
  rw [nI_clamp hi]
  by_cases e : j = i
  · subst e; exact pk_us
  · rw [pk_un e]; exact h j (by omega)

set_option maxHeartbeats 4000000 in
set_option maxRecDepth 100000 in
theorem gm_keep (l : Launch) (dC : Nat → ClassId) (dI : Nat → Nat → Nat) (sz : Nat) (mo : Nat) (nw : Nat) (kp : Nat) (mk : Nat) (co : Nat) (se : Nat) (th : Int32) (mr : Int32) (fd : Int32) (pl : Int32) (pt : Int32) (op : Int32) (cN : ClassId) (fw : Nat → Int32) (cK : ClassId) (fk : Nat → Int32) : Met l yM_keep (.code yM_keep cM_keep 2 none :: aw) ({ frames := 0, cells := 0, slots := 0, locals := 0 }) (pW (dC, dI) sz [(mo, .inr (4, [.int th, .int mr, .ref nw, .ref kp, .int fd, .int pl, .ref mk, .ref co, .int pt, .int op, .ref se])), (nw, .inl (cN, 25240, .inl fw)), (kp, .inl (cK, 25240, .inl fk))] [(cN, .int), (cK, .int)] [.ref mo]) (va_Qv (fun (u9 : Nat → Int32) => (∀ j, j < 25240 → u9 j = fw j)) (fun u9 t => wW (dC, dI) (va_A [(mo, .inr (4, [.int th, .int mr, .ref nw, .ref kp, .int fd, .int pl, .ref mk, .ref co, .int pt, .int op, .ref se])), (nw, .inl (cN, 25240, .inl fw)), (kp, .inl (cK, 25240, .inl fk))] sz) [(mo, .inr (4, [.int th, .int mr, .ref nw, .ref kp, .int fd, .int pl, .ref mk, .ref co, .int pt, .int op, .ref se])), (nw, .inl (cN, 25240, .inl fw)), (kp, .inl (cK, 25240, .inl u9))] [(cN, .int), (cK, .int)] t) (va_A [(mo, .inr (4, [.int th, .int mr, .ref nw, .ref kp, .int fd, .int pl, .ref mk, .ref co, .int pt, .int op, .ref se])), (nw, .inl (cN, 25240, .inl fw)), (kp, .inl (cK, 25240, .inl fk))] sz)) 0 0 (va_A [(mo, .inr (4, [.int th, .int mr, .ref nw, .ref kp, .int fd, .int pl, .ref mk, .ref co, .int pt, .int op, .ref se])), (nw, .inl (cN, 25240, .inl fw)), (kp, .inl (cK, 25240, .inl fk))] sz) := by
  refine Met.ofW (cc := cM_keep) (maxL := 2) (ret := none) (by decide) rfl ?_
  intro p e s m args below meth c s₁ B hml hv
  obtain ⟨rfl, hv⟩ := hv
  have hx := B.exec
  have hb := B.bytes
  have hr := B.returns
  have hts : ∀ w ∈ aw, w.before _ s = true := fun w h => atoms_spec (ws := (.code yM_keep cM_keep 2 none :: aw)) B.pre w (List.mem_cons_of_mem _ h)
  have hown : s.vm.findClass RM = some m.cls := findClass_of_methodNamed B.named
  have hlocks := B.notSynchronized
  obtain ⟨hsz, hP, hK, hD0, hG⟩ := hv
  subst hsz
  have hD := hD0.self (sz := s.heap.size)
  generalize hAe : va_A [(mo, .inr (4, [.int th, .int mr, .ref nw, .ref kp, .int fd, .int pl, .ref mk, .ref co, .int pt, .int op, .ref se])), (nw, .inl (cN, 25240, .inl fw)), (kp, .inl (cK, 25240, .inl fk))] s.heap.size = A at hD ⊢
  have hA : ∀ q : Nat, s.heap.size ≤ q → A q := fun q h => by rw [← hAe]; exact Or.inr h
  obtain ⟨H, hH⟩ : ∃ H, H = s.heap := ⟨_, rfl⟩
  have hS : va_S A s.heap H [] := by rw [hH]; exact va_S.rf
  rw [← hH] at hP ⊢
  have hP : va_P (dC, dI) kCl [(mo, .inr (4, [.int th, .int mr, .ref nw, .ref kp, .int fd, .int pl, .ref mk, .ref co, .int pt, .int op, .ref se])), (nw, .inl (cN, 25240, .inl fw)), (kp, .inl (cK, 25240, .inl fk))] H := hP
  have hl := lv_entry ([.ref mo]) (n := 2) (Nat.le_of_ble_eq_true rfl)
  rw [lg_entry_eq]
  generalize (lg_sl ([.ref mo]) ++ List.replicate (2 - (lg_sl ([.ref mo])).length) Slot.unset).toArray = ls at hl ⊢
  have hl : lv_has ls 2 [(0, .ref mo)] := hl
  refine lv_iconst (pc := 0) (v := 0) hx hb dM_keep_0 (by decide) ?_
  refine lv_istore_n (pc := 1) hx hb dM_keep_1 rfl hl (by decide) rfl (fun ls hl => ?_)
  have hl : lv_has ls 2 [(1, .int 0), (0, .ref mo)] := hl
  refine lpM (σ := (Nat) × (Nat → Int32) × (Heap) × (List Loc) × (Array Slot)) (fun z => W p l e _ s m _ below meth c z.2.2.1 z.2.2.2.1 0 0 _ (F0 m 2 z.2.2.2.2 [])) (fun z => va_P (dC, dI) kCl [(mo, .inr (4, [.int th, .int mr, .ref nw, .ref kp, .int fd, .int pl, .ref mk, .ref co, .int pt, .int op, .ref se])), (nw, .inl (cN, 25240, .inl fw)), (kp, .inl (cK, 25240, .inl z.2.1))] z.2.2.1 ∧ va_D A [(mo, .inr (4, [.int th, .int mr, .ref nw, .ref kp, .int fd, .int pl, .ref mk, .ref co, .int pt, .int op, .ref se])), (nw, .inl (cN, 25240, .inl fw)), (kp, .inl (cK, 25240, .inl z.2.1))] ∧ va_S A s.heap z.2.2.1 z.2.2.2.1 ∧ lv_has z.2.2.2.2 2 [(1, .int (nI z.1)), (0, .ref mo)] ∧ (z.1 ≤ 25240) ∧ (∀ j, j < z.1 → z.2.1 j = fw j)) (fun z => 25240 - z.1) ?_ (0, fk, H, _, ls) ⟨hP, hD, hS, hl, Nat.zero_le _, lt_0⟩
  rintro ⟨i, g1, H, locs, ls⟩ ⟨hP, hD, hS, hl, hi, hI⟩ ih
  try dsimp only at hP hD hS hl hi hI ih ⊢
  have hP : va_P (dC, dI) kCl [(mo, .inr (4, [.int th, .int mr, .ref nw, .ref kp, .int fd, .int pl, .ref mk, .ref co, .int pt, .int op, .ref se])), (nw, .inl (cN, 25240, .inl fw)), (kp, .inl (cK, 25240, .inl g1))] H := hP
  have hD : va_D A [(mo, .inr (4, [.int th, .int mr, .ref nw, .ref kp, .int fd, .int pl, .ref mk, .ref co, .int pt, .int op, .ref se])), (nw, .inl (cN, 25240, .inl fw)), (kp, .inl (cK, 25240, .inl g1))] := hD
  have hl : lv_has ls 2 [(1, .int (nI i)), (0, .ref mo)] := hl
  have hi : i ≤ 25240 := hi
  have hI : ∀ j, j < i → g1 j = fw j := hI
  refine lv_iload_n (pc := 2) hx hb dM_keep_2 rfl (lv_at hl 0 rfl) ?_
  refine lv_sipush (pc := 3) (v := 25240) hx hb dM_keep_3 (by decide) ?_
  refine lv_icmp_ge (pc := 6) (tgt := 27) hx hb dM_keep_6 rfl (fun h1 => ?_) (fun h1 => ?_)
  · have hP9 := hP.sub (ws' := [(mo, .inr (4, [.int th, .int mr, .ref nw, .ref kp, .int fd, .int pl, .ref mk, .ref co, .int pt, .int op, .ref se])), (nw, .inl (cN, 25240, .inl fw)), (kp, .inl (cK, 25240, .inl g1))]) [0, 1, 2] rfl
    have hD9 := hD.sub (ws' := [(mo, .inr (4, [.int th, .int mr, .ref nw, .ref kp, .int fd, .int pl, .ref mk, .ref co, .int pt, .int op, .ref se])), (nw, .inl (cN, 25240, .inl fw)), (kp, .inl (cK, 25240, .inl g1))]) [0, 1, 2] (by decide) rfl
    have hK9 := hK.sub (tys' := [(cN, .int), (cK, .int)]) [0, 1] rfl
    exact W.vret (pc := 27) hx hb hr (fun t ht hW => ⟨⟨g1, rfl, fun j hj => hI j (Nat.lt_of_lt_of_le hj (nle_of (b := 25240) h1 (by omega) (by omega))), by rw [ht]; exact hP9, va_K.moved hW.alike hK9, hD9⟩, hS.F ht⟩) hS.2.2 dM_keep_27
  · refine lv_aload_n (pc := 9) hx hb dM_keep_9 rfl (lv_at hl 1 rfl) ?_
    refine va_get (D := (dC, dI)) (cl := kCl) (C := RM) (T := TM) (N := 11) (pc := 10) hx hb hts inM hown hK hP 0 rfl rfl 3 (by decide) (hts _ wd_138) (fun _ h9 => h9) rfl dM_keep_10 ?_
    refine lv_iload_n (pc := 13) hx hb dM_keep_13 rfl (lv_at hl 0 rfl) ?_
    refine lv_aload_n (pc := 14) hx hb dM_keep_14 rfl (lv_at hl 1 rfl) ?_
    refine va_get (D := (dC, dI)) (cl := kCl) (C := RM) (T := TM) (N := 11) (pc := 15) hx hb hts inM hown hK hP 0 rfl rfl 2 (by decide) (hts _ wd_116) (fun _ h9 => h9) rfl dM_keep_15 ?_
    refine lv_iload_n (pc := 18) hx hb dM_keep_18 rfl (lv_at hl 0 rfl) ?_
    refine va_iald (D := (dC, dI)) (cl := kCl) (pc := 19) hx hb hK hP 1 0 rfl rfl (vp_in_nI (nlt_of (b := 25240) h1 (by omega)) (by decide)) dM_keep_19 ?_
    refine W.eq (g2 := F0 m 20 ls [.int (fw ((nI i) : Int32).toNatClampNeg), .int (nI i), .ref kp]) rfl ?_
    refine lv_topi (fun z2 hz3 => ?_)
    obtain rfl : z2 = fw i := hz3.trans (by rw [nI_clamp (by omega)])
    refine va_iast (D := (dC, dI)) (cl := kCl) (pc := 20) hx hb hK hP hD hS 2 1 rfl rfl (vp_in_nI (nlt_of (b := 25240) h1 (by omega)) (by decide)) dM_keep_20 (fun H locs hP hD hS => ?_)
    have hP : va_P (dC, dI) kCl [(mo, .inr (4, [.int th, .int mr, .ref nw, .ref kp, .int fd, .int pl, .ref mk, .ref co, .int pt, .int op, .ref se])), (nw, .inl (cN, 25240, .inl fw)), (kp, .inl (cK, 25240, .inl (upd g1 ((nI i) : Int32).toNatClampNeg (fw i))))] H := hP
    have hD : va_D A [(mo, .inr (4, [.int th, .int mr, .ref nw, .ref kp, .int fd, .int pl, .ref mk, .ref co, .int pt, .int op, .ref se])), (nw, .inl (cN, 25240, .inl fw)), (kp, .inl (cK, 25240, .inl (upd g1 ((nI i) : Int32).toNatClampNeg (fw i))))] := hD
    refine lv_iinc (pc := 21) (v := (nI (i + 1))) hx hb dM_keep_21 hl (k := 0) rfl (nI_1 _) (by decide) rfl (fun ls hl => ?_)
    have hl : lv_has ls 2 [(1, .int (nI (i + 1))), (0, .ref mo)] := hl
    refine lv_goto (pc := 24) (tgt := 2) hx hb dM_keep_24 rfl ?_
    have hl := lv_sub hl (l' := [(1, .int (nI (i + 1))), (0, .ref mo)]) [0, 1] rfl
    exact ih (i + 1, _, H, _, ls) ⟨hP, hD, hS, hl, (nlt_of (b := 25240) h1 (by omega)), m_keep_s (by omega) hI⟩ (by have := nlt_of (b := 25240) h1 (by omega); omega)
