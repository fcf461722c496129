abbrev cM_blank : ByteArray := prog_9_method_32_code
abbrev yM_blank : MethodName := ⟨"DrawingVaultModel", "blank", "(I)V"⟩
theorem dM_blank_0 : decode cM_blank 0 = .ok (.iconst 0, 1) := by decide +kernel
theorem dM_blank_1 : decode cM_blank 1 = .ok (.istore_n 2, 1) := by decide +kernel
theorem dM_blank_2 : decode cM_blank 2 = .ok (.iload_n 2, 1) := by decide +kernel
theorem dM_blank_3 : decode cM_blank 3 = .ok (.bipush 80, 2) := by decide +kernel
theorem dM_blank_5 : decode cM_blank 5 = .ok (.if_icmp .ge 18, 3) := by decide +kernel
theorem dM_blank_8 : decode cM_blank 8 = .ok (.aload_n 0, 1) := by decide +kernel
theorem dM_blank_9 : decode cM_blank 9 = .ok (.getfield 7, 3) := by decide +kernel
theorem dM_blank_12 : decode cM_blank 12 = .ok (.iload_n 1, 1) := by decide +kernel
theorem dM_blank_13 : decode cM_blank 13 = .ok (.iload_n 2, 1) := by decide +kernel
theorem dM_blank_14 : decode cM_blank 14 = .ok (.iadd, 1) := by decide +kernel
theorem dM_blank_15 : decode cM_blank 15 = .ok (.iconst 0, 1) := by decide +kernel
theorem dM_blank_16 : decode cM_blank 16 = .ok (.iastore, 1) := by decide +kernel
theorem dM_blank_17 : decode cM_blank 17 = .ok (.iinc 2 1, 3) := by decide +kernel
theorem dM_blank_20 : decode cM_blank 20 = .ok (.goto (-18), 3) := by decide +kernel
theorem dM_blank_23 : decode cM_blank 23 = .ok (.return_, 1) := by decide +kernel
abbrev cM_copy : ByteArray := prog_9_method_34_code
abbrev yM_copy : MethodName := ⟨"DrawingVaultModel", "copy", "(II)V"⟩
theorem dM_copy_0 : decode cM_copy 0 = .ok (.iconst 2, 1) := by decide +kernel
theorem dM_copy_1 : decode cM_copy 1 = .ok (.istore_n 3, 1) := by decide +kernel
theorem dM_copy_2 : decode cM_copy 2 = .ok (.iload_n 3, 1) := by decide +kernel
theorem dM_copy_3 : decode cM_copy 3 = .ok (.bipush 80, 2) := by decide +kernel
theorem dM_copy_5 : decode cM_copy 5 = .ok (.if_icmp .ge 25, 3) := by decide +kernel
theorem dM_copy_8 : decode cM_copy 8 = .ok (.aload_n 0, 1) := by decide +kernel
theorem dM_copy_9 : decode cM_copy 9 = .ok (.getfield 7, 3) := by decide +kernel
theorem dM_copy_12 : decode cM_copy 12 = .ok (.iload_n 2, 1) := by decide +kernel
theorem dM_copy_13 : decode cM_copy 13 = .ok (.iload_n 3, 1) := by decide +kernel
theorem dM_copy_14 : decode cM_copy 14 = .ok (.iadd, 1) := by decide +kernel
theorem dM_copy_15 : decode cM_copy 15 = .ok (.aload_n 0, 1) := by decide +kernel
theorem dM_copy_16 : decode cM_copy 16 = .ok (.getfield 7, 3) := by decide +kernel
theorem dM_copy_19 : decode cM_copy 19 = .ok (.iload_n 1, 1) := by decide +kernel
theorem dM_copy_20 : decode cM_copy 20 = .ok (.iload_n 3, 1) := by decide +kernel
theorem dM_copy_21 : decode cM_copy 21 = .ok (.iadd, 1) := by decide +kernel
theorem dM_copy_22 : decode cM_copy 22 = .ok (.iaload, 1) := by decide +kernel
theorem dM_copy_23 : decode cM_copy 23 = .ok (.iastore, 1) := by decide +kernel
theorem dM_copy_24 : decode cM_copy 24 = .ok (.iinc 3 1, 3) := by decide +kernel
theorem dM_copy_27 : decode cM_copy 27 = .ok (.goto (-25), 3) := by decide +kernel
theorem dM_copy_30 : decode cM_copy 30 = .ok (.return_, 1) := by decide +kernel

/-- i places from t on set to 0 -/
def m_bl (f : Nat → Int32) (t i : Nat) : Nat → Int32 := fun j => if t ≤ j ∧ j < t + i then 0 else f j
theorem m_bl_0 (f : Nat → Int32) (t : Nat) : f = m_bl f t 0 := by
  funext j
  unfold m_bl
  rw [if_neg (by omega)]
theorem m_bl_s {f g : Nat → Int32} {t i : Nat} (hi : t + i < 2 ^ 31) (h : g = m_bl f t i) : upd g (nI (t + i)).toNatClampNeg 0 = m_bl f t (i + 1) := by
  subst h
  rw [nI_clamp hi]
  funext j
  unfold upd m_bl
  by_cases e : j = t + i
  · rw [if_pos e, if_pos (by omega)]
  · rw [if_neg e]
    by_cases e2 : t ≤ j ∧ j < t + i
    · rw [if_pos e2, if_pos (by omega)]
    · rw [if_neg e2, if_neg (by omega)]
/-- the places 2 .. i - 1 of the block at a, laid into the block at t -/
def m_cp (f : Nat → Int32) (a t i : Nat) : Nat → Int32 := fun j => if t + 2 ≤ j ∧ j < t + i then f (a + (j - t)) else f j
theorem m_cp_0 (f : Nat → Int32) (a t : Nat) : f = m_cp f a t 2 := by
  funext j
  unfold m_cp
  rw [if_neg (by omega)]
theorem m_cp_s {f g : Nat → Int32} {a t i : Nat} (h2 : 2 ≤ i) (hi : i < 80) (hs : a + 80 ≤ t ∨ t + 80 ≤ a) (ha : a + 80 < 2 ^ 31) (ht : t + 80 < 2 ^ 31) (h : g = m_cp f a t i) : upd g (nI (t + i)).toNatClampNeg (g (nI (a + i)).toNatClampNeg) = m_cp f a t (i + 1) := by
  subst h
  rw [nI_clamp (by omega), nI_clamp (by omega)]
  funext j
  unfold upd m_cp
  by_cases e : j = t + i
  · subst e
    rw [if_pos rfl, if_neg (by omega), if_pos (by omega)]
    congr 1
    omega
  · rw [if_neg e]
    by_cases e2 : t + 2 ≤ j ∧ j < t + i
    · rw [if_pos e2, if_pos (by omega)]
    · rw [if_neg e2, if_neg (by omega)]

set_option maxHeartbeats 4000000 in
set_option maxRecDepth 100000 in
theorem gm_blank (l : Launch) (dC : Nat → ClassId) (dI : Nat → Nat → Nat) (sz : Nat) (mo : Nat) (nw : Nat) (kp : Nat) (mk : Nat) (co : Nat) (se : Nat) (th : Int32) (mr : Int32) (fd : Int32) (pl : Int32) (pt : Int32) (op : Int32) (cN : ClassId) (fw : Nat → Int32) (tn : Nat) (ht9 : tn + 80 ≤ 25240) : Met l yM_blank (.code yM_blank cM_blank 3 none :: aw) ({ frames := 0, cells := 0, slots := 0, locals := 0 }) (pW (dC, dI) sz [(mo, .inr (4, [.int th, .int mr, .ref nw, .ref kp, .int fd, .int pl, .ref mk, .ref co, .int pt, .int op, .ref se])), (nw, .inl (cN, 25240, .inl fw))] [(cN, .int)] [.ref mo, .int (nI tn)]) (va_Qv (fun (_ : Unit) => True) (fun _ t => wW (dC, dI) (va_A [(mo, .inr (4, [.int th, .int mr, .ref nw, .ref kp, .int fd, .int pl, .ref mk, .ref co, .int pt, .int op, .ref se])), (nw, .inl (cN, 25240, .inl fw))] sz) [(mo, .inr (4, [.int th, .int mr, .ref nw, .ref kp, .int fd, .int pl, .ref mk, .ref co, .int pt, .int op, .ref se])), (nw, .inl (cN, 25240, .inl (m_bl fw tn 80)))] [(cN, .int)] t) (va_A [(mo, .inr (4, [.int th, .int mr, .ref nw, .ref kp, .int fd, .int pl, .ref mk, .ref co, .int pt, .int op, .ref se])), (nw, .inl (cN, 25240, .inl fw))] sz)) 0 0 (va_A [(mo, .inr (4, [.int th, .int mr, .ref nw, .ref kp, .int fd, .int pl, .ref mk, .ref co, .int pt, .int op, .ref se])), (nw, .inl (cN, 25240, .inl fw))] sz) := by
  refine Met.ofW (cc := cM_blank) (maxL := 3) (ret := none) (by decide) rfl ?_
  intro p e s m args below meth c s₁ B hml hv
  obtain ⟨rfl, hv⟩ := hv
  have hx := B.exec
  have hb := B.bytes
  have hr := B.returns
  have hts : ∀ w ∈ aw, w.before _ s = true := fun w h => atoms_spec (ws := (.code yM_blank cM_blank 3 none :: aw)) B.pre w (List.mem_cons_of_mem _ h)
  have hown : s.vm.findClass RM = some m.cls := findClass_of_methodNamed B.named
  have hlocks := B.notSynchronized
  obtain ⟨hsz, hP, hK, hD0, hG⟩ := hv
  subst hsz
  have hD := hD0.self (sz := s.heap.size)
  generalize hAe : va_A [(mo, .inr (4, [.int th, .int mr, .ref nw, .ref kp, .int fd, .int pl, .ref mk, .ref co, .int pt, .int op, .ref se])), (nw, .inl (cN, 25240, .inl fw))] s.heap.size = A at hD ⊢
  have hA : ∀ q : Nat, s.heap.size ≤ q → A q := fun q h => by rw [← hAe]; exact Or.inr h
  obtain ⟨H, hH⟩ : ∃ H, H = s.heap := ⟨_, rfl⟩
  have hS : va_S A s.heap H [] := by rw [hH]; exact va_S.rf
  rw [← hH] at hP ⊢
  have hP : va_P (dC, dI) kCl [(mo, .inr (4, [.int th, .int mr, .ref nw, .ref kp, .int fd, .int pl, .ref mk, .ref co, .int pt, .int op, .ref se])), (nw, .inl (cN, 25240, .inl fw))] H := hP
  have hl := lv_entry ([.ref mo, .int (nI tn)]) (n := 3) (Nat.le_of_ble_eq_true rfl)
  rw [lg_entry_eq]
  generalize (lg_sl ([.ref mo, .int (nI tn)]) ++ List.replicate (3 - (lg_sl ([.ref mo, .int (nI tn)])).length) Slot.unset).toArray = ls at hl ⊢
  have hl : lv_has ls 3 [(0, .ref mo), (1, .int (nI tn))] := hl
  refine lv_iconst (pc := 0) (v := 0) hx hb dM_blank_0 (by decide) ?_
  refine lv_istore_n (pc := 1) hx hb dM_blank_1 rfl hl (by decide) rfl (fun ls hl => ?_)
  have hl : lv_has ls 3 [(2, .int 0), (0, .ref mo), (1, .int (nI tn))] := hl
  refine lpM (σ := (Nat) × (Nat → Int32) × (Heap) × (List Loc) × (Array Slot)) (fun z => W p l e _ s m _ below meth c z.2.2.1 z.2.2.2.1 0 0 _ (F0 m 2 z.2.2.2.2 [])) (fun z => va_P (dC, dI) kCl [(mo, .inr (4, [.int th, .int mr, .ref nw, .ref kp, .int fd, .int pl, .ref mk, .ref co, .int pt, .int op, .ref se])), (nw, .inl (cN, 25240, .inl z.2.1))] z.2.2.1 ∧ va_D A [(mo, .inr (4, [.int th, .int mr, .ref nw, .ref kp, .int fd, .int pl, .ref mk, .ref co, .int pt, .int op, .ref se])), (nw, .inl (cN, 25240, .inl z.2.1))] ∧ va_S A s.heap z.2.2.1 z.2.2.2.1 ∧ lv_has z.2.2.2.2 3 [(2, .int (nI z.1)), (0, .ref mo), (1, .int (nI tn))] ∧ (0 ≤ z.1 ∧ z.1 ≤ 80) ∧ (z.2.1 = (m_bl fw tn z.1))) (fun z => 80 - z.1) ?_ (0, fw, H, _, ls) ⟨hP, hD, hS, hl, ⟨by omega, by omega⟩, m_bl_0 _ _⟩
  rintro ⟨i, g1, H, locs, ls⟩ ⟨hP, hD, hS, hl, hi, hg1⟩ ih
  try dsimp only at hP hD hS hl hi hg1 ih ⊢
  have hP : va_P (dC, dI) kCl [(mo, .inr (4, [.int th, .int mr, .ref nw, .ref kp, .int fd, .int pl, .ref mk, .ref co, .int pt, .int op, .ref se])), (nw, .inl (cN, 25240, .inl g1))] H := hP
  have hD : va_D A [(mo, .inr (4, [.int th, .int mr, .ref nw, .ref kp, .int fd, .int pl, .ref mk, .ref co, .int pt, .int op, .ref se])), (nw, .inl (cN, 25240, .inl g1))] := hD
  have hl : lv_has ls 3 [(2, .int (nI i)), (0, .ref mo), (1, .int (nI tn))] := hl
  have hi : 0 ≤ i ∧ i ≤ 80 := hi
  have hg1 : g1 = (m_bl fw tn i) := hg1
  refine lv_iload_n (pc := 2) hx hb dM_blank_2 rfl (lv_at hl 0 rfl) ?_
  refine lv_bipush (pc := 3) (v := 80) hx hb dM_blank_3 (by decide) ?_
  refine lv_icmp_ge (pc := 5) (tgt := 23) hx hb dM_blank_5 rfl (fun h1 => ?_) (fun h1 => ?_)
  · obtain rfl : i = 80 := by have := nle_of (b := 80) h1 (by omega) (by omega); omega
    subst hg1
    have hP : va_P (dC, dI) kCl [(mo, .inr (4, [.int th, .int mr, .ref nw, .ref kp, .int fd, .int pl, .ref mk, .ref co, .int pt, .int op, .ref se])), (nw, .inl (cN, 25240, .inl (m_bl fw tn 80)))] H := hP
    have hD : va_D A [(mo, .inr (4, [.int th, .int mr, .ref nw, .ref kp, .int fd, .int pl, .ref mk, .ref co, .int pt, .int op, .ref se])), (nw, .inl (cN, 25240, .inl (m_bl fw tn 80)))] := hD
    have hP9 := hP.sub (ws' := [(mo, .inr (4, [.int th, .int mr, .ref nw, .ref kp, .int fd, .int pl, .ref mk, .ref co, .int pt, .int op, .ref se])), (nw, .inl (cN, 25240, .inl (m_bl fw tn 80)))]) [0, 1] rfl
    have hD9 := hD.sub (ws' := [(mo, .inr (4, [.int th, .int mr, .ref nw, .ref kp, .int fd, .int pl, .ref mk, .ref co, .int pt, .int op, .ref se])), (nw, .inl (cN, 25240, .inl (m_bl fw tn 80)))]) [0, 1] (by decide) rfl
    have hK9 := hK.sub (tys' := [(cN, .int)]) [0] rfl
    exact W.vret (pc := 23) hx hb hr (fun t ht hW => ⟨⟨(), rfl, trivial, by rw [ht]; exact hP9, va_K.moved hW.alike hK9, hD9⟩, hS.F ht⟩) hS.2.2 dM_blank_23
  · refine lv_aload_n (pc := 8) hx hb dM_blank_8 rfl (lv_at hl 1 rfl) ?_
    refine va_get (D := (dC, dI)) (cl := kCl) (C := RM) (T := TM) (N := 11) (pc := 9) hx hb hts inM hown hK hP 0 rfl rfl 2 (by decide) (hts _ wd_116) (fun _ h9 => h9) rfl dM_blank_9 ?_
    refine lv_iload_n (pc := 12) hx hb dM_blank_12 rfl (lv_at hl 2 rfl) ?_
    refine lv_iload_n (pc := 13) hx hb dM_blank_13 rfl (lv_at hl 0 rfl) ?_
    refine lv_iadd (pc := 14) hx hb dM_blank_14 ?_
    refine lv_topi (fun z2 hz3 => ?_)
    obtain rfl : z2 = (nI (tn + i)) := hz3.trans (nI_add _ _)
    refine lv_iconst (pc := 15) (v := 0) hx hb dM_blank_15 (by decide) ?_
    refine va_iast (D := (dC, dI)) (cl := kCl) (pc := 16) hx hb hK hP hD hS 1 0 rfl rfl (vp_in_nI (show (tn + i) < 25240 by have := nlt_of (b := 80) h1 (by omega); omega) (by decide)) dM_blank_16 (fun H locs hP hD hS => ?_)
    have hP : va_P (dC, dI) kCl [(mo, .inr (4, [.int th, .int mr, .ref nw, .ref kp, .int fd, .int pl, .ref mk, .ref co, .int pt, .int op, .ref se])), (nw, .inl (cN, 25240, .inl (upd g1 ((nI (tn + i)) : Int32).toNatClampNeg 0)))] H := hP
    have hD : va_D A [(mo, .inr (4, [.int th, .int mr, .ref nw, .ref kp, .int fd, .int pl, .ref mk, .ref co, .int pt, .int op, .ref se])), (nw, .inl (cN, 25240, .inl (upd g1 ((nI (tn + i)) : Int32).toNatClampNeg 0)))] := hD
    refine lv_iinc (pc := 17) (v := (nI (i + 1))) hx hb dM_blank_17 hl (k := 0) rfl (nI_1 _) (by decide) rfl (fun ls hl => ?_)
    have hl : lv_has ls 3 [(2, .int (nI (i + 1))), (0, .ref mo), (1, .int (nI tn))] := hl
    refine lv_goto (pc := 20) (tgt := 2) hx hb dM_blank_20 rfl ?_
    have hl := lv_sub hl (l' := [(2, .int (nI (i + 1))), (0, .ref mo), (1, .int (nI tn))]) [0, 1, 2] rfl
    exact ih (i + 1, _, H, _, ls) ⟨hP, hD, hS, hl, (by have := nlt_of (b := 80) h1 (by omega); omega), m_bl_s (by omega) hg1⟩ (by have := nlt_of (b := 80) h1 (by omega); omega)
set_option maxHeartbeats 4000000 in
set_option maxRecDepth 100000 in
theorem gm_copy (l : Launch) (dC : Nat → ClassId) (dI : Nat → Nat → Nat) (sz : Nat) (mo : Nat) (nw : Nat) (kp : Nat) (mk : Nat) (co : Nat) (se : Nat) (th : Int32) (mr : Int32) (fd : Int32) (pl : Int32) (pt : Int32) (op : Int32) (cN : ClassId) (fw : Nat → Int32) (an : Nat) (tn : Nat) (ha9 : an + 80 ≤ 25240) (ht9 : tn + 80 ≤ 25240) (hs9 : an + 80 ≤ tn ∨ tn + 80 ≤ an) : Met l yM_copy (.code yM_copy cM_copy 4 none :: aw) ({ frames := 0, cells := 0, slots := 0, locals := 0 }) (pW (dC, dI) sz [(mo, .inr (4, [.int th, .int mr, .ref nw, .ref kp, .int fd, .int pl, .ref mk, .ref co, .int pt, .int op, .ref se])), (nw, .inl (cN, 25240, .inl fw))] [(cN, .int)] [.ref mo, .int (nI an), .int (nI tn)]) (va_Qv (fun (_ : Unit) => True) (fun _ t => wW (dC, dI) (va_A [(mo, .inr (4, [.int th, .int mr, .ref nw, .ref kp, .int fd, .int pl, .ref mk, .ref co, .int pt, .int op, .ref se])), (nw, .inl (cN, 25240, .inl fw))] sz) [(mo, .inr (4, [.int th, .int mr, .ref nw, .ref kp, .int fd, .int pl, .ref mk, .ref co, .int pt, .int op, .ref se])), (nw, .inl (cN, 25240, .inl (m_cp fw an tn 80)))] [(cN, .int)] t) (va_A [(mo, .inr (4, [.int th, .int mr, .ref nw, .ref kp, .int fd, .int pl, .ref mk, .ref co, .int pt, .int op, .ref se])), (nw, .inl (cN, 25240, .inl fw))] sz)) 0 0 (va_A [(mo, .inr (4, [.int th, .int mr, .ref nw, .ref kp, .int fd, .int pl, .ref mk, .ref co, .int pt, .int op, .ref se])), (nw, .inl (cN, 25240, .inl fw))] sz) := by
  refine Met.ofW (cc := cM_copy) (maxL := 4) (ret := none) (by decide) rfl ?_
  intro p e s m args below meth c s₁ B hml hv
  obtain ⟨rfl, hv⟩ := hv
  have hx := B.exec
  have hb := B.bytes
  have hr := B.returns
  have hts : ∀ w ∈ aw, w.before _ s = true := fun w h => atoms_spec (ws := (.code yM_copy cM_copy 4 none :: aw)) B.pre w (List.mem_cons_of_mem _ h)
  have hown : s.vm.findClass RM = some m.cls := findClass_of_methodNamed B.named
  have hlocks := B.notSynchronized
  obtain ⟨hsz, hP, hK, hD0, hG⟩ := hv
  subst hsz
  have hD := hD0.self (sz := s.heap.size)
  generalize hAe : va_A [(mo, .inr (4, [.int th, .int mr, .ref nw, .ref kp, .int fd, .int pl, .ref mk, .ref co, .int pt, .int op, .ref se])), (nw, .inl (cN, 25240, .inl fw))] s.heap.size = A at hD ⊢
  have hA : ∀ q : Nat, s.heap.size ≤ q → A q := fun q h => by rw [← hAe]; exact Or.inr h
  obtain ⟨H, hH⟩ : ∃ H, H = s.heap := ⟨_, rfl⟩
  have hS : va_S A s.heap H [] := by rw [hH]; exact va_S.rf
  rw [← hH] at hP ⊢
  have hP : va_P (dC, dI) kCl [(mo, .inr (4, [.int th, .int mr, .ref nw, .ref kp, .int fd, .int pl, .ref mk, .ref co, .int pt, .int op, .ref se])), (nw, .inl (cN, 25240, .inl fw))] H := hP
  have hl := lv_entry ([.ref mo, .int (nI an), .int (nI tn)]) (n := 4) (Nat.le_of_ble_eq_true rfl)
  rw [lg_entry_eq]
  generalize (lg_sl ([.ref mo, .int (nI an), .int (nI tn)]) ++ List.replicate (4 - (lg_sl ([.ref mo, .int (nI an), .int (nI tn)])).length) Slot.unset).toArray = ls at hl ⊢
  have hl : lv_has ls 4 [(0, .ref mo), (1, .int (nI an)), (2, .int (nI tn))] := hl
  refine lv_iconst (pc := 0) (v := 2) hx hb dM_copy_0 (by decide) ?_
  refine lv_istore_n (pc := 1) hx hb dM_copy_1 rfl hl (by decide) rfl (fun ls hl => ?_)
  have hl : lv_has ls 4 [(3, .int 2), (0, .ref mo), (1, .int (nI an)), (2, .int (nI tn))] := hl
  refine lpM (σ := (Nat) × (Nat → Int32) × (Heap) × (List Loc) × (Array Slot)) (fun z => W p l e _ s m _ below meth c z.2.2.1 z.2.2.2.1 0 0 _ (F0 m 2 z.2.2.2.2 [])) (fun z => va_P (dC, dI) kCl [(mo, .inr (4, [.int th, .int mr, .ref nw, .ref kp, .int fd, .int pl, .ref mk, .ref co, .int pt, .int op, .ref se])), (nw, .inl (cN, 25240, .inl z.2.1))] z.2.2.1 ∧ va_D A [(mo, .inr (4, [.int th, .int mr, .ref nw, .ref kp, .int fd, .int pl, .ref mk, .ref co, .int pt, .int op, .ref se])), (nw, .inl (cN, 25240, .inl z.2.1))] ∧ va_S A s.heap z.2.2.1 z.2.2.2.1 ∧ lv_has z.2.2.2.2 4 [(3, .int (nI z.1)), (0, .ref mo), (1, .int (nI an)), (2, .int (nI tn))] ∧ (2 ≤ z.1 ∧ z.1 ≤ 80) ∧ (z.2.1 = (m_cp fw an tn z.1))) (fun z => 80 - z.1) ?_ (2, fw, H, _, ls) ⟨hP, hD, hS, hl, ⟨by omega, by omega⟩, m_cp_0 _ _ _⟩
  rintro ⟨i, g1, H, locs, ls⟩ ⟨hP, hD, hS, hl, hi, hg1⟩ ih
  try dsimp only at hP hD hS hl hi hg1 ih ⊢
  have hP : va_P (dC, dI) kCl [(mo, .inr (4, [.int th, .int mr, .ref nw, .ref kp, .int fd, .int pl, .ref mk, .ref co, .int pt, .int op, .ref se])), (nw, .inl (cN, 25240, .inl g1))] H := hP
  have hD : va_D A [(mo, .inr (4, [.int th, .int mr, .ref nw, .ref kp, .int fd, .int pl, .ref mk, .ref co, .int pt, .int op, .ref se])), (nw, .inl (cN, 25240, .inl g1))] := hD
  have hl : lv_has ls 4 [(3, .int (nI i)), (0, .ref mo), (1, .int (nI an)), (2, .int (nI tn))] := hl
  have hi : 2 ≤ i ∧ i ≤ 80 := hi
  have hg1 : g1 = (m_cp fw an tn i) := hg1
  refine lv_iload_n (pc := 2) hx hb dM_copy_2 rfl (lv_at hl 0 rfl) ?_
  refine lv_bipush (pc := 3) (v := 80) hx hb dM_copy_3 (by decide) ?_
  refine lv_icmp_ge (pc := 5) (tgt := 30) hx hb dM_copy_5 rfl (fun h1 => ?_) (fun h1 => ?_)
  · obtain rfl : i = 80 := by have := nle_of (b := 80) h1 (by omega) (by omega); omega
    subst hg1
    have hP : va_P (dC, dI) kCl [(mo, .inr (4, [.int th, .int mr, .ref nw, .ref kp, .int fd, .int pl, .ref mk, .ref co, .int pt, .int op, .ref se])), (nw, .inl (cN, 25240, .inl (m_cp fw an tn 80)))] H := hP
    have hD : va_D A [(mo, .inr (4, [.int th, .int mr, .ref nw, .ref kp, .int fd, .int pl, .ref mk, .ref co, .int pt, .int op, .ref se])), (nw, .inl (cN, 25240, .inl (m_cp fw an tn 80)))] := hD
    have hP9 := hP.sub (ws' := [(mo, .inr (4, [.int th, .int mr, .ref nw, .ref kp, .int fd, .int pl, .ref mk, .ref co, .int pt, .int op, .ref se])), (nw, .inl (cN, 25240, .inl (m_cp fw an tn 80)))]) [0, 1] rfl
    have hD9 := hD.sub (ws' := [(mo, .inr (4, [.int th, .int mr, .ref nw, .ref kp, .int fd, .int pl, .ref mk, .ref co, .int pt, .int op, .ref se])), (nw, .inl (cN, 25240, .inl (m_cp fw an tn 80)))]) [0, 1] (by decide) rfl
    have hK9 := hK.sub (tys' := [(cN, .int)]) [0] rfl
    exact W.vret (pc := 30) hx hb hr (fun t ht hW => ⟨⟨(), rfl, trivial, by rw [ht]; exact hP9, va_K.moved hW.alike hK9, hD9⟩, hS.F ht⟩) hS.2.2 dM_copy_30
  · refine lv_aload_n (pc := 8) hx hb dM_copy_8 rfl (lv_at hl 1 rfl) ?_
    refine va_get (D := (dC, dI)) (cl := kCl) (C := RM) (T := TM) (N := 11) (pc := 9) hx hb hts inM hown hK hP 0 rfl rfl 2 (by decide) (hts _ wd_116) (fun _ h9 => h9) rfl dM_copy_9 ?_
    refine lv_iload_n (pc := 12) hx hb dM_copy_12 rfl (lv_at hl 3 rfl) ?_
    refine lv_iload_n (pc := 13) hx hb dM_copy_13 rfl (lv_at hl 0 rfl) ?_
    refine lv_iadd (pc := 14) hx hb dM_copy_14 ?_
    refine lv_topi (fun z2 hz3 => ?_)
    obtain rfl : z2 = (nI (tn + i)) := hz3.trans (nI_add _ _)
    refine lv_aload_n (pc := 15) hx hb dM_copy_15 rfl (lv_at hl 1 rfl) ?_
    refine va_get (D := (dC, dI)) (cl := kCl) (C := RM) (T := TM) (N := 11) (pc := 16) hx hb hts inM hown hK hP 0 rfl rfl 2 (by decide) (hts _ wd_116) (fun _ h9 => h9) rfl dM_copy_16 ?_
    refine lv_iload_n (pc := 19) hx hb dM_copy_19 rfl (lv_at hl 2 rfl) ?_
    refine lv_iload_n (pc := 20) hx hb dM_copy_20 rfl (lv_at hl 0 rfl) ?_
    refine lv_iadd (pc := 21) hx hb dM_copy_21 ?_
    refine lv_topi (fun z4 hz5 => ?_)
    obtain rfl : z4 = (nI (an + i)) := hz5.trans (nI_add _ _)
    refine va_iald (D := (dC, dI)) (cl := kCl) (pc := 22) hx hb hK hP 1 0 rfl rfl (vp_in_nI (show (an + i) < 25240 by have := nlt_of (b := 80) h1 (by omega); omega) (by decide)) dM_copy_22 ?_
    refine W.eq (g2 := F0 m 23 ls [.int (g1 ((nI (an + i)) : Int32).toNatClampNeg), .int (nI (tn + i)), .ref nw]) rfl ?_
    refine va_iast (D := (dC, dI)) (cl := kCl) (pc := 23) hx hb hK hP hD hS 1 0 rfl rfl (vp_in_nI (show (tn + i) < 25240 by have := nlt_of (b := 80) h1 (by omega); omega) (by decide)) dM_copy_23 (fun H locs hP hD hS => ?_)
    have hP : va_P (dC, dI) kCl [(mo, .inr (4, [.int th, .int mr, .ref nw, .ref kp, .int fd, .int pl, .ref mk, .ref co, .int pt, .int op, .ref se])), (nw, .inl (cN, 25240, .inl (upd g1 ((nI (tn + i)) : Int32).toNatClampNeg (g1 ((nI (an + i)) : Int32).toNatClampNeg))))] H := hP
    have hD : va_D A [(mo, .inr (4, [.int th, .int mr, .ref nw, .ref kp, .int fd, .int pl, .ref mk, .ref co, .int pt, .int op, .ref se])), (nw, .inl (cN, 25240, .inl (upd g1 ((nI (tn + i)) : Int32).toNatClampNeg (g1 ((nI (an + i)) : Int32).toNatClampNeg))))] := hD
    refine lv_iinc (pc := 24) (v := (nI (i + 1))) hx hb dM_copy_24 hl (k := 0) rfl (nI_1 _) (by decide) rfl (fun ls hl => ?_)
    have hl : lv_has ls 4 [(3, .int (nI (i + 1))), (0, .ref mo), (1, .int (nI an)), (2, .int (nI tn))] := hl
    refine lv_goto (pc := 27) (tgt := 2) hx hb dM_copy_27 rfl ?_
    have hl := lv_sub hl (l' := [(3, .int (nI (i + 1))), (0, .ref mo), (1, .int (nI an)), (2, .int (nI tn))]) [0, 1, 2, 3] rfl
    exact ih (i + 1, _, H, _, ls) ⟨hP, hD, hS, hl, (by have := nlt_of (b := 80) h1 (by omega); omega), (m_cp_s hi.1 (by have := nlt_of (b := 80) h1 (by omega); omega) hs9 (by omega) (by omega) hg1)⟩ (by have := nlt_of (b := 80) h1 (by omega); omega)
