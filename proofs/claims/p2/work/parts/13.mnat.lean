abbrev cM_allRevisions : ByteArray := prog_9_method_18_code
abbrev yM_allRevisions : MethodName := ⟨"DrawingVaultModel", "allRevisions", "()I"⟩
theorem dM_allRevisions_0 : decode cM_allRevisions 0 = .ok (.iconst 0, 1) := by decide +kernel
theorem dM_allRevisions_1 : decode cM_allRevisions 1 = .ok (.istore_n 1, 1) := by decide +kernel
theorem dM_allRevisions_2 : decode cM_allRevisions 2 = .ok (.iconst 0, 1) := by decide +kernel
theorem dM_allRevisions_3 : decode cM_allRevisions 3 = .ok (.istore_n 2, 1) := by decide +kernel
theorem dM_allRevisions_4 : decode cM_allRevisions 4 = .ok (.iload_n 2, 1) := by decide +kernel
theorem dM_allRevisions_5 : decode cM_allRevisions 5 = .ok (.aload_n 0, 1) := by decide +kernel
theorem dM_allRevisions_6 : decode cM_allRevisions 6 = .ok (.getfield 7, 3) := by decide +kernel
theorem dM_allRevisions_9 : decode cM_allRevisions 9 = .ok (.bipush 16, 2) := by decide +kernel
theorem dM_allRevisions_11 : decode cM_allRevisions 11 = .ok (.iaload, 1) := by decide +kernel
theorem dM_allRevisions_12 : decode cM_allRevisions 12 = .ok (.if_icmp .ge 17, 3) := by decide +kernel
theorem dM_allRevisions_15 : decode cM_allRevisions 15 = .ok (.iload_n 1, 1) := by decide +kernel
theorem dM_allRevisions_16 : decode cM_allRevisions 16 = .ok (.aload_n 0, 1) := by decide +kernel
theorem dM_allRevisions_17 : decode cM_allRevisions 17 = .ok (.iload_n 2, 1) := by decide +kernel
theorem dM_allRevisions_18 : decode cM_allRevisions 18 = .ok (.invokevirtual 47, 3) := by decide +kernel
theorem dM_allRevisions_21 : decode cM_allRevisions 21 = .ok (.iadd, 1) := by decide +kernel
theorem dM_allRevisions_22 : decode cM_allRevisions 22 = .ok (.istore_n 1, 1) := by decide +kernel
theorem dM_allRevisions_23 : decode cM_allRevisions 23 = .ok (.iinc 2 1, 3) := by decide +kernel
theorem dM_allRevisions_26 : decode cM_allRevisions 26 = .ok (.goto (-22), 3) := by decide +kernel
theorem dM_allRevisions_29 : decode cM_allRevisions 29 = .ok (.iload_n 1, 1) := by decide +kernel
theorem dM_allRevisions_30 : decode cM_allRevisions 30 = .ok (.ireturn, 1) := by decide +kernel
theorem wd_130 : (.code ⟨"DrawingVaultModel", "made", "(I)I"⟩ prog_9_method_8_code 2 (Option.some .int) : Cond) ∈ aw := aw_in (tb_4 (List.mem_of_getElem? (i := 96) rfl)) rfl
theorem wd_131 : (.methodLink "DrawingVaultModel" 47 ⟨"DrawingVaultModel", "made", "(I)I"⟩ : Cond) ∈ aw := aw_in (tb_4 (List.mem_of_getElem? (i := 93) rfl)) rfl
theorem wd_132 : (.instanceMethod ⟨"DrawingVaultModel", "made", "(I)I"⟩ : Cond) ∈ aw := aw_in (tb_4 (List.mem_of_getElem? (i := 95) rfl)) rfl
theorem wd_133 : (.selects "DrawingVaultModel" ⟨"DrawingVaultModel", "made", "(I)I"⟩ ⟨"DrawingVaultModel", "made", "(I)I"⟩ : Cond) ∈ aw := aw_in (tb_s (q := (⟨"DrawingVaultModel", "made", "(I)I"⟩, _)) (List.mem_append_right _ (List.mem_append_right _ (List.mem_append_left _ (List.mem_of_getElem? (i := 9) rfl))))) rfl

/-- all revisions of the first n drawings -/
def m_all (f : Nat → Int32) : Nat → Int32
  | 0 => 0
  | n + 1 => m_all f n + f (20 + 80 * n)

set_option maxHeartbeats 4000000 in
set_option maxRecDepth 100000 in
theorem gn_drawingAt (l : Launch) (dC : Nat → ClassId) (dI : Nat → Nat → Nat) (mo : Nat) (nw : Nat) (kp : Nat) (mk : Nat) (co : Nat) (se : Nat) (th : Int32) (mr : Int32) (fd : Int32) (pl : Int32) (pt : Int32) (op : Int32) (dn : Nat) : Met l yM_drawingAt (.code yM_drawingAt cM_drawingAt 2 (some .int) :: aw) ({ frames := 0, cells := 0, slots := 0, locals := 0 }) (pR (dC, dI) [(mo, .inr (4, [.int th, .int mr, .ref nw, .ref kp, .int fd, .int pl, .ref mk, .ref co, .int pt, .int op, .ref se]))] [] [.ref mo, .int (nI dn)]) (vp_Si (fun r => r = (nI (20 + (80 * dn))))) 0 0 (fun _ => False) := by
  refine Met.ofW (cc := cM_drawingAt) (maxL := 2) (ret := (some .int)) (by decide) rfl ?_
  intro p e s m args below meth c s₁ B hml hv
  obtain ⟨rfl, hv⟩ := hv
  have hx := B.exec
  have hb := B.bytes
  have hr := B.returns
  have hts : ∀ w ∈ aw, w.before _ s = true := fun w h => atoms_spec (ws := (.code yM_drawingAt cM_drawingAt 2 (some .int) :: aw)) B.pre w (List.mem_cons_of_mem _ h)
  have hown : s.vm.findClass RM = some m.cls := findClass_of_methodNamed B.named
  have hlocks := B.notSynchronized
  obtain ⟨hP, hK, hG⟩ := hv
  obtain ⟨H, hH⟩ : ∃ H, H = s.heap := ⟨_, rfl⟩
  rw [← hH] at hP ⊢
  have hl := lv_entry ([.ref mo, .int (nI dn)]) (n := 2) (Nat.le_of_ble_eq_true rfl)
  rw [lg_entry_eq]
  generalize (lg_sl ([.ref mo, .int (nI dn)]) ++ List.replicate (2 - (lg_sl ([.ref mo, .int (nI dn)])).length) Slot.unset).toArray = ls at hl ⊢
  have hl : lv_has ls 2 [(0, .ref mo), (1, .int (nI dn))] := hl
  refine lv_bipush (pc := 0) (v := 20) hx hb dM_drawingAt_0 (by decide) ?_
  refine lv_bipush (pc := 2) (v := 80) hx hb dM_drawingAt_2 (by decide) ?_
  refine lv_iload_n (pc := 4) hx hb dM_drawingAt_4 rfl (lv_at hl 1 rfl) ?_
  refine lv_imul (pc := 5) hx hb dM_drawingAt_5 ?_
  refine lv_topi (fun z1 hz2 => ?_)
  obtain rfl : z1 = (nI (80 * dn)) := hz2.trans (pk_mul 80 _)
  refine lv_iadd (pc := 6) hx hb dM_drawingAt_6 ?_
  refine lv_topi (fun z3 hz4 => ?_)
  obtain rfl : z3 = (nI (20 + (80 * dn))) := hz4.trans (nI_add 20 _)
  exact W.iret (pc := 7) hx hb hr (fun t ht hW => ⟨_, rfl, rfl, ht.trans hH⟩) (fun q h => nomatch h) dM_drawingAt_7
set_option maxHeartbeats 4000000 in
set_option maxRecDepth 100000 in
theorem gn_made (l : Launch) (dC : Nat → ClassId) (dI : Nat → Nat → Nat) (mo : Nat) (nw : Nat) (kp : Nat) (mk : Nat) (co : Nat) (se : Nat) (th : Int32) (mr : Int32) (fd : Int32) (pl : Int32) (pt : Int32) (op : Int32) (cN : ClassId) (fw : Nat → Int32) (dn : Nat) (hd : dn < 24) : Met l yM_made (.code yM_made cM_made 2 (some .int) :: aw) ({ frames := 1, cells := 0, slots := 0, locals := 21 }) (pR (dC, dI) [(mo, .inr (4, [.int th, .int mr, .ref nw, .ref kp, .int fd, .int pl, .ref mk, .ref co, .int pt, .int op, .ref se])), (nw, .inl (cN, 25240, .inl fw))] [(cN, .int)] [.ref mo, .int (nI dn)]) (vp_Si (fun r => r = (fw (20 + (80 * dn) + 0)))) 0 0 (fun _ => False) := by
  refine Met.ofW (cc := cM_made) (maxL := 2) (ret := (some .int)) (by decide) rfl ?_
  intro p e s m args below meth c s₁ B hml hv
  obtain ⟨rfl, hv⟩ := hv
  have hx := B.exec
  have hb := B.bytes
  have hr := B.returns
  have hts : ∀ w ∈ aw, w.before _ s = true := fun w h => atoms_spec (ws := (.code yM_made cM_made 2 (some .int) :: aw)) B.pre w (List.mem_cons_of_mem _ h)
  have hown : s.vm.findClass RM = some m.cls := findClass_of_methodNamed B.named
  have hlocks := B.notSynchronized
  obtain ⟨hP, hK, hG⟩ := hv
  obtain ⟨H, hH⟩ : ∃ H, H = s.heap := ⟨_, rfl⟩
  rw [← hH] at hP ⊢
  have hl := lv_entry ([.ref mo, .int (nI dn)]) (n := 2) (Nat.le_of_ble_eq_true rfl)
  rw [lg_entry_eq]
  generalize (lg_sl ([.ref mo, .int (nI dn)]) ++ List.replicate (2 - (lg_sl ([.ref mo, .int (nI dn)])).length) Slot.unset).toArray = ls at hl ⊢
  have hl : lv_has ls 2 [(0, .ref mo), (1, .int (nI dn))] := hl
  refine lv_aload_n (pc := 0) hx hb dM_made_0 rfl (lv_at hl 0 rfl) ?_
  refine va_get (D := (dC, dI)) (cl := kCl) (C := RM) (T := TM) (N := 11) (pc := 1) hx hb hts inM hown hK hP 0 rfl rfl 2 (by decide) (hts _ wd_116) (fun _ h9 => h9) rfl dM_made_1 ?_
  refine lv_aload_n (pc := 4) hx hb dM_made_4 rfl (lv_at hl 0 rfl) ?_
  refine lv_iload_n (pc := 5) hx hb dM_made_5 rfl (lv_at hl 1 rfl) ?_
  refine vp_callSi (pc := 6) (W.runV (As := [.int (nI dn)]) (rest := [.ref nw]) ⟨hx, hb, hml, hown, hts⟩ (gn_drawingAt l dC dI mo nw kp mk co se th mr fd pl pt op dn) (cwV 1 hts (gV wd_123 wd_124 wd_125 wd_121 wd_122) rfl rfl rfl (by decide +kernel) ⟨Nat.le_of_ble_eq_true rfl, Nat.le_of_ble_eq_true rfl⟩) ⟨pR_blind, va_recv (q := (RM, TM, 11)) (q0 := 0) (ci := 4) hK hP rfl rfl, pR_pre (hP.sub (ws' := [(mo, .inr (4, [.int th, .int mr, .ref nw, .ref kp, .int fd, .int pl, .ref mk, .ref co, .int pt, .int op, .ref se]))]) [0] rfl) (hK.sub (tys' := []) [] rfl) hG⟩ rfl rfl hl.1 rfl (lv_room (Nat.le_of_ble_eq_true rfl)) dM_made_6 ⟨Nat.le_of_ble_eq_true rfl, Nat.le_of_ble_eq_true rfl⟩) (fun r1 hr2 => ?_)
  obtain rfl : r1 = (nI (20 + (80 * dn))) := hr2
  refine lv_iconst (pc := 9) (v := 0) hx hb dM_made_9 (by decide) ?_
  refine lv_iadd (pc := 10) hx hb dM_made_10 ?_
  refine lv_topi (fun z3 hz4 => ?_)
  obtain rfl : z3 = (nI ((20 + (80 * dn)) + 0)) := hz4.trans (nI_add _ 0)
  refine va_iald (D := (dC, dI)) (cl := kCl) (pc := 11) hx hb hK hP 1 0 rfl rfl (vp_in_nI (show ((20 + (80 * dn)) + 0) < 25240 by omega) (by decide)) dM_made_11 ?_
  refine W.eq (g2 := F0 m 12 ls [.int (fw ((nI ((20 + (80 * dn)) + 0)) : Int32).toNatClampNeg)]) rfl ?_
  refine lv_topi (fun z5 hz6 => ?_)
  obtain rfl : z5 = fw ((20 + (80 * dn)) + 0) := hz6.trans (by rw [nI_clamp (by omega)])
  exact W.iret (pc := 12) hx hb hr (fun t ht hW => ⟨_, rfl, rfl, ht.trans hH⟩) (fun q h => nomatch h) dM_made_12
set_option maxHeartbeats 4000000 in
set_option maxRecDepth 100000 in
theorem gn_with (l : Launch) (dC : Nat → ClassId) (dI : Nat → Nat → Nat) (mo : Nat) (nw : Nat) (kp : Nat) (mk : Nat) (co : Nat) (se : Nat) (th : Int32) (mr : Int32) (fd : Int32) (pl : Int32) (pt : Int32) (op : Int32) (cN : ClassId) (fw : Nat → Int32) (dn : Nat) (hd : dn < 24) : Met l yM_with (.code yM_with cM_with 2 (some .int) :: aw) ({ frames := 1, cells := 0, slots := 0, locals := 21 }) (pR (dC, dI) [(mo, .inr (4, [.int th, .int mr, .ref nw, .ref kp, .int fd, .int pl, .ref mk, .ref co, .int pt, .int op, .ref se])), (nw, .inl (cN, 25240, .inl fw))] [(cN, .int)] [.ref mo, .int (nI dn)]) (vp_Si (fun r => r = ((fw (20 + (80 * dn) + 1)) - 1))) 0 0 (fun _ => False) := by
  refine Met.ofW (cc := cM_with) (maxL := 2) (ret := (some .int)) (by decide) rfl ?_
  intro p e s m args below meth c s₁ B hml hv
  obtain ⟨rfl, hv⟩ := hv
  have hx := B.exec
  have hb := B.bytes
  have hr := B.returns
  have hts : ∀ w ∈ aw, w.before _ s = true := fun w h => atoms_spec (ws := (.code yM_with cM_with 2 (some .int) :: aw)) B.pre w (List.mem_cons_of_mem _ h)
  have hown : s.vm.findClass RM = some m.cls := findClass_of_methodNamed B.named
  have hlocks := B.notSynchronized
  obtain ⟨hP, hK, hG⟩ := hv
  obtain ⟨H, hH⟩ : ∃ H, H = s.heap := ⟨_, rfl⟩
  rw [← hH] at hP ⊢
  have hl := lv_entry ([.ref mo, .int (nI dn)]) (n := 2) (Nat.le_of_ble_eq_true rfl)
  rw [lg_entry_eq]
  generalize (lg_sl ([.ref mo, .int (nI dn)]) ++ List.replicate (2 - (lg_sl ([.ref mo, .int (nI dn)])).length) Slot.unset).toArray = ls at hl ⊢
  have hl : lv_has ls 2 [(0, .ref mo), (1, .int (nI dn))] := hl
  refine lv_aload_n (pc := 0) hx hb dM_with_0 rfl (lv_at hl 0 rfl) ?_
  refine va_get (D := (dC, dI)) (cl := kCl) (C := RM) (T := TM) (N := 11) (pc := 1) hx hb hts inM hown hK hP 0 rfl rfl 2 (by decide) (hts _ wd_116) (fun _ h9 => h9) rfl dM_with_1 ?_
  refine lv_aload_n (pc := 4) hx hb dM_with_4 rfl (lv_at hl 0 rfl) ?_
  refine lv_iload_n (pc := 5) hx hb dM_with_5 rfl (lv_at hl 1 rfl) ?_
  refine vp_callSi (pc := 6) (W.runV (As := [.int (nI dn)]) (rest := [.ref nw]) ⟨hx, hb, hml, hown, hts⟩ (gn_drawingAt l dC dI mo nw kp mk co se th mr fd pl pt op dn) (cwV 1 hts (gV wd_123 wd_124 wd_125 wd_121 wd_122) rfl rfl rfl (by decide +kernel) ⟨Nat.le_of_ble_eq_true rfl, Nat.le_of_ble_eq_true rfl⟩) ⟨pR_blind, va_recv (q := (RM, TM, 11)) (q0 := 0) (ci := 4) hK hP rfl rfl, pR_pre (hP.sub (ws' := [(mo, .inr (4, [.int th, .int mr, .ref nw, .ref kp, .int fd, .int pl, .ref mk, .ref co, .int pt, .int op, .ref se]))]) [0] rfl) (hK.sub (tys' := []) [] rfl) hG⟩ rfl rfl hl.1 rfl (lv_room (Nat.le_of_ble_eq_true rfl)) dM_with_6 ⟨Nat.le_of_ble_eq_true rfl, Nat.le_of_ble_eq_true rfl⟩) (fun r1 hr2 => ?_)
  obtain rfl : r1 = (nI (20 + (80 * dn))) := hr2
  refine lv_iconst (pc := 9) (v := 1) hx hb dM_with_9 (by decide) ?_
  refine lv_iadd (pc := 10) hx hb dM_with_10 ?_
  refine lv_topi (fun z3 hz4 => ?_)
  obtain rfl : z3 = (nI ((20 + (80 * dn)) + 1)) := hz4.trans (nI_add _ 1)
  refine va_iald (D := (dC, dI)) (cl := kCl) (pc := 11) hx hb hK hP 1 0 rfl rfl (vp_in_nI (show ((20 + (80 * dn)) + 1) < 25240 by omega) (by decide)) dM_with_11 ?_
  refine W.eq (g2 := F0 m 12 ls [.int (fw ((nI ((20 + (80 * dn)) + 1)) : Int32).toNatClampNeg)]) rfl ?_
  refine lv_topi (fun z5 hz6 => ?_)
  obtain rfl : z5 = fw ((20 + (80 * dn)) + 1) := hz6.trans (by rw [nI_clamp (by omega)])
  refine lv_iconst (pc := 12) (v := 1) hx hb dM_with_12 (by decide) ?_
  refine lv_isub (pc := 13) hx hb dM_with_13 ?_
  exact W.iret (pc := 14) hx hb hr (fun t ht hW => ⟨_, rfl, rfl, ht.trans hH⟩) (fun q h => nomatch h) dM_with_14
set_option maxHeartbeats 4000000 in
set_option maxRecDepth 100000 in
theorem gn_allRevisions (l : Launch) (dC : Nat → ClassId) (dI : Nat → Nat → Nat) (mo : Nat) (nw : Nat) (kp : Nat) (mk : Nat) (co : Nat) (se : Nat) (th : Int32) (mr : Int32) (fd : Int32) (pl : Int32) (pt : Int32) (op : Int32) (cN : ClassId) (fw : Nat → Int32) (nd : Nat) (hnd : fw 16 = nI nd) (hn24 : nd ≤ 24) : Met l yM_allRevisions (.code yM_allRevisions cM_allRevisions 3 (some .int) :: aw) ({ frames := 2, cells := 0, slots := 0, locals := 42 }) (pR (dC, dI) [(mo, .inr (4, [.int th, .int mr, .ref nw, .ref kp, .int fd, .int pl, .ref mk, .ref co, .int pt, .int op, .ref se])), (nw, .inl (cN, 25240, .inl fw))] [(cN, .int)] [.ref mo]) (vp_Si (fun r => r = (m_all fw nd))) 0 0 (fun _ => False) := by
  refine Met.ofW (cc := cM_allRevisions) (maxL := 3) (ret := (some .int)) (by decide) rfl ?_
  intro p e s m args below meth c s₁ B hml hv
  obtain ⟨rfl, hv⟩ := hv
  have hx := B.exec
  have hb := B.bytes
  have hr := B.returns
  have hts : ∀ w ∈ aw, w.before _ s = true := fun w h => atoms_spec (ws := (.code yM_allRevisions cM_allRevisions 3 (some .int) :: aw)) B.pre w (List.mem_cons_of_mem _ h)
  have hown : s.vm.findClass RM = some m.cls := findClass_of_methodNamed B.named
  have hlocks := B.notSynchronized
  obtain ⟨hP, hK, hG⟩ := hv
  obtain ⟨H, hH⟩ : ∃ H, H = s.heap := ⟨_, rfl⟩
  rw [← hH] at hP ⊢
  have hl := lv_entry ([.ref mo]) (n := 3) (Nat.le_of_ble_eq_true rfl)
  rw [lg_entry_eq]
  generalize (lg_sl ([.ref mo]) ++ List.replicate (3 - (lg_sl ([.ref mo])).length) Slot.unset).toArray = ls at hl ⊢
  have hl : lv_has ls 3 [(0, .ref mo)] := hl
  refine lv_iconst (pc := 0) (v := 0) hx hb dM_allRevisions_0 (by decide) ?_
  refine lv_istore_n (pc := 1) hx hb dM_allRevisions_1 rfl hl (by decide) rfl (fun ls hl => ?_)
  have hl : lv_has ls 3 [(1, .int 0), (0, .ref mo)] := hl
  refine lv_iconst (pc := 2) (v := 0) hx hb dM_allRevisions_2 (by decide) ?_
  refine lv_istore_n (pc := 3) hx hb dM_allRevisions_3 rfl hl (by decide) rfl (fun ls hl => ?_)
  have hl : lv_has ls 3 [(2, .int 0), (1, .int 0), (0, .ref mo)] := hl
  refine lpM (σ := (Nat) × (Array Slot)) (fun z => W p l e _ s m _ below meth c H ([]) 0 0 _ (F0 m 4 z.2 [])) (fun z => lv_has z.2 3 [(2, .int (nI z.1)), (1, .int (m_all fw z.1)), (0, .ref mo)] ∧ (z.1 ≤ nd)) (fun z => nd - z.1) ?_ (0, ls) ⟨hl, Nat.zero_le _⟩
  rintro ⟨i, ls⟩ ⟨hl, hi⟩ ih
  try dsimp only at hl hi ih ⊢
  have hl : lv_has ls 3 [(2, .int (nI i)), (1, .int (m_all fw i)), (0, .ref mo)] := hl
  have hi : i ≤ nd := hi
  refine lv_iload_n (pc := 4) hx hb dM_allRevisions_4 rfl (lv_at hl 0 rfl) ?_
  refine lv_aload_n (pc := 5) hx hb dM_allRevisions_5 rfl (lv_at hl 2 rfl) ?_
  refine va_get (D := (dC, dI)) (cl := kCl) (C := RM) (T := TM) (N := 11) (pc := 6) hx hb hts inM hown hK hP 0 rfl rfl 2 (by decide) (hts _ wd_116) (fun _ h9 => h9) rfl dM_allRevisions_6 ?_
  refine lv_bipush (pc := 9) (v := 16) hx hb dM_allRevisions_9 (by decide) ?_
  refine va_iald (D := (dC, dI)) (cl := kCl) (pc := 11) hx hb hK hP 1 0 rfl rfl (vp_in_lit 16 25240 (by decide)) dM_allRevisions_11 ?_
  refine W.eq (g2 := F0 m 12 ls [.int (fw 16), .int (nI i)]) rfl ?_
  refine lv_topi (fun z1 hz2 => ?_)
  obtain rfl : z1 = nI nd := hz2.trans hnd
  refine lv_icmp_ge (pc := 12) (tgt := 29) hx hb dM_allRevisions_12 rfl (fun h3 => ?_) (fun h3 => ?_)
  · refine lv_iload_n (pc := 29) hx hb dM_allRevisions_29 rfl (lv_at hl 1 rfl) ?_
    exact W.iret (pc := 30) hx hb hr (fun t ht hW => ⟨_, rfl, congrArg (m_all fw) (Nat.le_antisymm hi (nle_of h3 (by omega) (by omega))), ht.trans hH⟩) (fun q h => nomatch h) dM_allRevisions_30
  · refine lv_iload_n (pc := 15) hx hb dM_allRevisions_15 rfl (lv_at hl 1 rfl) ?_
    refine lv_aload_n (pc := 16) hx hb dM_allRevisions_16 rfl (lv_at hl 2 rfl) ?_
    refine lv_iload_n (pc := 17) hx hb dM_allRevisions_17 rfl (lv_at hl 0 rfl) ?_
    refine vp_callSi (pc := 18) (W.runV (As := [.int (nI i)]) (rest := [.int (m_all fw i)]) ⟨hx, hb, hml, hown, hts⟩ (gn_made l dC dI mo nw kp mk co se th mr fd pl pt op cN fw i (by have := nlt_of h3 (by omega); omega)) (cwV 1 hts (gV wd_131 wd_132 wd_133 wd_121 wd_130) rfl rfl rfl (by decide +kernel) ⟨Nat.le_of_ble_eq_true rfl, Nat.le_of_ble_eq_true rfl⟩) ⟨pR_blind, va_recv (q := (RM, TM, 11)) (q0 := 0) (ci := 4) hK hP rfl rfl, pR_pre (hP.sub (ws' := [(mo, .inr (4, [.int th, .int mr, .ref nw, .ref kp, .int fd, .int pl, .ref mk, .ref co, .int pt, .int op, .ref se])), (nw, .inl (cN, 25240, .inl fw))]) [0, 1] rfl) (hK.sub (tys' := [(cN, .int)]) [0] rfl) hG⟩ rfl rfl hl.1 rfl (lv_room (Nat.le_of_ble_eq_true rfl)) dM_allRevisions_18 ⟨Nat.le_of_ble_eq_true rfl, Nat.le_of_ble_eq_true rfl⟩) (fun r4 hr5 => ?_)
    obtain rfl : r4 = (fw (20 + (80 * i) + 0)) := hr5
    refine lv_iadd (pc := 21) hx hb dM_allRevisions_21 ?_
    refine lv_istore_n (pc := 22) hx hb dM_allRevisions_22 rfl hl (by decide) rfl (fun ls hl => ?_)
    have hl : lv_has ls 3 [(1, .int ((m_all fw i) + (fw (20 + (80 * i) + 0)))), (2, .int (nI i)), (0, .ref mo)] := hl
    refine lv_iinc (pc := 23) (v := (nI (i + 1))) hx hb dM_allRevisions_23 hl (k := 1) rfl (nI_1 _) (by decide) rfl (fun ls hl => ?_)
    have hl : lv_has ls 3 [(2, .int (nI (i + 1))), (1, .int ((m_all fw i) + (fw (20 + (80 * i) + 0)))), (0, .ref mo)] := hl
    refine lv_goto (pc := 26) (tgt := 4) hx hb dM_allRevisions_26 rfl ?_
    have hl := lv_sub hl (l' := [(2, .int (nI (i + 1))), (1, .int ((m_all fw i) + (fw (20 + (80 * i) + 0)))), (0, .ref mo)]) [0, 1, 2] rfl
    exact ih (i + 1, ls) ⟨hl, (nlt_of h3 (by omega))⟩ (by have := nlt_of h3 (by omega); omega)
