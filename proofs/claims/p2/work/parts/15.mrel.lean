abbrev cM_released : ByteArray := prog_9_method_13_code
abbrev yM_released : MethodName := ⟨"DrawingVaultModel", "released", "(I)I"⟩
theorem dM_released_0 : decode cM_released 0 = .ok (.iconst (-1), 1) := by decide +kernel
theorem dM_released_1 : decode cM_released 1 = .ok (.istore_n 2, 1) := by decide +kernel
theorem dM_released_2 : decode cM_released 2 = .ok (.iconst 0, 1) := by decide +kernel
theorem dM_released_3 : decode cM_released 3 = .ok (.istore_n 3, 1) := by decide +kernel
theorem dM_released_4 : decode cM_released 4 = .ok (.iload_n 3, 1) := by decide +kernel
theorem dM_released_5 : decode cM_released 5 = .ok (.aload_n 0, 1) := by decide +kernel
theorem dM_released_6 : decode cM_released 6 = .ok (.iload_n 1, 1) := by decide +kernel
theorem dM_released_7 : decode cM_released 7 = .ok (.invokevirtual 47, 3) := by decide +kernel
theorem dM_released_10 : decode cM_released 10 = .ok (.if_icmp .ge 25, 3) := by decide +kernel
theorem dM_released_13 : decode cM_released 13 = .ok (.aload_n 0, 1) := by decide +kernel
theorem dM_released_14 : decode cM_released 14 = .ok (.iload_n 1, 1) := by decide +kernel
theorem dM_released_15 : decode cM_released 15 = .ok (.iload_n 3, 1) := by decide +kernel
theorem dM_released_16 : decode cM_released 16 = .ok (.invokevirtual 54, 3) := by decide +kernel
theorem dM_released_19 : decode cM_released 19 = .ok (.iconst 2, 1) := by decide +kernel
theorem dM_released_20 : decode cM_released 20 = .ok (.if_icmp .ne 7, 3) := by decide +kernel
theorem dM_released_23 : decode cM_released 23 = .ok (.iload_n 3, 1) := by decide +kernel
theorem dM_released_24 : decode cM_released 24 = .ok (.goto 4, 3) := by decide +kernel
theorem dM_released_27 : decode cM_released 27 = .ok (.iload_n 2, 1) := by decide +kernel
theorem dM_released_28 : decode cM_released 28 = .ok (.istore_n 2, 1) := by decide +kernel
theorem dM_released_29 : decode cM_released 29 = .ok (.iinc 3 1, 3) := by decide +kernel
theorem dM_released_32 : decode cM_released 32 = .ok (.goto (-28), 3) := by decide +kernel
theorem dM_released_35 : decode cM_released 35 = .ok (.iload_n 2, 1) := by decide +kernel
theorem dM_released_36 : decode cM_released 36 = .ok (.ireturn, 1) := by decide +kernel
theorem wd_134 : (.code ⟨"DrawingVaultModel", "stateOf", "(II)I"⟩ prog_9_method_11_code 3 (Option.some .int) : Cond) ∈ aw := aw_in (tb_5 (List.mem_of_getElem? (i := 2) rfl)) rfl
theorem wd_135 : (.methodLink "DrawingVaultModel" 54 ⟨"DrawingVaultModel", "stateOf", "(II)I"⟩ : Cond) ∈ aw := aw_in (tb_4 (List.mem_of_getElem? (i := 239) rfl)) rfl
theorem wd_136 : (.instanceMethod ⟨"DrawingVaultModel", "stateOf", "(II)I"⟩ : Cond) ∈ aw := aw_in (tb_5 (List.mem_of_getElem? (i := 1) rfl)) rfl
theorem wd_137 : (.selects "DrawingVaultModel" ⟨"DrawingVaultModel", "stateOf", "(II)I"⟩ ⟨"DrawingVaultModel", "stateOf", "(II)I"⟩ : Cond) ∈ aw := aw_in (tb_s (q := (⟨"DrawingVaultModel", "stateOf", "(II)I"⟩, _)) (List.mem_append_right _ (List.mem_append_right _ (List.mem_append_right _ (List.mem_append_right _ (List.mem_of_getElem? (i := 3) rfl)))))) rfl

set_option maxHeartbeats 4000000 in
set_option maxRecDepth 100000 in
theorem gn_released (l : Launch) (dC : Nat → ClassId) (dI : Nat → Nat → Nat) (mo : Nat) (nw : Nat) (kp : Nat) (mk : Nat) (co : Nat) (se : Nat) (th : Int32) (mr : Int32) (fd : Int32) (pl : Int32) (pt : Int32) (op : Int32) (cN : ClassId) (fw : Nat → Int32) (dn : Nat) (rn : Nat) (hd : dn < 24) (hrn : fw (20 + (80 * dn) + 0) = nI rn) (hr12 : rn ≤ 12) : Met l yM_released (.code yM_released cM_released 4 (some .int) :: aw) ({ frames := 2, cells := 0, slots := 0, locals := 44 }) (pR (dC, dI) [(mo, .inr (4, [.int th, .int mr, .ref nw, .ref kp, .int fd, .int pl, .ref mk, .ref co, .int pt, .int op, .ref se])), (nw, .inl (cN, 25240, .inl fw))] [(cN, .int)] [.ref mo, .int (nI dn)]) (vp_Si (fun r => r = (m_rel fw dn rn))) 0 0 (fun _ => False) := by
  refine Met.ofW (cc := cM_released) (maxL := 4) (ret := (some .int)) (by decide) rfl ?_
  intro p e s m args below meth c s₁ B hml hv
  obtain ⟨rfl, hv⟩ := hv
  have hx := B.exec
  have hb := B.bytes
  have hr := B.returns
  have hts : ∀ w ∈ aw, w.before _ s = true := fun w h => atoms_spec (ws := (.code yM_released cM_released 4 (some .int) :: aw)) B.pre w (List.mem_cons_of_mem _ h)
  have hown : s.vm.findClass RM = some m.cls := findClass_of_methodNamed B.named
  have hlocks := B.notSynchronized
  obtain ⟨hP, hK, hG⟩ := hv
  obtain ⟨H, hH⟩ : ∃ H, H = s.heap := ⟨_, rfl⟩
  rw [← hH] at hP ⊢
  have hl := lv_entry ([.ref mo, .int (nI dn)]) (n := 4) (Nat.le_of_ble_eq_true rfl)
  rw [lg_entry_eq]
  generalize (lg_sl ([.ref mo, .int (nI dn)]) ++ List.replicate (4 - (lg_sl ([.ref mo, .int (nI dn)])).length) Slot.unset).toArray = ls at hl ⊢
  have hl : lv_has ls 4 [(0, .ref mo), (1, .int (nI dn))] := hl
  refine lv_iconst (pc := 0) (v := (-1)) hx hb dM_released_0 (by decide) ?_
  refine lv_istore_n (pc := 1) hx hb dM_released_1 rfl hl (by decide) rfl (fun ls hl => ?_)
  have hl : lv_has ls 4 [(2, .int (-1)), (0, .ref mo), (1, .int (nI dn))] := hl
  refine lv_iconst (pc := 2) (v := 0) hx hb dM_released_2 (by decide) ?_
  refine lv_istore_n (pc := 3) hx hb dM_released_3 rfl hl (by decide) rfl (fun ls hl => ?_)
  have hl : lv_has ls 4 [(3, .int 0), (2, .int (-1)), (0, .ref mo), (1, .int (nI dn))] := hl
  refine lpM (σ := (Nat) × (Array Slot)) (fun z => W p l e _ s m _ below meth c H ([]) 0 0 _ (F0 m 4 z.2 [])) (fun z => lv_has z.2 4 [(3, .int (nI z.1)), (2, .int (m_rel fw dn z.1)), (0, .ref mo), (1, .int (nI dn))] ∧ (z.1 ≤ rn)) (fun z => rn - z.1) ?_ (0, ls) ⟨hl, Nat.zero_le _⟩
  rintro ⟨i, ls⟩ ⟨hl, hi⟩ ih
  try dsimp only at hl hi ih ⊢
  have hl : lv_has ls 4 [(3, .int (nI i)), (2, .int (m_rel fw dn i)), (0, .ref mo), (1, .int (nI dn))] := hl
  have hi : i ≤ rn := hi
  refine lv_iload_n (pc := 4) hx hb dM_released_4 rfl (lv_at hl 0 rfl) ?_
  refine lv_aload_n (pc := 5) hx hb dM_released_5 rfl (lv_at hl 2 rfl) ?_
  refine lv_iload_n (pc := 6) hx hb dM_released_6 rfl (lv_at hl 3 rfl) ?_
  refine vp_callSi (pc := 7) (W.runV (As := [.int (nI dn)]) (rest := [.int (nI i)]) ⟨hx, hb, hml, hown, hts⟩ (gn_made l dC dI mo nw kp mk co se th mr fd pl pt op cN fw dn (by omega)) (cwV 1 hts (gV wd_131 wd_132 wd_133 wd_121 wd_130) rfl rfl rfl (by decide +kernel) ⟨Nat.le_of_ble_eq_true rfl, Nat.le_of_ble_eq_true rfl⟩) ⟨pR_blind, va_recv (q := (RM, TM, 11)) (q0 := 0) (ci := 4) hK hP rfl rfl, pR_pre (hP.sub (ws' := [(mo, .inr (4, [.int th, .int mr, .ref nw, .ref kp, .int fd, .int pl, .ref mk, .ref co, .int pt, .int op, .ref se])), (nw, .inl (cN, 25240, .inl fw))]) [0, 1] rfl) (hK.sub (tys' := [(cN, .int)]) [0] rfl) hG⟩ rfl rfl hl.1 rfl (lv_room (Nat.le_of_ble_eq_true rfl)) dM_released_7 ⟨Nat.le_of_ble_eq_true rfl, Nat.le_of_ble_eq_true rfl⟩) (fun r1 hr2 => ?_)
  obtain rfl : r1 = (fw (20 + (80 * dn) + 0)) := hr2
  refine lv_topi (fun z3 hz4 => ?_)
  obtain rfl : z3 = nI rn := hz4.trans hrn
  refine lv_icmp_ge (pc := 10) (tgt := 35) hx hb dM_released_10 rfl (fun h5 => ?_) (fun h5 => ?_)
  · refine lv_iload_n (pc := 35) hx hb dM_released_35 rfl (lv_at hl 1 rfl) ?_
    exact W.iret (pc := 36) hx hb hr (fun t ht hW => ⟨_, rfl, congrArg (m_rel fw dn) (Nat.le_antisymm hi (nle_of h5 (by omega) (by omega))), ht.trans hH⟩) (fun q h => nomatch h) dM_released_36
  · refine lv_aload_n (pc := 13) hx hb dM_released_13 rfl (lv_at hl 2 rfl) ?_
    refine lv_iload_n (pc := 14) hx hb dM_released_14 rfl (lv_at hl 3 rfl) ?_
    refine lv_iload_n (pc := 15) hx hb dM_released_15 rfl (lv_at hl 0 rfl) ?_
    refine vp_callSi (pc := 16) (W.runV (As := [.int (nI dn), .int (nI i)]) (rest := []) ⟨hx, hb, hml, hown, hts⟩ (gn_stateOf l dC dI mo nw kp mk co se th mr fd pl pt op cN fw dn i (by have := nlt_of h5 (by omega); omega) (by have := nlt_of h5 (by omega); omega)) (cwV 2 hts (gV wd_135 wd_136 wd_137 wd_121 wd_134) rfl rfl rfl (by decide +kernel) ⟨Nat.le_of_ble_eq_true rfl, Nat.le_of_ble_eq_true rfl⟩) ⟨pR_blind, va_recv (q := (RM, TM, 11)) (q0 := 0) (ci := 4) hK hP rfl rfl, pR_pre (hP.sub (ws' := [(mo, .inr (4, [.int th, .int mr, .ref nw, .ref kp, .int fd, .int pl, .ref mk, .ref co, .int pt, .int op, .ref se])), (nw, .inl (cN, 25240, .inl fw))]) [0, 1] rfl) (hK.sub (tys' := [(cN, .int)]) [0] rfl) hG⟩ rfl rfl hl.1 rfl (lv_room (Nat.le_of_ble_eq_true rfl)) dM_released_16 ⟨Nat.le_of_ble_eq_true rfl, Nat.le_of_ble_eq_true rfl⟩) (fun r6 hr7 => ?_)
    obtain rfl : r6 = (fw (1940 + (80 * (12 * dn + i)) + 0)) := hr7
    refine lv_iconst (pc := 19) (v := 2) hx hb dM_released_19 (by decide) ?_
    refine lv_icmp_ne (pc := 20) (tgt := 27) hx hb dM_released_20 rfl (fun h8 => ?_) (fun h8 => ?_)
    · refine lv_iload_n (pc := 27) hx hb dM_released_27 rfl (lv_at hl 1 rfl) ?_
      refine lv_istore_n (pc := 28) hx hb dM_released_28 rfl hl (by decide) rfl (fun ls hl => ?_)
      have hl : lv_has ls 4 [(2, .int (m_rel fw dn i)), (3, .int (nI i)), (0, .ref mo), (1, .int (nI dn))] := hl
      refine lv_iinc (pc := 29) (v := (nI (i + 1))) hx hb dM_released_29 hl (k := 1) rfl (nI_1 _) (by decide) rfl (fun ls hl => ?_)
      have hl : lv_has ls 4 [(3, .int (nI (i + 1))), (2, .int (m_rel fw dn i)), (0, .ref mo), (1, .int (nI dn))] := hl
      refine lv_goto (pc := 32) (tgt := 4) hx hb dM_released_32 rfl ?_
      have e9 : (m_rel fw dn i) = m_rel fw dn (i + 1) := m_rel_n h8
      rw [e9] at hl
      have hl := lv_sub hl (l' := [(3, .int (nI (i + 1))), (2, .int (m_rel fw dn (i + 1))), (0, .ref mo), (1, .int (nI dn))]) [0, 1, 2, 3] rfl
      exact ih (i + 1, ls) ⟨hl, (nlt_of h5 (by omega))⟩ (by have := nlt_of h5 (by omega); omega)
    · refine lv_iload_n (pc := 23) hx hb dM_released_23 rfl (lv_at hl 0 rfl) ?_
      refine lv_goto (pc := 24) (tgt := 28) hx hb dM_released_24 rfl ?_
      refine lv_istore_n (pc := 28) hx hb dM_released_28 rfl hl (by decide) rfl (fun ls hl => ?_)
      have hl : lv_has ls 4 [(2, .int (nI i)), (3, .int (nI i)), (0, .ref mo), (1, .int (nI dn))] := hl
      refine lv_iinc (pc := 29) (v := (nI (i + 1))) hx hb dM_released_29 hl (k := 1) rfl (nI_1 _) (by decide) rfl (fun ls hl => ?_)
      have hl : lv_has ls 4 [(3, .int (nI (i + 1))), (2, .int (nI i)), (0, .ref mo), (1, .int (nI dn))] := hl
      refine lv_goto (pc := 32) (tgt := 4) hx hb dM_released_32 rfl ?_
      have e9 : (nI i) = m_rel fw dn (i + 1) := m_rel_y h8
      rw [e9] at hl
      have hl := lv_sub hl (l' := [(3, .int (nI (i + 1))), (2, .int (m_rel fw dn (i + 1))), (0, .ref mo), (1, .int (nI dn))]) [0, 1, 2, 3] rfl
      exact ih (i + 1, ls) ⟨hl, (nlt_of h5 (by omega))⟩ (by have := nlt_of h5 (by omega); omega)
