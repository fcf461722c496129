

/-- the newest released one of the first n revisions of drawing d, or -1 -/
def m_rel (f : Nat → Int32) (d : Nat) : Nat → Int32
  | 0 => -1
  | n + 1 => if f (1940 + 80 * (12 * d + n)) = 2 then nI n else m_rel f d n
theorem m_rel_y {f : Nat → Int32} {d n : Nat} (h : f (1940 + 80 * (12 * d + n)) = 2) : nI n = m_rel f d (n + 1) := (if_pos h).symm
theorem m_rel_n {f : Nat → Int32} {d n : Nat} (h : ¬ f (1940 + 80 * (12 * d + n)) = 2) : m_rel f d n = m_rel f d (n + 1) := (if_neg h).symm

set_option maxHeartbeats 4000000 in
set_option maxRecDepth 100000 in
theorem gn_revisionAt (l : Launch) (dC : Nat → ClassId) (dI : Nat → Nat → Nat) (mo : Nat) (nw : Nat) (kp : Nat) (mk : Nat) (co : Nat) (se : Nat) (th : Int32) (mr : Int32) (fd : Int32) (pl : Int32) (pt : Int32) (op : Int32) (dn : Nat) (vn : Nat) : Met l yM_revisionAt (.code yM_revisionAt cM_revisionAt 3 (some .int) :: aw) ({ frames := 0, cells := 0, slots := 0, locals := 0 }) (pR (dC, dI) [(mo, .inr (4, [.int th, .int mr, .ref nw, .ref kp, .int fd, .int pl, .ref mk, .ref co, .int pt, .int op, .ref se]))] [] [.ref mo, .int (nI dn), .int (nI vn)]) (vp_Si (fun r => r = (nI (1940 + (80 * (12 * dn + vn)))))) 0 0 (fun _ => False) := by
  refine Met.ofW (cc := cM_revisionAt) (maxL := 3) (ret := (some .int)) (by decide) rfl ?_
  intro p e s m args below meth c s₁ B hml hv
  obtain ⟨rfl, hv⟩ := hv
  have hx := B.exec
  have hb := B.bytes
  have hr := B.returns
  have hts : ∀ w ∈ aw, w.before _ s = true := fun w h => atoms_spec (ws := (.code yM_revisionAt cM_revisionAt 3 (some .int) :: aw)) B.pre w (List.mem_cons_of_mem _ h)
  have hown : s.vm.findClass RM = some m.cls := findClass_of_methodNamed B.named
  have hlocks := B.notSynchronized
  obtain ⟨hP, hK, hG⟩ := hv
  obtain ⟨H, hH⟩ : ∃ H, H = s.heap := ⟨_, rfl⟩
  rw [← hH] at hP ⊢
  have hl := lv_entry ([.ref mo, .int (nI dn), .int (nI vn)]) (n := 3) (Nat.le_of_ble_eq_true rfl)
  rw [lg_entry_eq]
  generalize (lg_sl ([.ref mo, .int (nI dn), .int (nI vn)]) ++ List.replicate (3 - (lg_sl ([.ref mo, .int (nI dn), .int (nI vn)])).length) Slot.unset).toArray = ls at hl ⊢
  have hl : lv_has ls 3 [(0, .ref mo), (1, .int (nI dn)), (2, .int (nI vn))] := hl
  refine lv_sipush (pc := 0) (v := 1940) hx hb dM_revisionAt_0 (by decide) ?_
  refine lv_bipush (pc := 3) (v := 80) hx hb dM_revisionAt_3 (by decide) ?_
  refine lv_bipush (pc := 5) (v := 12) hx hb dM_revisionAt_5 (by decide) ?_
  refine lv_iload_n (pc := 7) hx hb dM_revisionAt_7 rfl (lv_at hl 1 rfl) ?_
  refine lv_imul (pc := 8) hx hb dM_revisionAt_8 ?_
  refine lv_topi (fun z1 hz2 => ?_)
  obtain rfl : z1 = (nI (12 * dn)) := hz2.trans (pk_mul 12 _)
  refine lv_iload_n (pc := 9) hx hb dM_revisionAt_9 rfl (lv_at hl 2 rfl) ?_
  refine lv_iadd (pc := 10) hx hb dM_revisionAt_10 ?_
  refine lv_topi (fun z3 hz4 => ?_)
  obtain rfl : z3 = (nI ((12 * dn) + vn)) := hz4.trans (nI_add _ _)
  refine lv_imul (pc := 11) hx hb dM_revisionAt_11 ?_
  refine lv_topi (fun z5 hz6 => ?_)
  obtain rfl : z5 = (nI (80 * ((12 * dn) + vn))) := hz6.trans (pk_mul 80 _)
  refine lv_iadd (pc := 12) hx hb dM_revisionAt_12 ?_
  refine lv_topi (fun z7 hz8 => ?_)
  obtain rfl : z7 = (nI (1940 + (80 * ((12 * dn) + vn)))) := hz8.trans (nI_add 1940 _)
  exact W.iret (pc := 13) hx hb hr (fun t ht hW => ⟨_, rfl, rfl, ht.trans hH⟩) (fun q h => nomatch h) dM_revisionAt_13
set_option maxHeartbeats 4000000 in
set_option maxRecDepth 100000 in
theorem gn_stateOf (l : Launch) (dC : Nat → ClassId) (dI : Nat → Nat → Nat) (mo : Nat) (nw : Nat) (kp : Nat) (mk : Nat) (co : Nat) (se : Nat) (th : Int32) (mr : Int32) (fd : Int32) (pl : Int32) (pt : Int32) (op : Int32) (cN : ClassId) (fw : Nat → Int32) (dn : Nat) (vn : Nat) (hd : dn < 24) (hv : vn < 12) : Met l yM_stateOf (.code yM_stateOf cM_stateOf 3 (some .int) :: aw) ({ frames := 1, cells := 0, slots := 0, locals := 22 }) (pR (dC, dI) [(mo, .inr (4, [.int th, .int mr, .ref nw, .ref kp, .int fd, .int pl, .ref mk, .ref co, .int pt, .int op, .ref se])), (nw, .inl (cN, 25240, .inl fw))] [(cN, .int)] [.ref mo, .int (nI dn), .int (nI vn)]) (vp_Si (fun r => r = (fw (1940 + (80 * (12 * dn + vn)) + 0)))) 0 0 (fun _ => False) := by
  refine Met.ofW (cc := cM_stateOf) (maxL := 3) (ret := (some .int)) (by decide) rfl ?_
  intro p e s m args below meth c s₁ B hml hv
  obtain ⟨rfl, hv⟩ := hv
  have hx := B.exec
  have hb := B.bytes
  have hr := B.returns
  have hts : ∀ w ∈ aw, w.before _ s = true := fun w h => atoms_spec (ws := (.code yM_stateOf cM_stateOf 3 (some .int) :: aw)) B.pre w (List.mem_cons_of_mem _ h)
  have hown : s.vm.findClass RM = some m.cls := findClass_of_methodNamed B.named
  have hlocks := B.notSynchronized
  obtain ⟨hP, hK, hG⟩ := hv
  obtain ⟨H, hH⟩ : ∃ H, H = s.heap := ⟨_, rfl⟩
  rw [← hH] at hP ⊢
  have hl := lv_entry ([.ref mo, .int (nI dn), .int (nI vn)]) (n := 3) (Nat.le_of_ble_eq_true rfl)
  rw [lg_entry_eq]
  generalize (lg_sl ([.ref mo, .int (nI dn), .int (nI vn)]) ++ List.replicate (3 - (lg_sl ([.ref mo, .int (nI dn), .int (nI vn)])).length) Slot.unset).toArray = ls at hl ⊢
  have hl : lv_has ls 3 [(0, .ref mo), (1, .int (nI dn)), (2, .int (nI vn))] := hl
  refine lv_aload_n (pc := 0) hx hb dM_stateOf_0 rfl (lv_at hl 0 rfl) ?_
  refine va_get (D := (dC, dI)) (cl := kCl) (C := RM) (T := TM) (N := 11) (pc := 1) hx hb hts inM hown hK hP 0 rfl rfl 2 (by decide) (hts _ wd_116) (fun _ h9 => h9) rfl dM_stateOf_1 ?_
  refine lv_aload_n (pc := 4) hx hb dM_stateOf_4 rfl (lv_at hl 0 rfl) ?_
  refine lv_iload_n (pc := 5) hx hb dM_stateOf_5 rfl (lv_at hl 1 rfl) ?_
  refine lv_iload_n (pc := 6) hx hb dM_stateOf_6 rfl (lv_at hl 2 rfl) ?_
  refine vp_callSi (pc := 7) (W.runV (As := [.int (nI dn), .int (nI vn)]) (rest := [.ref nw]) ⟨hx, hb, hml, hown, hts⟩ (gn_revisionAt l dC dI mo nw kp mk co se th mr fd pl pt op dn vn) (cwV 2 hts (gV wd_127 wd_128 wd_129 wd_121 wd_126) rfl rfl rfl (by decide +kernel) ⟨Nat.le_of_ble_eq_true rfl, Nat.le_of_ble_eq_true rfl⟩) ⟨pR_blind, va_recv (q := (RM, TM, 11)) (q0 := 0) (ci := 4) hK hP rfl rfl, pR_pre (hP.sub (ws' := [(mo, .inr (4, [.int th, .int mr, .ref nw, .ref kp, .int fd, .int pl, .ref mk, .ref co, .int pt, .int op, .ref se]))]) [0] rfl) (hK.sub (tys' := []) [] rfl) hG⟩ rfl rfl hl.1 rfl (lv_room (Nat.le_of_ble_eq_true rfl)) dM_stateOf_7 ⟨Nat.le_of_ble_eq_true rfl, Nat.le_of_ble_eq_true rfl⟩) (fun r1 hr2 => ?_)
  obtain rfl : r1 = (nI (1940 + (80 * (12 * dn + vn)))) := hr2
  refine lv_iconst (pc := 10) (v := 0) hx hb dM_stateOf_10 (by decide) ?_
  refine lv_iadd (pc := 11) hx hb dM_stateOf_11 ?_
  refine lv_topi (fun z3 hz4 => ?_)
  obtain rfl : z3 = (nI ((1940 + (80 * (12 * dn + vn))) + 0)) := hz4.trans (nI_add _ 0)
  refine va_iald (D := (dC, dI)) (cl := kCl) (pc := 12) hx hb hK hP 1 0 rfl rfl (vp_in_nI (show ((1940 + (80 * (12 * dn + vn))) + 0) < 25240 by omega) (by decide)) dM_stateOf_12 ?_
  refine W.eq (g2 := F0 m 13 ls [.int (fw ((nI ((1940 + (80 * (12 * dn + vn))) + 0)) : Int32).toNatClampNeg)]) rfl ?_
  refine lv_topi (fun z5 hz6 => ?_)
  obtain rfl : z5 = fw ((1940 + (80 * (12 * dn + vn))) + 0) := hz6.trans (by rw [nI_clamp (by omega)])
  exact W.iret (pc := 13) hx hb hr (fun t ht hW => ⟨_, rfl, rfl, ht.trans hH⟩) (fun q h => nomatch h) dM_stateOf_13
set_option maxHeartbeats 4000000 in
set_option maxRecDepth 100000 in
theorem gn_refDrawing (l : Launch) (dC : Nat → ClassId) (dI : Nat → Nat → Nat) (mo : Nat) (nw : Nat) (kp : Nat) (mk : Nat) (co : Nat) (se : Nat) (th : Int32) (mr : Int32) (fd : Int32) (pl : Int32) (pt : Int32) (op : Int32) (cN : ClassId) (fw : Nat → Int32) (tn : Nat) (kn : Nat) (ht : tn + 80 ≤ 25240) (hk : kn < 6) : Met l yM_refDrawing (.code yM_refDrawing cM_refDrawing 3 (some .int) :: aw) ({ frames := 0, cells := 0, slots := 0, locals := 0 }) (pR (dC, dI) [(mo, .inr (4, [.int th, .int mr, .ref nw, .ref kp, .int fd, .int pl, .ref mk, .ref co, .int pt, .int op, .ref se])), (nw, .inl (cN, 25240, .inl fw))] [(cN, .int)] [.ref mo, .int (nI tn), .int (nI kn)]) (vp_Si (fun r => r = (fw (tn + 4 + (2 * kn))))) 0 0 (fun _ => False) := by
  refine Met.ofW (cc := cM_refDrawing) (maxL := 3) (ret := (some .int)) (by decide) rfl ?_
  intro p e s m args below meth c s₁ B hml hv
  obtain ⟨rfl, hv⟩ := hv
  have hx := B.exec
  have hb := B.bytes
  have hr := B.returns
  have hts : ∀ w ∈ aw, w.before _ s = true := fun w h => atoms_spec (ws := (.code yM_refDrawing cM_refDrawing 3 (some .int) :: aw)) B.pre w (List.mem_cons_of_mem _ h)
  have hown : s.vm.findClass RM = some m.cls := findClass_of_methodNamed B.named
  have hlocks := B.notSynchronized
  obtain ⟨hP, hK, hG⟩ := hv
  obtain ⟨H, hH⟩ : ∃ H, H = s.heap := ⟨_, rfl⟩
  rw [← hH] at hP ⊢
  have hl := lv_entry ([.ref mo, .int (nI tn), .int (nI kn)]) (n := 3) (Nat.le_of_ble_eq_true rfl)
  rw [lg_entry_eq]
  generalize (lg_sl ([.ref mo, .int (nI tn), .int (nI kn)]) ++ List.replicate (3 - (lg_sl ([.ref mo, .int (nI tn), .int (nI kn)])).length) Slot.unset).toArray = ls at hl ⊢
  have hl : lv_has ls 3 [(0, .ref mo), (1, .int (nI tn)), (2, .int (nI kn))] := hl
  refine lv_aload_n (pc := 0) hx hb dM_refDrawing_0 rfl (lv_at hl 0 rfl) ?_
  refine va_get (D := (dC, dI)) (cl := kCl) (C := RM) (T := TM) (N := 11) (pc := 1) hx hb hts inM hown hK hP 0 rfl rfl 2 (by decide) (hts _ wd_116) (fun _ h9 => h9) rfl dM_refDrawing_1 ?_
  refine lv_iload_n (pc := 4) hx hb dM_refDrawing_4 rfl (lv_at hl 1 rfl) ?_
  refine lv_iconst (pc := 5) (v := 4) hx hb dM_refDrawing_5 (by decide) ?_
  refine lv_iadd (pc := 6) hx hb dM_refDrawing_6 ?_
  refine lv_topi (fun z1 hz2 => ?_)
  obtain rfl : z1 = (nI (tn + 4)) := hz2.trans (nI_add _ 4)
  refine lv_iconst (pc := 7) (v := 2) hx hb dM_refDrawing_7 (by decide) ?_
  refine lv_iload_n (pc := 8) hx hb dM_refDrawing_8 rfl (lv_at hl 2 rfl) ?_
  refine lv_imul (pc := 9) hx hb dM_refDrawing_9 ?_
  refine lv_topi (fun z3 hz4 => ?_)
  obtain rfl : z3 = (nI (2 * kn)) := hz4.trans (pk_mul 2 _)
  refine lv_iadd (pc := 10) hx hb dM_refDrawing_10 ?_
  refine lv_topi (fun z5 hz6 => ?_)
  obtain rfl : z5 = (nI ((tn + 4) + (2 * kn))) := hz6.trans (nI_add _ _)
  refine va_iald (D := (dC, dI)) (cl := kCl) (pc := 11) hx hb hK hP 1 0 rfl rfl (vp_in_nI (show ((tn + 4) + (2 * kn)) < 25240 by omega) (by decide)) dM_refDrawing_11 ?_
  refine W.eq (g2 := F0 m 12 ls [.int (fw ((nI ((tn + 4) + (2 * kn))) : Int32).toNatClampNeg)]) rfl ?_
  refine lv_topi (fun z7 hz8 => ?_)
  obtain rfl : z7 = fw ((tn + 4) + (2 * kn)) := hz8.trans (by rw [nI_clamp (by omega)])
  exact W.iret (pc := 12) hx hb hr (fun t ht hW => ⟨_, rfl, rfl, ht.trans hH⟩) (fun q h => nomatch h) dM_refDrawing_12
set_option maxHeartbeats 4000000 in
set_option maxRecDepth 100000 in
theorem gn_refRevision (l : Launch) (dC : Nat → ClassId) (dI : Nat → Nat → Nat) (mo : Nat) (nw : Nat) (kp : Nat) (mk : Nat) (co : Nat) (se : Nat) (th : Int32) (mr : Int32) (fd : Int32) (pl : Int32) (pt : Int32) (op : Int32) (cN : ClassId) (fw : Nat → Int32) (tn : Nat) (kn : Nat) (ht : tn + 80 ≤ 25240) (hk : kn < 6) : Met l yM_refRevision (.code yM_refRevision cM_refRevision 3 (some .int) :: aw) ({ frames := 0, cells := 0, slots := 0, locals := 0 }) (pR (dC, dI) [(mo, .inr (4, [.int th, .int mr, .ref nw, .ref kp, .int fd, .int pl, .ref mk, .ref co, .int pt, .int op, .ref se])), (nw, .inl (cN, 25240, .inl fw))] [(cN, .int)] [.ref mo, .int (nI tn), .int (nI kn)]) (vp_Si (fun r => r = (fw (tn + 4 + (2 * kn) + 1)))) 0 0 (fun _ => False) := by
  refine Met.ofW (cc := cM_refRevision) (maxL := 3) (ret := (some .int)) (by decide) rfl ?_
  intro p e s m args below meth c s₁ B hml hv
  obtain ⟨rfl, hv⟩ := hv
  have hx := B.exec
  have hb := B.bytes
  have hr := B.returns
  have hts : ∀ w ∈ aw, w.before _ s = true := fun w h => atoms_spec (ws := (.code yM_refRevision cM_refRevision 3 (some .int) :: aw)) B.pre w (List.mem_cons_of_mem _ h)
  have hown : s.vm.findClass RM = some m.cls := findClass_of_methodNamed B.named
  have hlocks := B.notSynchronized
  obtain ⟨hP, hK, hG⟩ := hv
  obtain ⟨H, hH⟩ : ∃ H, H = s.heap := ⟨_, rfl⟩
  rw [← hH] at hP ⊢
  have hl := lv_entry ([.ref mo, .int (nI tn), .int (nI kn)]) (n := 3) (Nat.le_of_ble_eq_true rfl)
  rw [lg_entry_eq]
  generalize (lg_sl ([.ref mo, .int (nI tn), .int (nI kn)]) ++ List.replicate (3 - (lg_sl ([.ref mo, .int (nI tn), .int (nI kn)])).length) Slot.unset).toArray = ls at hl ⊢
  have hl : lv_has ls 3 [(0, .ref mo), (1, .int (nI tn)), (2, .int (nI kn))] := hl
  refine lv_aload_n (pc := 0) hx hb dM_refRevision_0 rfl (lv_at hl 0 rfl) ?_
  refine va_get (D := (dC, dI)) (cl := kCl) (C := RM) (T := TM) (N := 11) (pc := 1) hx hb hts inM hown hK hP 0 rfl rfl 2 (by decide) (hts _ wd_116) (fun _ h9 => h9) rfl dM_refRevision_1 ?_
  refine lv_iload_n (pc := 4) hx hb dM_refRevision_4 rfl (lv_at hl 1 rfl) ?_
  refine lv_iconst (pc := 5) (v := 4) hx hb dM_refRevision_5 (by decide) ?_
  refine lv_iadd (pc := 6) hx hb dM_refRevision_6 ?_
  refine lv_topi (fun z1 hz2 => ?_)
  obtain rfl : z1 = (nI (tn + 4)) := hz2.trans (nI_add _ 4)
  refine lv_iconst (pc := 7) (v := 2) hx hb dM_refRevision_7 (by decide) ?_
  refine lv_iload_n (pc := 8) hx hb dM_refRevision_8 rfl (lv_at hl 2 rfl) ?_
  refine lv_imul (pc := 9) hx hb dM_refRevision_9 ?_
  refine lv_topi (fun z3 hz4 => ?_)
  obtain rfl : z3 = (nI (2 * kn)) := hz4.trans (pk_mul 2 _)
  refine lv_iadd (pc := 10) hx hb dM_refRevision_10 ?_
  refine lv_topi (fun z5 hz6 => ?_)
  obtain rfl : z5 = (nI ((tn + 4) + (2 * kn))) := hz6.trans (nI_add _ _)
  refine lv_iconst (pc := 11) (v := 1) hx hb dM_refRevision_11 (by decide) ?_
  refine lv_iadd (pc := 12) hx hb dM_refRevision_12 ?_
  refine lv_topi (fun z7 hz8 => ?_)
  obtain rfl : z7 = (nI (((tn + 4) + (2 * kn)) + 1)) := hz8.trans (nI_add _ 1)
  refine va_iald (D := (dC, dI)) (cl := kCl) (pc := 13) hx hb hK hP 1 0 rfl rfl (vp_in_nI (show (((tn + 4) + (2 * kn)) + 1) < 25240 by omega) (by decide)) dM_refRevision_13 ?_
  refine W.eq (g2 := F0 m 14 ls [.int (fw ((nI (((tn + 4) + (2 * kn)) + 1)) : Int32).toNatClampNeg)]) rfl ?_
  refine lv_topi (fun z9 hz10 => ?_)
  obtain rfl : z9 = fw (((tn + 4) + (2 * kn)) + 1) := hz10.trans (by rw [nI_clamp (by omega)])
  exact W.iret (pc := 14) hx hb hr (fun t ht hW => ⟨_, rfl, rfl, ht.trans hH⟩) (fun q h => nomatch h) dM_refRevision_14
