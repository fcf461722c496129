set_option maxHeartbeats 4000000 in
set_option maxRecDepth 100000 in
theorem v_isPerson (l : Launch) (dC : Nat → ClassId) (dI : Nat → Nat → Nat) (pp : Int32) : Met l yV_isPerson (.code yV_isPerson cV_isPerson 1 (some .boolean) :: aw) ({ frames := 0, cells := 0, slots := 0, locals := 0 }) (pR (dC, dI) [] [] [.int pp]) (vp_Si (fun r => (r = 1 ∧ (¬ pp < 0 ∧ ¬ (16 : Int32) ≤ pp)) ∨ (r = 0 ∧ (pp < 0 ∨ (16 : Int32) ≤ pp)))) 0 0 (fun _ => False) := by
  refine Met.ofW (cc := cV_isPerson) (maxL := 1) (ret := (some .boolean)) (by decide) rfl ?_
  intro p e s m args below meth c s₁ B hml hv
  obtain ⟨rfl, hv⟩ := hv
  have hx := B.exec
  have hb := B.bytes
  have hr := B.returns
  have hts : ∀ w ∈ aw, w.before _ s = true := fun w h => atoms_spec (ws := (.code yV_isPerson cV_isPerson 1 (some .boolean) :: aw)) B.pre w (List.mem_cons_of_mem _ h)
  have hown : s.vm.findClass RV = some m.cls := findClass_of_methodNamed B.named
  have hlocks := B.notSynchronized
  obtain ⟨hP, hK⟩ := hv
  obtain ⟨H, hH⟩ : ∃ H, H = s.heap := ⟨_, rfl⟩
  rw [← hH] at hP ⊢
  have hl := lv_entry ([.int pp]) (n := 1) (Nat.le_of_ble_eq_true rfl)
  rw [lg_entry_eq]
  generalize (lg_sl ([.int pp]) ++ List.replicate (1 - (lg_sl ([.int pp])).length) Slot.unset).toArray = ls at hl ⊢
  have hl : lv_has ls 1 [(0, .int pp)] := hl
  refine lv_iload_n (pc := 0) hx hb dV_isPerson_0 rfl (lv_at hl 0 rfl) ?_
  refine lv_if_lt (pc := 1) (tgt := 14) hx hb dV_isPerson_1 rfl (fun h1 => ?_) (fun h1 => ?_)
  · refine lv_iconst (pc := 14) (v := 0) hx hb dV_isPerson_14 (by decide) ?_
    exact W.zret (pc := 15) hx hb hr rfl (fun t ht hW => ⟨_, rfl, (Or.inr ⟨rfl, by first | assumption | exact ⟨by assumption, by assumption⟩ | exact Or.inl (by assumption) | exact Or.inr (by assumption) | exact Or.inr (Or.inl (by assumption)) | exact Or.inr (Or.inr (by assumption)) | simp_all⟩), ht.trans hH⟩) (fun q h => nomatch h) dV_isPerson_15
  · refine lv_iload_n (pc := 4) hx hb dV_isPerson_4 rfl (lv_at hl 0 rfl) ?_
    refine lv_bipush (pc := 5) (v := 16) hx hb dV_isPerson_5 (by decide) ?_
    refine lv_icmp_ge (pc := 7) (tgt := 14) hx hb dV_isPerson_7 rfl (fun h2 => ?_) (fun h2 => ?_)
    · refine lv_iconst (pc := 14) (v := 0) hx hb dV_isPerson_14 (by decide) ?_
      exact W.zret (pc := 15) hx hb hr rfl (fun t ht hW => ⟨_, rfl, (Or.inr ⟨rfl, by first | assumption | exact ⟨by assumption, by assumption⟩ | exact Or.inl (by assumption) | exact Or.inr (by assumption) | exact Or.inr (Or.inl (by assumption)) | exact Or.inr (Or.inr (by assumption)) | simp_all⟩), ht.trans hH⟩) (fun q h => nomatch h) dV_isPerson_15
    · refine lv_iconst (pc := 10) (v := 1) hx hb dV_isPerson_10 (by decide) ?_
      refine lv_goto (pc := 11) (tgt := 15) hx hb dV_isPerson_11 rfl ?_
      exact W.zret (pc := 15) hx hb hr rfl (fun t ht hW => ⟨_, rfl, (Or.inl ⟨rfl, by first | assumption | exact ⟨by assumption, by assumption⟩ | exact Or.inl (by assumption) | exact Or.inr (by assumption) | exact Or.inr (Or.inl (by assumption)) | exact Or.inr (Or.inr (by assumption)) | simp_all⟩), ht.trans hH⟩) (fun q h => nomatch h) dV_isPerson_15
set_option maxHeartbeats 4000000 in
set_option maxRecDepth 100000 in
theorem v_hasRight (l : Launch) (dC : Nat → ClassId) (dI : Nat → Nat → Nat) (x : Nat) (rt : Nat) (dr : Nat) (bs : Nat) (df : Nat) (ch : Nat) (pg : Nat) (rs : Int32) (cR : ClassId) (pp : Int32) (kk : Int32) : Met l yV_hasRight (.code yV_hasRight cV_hasRight 3 (some .boolean) :: aw) ({ frames := 1, cells := 0, slots := 0, locals := 20 }) (pR (dC, dI) [(x, .inr (0, [.ref rt, .ref dr, .int 0, .int 0, .ref bs, .ref df, .ref ch, .ref pg, .int rs])), (rt, .inl (cR, 16, .inl (fun _ => 0)))] [(cR, .int)] [.ref x, .int pp, .int kk]) (vp_Si (fun r => r = 0)) 0 0 (fun _ => False) := by
  refine Met.ofW (cc := cV_hasRight) (maxL := 3) (ret := (some .boolean)) (by decide) rfl ?_
  intro p e s m args below meth c s₁ B hml hv
  obtain ⟨rfl, hv⟩ := hv
  have hx := B.exec
  have hb := B.bytes
  have hr := B.returns
  have hts : ∀ w ∈ aw, w.before _ s = true := fun w h => atoms_spec (ws := (.code yV_hasRight cV_hasRight 3 (some .boolean) :: aw)) B.pre w (List.mem_cons_of_mem _ h)
  have hown : s.vm.findClass RV = some m.cls := findClass_of_methodNamed B.named
  have hlocks := B.notSynchronized
  obtain ⟨hP, hK⟩ := hv
  obtain ⟨H, hH⟩ : ∃ H, H = s.heap := ⟨_, rfl⟩
  rw [← hH] at hP ⊢
  have hl := lv_entry ([.ref x, .int pp, .int kk]) (n := 3) (Nat.le_of_ble_eq_true rfl)
  rw [lg_entry_eq]
  generalize (lg_sl ([.ref x, .int pp, .int kk]) ++ List.replicate (3 - (lg_sl ([.ref x, .int pp, .int kk])).length) Slot.unset).toArray = ls at hl ⊢
  have hl : lv_has ls 3 [(0, .ref x), (1, .int pp), (2, .int kk)] := hl
  refine lv_iload_n (pc := 0) hx hb dV_hasRight_0 rfl (lv_at hl 1 rfl) ?_
  refine vp_callSi (pc := 1) (W.runS (As := [.int pp]) (rest := []) ⟨hx, hb, hml, hown, hts⟩ (v_isPerson l dC dI pp) (cwS 1 hts (gS wd_1 wd_2 wd_3 wd_0) rfl rfl rfl (by decide +kernel) ⟨Nat.le_of_ble_eq_true rfl, Nat.le_of_ble_eq_true rfl⟩) ⟨pR_blind, pR_pre (hP.sub (ws' := []) [] rfl) (hK.sub (tys' := []) [] rfl)⟩ rfl rfl hl.1 rfl (lv_room (Nat.le_of_ble_eq_true rfl)) dV_hasRight_1 ⟨Nat.le_of_ble_eq_true rfl, Nat.le_of_ble_eq_true rfl⟩) (fun r1 hr2 => ?_)
  obtain ⟨rfl, h3⟩ | ⟨rfl, h3⟩ : (r1 = 1 ∧ (¬ pp < 0 ∧ ¬ (16 : Int32) ≤ pp)) ∨ (r1 = 0 ∧ (pp < 0 ∨ (16 : Int32) ≤ pp)) := hr2
  · refine lv_if_eq (pc := 4) (tgt := 22) hx hb dV_hasRight_4 rfl (fun h4 => absurd h4 (by decide)) (fun h4 => ?_)
    refine lv_aload_n (pc := 7) hx hb dV_hasRight_7 rfl (lv_at hl 0 rfl) ?_
    refine va_get (D := (dC, dI)) (cl := kCl) (C := RV) (T := TV) (N := 9) (pc := 8) hx hb hts inV hown hK hP 0 rfl rfl 0 (by decide) (hts _ wd_4) (fun _ h9 => h9) rfl dV_hasRight_8 ?_
    refine lv_iload_n (pc := 11) hx hb dV_hasRight_11 rfl (lv_at hl 1 rfl) ?_
    refine va_iald (D := (dC, dI)) (cl := kCl) (pc := 12) hx hb hK hP 1 0 rfl rfl (vin_of (k := 16) (by decide) h3.1 h3.2) dV_hasRight_12 ?_
    refine W.eq (g2 := F0 m 13 ls [.int 0]) rfl ?_
    refine lv_iload_n (pc := 13) hx hb dV_hasRight_13 rfl (lv_at hl 2 rfl) ?_
    refine lv_iand (pc := 14) hx hb dV_hasRight_14 ?_
    refine lv_topi (fun z5 hz6 => ?_)
    obtain rfl : z5 = 0 := hz6.trans (Int32.zero_and)
    refine lv_if_eq (pc := 15) (tgt := 22) hx hb dV_hasRight_15 rfl (fun h7 => ?_) (fun h7 => absurd h7 (by decide))
    refine lv_iconst (pc := 22) (v := 0) hx hb dV_hasRight_22 (by decide) ?_
    exact W.zret (pc := 23) hx hb hr rfl (fun t ht hW => ⟨_, rfl, rfl, ht.trans hH⟩) (fun q h => nomatch h) dV_hasRight_23
  · refine lv_if_eq (pc := 4) (tgt := 22) hx hb dV_hasRight_4 rfl (fun h8 => ?_) (fun h8 => absurd h8 (by decide))
    refine lv_iconst (pc := 22) (v := 0) hx hb dV_hasRight_22 (by decide) ?_
    exact W.zret (pc := 23) hx hb hr rfl (fun t ht hW => ⟨_, rfl, rfl, ht.trans hH⟩) (fun q h => nomatch h) dV_hasRight_23
set_option maxHeartbeats 4000000 in
set_option maxRecDepth 100000 in
theorem v_needPower (l : Launch) (dC : Nat → ClassId) (dI : Nat → Nat → Nat) (x : Nat) (rt : Nat) (dr : Nat) (bs : Nat) (df : Nat) (ch : Nat) (pg : Nat) (rs : Int32) : Met l yV_needPower (.code yV_needPower cV_needPower 1 none :: aw) ({ frames := 0, cells := 0, slots := 0, locals := 0 }) (pR (dC, dI) [(x, .inr (0, [.ref rt, .ref dr, .int 0, .int 0, .ref bs, .ref df, .ref ch, .ref pg, .int rs])), (pg, .inr (3, [.int 400, .int 0, .int 0, .int 0, .int 0, .int 0]))] [] [.ref x]) (va_Sv (fun _ => True)) 0 0 (fun _ => False) := by
  refine Met.ofW (cc := cV_needPower) (maxL := 1) (ret := none) (by decide) rfl ?_
  intro p e s m args below meth c s₁ B hml hv
  obtain ⟨rfl, hv⟩ := hv
  have hx := B.exec
  have hb := B.bytes
  have hr := B.returns
  have hts : ∀ w ∈ aw, w.before _ s = true := fun w h => atoms_spec (ws := (.code yV_needPower cV_needPower 1 none :: aw)) B.pre w (List.mem_cons_of_mem _ h)
  have hown : s.vm.findClass RV = some m.cls := findClass_of_methodNamed B.named
  have hlocks := B.notSynchronized
  obtain ⟨hP, hK⟩ := hv
  obtain ⟨H, hH⟩ : ∃ H, H = s.heap := ⟨_, rfl⟩
  rw [← hH] at hP ⊢
  have hl := lv_entry ([.ref x]) (n := 1) (Nat.le_of_ble_eq_true rfl)
  rw [lg_entry_eq]
  generalize (lg_sl ([.ref x]) ++ List.replicate (1 - (lg_sl ([.ref x])).length) Slot.unset).toArray = ls at hl ⊢
  have hl : lv_has ls 1 [(0, .ref x)] := hl
  refine lv_aload_n (pc := 0) hx hb dV_needPower_0 rfl (lv_at hl 0 rfl) ?_
  refine va_get (D := (dC, dI)) (cl := kCl) (C := RV) (T := TV) (N := 9) (pc := 1) hx hb hts inV hown hK hP 0 rfl rfl 7 (by decide) (hts _ wd_5) (fun _ h9 => h9) rfl dV_needPower_1 ?_
  refine va_get (D := (dC, dI)) (cl := kCl) (C := RP) (T := TP) (N := 6) (pc := 4) hx hb hts inP hown hK hP 1 rfl rfl 3 (by decide) (hts _ wd_6) (fun _ h9 => h9) rfl dV_needPower_4 ?_
  refine lv_if_eq (pc := 7) (tgt := 18) hx hb dV_needPower_7 rfl (fun h1 => ?_) (fun h1 => absurd h1 (by decide))
  exact W.vret (pc := 18) hx hb hr (fun t ht hW => ⟨rfl, trivial, ht.trans hH⟩) (fun q h => nomatch h) dV_needPower_18
set_option maxHeartbeats 4000000 in
set_option maxRecDepth 100000 in
theorem v_drawingAt (l : Launch) (dC : Nat → ClassId) (dI : Nat → Nat → Nat) (x : Nat) (rt : Nat) (dr : Nat) (bs : Nat) (df : Nat) (ch : Nat) (pg : Nat) (rs : Int32) (dd : Int32) : Met l yV_drawingAt (.code yV_drawingAt cV_drawingAt 2 (some (.object "DrawingVault$Drawing")) :: aw) ({ frames := 0, cells := 0, slots := 0, locals := 0 }) (pR (dC, dI) [(x, .inr (0, [.ref rt, .ref dr, .int 0, .int 0, .ref bs, .ref df, .ref ch, .ref pg, .int rs]))] [] [.ref x, .int dd]) (va_Sq (fun r => r = none)) 0 0 (fun _ => False) := by
  refine Met.ofW (cc := cV_drawingAt) (maxL := 2) (ret := (some (.object "DrawingVault$Drawing"))) (by decide) rfl ?_
  intro p e s m args below meth c s₁ B hml hv
  obtain ⟨rfl, hv⟩ := hv
  have hx := B.exec
  have hb := B.bytes
  have hr := B.returns
  have hts : ∀ w ∈ aw, w.before _ s = true := fun w h => atoms_spec (ws := (.code yV_drawingAt cV_drawingAt 2 (some (.object "DrawingVault$Drawing")) :: aw)) B.pre w (List.mem_cons_of_mem _ h)
  have hown : s.vm.findClass RV = some m.cls := findClass_of_methodNamed B.named
  have hlocks := B.notSynchronized
  obtain ⟨hP, hK⟩ := hv
  obtain ⟨H, hH⟩ : ∃ H, H = s.heap := ⟨_, rfl⟩
  rw [← hH] at hP ⊢
  have hl := lv_entry ([.ref x, .int dd]) (n := 2) (Nat.le_of_ble_eq_true rfl)
  rw [lg_entry_eq]
  generalize (lg_sl ([.ref x, .int dd]) ++ List.replicate (2 - (lg_sl ([.ref x, .int dd])).length) Slot.unset).toArray = ls at hl ⊢
  have hl : lv_has ls 2 [(0, .ref x), (1, .int dd)] := hl
  refine lv_iload_n (pc := 0) hx hb dV_drawingAt_0 rfl (lv_at hl 1 rfl) ?_
  refine lv_if_lt (pc := 1) (tgt := 21) hx hb dV_drawingAt_1 rfl (fun h1 => ?_) (fun h1 => ?_)
  · refine lv_null (pc := 21) hx hb dV_drawingAt_21 ?_
    exact W.aret (pc := 22) hx hb hr (Or.inl ⟨_, rfl⟩) (Or.inl rfl) (fun t ht hW => ⟨none, rfl, rfl, ht.trans hH⟩) (fun q h => nomatch h) dV_drawingAt_22
  · refine lv_iload_n (pc := 4) hx hb dV_drawingAt_4 rfl (lv_at hl 1 rfl) ?_
    refine lv_aload_n (pc := 5) hx hb dV_drawingAt_5 rfl (lv_at hl 0 rfl) ?_
    refine va_get (D := (dC, dI)) (cl := kCl) (C := RV) (T := TV) (N := 9) (pc := 6) hx hb hts inV hown hK hP 0 rfl rfl 2 (by decide) (hts _ wd_7) (fun _ h9 => h9) rfl dV_drawingAt_6 ?_
    refine lv_icmp_ge (pc := 9) (tgt := 21) hx hb dV_drawingAt_9 rfl (fun h2 => ?_) (fun h2 => absurd (Int32.not_lt.mp h1) h2)
    refine lv_null (pc := 21) hx hb dV_drawingAt_21 ?_
    exact W.aret (pc := 22) hx hb hr (Or.inl ⟨_, rfl⟩) (Or.inl rfl) (fun t ht hW => ⟨none, rfl, rfl, ht.trans hH⟩) (fun q h => nomatch h) dV_drawingAt_22
set_option maxHeartbeats 4000000 in
set_option maxRecDepth 100000 in
theorem v_revisionAt (l : Launch) (dC : Nat → ClassId) (dI : Nat → Nat → Nat) (x : Nat) (rt : Nat) (dr : Nat) (bs : Nat) (df : Nat) (ch : Nat) (pg : Nat) (rs : Int32) (dd : Int32) (vv : Int32) : Met l yV_revisionAt (.code yV_revisionAt cV_revisionAt 4 (some (.object "DrawingVault$Revision")) :: aw) ({ frames := 1, cells := 0, slots := 0, locals := 21 }) (pR (dC, dI) [(x, .inr (0, [.ref rt, .ref dr, .int 0, .int 0, .ref bs, .ref df, .ref ch, .ref pg, .int rs]))] [] [.ref x, .int dd, .int vv]) (va_Sq (fun r => r = none)) 0 0 (fun _ => False) := by
  refine Met.ofW (cc := cV_revisionAt) (maxL := 4) (ret := (some (.object "DrawingVault$Revision"))) (by decide) rfl ?_
  intro p e s m args below meth c s₁ B hml hv
  obtain ⟨rfl, hv⟩ := hv
  have hx := B.exec
  have hb := B.bytes
  have hr := B.returns
  have hts : ∀ w ∈ aw, w.before _ s = true := fun w h => atoms_spec (ws := (.code yV_revisionAt cV_revisionAt 4 (some (.object "DrawingVault$Revision")) :: aw)) B.pre w (List.mem_cons_of_mem _ h)
  have hown : s.vm.findClass RV = some m.cls := findClass_of_methodNamed B.named
  have hlocks := B.notSynchronized
  obtain ⟨hP, hK⟩ := hv
  obtain ⟨H, hH⟩ : ∃ H, H = s.heap := ⟨_, rfl⟩
  rw [← hH] at hP ⊢
  have hl := lv_entry ([.ref x, .int dd, .int vv]) (n := 4) (Nat.le_of_ble_eq_true rfl)
  rw [lg_entry_eq]
  generalize (lg_sl ([.ref x, .int dd, .int vv]) ++ List.replicate (4 - (lg_sl ([.ref x, .int dd, .int vv])).length) Slot.unset).toArray = ls at hl ⊢
  have hl : lv_has ls 4 [(0, .ref x), (1, .int dd), (2, .int vv)] := hl
  refine lv_aload_n (pc := 0) hx hb dV_revisionAt_0 rfl (lv_at hl 0 rfl) ?_
  refine lv_iload_n (pc := 1) hx hb dV_revisionAt_1 rfl (lv_at hl 1 rfl) ?_
  refine va_csq (pc := 2) (W.runV (As := [.int dd]) (rest := []) ⟨hx, hb, hml, hown, hts⟩ (v_drawingAt l dC dI x rt dr bs df ch pg rs dd) (cwV 1 hts (gV wd_9 wd_10 wd_11 wd_3 wd_8) rfl rfl rfl (by decide +kernel) ⟨Nat.le_of_ble_eq_true rfl, Nat.le_of_ble_eq_true rfl⟩) ⟨pR_blind, va_recv (q := (RV, TV, 9)) (q0 := 0) (ci := 0) hK hP rfl rfl, pR_pre (hP.sub (ws' := [(x, .inr (0, [.ref rt, .ref dr, .int 0, .int 0, .ref bs, .ref df, .ref ch, .ref pg, .int rs]))]) [0] rfl) (hK.sub (tys' := []) [] rfl)⟩ rfl rfl hl.1 rfl (lv_room (Nat.le_of_ble_eq_true rfl)) dV_revisionAt_2 ⟨Nat.le_of_ble_eq_true rfl, Nat.le_of_ble_eq_true rfl⟩) (fun r1 hr2 => ?_)
  obtain rfl : r1 = none := hr2
  refine W.eq (g2 := F0 m 5 ls [.null]) rfl ?_
  refine lv_astore_nN (pc := 5) hx hb dV_revisionAt_5 rfl hl (by decide) rfl (fun ls hl => ?_)
  have hl : lv_has ls 4 [(3, .null), (0, .ref x), (1, .int dd), (2, .int vv)] := hl
  refine lv_aload_nN (pc := 6) hx hb dV_revisionAt_6 rfl (lv_at hl 0 rfl) ?_
  refine lv_ifnullN (pc := 7) (tgt := 27) hx hb dV_revisionAt_7 rfl ?_
  refine lv_null (pc := 27) hx hb dV_revisionAt_27 ?_
  exact W.aret (pc := 28) hx hb hr (Or.inl ⟨_, rfl⟩) (Or.inl rfl) (fun t ht hW => ⟨none, rfl, rfl, ht.trans hH⟩) (fun q h => nomatch h) dV_revisionAt_28
set_option maxHeartbeats 4000000 in
set_option maxRecDepth 100000 in
theorem v_baselineAt (l : Launch) (dC : Nat → ClassId) (dI : Nat → Nat → Nat) (x : Nat) (rt : Nat) (dr : Nat) (bs : Nat) (df : Nat) (ch : Nat) (pg : Nat) (rs : Int32) (cB : ClassId) (nn : Int32) : Met l yV_baselineAt (.code yV_baselineAt cV_baselineAt 2 (some (.object "DrawingVault$Baseline")) :: aw) ({ frames := 0, cells := 0, slots := 0, locals := 0 }) (pR (dC, dI) [(x, .inr (0, [.ref rt, .ref dr, .int 0, .int 0, .ref bs, .ref df, .ref ch, .ref pg, .int rs])), (bs, .inl (cB, 10, .inr (.inr (.inr (.inr (fun _ => none))))))] [(cB, .object "DrawingVault$Baseline")] [.ref x, .int nn]) (va_Sq (fun r => r = none)) 0 0 (fun _ => False) := by
  refine Met.ofW (cc := cV_baselineAt) (maxL := 2) (ret := (some (.object "DrawingVault$Baseline"))) (by decide) rfl ?_
  intro p e s m args below meth c s₁ B hml hv
  obtain ⟨rfl, hv⟩ := hv
  have hx := B.exec
  have hb := B.bytes
  have hr := B.returns
  have hts : ∀ w ∈ aw, w.before _ s = true := fun w h => atoms_spec (ws := (.code yV_baselineAt cV_baselineAt 2 (some (.object "DrawingVault$Baseline")) :: aw)) B.pre w (List.mem_cons_of_mem _ h)
  have hown : s.vm.findClass RV = some m.cls := findClass_of_methodNamed B.named
  have hlocks := B.notSynchronized
  obtain ⟨hP, hK⟩ := hv
  obtain ⟨H, hH⟩ : ∃ H, H = s.heap := ⟨_, rfl⟩
  rw [← hH] at hP ⊢
  have hl := lv_entry ([.ref x, .int nn]) (n := 2) (Nat.le_of_ble_eq_true rfl)
  rw [lg_entry_eq]
  generalize (lg_sl ([.ref x, .int nn]) ++ List.replicate (2 - (lg_sl ([.ref x, .int nn])).length) Slot.unset).toArray = ls at hl ⊢
  have hl : lv_has ls 2 [(0, .ref x), (1, .int nn)] := hl
  refine lv_iload_n (pc := 0) hx hb dV_baselineAt_0 rfl (lv_at hl 1 rfl) ?_
  refine lv_if_lt (pc := 1) (tgt := 19) hx hb dV_baselineAt_1 rfl (fun h1 => ?_) (fun h1 => ?_)
  · refine lv_null (pc := 19) hx hb dV_baselineAt_19 ?_
    exact W.aret (pc := 20) hx hb hr (Or.inl ⟨_, rfl⟩) (Or.inl rfl) (fun t ht hW => ⟨none, rfl, rfl, ht.trans hH⟩) (fun q h => nomatch h) dV_baselineAt_20
  · refine lv_iload_n (pc := 4) hx hb dV_baselineAt_4 rfl (lv_at hl 1 rfl) ?_
    refine lv_bipush (pc := 5) (v := 10) hx hb dV_baselineAt_5 (by decide) ?_
    refine lv_icmp_ge (pc := 7) (tgt := 19) hx hb dV_baselineAt_7 rfl (fun h2 => ?_) (fun h2 => ?_)
    · refine lv_null (pc := 19) hx hb dV_baselineAt_19 ?_
      exact W.aret (pc := 20) hx hb hr (Or.inl ⟨_, rfl⟩) (Or.inl rfl) (fun t ht hW => ⟨none, rfl, rfl, ht.trans hH⟩) (fun q h => nomatch h) dV_baselineAt_20
    · refine lv_aload_n (pc := 10) hx hb dV_baselineAt_10 rfl (lv_at hl 0 rfl) ?_
      refine va_get (D := (dC, dI)) (cl := kCl) (C := RV) (T := TV) (N := 9) (pc := 11) hx hb hts inV hown hK hP 0 rfl rfl 4 (by decide) (hts _ wd_12) (fun _ h9 => h9) rfl dV_baselineAt_11 ?_
      refine lv_iload_n (pc := 14) hx hb dV_baselineAt_14 rfl (lv_at hl 1 rfl) ?_
      refine va_aldq (D := (dC, dI)) (cl := kCl) (pc := 15) hx hb hK hP 1 0 rfl rfl (vin_of (k := 10) (by decide) h1 h2) dV_baselineAt_15 ?_
      refine W.eq (g2 := F0 m 16 ls [.null]) rfl ?_
      refine lv_goto (pc := 16) (tgt := 20) hx hb dV_baselineAt_16 rfl ?_
      exact W.aret (pc := 20) hx hb hr (Or.inl ⟨_, rfl⟩) (Or.inl rfl) (fun t ht hW => ⟨none, rfl, rfl, ht.trans hH⟩) (fun q h => nomatch h) dV_baselineAt_20
set_option maxHeartbeats 4000000 in
set_option maxRecDepth 100000 in
theorem v_outRefusal (l : Launch) (dC : Nat → ClassId) (dI : Nat → Nat → Nat) (x : Nat) (rt : Nat) (dr : Nat) (bs : Nat) (df : Nat) (ch : Nat) (pg : Nat) (rs : Int32) (cR : ClassId) (pp : Int32) : Met l yV_outRefusal (.code yV_outRefusal cV_outRefusal 3 (some .int) :: aw) ({ frames := 2, cells := 0, slots := 0, locals := 42 }) (pR (dC, dI) [(x, .inr (0, [.ref rt, .ref dr, .int 0, .int 0, .ref bs, .ref df, .ref ch, .ref pg, .int rs])), (rt, .inl (cR, 16, .inl (fun _ => 0)))] [(cR, .int)] [.ref x, .null, .int pp]) (vp_Si (fun r => r = 1)) 0 0 (fun _ => False) := by
  refine Met.ofW (cc := cV_outRefusal) (maxL := 3) (ret := (some .int)) (by decide) rfl ?_
  intro p e s m args below meth c s₁ B hml hv
  obtain ⟨rfl, hv⟩ := hv
  have hx := B.exec
  have hb := B.bytes
  have hr := B.returns
  have hts : ∀ w ∈ aw, w.before _ s = true := fun w h => atoms_spec (ws := (.code yV_outRefusal cV_outRefusal 3 (some .int) :: aw)) B.pre w (List.mem_cons_of_mem _ h)
  have hown : s.vm.findClass RV = some m.cls := findClass_of_methodNamed B.named
  have hlocks := B.notSynchronized
  obtain ⟨hP, hK⟩ := hv
  obtain ⟨H, hH⟩ : ∃ H, H = s.heap := ⟨_, rfl⟩
  rw [← hH] at hP ⊢
  have hl := lv_entry ([.ref x, .null, .int pp]) (n := 3) (Nat.le_of_ble_eq_true rfl)
  rw [lg_entry_eq]
  generalize (lg_sl ([.ref x, .null, .int pp]) ++ List.replicate (3 - (lg_sl ([.ref x, .null, .int pp])).length) Slot.unset).toArray = ls at hl ⊢
  have hl : lv_has ls 3 [(0, .ref x), (1, .null), (2, .int pp)] := hl
  refine lv_aload_n (pc := 0) hx hb dV_outRefusal_0 rfl (lv_at hl 0 rfl) ?_
  refine lv_iload_n (pc := 1) hx hb dV_outRefusal_1 rfl (lv_at hl 2 rfl) ?_
  refine lv_bipush (pc := 2) (v := 7) hx hb dV_outRefusal_2 (by decide) ?_
  refine vp_callSi (pc := 4) (W.runV (As := [.int pp, .int 7]) (rest := []) ⟨hx, hb, hml, hown, hts⟩ (v_hasRight l dC dI x rt dr bs df ch pg rs cR pp 7) (cwV 2 hts (gV wd_14 wd_15 wd_16 wd_3 wd_13) rfl rfl rfl (by decide +kernel) ⟨Nat.le_of_ble_eq_true rfl, Nat.le_of_ble_eq_true rfl⟩) ⟨pR_blind, va_recv (q := (RV, TV, 9)) (q0 := 0) (ci := 0) hK hP rfl rfl, pR_pre (hP.sub (ws' := [(x, .inr (0, [.ref rt, .ref dr, .int 0, .int 0, .ref bs, .ref df, .ref ch, .ref pg, .int rs])), (rt, .inl (cR, 16, .inl (fun _ => 0)))]) [0, 1] rfl) (hK.sub (tys' := [(cR, .int)]) [0] rfl)⟩ rfl rfl hl.1 rfl (lv_room (Nat.le_of_ble_eq_true rfl)) dV_outRefusal_4 ⟨Nat.le_of_ble_eq_true rfl, Nat.le_of_ble_eq_true rfl⟩) (fun r1 hr2 => ?_)
  obtain rfl : r1 = 0 := hr2
  refine lv_if_ne (pc := 7) (tgt := 12) hx hb dV_outRefusal_7 rfl (fun h3 => absurd h3 (by decide)) (fun h3 => ?_)
  refine lv_iconst (pc := 10) (v := 1) hx hb dV_outRefusal_10 (by decide) ?_
  exact W.iret (pc := 11) hx hb hr (fun t ht hW => ⟨_, rfl, rfl, ht.trans hH⟩) (fun q h => nomatch h) dV_outRefusal_11
set_option maxHeartbeats 4000000 in
set_option maxRecDepth 100000 in
theorem v_copyRefusal (l : Launch) (dC : Nat → ClassId) (dI : Nat → Nat → Nat) (x : Nat) (rt : Nat) (dr : Nat) (bs : Nat) (df : Nat) (ch : Nat) (pg : Nat) (rs : Int32) (cR : ClassId) (pp : Int32) : Met l yV_copyRefusal (.code yV_copyRefusal cV_copyRefusal 3 (some .int) :: aw) ({ frames := 2, cells := 0, slots := 0, locals := 42 }) (pR (dC, dI) [(x, .inr (0, [.ref rt, .ref dr, .int 0, .int 0, .ref bs, .ref df, .ref ch, .ref pg, .int rs])), (rt, .inl (cR, 16, .inl (fun _ => 0)))] [(cR, .int)] [.ref x, .null, .int pp]) (vp_Si (fun r => r = 1)) 0 0 (fun _ => False) := by
  refine Met.ofW (cc := cV_copyRefusal) (maxL := 3) (ret := (some .int)) (by decide) rfl ?_
  intro p e s m args below meth c s₁ B hml hv
  obtain ⟨rfl, hv⟩ := hv
  have hx := B.exec
  have hb := B.bytes
  have hr := B.returns
  have hts : ∀ w ∈ aw, w.before _ s = true := fun w h => atoms_spec (ws := (.code yV_copyRefusal cV_copyRefusal 3 (some .int) :: aw)) B.pre w (List.mem_cons_of_mem _ h)
  have hown : s.vm.findClass RV = some m.cls := findClass_of_methodNamed B.named
  have hlocks := B.notSynchronized
  obtain ⟨hP, hK⟩ := hv
  obtain ⟨H, hH⟩ : ∃ H, H = s.heap := ⟨_, rfl⟩
  rw [← hH] at hP ⊢
  have hl := lv_entry ([.ref x, .null, .int pp]) (n := 3) (Nat.le_of_ble_eq_true rfl)
  rw [lg_entry_eq]
  generalize (lg_sl ([.ref x, .null, .int pp]) ++ List.replicate (3 - (lg_sl ([.ref x, .null, .int pp])).length) Slot.unset).toArray = ls at hl ⊢
  have hl : lv_has ls 3 [(0, .ref x), (1, .null), (2, .int pp)] := hl
  refine lv_aload_n (pc := 0) hx hb dV_copyRefusal_0 rfl (lv_at hl 0 rfl) ?_
  refine lv_iload_n (pc := 1) hx hb dV_copyRefusal_1 rfl (lv_at hl 2 rfl) ?_
  refine lv_bipush (pc := 2) (v := 7) hx hb dV_copyRefusal_2 (by decide) ?_
  refine vp_callSi (pc := 4) (W.runV (As := [.int pp, .int 7]) (rest := []) ⟨hx, hb, hml, hown, hts⟩ (v_hasRight l dC dI x rt dr bs df ch pg rs cR pp 7) (cwV 2 hts (gV wd_14 wd_15 wd_16 wd_3 wd_13) rfl rfl rfl (by decide +kernel) ⟨Nat.le_of_ble_eq_true rfl, Nat.le_of_ble_eq_true rfl⟩) ⟨pR_blind, va_recv (q := (RV, TV, 9)) (q0 := 0) (ci := 0) hK hP rfl rfl, pR_pre (hP.sub (ws' := [(x, .inr (0, [.ref rt, .ref dr, .int 0, .int 0, .ref bs, .ref df, .ref ch, .ref pg, .int rs])), (rt, .inl (cR, 16, .inl (fun _ => 0)))]) [0, 1] rfl) (hK.sub (tys' := [(cR, .int)]) [0] rfl)⟩ rfl rfl hl.1 rfl (lv_room (Nat.le_of_ble_eq_true rfl)) dV_copyRefusal_4 ⟨Nat.le_of_ble_eq_true rfl, Nat.le_of_ble_eq_true rfl⟩) (fun r1 hr2 => ?_)
  obtain rfl : r1 = 0 := hr2
  refine lv_if_ne (pc := 7) (tgt := 12) hx hb dV_copyRefusal_7 rfl (fun h3 => absurd h3 (by decide)) (fun h3 => ?_)
  refine lv_iconst (pc := 10) (v := 1) hx hb dV_copyRefusal_10 (by decide) ?_
  exact W.iret (pc := 11) hx hb hr (fun t ht hW => ⟨_, rfl, rfl, ht.trans hH⟩) (fun q h => nomatch h) dV_copyRefusal_11
set_option maxHeartbeats 4000000 in
set_option maxRecDepth 100000 in
theorem v_drawingRefusal (l : Launch) (dC : Nat → ClassId) (dI : Nat → Nat → Nat) (x : Nat) (rt : Nat) (dr : Nat) (bs : Nat) (df : Nat) (ch : Nat) (pg : Nat) (rs : Int32) (cR : ClassId) (pp : Int32) : Met l yV_drawingRefusal (.code yV_drawingRefusal cV_drawingRefusal 3 (some .int) :: aw) ({ frames := 2, cells := 0, slots := 0, locals := 42 }) (pR (dC, dI) [(x, .inr (0, [.ref rt, .ref dr, .int 0, .int 0, .ref bs, .ref df, .ref ch, .ref pg, .int rs])), (rt, .inl (cR, 16, .inl (fun _ => 0)))] [(cR, .int)] [.ref x, .int pp]) (vp_Si (fun r => r = 1)) 0 0 (fun _ => False) := by
  refine Met.ofW (cc := cV_drawingRefusal) (maxL := 3) (ret := (some .int)) (by decide) rfl ?_
  intro p e s m args below meth c s₁ B hml hv
  obtain ⟨rfl, hv⟩ := hv
  have hx := B.exec
  have hb := B.bytes
  have hr := B.returns
  have hts : ∀ w ∈ aw, w.before _ s = true := fun w h => atoms_spec (ws := (.code yV_drawingRefusal cV_drawingRefusal 3 (some .int) :: aw)) B.pre w (List.mem_cons_of_mem _ h)
  have hown : s.vm.findClass RV = some m.cls := findClass_of_methodNamed B.named
  have hlocks := B.notSynchronized
  obtain ⟨hP, hK⟩ := hv
  obtain ⟨H, hH⟩ : ∃ H, H = s.heap := ⟨_, rfl⟩
  rw [← hH] at hP ⊢
  have hl := lv_entry ([.ref x, .int pp]) (n := 3) (Nat.le_of_ble_eq_true rfl)
  rw [lg_entry_eq]
  generalize (lg_sl ([.ref x, .int pp]) ++ List.replicate (3 - (lg_sl ([.ref x, .int pp])).length) Slot.unset).toArray = ls at hl ⊢
  have hl : lv_has ls 3 [(0, .ref x), (1, .int pp)] := hl
  refine lv_aload_n (pc := 0) hx hb dV_drawingRefusal_0 rfl (lv_at hl 0 rfl) ?_
  refine lv_iload_n (pc := 1) hx hb dV_drawingRefusal_1 rfl (lv_at hl 1 rfl) ?_
  refine lv_iconst (pc := 2) (v := 1) hx hb dV_drawingRefusal_2 (by decide) ?_
  refine vp_callSi (pc := 3) (W.runV (As := [.int pp, .int 1]) (rest := []) ⟨hx, hb, hml, hown, hts⟩ (v_hasRight l dC dI x rt dr bs df ch pg rs cR pp 1) (cwV 2 hts (gV wd_14 wd_15 wd_16 wd_3 wd_13) rfl rfl rfl (by decide +kernel) ⟨Nat.le_of_ble_eq_true rfl, Nat.le_of_ble_eq_true rfl⟩) ⟨pR_blind, va_recv (q := (RV, TV, 9)) (q0 := 0) (ci := 0) hK hP rfl rfl, pR_pre (hP.sub (ws' := [(x, .inr (0, [.ref rt, .ref dr, .int 0, .int 0, .ref bs, .ref df, .ref ch, .ref pg, .int rs])), (rt, .inl (cR, 16, .inl (fun _ => 0)))]) [0, 1] rfl) (hK.sub (tys' := [(cR, .int)]) [0] rfl)⟩ rfl rfl hl.1 rfl (lv_room (Nat.le_of_ble_eq_true rfl)) dV_drawingRefusal_3 ⟨Nat.le_of_ble_eq_true rfl, Nat.le_of_ble_eq_true rfl⟩) (fun r1 hr2 => ?_)
  obtain rfl : r1 = 0 := hr2
  refine lv_if_ne (pc := 6) (tgt := 11) hx hb dV_drawingRefusal_6 rfl (fun h3 => absurd h3 (by decide)) (fun h3 => ?_)
  refine lv_iconst (pc := 9) (v := 1) hx hb dV_drawingRefusal_9 (by decide) ?_
  exact W.iret (pc := 10) hx hb hr (fun t ht hW => ⟨_, rfl, rfl, ht.trans hH⟩) (fun q h => nomatch h) dV_drawingRefusal_10
set_option maxHeartbeats 4000000 in
set_option maxRecDepth 100000 in
theorem v_checkRefusal (l : Launch) (dC : Nat → ClassId) (dI : Nat → Nat → Nat) (x : Nat) (rt : Nat) (dr : Nat) (bs : Nat) (df : Nat) (ch : Nat) (pg : Nat) (rs : Int32) (cR : ClassId) (dd : Int32) (vv : Int32) (pp : Int32) : Met l yV_checkRefusal (.code yV_checkRefusal cV_checkRefusal 6 (some .int) :: aw) ({ frames := 2, cells := 0, slots := 0, locals := 44 }) (pR (dC, dI) [(x, .inr (0, [.ref rt, .ref dr, .int 0, .int 0, .ref bs, .ref df, .ref ch, .ref pg, .int rs])), (rt, .inl (cR, 16, .inl (fun _ => 0)))] [(cR, .int)] [.ref x, .int dd, .int vv, .int pp]) (vp_Si (fun r => r = 1)) 0 0 (fun _ => False) := by
  refine Met.ofW (cc := cV_checkRefusal) (maxL := 6) (ret := (some .int)) (by decide) rfl ?_
  intro p e s m args below meth c s₁ B hml hv
  obtain ⟨rfl, hv⟩ := hv
  have hx := B.exec
  have hb := B.bytes
  have hr := B.returns
  have hts : ∀ w ∈ aw, w.before _ s = true := fun w h => atoms_spec (ws := (.code yV_checkRefusal cV_checkRefusal 6 (some .int) :: aw)) B.pre w (List.mem_cons_of_mem _ h)
  have hown : s.vm.findClass RV = some m.cls := findClass_of_methodNamed B.named
  have hlocks := B.notSynchronized
  obtain ⟨hP, hK⟩ := hv
  obtain ⟨H, hH⟩ : ∃ H, H = s.heap := ⟨_, rfl⟩
  rw [← hH] at hP ⊢
  have hl := lv_entry ([.ref x, .int dd, .int vv, .int pp]) (n := 6) (Nat.le_of_ble_eq_true rfl)
  rw [lg_entry_eq]
  generalize (lg_sl ([.ref x, .int dd, .int vv, .int pp]) ++ List.replicate (6 - (lg_sl ([.ref x, .int dd, .int vv, .int pp])).length) Slot.unset).toArray = ls at hl ⊢
  have hl : lv_has ls 6 [(0, .ref x), (1, .int dd), (2, .int vv), (3, .int pp)] := hl
  refine lv_aload_n (pc := 0) hx hb dV_checkRefusal_0 rfl (lv_at hl 0 rfl) ?_
  refine lv_iload_n (pc := 1) hx hb dV_checkRefusal_1 rfl (lv_at hl 1 rfl) ?_
  refine va_csq (pc := 2) (W.runV (As := [.int dd]) (rest := []) ⟨hx, hb, hml, hown, hts⟩ (v_drawingAt l dC dI x rt dr bs df ch pg rs dd) (cwV 1 hts (gV wd_9 wd_10 wd_11 wd_3 wd_8) rfl rfl rfl (by decide +kernel) ⟨Nat.le_of_ble_eq_true rfl, Nat.le_of_ble_eq_true rfl⟩) ⟨pR_blind, va_recv (q := (RV, TV, 9)) (q0 := 0) (ci := 0) hK hP rfl rfl, pR_pre (hP.sub (ws' := [(x, .inr (0, [.ref rt, .ref dr, .int 0, .int 0, .ref bs, .ref df, .ref ch, .ref pg, .int rs]))]) [0] rfl) (hK.sub (tys' := []) [] rfl)⟩ rfl rfl hl.1 rfl (lv_room (Nat.le_of_ble_eq_true rfl)) dV_checkRefusal_2 ⟨Nat.le_of_ble_eq_true rfl, Nat.le_of_ble_eq_true rfl⟩) (fun r1 hr2 => ?_)
  obtain rfl : r1 = none := hr2
  refine W.eq (g2 := F0 m 5 ls [.null]) rfl ?_
  refine lv_astoreN (pc := 5) hx hb dV_checkRefusal_5 hl (by decide) rfl (fun ls hl => ?_)
  have hl : lv_has ls 6 [(4, .null), (0, .ref x), (1, .int dd), (2, .int vv), (3, .int pp)] := hl
  refine lv_aload_n (pc := 7) hx hb dV_checkRefusal_7 rfl (lv_at hl 1 rfl) ?_
  refine lv_iload_n (pc := 8) hx hb dV_checkRefusal_8 rfl (lv_at hl 2 rfl) ?_
  refine lv_iload_n (pc := 9) hx hb dV_checkRefusal_9 rfl (lv_at hl 3 rfl) ?_
  refine va_csq (pc := 10) (W.runV (As := [.int dd, .int vv]) (rest := []) ⟨hx, hb, hml, hown, hts⟩ (v_revisionAt l dC dI x rt dr bs df ch pg rs dd vv) (cwV 2 hts (gV wd_18 wd_19 wd_20 wd_3 wd_17) rfl rfl rfl (by decide +kernel) ⟨Nat.le_of_ble_eq_true rfl, Nat.le_of_ble_eq_true rfl⟩) ⟨pR_blind, va_recv (q := (RV, TV, 9)) (q0 := 0) (ci := 0) hK hP rfl rfl, pR_pre (hP.sub (ws' := [(x, .inr (0, [.ref rt, .ref dr, .int 0, .int 0, .ref bs, .ref df, .ref ch, .ref pg, .int rs]))]) [0] rfl) (hK.sub (tys' := []) [] rfl)⟩ rfl rfl hl.1 rfl (lv_room (Nat.le_of_ble_eq_true rfl)) dV_checkRefusal_10 ⟨Nat.le_of_ble_eq_true rfl, Nat.le_of_ble_eq_true rfl⟩) (fun r3 hr4 => ?_)
  obtain rfl : r3 = none := hr4
  refine W.eq (g2 := F0 m 13 ls [.null]) rfl ?_
  refine lv_astoreN (pc := 13) hx hb dV_checkRefusal_13 hl (by decide) rfl (fun ls hl => ?_)
  have hl : lv_has ls 6 [(5, .null), (4, .null), (0, .ref x), (1, .int dd), (2, .int vv), (3, .int pp)] := hl
  refine lv_aload_n (pc := 15) hx hb dV_checkRefusal_15 rfl (lv_at hl 2 rfl) ?_
  refine lv_iload_n (pc := 16) hx hb dV_checkRefusal_16 rfl (lv_at hl 5 rfl) ?_
  refine lv_iconst (pc := 17) (v := 2) hx hb dV_checkRefusal_17 (by decide) ?_
  refine vp_callSi (pc := 18) (W.runV (As := [.int pp, .int 2]) (rest := []) ⟨hx, hb, hml, hown, hts⟩ (v_hasRight l dC dI x rt dr bs df ch pg rs cR pp 2) (cwV 2 hts (gV wd_14 wd_15 wd_16 wd_3 wd_13) rfl rfl rfl (by decide +kernel) ⟨Nat.le_of_ble_eq_true rfl, Nat.le_of_ble_eq_true rfl⟩) ⟨pR_blind, va_recv (q := (RV, TV, 9)) (q0 := 0) (ci := 0) hK hP rfl rfl, pR_pre (hP.sub (ws' := [(x, .inr (0, [.ref rt, .ref dr, .int 0, .int 0, .ref bs, .ref df, .ref ch, .ref pg, .int rs])), (rt, .inl (cR, 16, .inl (fun _ => 0)))]) [0, 1] rfl) (hK.sub (tys' := [(cR, .int)]) [0] rfl)⟩ rfl rfl hl.1 rfl (lv_room (Nat.le_of_ble_eq_true rfl)) dV_checkRefusal_18 ⟨Nat.le_of_ble_eq_true rfl, Nat.le_of_ble_eq_true rfl⟩) (fun r5 hr6 => ?_)
  obtain rfl : r5 = 0 := hr6
  refine lv_if_ne (pc := 21) (tgt := 26) hx hb dV_checkRefusal_21 rfl (fun h7 => absurd h7 (by decide)) (fun h7 => ?_)
  refine lv_iconst (pc := 24) (v := 1) hx hb dV_checkRefusal_24 (by decide) ?_
  exact W.iret (pc := 25) hx hb hr (fun t ht hW => ⟨_, rfl, rfl, ht.trans hH⟩) (fun q h => nomatch h) dV_checkRefusal_25
set_option maxHeartbeats 4000000 in
set_option maxRecDepth 100000 in
theorem v_releaseRefusal (l : Launch) (dC : Nat → ClassId) (dI : Nat → Nat → Nat) (x : Nat) (rt : Nat) (dr : Nat) (bs : Nat) (df : Nat) (ch : Nat) (pg : Nat) (rs : Int32) (cR : ClassId) (dd : Int32) (vv : Int32) (pp : Int32) : Met l yV_releaseRefusal (.code yV_releaseRefusal cV_releaseRefusal 5 (some .int) :: aw) ({ frames := 2, cells := 0, slots := 0, locals := 44 }) (pR (dC, dI) [(x, .inr (0, [.ref rt, .ref dr, .int 0, .int 0, .ref bs, .ref df, .ref ch, .ref pg, .int rs])), (rt, .inl (cR, 16, .inl (fun _ => 0)))] [(cR, .int)] [.ref x, .int dd, .int vv, .int pp]) (vp_Si (fun r => r = 1)) 0 0 (fun _ => False) := by
  refine Met.ofW (cc := cV_releaseRefusal) (maxL := 5) (ret := (some .int)) (by decide) rfl ?_
  intro p e s m args below meth c s₁ B hml hv
  obtain ⟨rfl, hv⟩ := hv
  have hx := B.exec
  have hb := B.bytes
  have hr := B.returns
  have hts : ∀ w ∈ aw, w.before _ s = true := fun w h => atoms_spec (ws := (.code yV_releaseRefusal cV_releaseRefusal 5 (some .int) :: aw)) B.pre w (List.mem_cons_of_mem _ h)
  have hown : s.vm.findClass RV = some m.cls := findClass_of_methodNamed B.named
  have hlocks := B.notSynchronized
  obtain ⟨hP, hK⟩ := hv
  obtain ⟨H, hH⟩ : ∃ H, H = s.heap := ⟨_, rfl⟩
  rw [← hH] at hP ⊢
  have hl := lv_entry ([.ref x, .int dd, .int vv, .int pp]) (n := 5) (Nat.le_of_ble_eq_true rfl)
  rw [lg_entry_eq]
  generalize (lg_sl ([.ref x, .int dd, .int vv, .int pp]) ++ List.replicate (5 - (lg_sl ([.ref x, .int dd, .int vv, .int pp])).length) Slot.unset).toArray = ls at hl ⊢
  have hl : lv_has ls 5 [(0, .ref x), (1, .int dd), (2, .int vv), (3, .int pp)] := hl
  refine lv_aload_n (pc := 0) hx hb dV_releaseRefusal_0 rfl (lv_at hl 0 rfl) ?_
  refine lv_iload_n (pc := 1) hx hb dV_releaseRefusal_1 rfl (lv_at hl 1 rfl) ?_
  refine lv_iload_n (pc := 2) hx hb dV_releaseRefusal_2 rfl (lv_at hl 2 rfl) ?_
  refine va_csq (pc := 3) (W.runV (As := [.int dd, .int vv]) (rest := []) ⟨hx, hb, hml, hown, hts⟩ (v_revisionAt l dC dI x rt dr bs df ch pg rs dd vv) (cwV 2 hts (gV wd_18 wd_19 wd_20 wd_3 wd_17) rfl rfl rfl (by decide +kernel) ⟨Nat.le_of_ble_eq_true rfl, Nat.le_of_ble_eq_true rfl⟩) ⟨pR_blind, va_recv (q := (RV, TV, 9)) (q0 := 0) (ci := 0) hK hP rfl rfl, pR_pre (hP.sub (ws' := [(x, .inr (0, [.ref rt, .ref dr, .int 0, .int 0, .ref bs, .ref df, .ref ch, .ref pg, .int rs]))]) [0] rfl) (hK.sub (tys' := []) [] rfl)⟩ rfl rfl hl.1 rfl (lv_room (Nat.le_of_ble_eq_true rfl)) dV_releaseRefusal_3 ⟨Nat.le_of_ble_eq_true rfl, Nat.le_of_ble_eq_true rfl⟩) (fun r1 hr2 => ?_)
  obtain rfl : r1 = none := hr2
  refine W.eq (g2 := F0 m 6 ls [.null]) rfl ?_
  refine lv_astoreN (pc := 6) hx hb dV_releaseRefusal_6 hl (by decide) rfl (fun ls hl => ?_)
  have hl : lv_has ls 5 [(4, .null), (0, .ref x), (1, .int dd), (2, .int vv), (3, .int pp)] := hl
  refine lv_aload_n (pc := 8) hx hb dV_releaseRefusal_8 rfl (lv_at hl 1 rfl) ?_
  refine lv_iload_n (pc := 9) hx hb dV_releaseRefusal_9 rfl (lv_at hl 4 rfl) ?_
  refine lv_iconst (pc := 10) (v := 4) hx hb dV_releaseRefusal_10 (by decide) ?_
  refine vp_callSi (pc := 11) (W.runV (As := [.int pp, .int 4]) (rest := []) ⟨hx, hb, hml, hown, hts⟩ (v_hasRight l dC dI x rt dr bs df ch pg rs cR pp 4) (cwV 2 hts (gV wd_14 wd_15 wd_16 wd_3 wd_13) rfl rfl rfl (by decide +kernel) ⟨Nat.le_of_ble_eq_true rfl, Nat.le_of_ble_eq_true rfl⟩) ⟨pR_blind, va_recv (q := (RV, TV, 9)) (q0 := 0) (ci := 0) hK hP rfl rfl, pR_pre (hP.sub (ws' := [(x, .inr (0, [.ref rt, .ref dr, .int 0, .int 0, .ref bs, .ref df, .ref ch, .ref pg, .int rs])), (rt, .inl (cR, 16, .inl (fun _ => 0)))]) [0, 1] rfl) (hK.sub (tys' := [(cR, .int)]) [0] rfl)⟩ rfl rfl hl.1 rfl (lv_room (Nat.le_of_ble_eq_true rfl)) dV_releaseRefusal_11 ⟨Nat.le_of_ble_eq_true rfl, Nat.le_of_ble_eq_true rfl⟩) (fun r3 hr4 => ?_)
  obtain rfl : r3 = 0 := hr4
  refine lv_if_ne (pc := 14) (tgt := 19) hx hb dV_releaseRefusal_14 rfl (fun h5 => absurd h5 (by decide)) (fun h5 => ?_)
  refine lv_iconst (pc := 17) (v := 1) hx hb dV_releaseRefusal_17 (by decide) ?_
  exact W.iret (pc := 18) hx hb hr (fun t ht hW => ⟨_, rfl, rfl, ht.trans hH⟩) (fun q h => nomatch h) dV_releaseRefusal_18
set_option maxHeartbeats 4000000 in
set_option maxRecDepth 100000 in
theorem v_withdrawRefusal (l : Launch) (dC : Nat → ClassId) (dI : Nat → Nat → Nat) (x : Nat) (rt : Nat) (dr : Nat) (bs : Nat) (df : Nat) (ch : Nat) (pg : Nat) (rs : Int32) (cR : ClassId) (dd : Int32) (vv : Int32) (pp : Int32) : Met l yV_withdrawRefusal (.code yV_withdrawRefusal cV_withdrawRefusal 6 (some .int) :: aw) ({ frames := 2, cells := 0, slots := 0, locals := 44 }) (pR (dC, dI) [(x, .inr (0, [.ref rt, .ref dr, .int 0, .int 0, .ref bs, .ref df, .ref ch, .ref pg, .int rs])), (rt, .inl (cR, 16, .inl (fun _ => 0)))] [(cR, .int)] [.ref x, .int dd, .int vv, .int pp]) (vp_Si (fun r => r = 1)) 0 0 (fun _ => False) := by
  refine Met.ofW (cc := cV_withdrawRefusal) (maxL := 6) (ret := (some .int)) (by decide) rfl ?_
  intro p e s m args below meth c s₁ B hml hv
  obtain ⟨rfl, hv⟩ := hv
  have hx := B.exec
  have hb := B.bytes
  have hr := B.returns
  have hts : ∀ w ∈ aw, w.before _ s = true := fun w h => atoms_spec (ws := (.code yV_withdrawRefusal cV_withdrawRefusal 6 (some .int) :: aw)) B.pre w (List.mem_cons_of_mem _ h)
  have hown : s.vm.findClass RV = some m.cls := findClass_of_methodNamed B.named
  have hlocks := B.notSynchronized
  obtain ⟨hP, hK⟩ := hv
  obtain ⟨H, hH⟩ : ∃ H, H = s.heap := ⟨_, rfl⟩
  rw [← hH] at hP ⊢
  have hl := lv_entry ([.ref x, .int dd, .int vv, .int pp]) (n := 6) (Nat.le_of_ble_eq_true rfl)
  rw [lg_entry_eq]
  generalize (lg_sl ([.ref x, .int dd, .int vv, .int pp]) ++ List.replicate (6 - (lg_sl ([.ref x, .int dd, .int vv, .int pp])).length) Slot.unset).toArray = ls at hl ⊢
  have hl : lv_has ls 6 [(0, .ref x), (1, .int dd), (2, .int vv), (3, .int pp)] := hl
  refine lv_aload_n (pc := 0) hx hb dV_withdrawRefusal_0 rfl (lv_at hl 0 rfl) ?_
  refine lv_iload_n (pc := 1) hx hb dV_withdrawRefusal_1 rfl (lv_at hl 1 rfl) ?_
  refine lv_iload_n (pc := 2) hx hb dV_withdrawRefusal_2 rfl (lv_at hl 2 rfl) ?_
  refine va_csq (pc := 3) (W.runV (As := [.int dd, .int vv]) (rest := []) ⟨hx, hb, hml, hown, hts⟩ (v_revisionAt l dC dI x rt dr bs df ch pg rs dd vv) (cwV 2 hts (gV wd_18 wd_19 wd_20 wd_3 wd_17) rfl rfl rfl (by decide +kernel) ⟨Nat.le_of_ble_eq_true rfl, Nat.le_of_ble_eq_true rfl⟩) ⟨pR_blind, va_recv (q := (RV, TV, 9)) (q0 := 0) (ci := 0) hK hP rfl rfl, pR_pre (hP.sub (ws' := [(x, .inr (0, [.ref rt, .ref dr, .int 0, .int 0, .ref bs, .ref df, .ref ch, .ref pg, .int rs]))]) [0] rfl) (hK.sub (tys' := []) [] rfl)⟩ rfl rfl hl.1 rfl (lv_room (Nat.le_of_ble_eq_true rfl)) dV_withdrawRefusal_3 ⟨Nat.le_of_ble_eq_true rfl, Nat.le_of_ble_eq_true rfl⟩) (fun r1 hr2 => ?_)
  obtain rfl : r1 = none := hr2
  refine W.eq (g2 := F0 m 6 ls [.null]) rfl ?_
  refine lv_astoreN (pc := 6) hx hb dV_withdrawRefusal_6 hl (by decide) rfl (fun ls hl => ?_)
  have hl : lv_has ls 6 [(4, .null), (0, .ref x), (1, .int dd), (2, .int vv), (3, .int pp)] := hl
  refine lv_aload_n (pc := 8) hx hb dV_withdrawRefusal_8 rfl (lv_at hl 1 rfl) ?_
  refine lv_iload_n (pc := 9) hx hb dV_withdrawRefusal_9 rfl (lv_at hl 4 rfl) ?_
  refine lv_iconst (pc := 10) (v := 4) hx hb dV_withdrawRefusal_10 (by decide) ?_
  refine vp_callSi (pc := 11) (W.runV (As := [.int pp, .int 4]) (rest := []) ⟨hx, hb, hml, hown, hts⟩ (v_hasRight l dC dI x rt dr bs df ch pg rs cR pp 4) (cwV 2 hts (gV wd_14 wd_15 wd_16 wd_3 wd_13) rfl rfl rfl (by decide +kernel) ⟨Nat.le_of_ble_eq_true rfl, Nat.le_of_ble_eq_true rfl⟩) ⟨pR_blind, va_recv (q := (RV, TV, 9)) (q0 := 0) (ci := 0) hK hP rfl rfl, pR_pre (hP.sub (ws' := [(x, .inr (0, [.ref rt, .ref dr, .int 0, .int 0, .ref bs, .ref df, .ref ch, .ref pg, .int rs])), (rt, .inl (cR, 16, .inl (fun _ => 0)))]) [0, 1] rfl) (hK.sub (tys' := [(cR, .int)]) [0] rfl)⟩ rfl rfl hl.1 rfl (lv_room (Nat.le_of_ble_eq_true rfl)) dV_withdrawRefusal_11 ⟨Nat.le_of_ble_eq_true rfl, Nat.le_of_ble_eq_true rfl⟩) (fun r3 hr4 => ?_)
  obtain rfl : r3 = 0 := hr4
  refine lv_if_ne (pc := 14) (tgt := 19) hx hb dV_withdrawRefusal_14 rfl (fun h5 => absurd h5 (by decide)) (fun h5 => ?_)
  refine lv_iconst (pc := 17) (v := 1) hx hb dV_withdrawRefusal_17 (by decide) ?_
  exact W.iret (pc := 18) hx hb hr (fun t ht hW => ⟨_, rfl, rfl, ht.trans hH⟩) (fun q h => nomatch h) dV_withdrawRefusal_18
set_option maxHeartbeats 4000000 in
set_option maxRecDepth 100000 in
theorem v_why (l : Launch) (dC : Nat → ClassId) (dI : Nat → Nat → Nat) (x : Nat) (rt : Nat) (dr : Nat) (bs : Nat) (df : Nat) (ch : Nat) (pg : Nat) (rs : Int32) : Met l yV_why (.code yV_why cV_why 1 (some .int) :: aw) ({ frames := 0, cells := 0, slots := 0, locals := 0 }) (pR (dC, dI) [(x, .inr (0, [.ref rt, .ref dr, .int 0, .int 0, .ref bs, .ref df, .ref ch, .ref pg, .int rs]))] [] [.ref x]) (vp_Si (fun r => r = rs)) 0 0 (fun _ => False) := by
  refine Met.ofW (cc := cV_why) (maxL := 1) (ret := (some .int)) (by decide) rfl ?_
  intro p e s m args below meth c s₁ B hml hv
  obtain ⟨rfl, hv⟩ := hv
  have hx := B.exec
  have hb := B.bytes
  have hr := B.returns
  have hts : ∀ w ∈ aw, w.before _ s = true := fun w h => atoms_spec (ws := (.code yV_why cV_why 1 (some .int) :: aw)) B.pre w (List.mem_cons_of_mem _ h)
  have hown : s.vm.findClass RV = some m.cls := findClass_of_methodNamed B.named
  have hlocks := B.notSynchronized
  obtain ⟨hP, hK⟩ := hv
  obtain ⟨H, hH⟩ : ∃ H, H = s.heap := ⟨_, rfl⟩
  rw [← hH] at hP ⊢
  have hl := lv_entry ([.ref x]) (n := 1) (Nat.le_of_ble_eq_true rfl)
  rw [lg_entry_eq]
  generalize (lg_sl ([.ref x]) ++ List.replicate (1 - (lg_sl ([.ref x])).length) Slot.unset).toArray = ls at hl ⊢
  have hl : lv_has ls 1 [(0, .ref x)] := hl
  refine lv_aload_n (pc := 0) hx hb dV_why_0 rfl (lv_at hl 0 rfl) ?_
  refine va_get (D := (dC, dI)) (cl := kCl) (C := RV) (T := TV) (N := 9) (pc := 1) hx hb hts inV hown hK hP 0 rfl rfl 8 (by decide) (hts _ wd_21) (fun _ h9 => h9) rfl dV_why_1 ?_
  exact W.iret (pc := 4) hx hb hr (fun t ht hW => ⟨_, rfl, rfl, ht.trans hH⟩) (fun q h => nomatch h) dV_why_4
