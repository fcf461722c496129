theorem dL_law_0 : decode cL_law 0 = .ok (.new 8, 3) := by decide +kernel
theorem dL_law_3 : decode cL_law 3 = .ok (.dup, 1) := by decide +kernel
theorem dL_law_4 : decode cL_law 4 = .ok (.invokespecial 75, 3) := by decide +kernel
theorem dL_law_7 : decode cL_law 7 = .ok (.astore_n 1, 1) := by decide +kernel
theorem dL_law_8 : decode cL_law 8 = .ok (.new 76, 3) := by decide +kernel
theorem dL_law_11 : decode cL_law 11 = .ok (.dup, 1) := by decide +kernel
theorem dL_law_12 : decode cL_law 12 = .ok (.invokespecial 78, 3) := by decide +kernel
theorem dL_law_15 : decode cL_law 15 = .ok (.astore_n 2, 1) := by decide +kernel
theorem dL_law_16 : decode cL_law 16 = .ok (.iconst 1, 1) := by decide +kernel
theorem dL_law_17 : decode cL_law 17 = .ok (.newarray .long, 2) := by decide +kernel
theorem dL_law_19 : decode cL_law 19 = .ok (.astore_n 3, 1) := by decide +kernel
theorem dL_law_20 : decode cL_law 20 = .ok (.iconst 0, 1) := by decide +kernel
theorem dL_law_21 : decode cL_law 21 = .ok (.istore 4, 2) := by decide +kernel
theorem wd_945 : (.classLink "DrawingVaultLaw" 8 "DrawingVault" : Cond) ∈ aw := aw_in (tb_1 (List.mem_of_getElem? (i := 17) rfl)) rfl
theorem wd_946 : (.instantiable "DrawingVault" 9 : Cond) ∈ aw := aw_in (tb_1 (List.mem_of_getElem? (i := 18) rfl)) rfl
theorem wd_947 : (.code ⟨"DrawingVault", "<init>", "()V"⟩ prog_1_method_1_code 1 (Option.none : Option Jvm.ClassFile.FieldType) : Cond) ∈ aw := aw_in (tb_1 (List.mem_of_getElem? (i := 21) rfl)) rfl
theorem wd_948 : (.methodLink "DrawingVaultLaw" 75 ⟨"DrawingVault", "<init>", "()V"⟩ : Cond) ∈ aw := aw_in (tb_1 (List.mem_of_getElem? (i := 19) rfl)) rfl
theorem wd_949 : (.instanceMethod ⟨"DrawingVault", "<init>", "()V"⟩ : Cond) ∈ aw := aw_in (tb_1 (List.mem_of_getElem? (i := 20) rfl)) rfl
theorem wd_950 : (.classLink "DrawingVaultLaw" 76 "DrawingVaultModel" : Cond) ∈ aw := aw_in (tb_4 (List.mem_of_getElem? (i := 20) rfl)) rfl
theorem wd_951 : (.instantiable "DrawingVaultModel" 11 : Cond) ∈ aw := aw_in (tb_4 (List.mem_of_getElem? (i := 21) rfl)) rfl
theorem wd_952 : (.code ⟨"DrawingVaultModel", "<init>", "()V"⟩ prog_9_method_1_code 1 (Option.none : Option Jvm.ClassFile.FieldType) : Cond) ∈ aw := aw_in (tb_4 (List.mem_of_getElem? (i := 24) rfl)) rfl
theorem wd_953 : (.methodLink "DrawingVaultLaw" 78 ⟨"DrawingVaultModel", "<init>", "()V"⟩ : Cond) ∈ aw := aw_in (tb_4 (List.mem_of_getElem? (i := 22) rfl)) rfl
theorem wd_954 : (.instanceMethod ⟨"DrawingVaultModel", "<init>", "()V"⟩ : Cond) ∈ aw := aw_in (tb_4 (List.mem_of_getElem? (i := 23) rfl)) rfl
def dom0 : List (Nat × Nat) := [(0, 0), (8, 0), (9, 0), (10, 0), (1, 0), (11, 0), (12, 0), (2, 0), (13, 0), (14, 0), (3, 0), (4, 0), (15, 0), (16, 0), (17, 0), (18, 0), (19, 0), (24, 0)]
def st0 (fk : Nat → Int32) : hT := (fun f _ k => if f = 400 then 400 else if f = 505 then -1 else if f = 11 then (if k < 24 then -1 else 0) else if f = 15 then (upd (fun _ => 0) (17 : Int32).toNatClampNeg 400) k else if f = 16 then fk k else 0, fun _ _ _ => 0, fun f _ _ => if f = 105 then some 0 else none)
theorem nb_1 : (.methodLinkNest "DrawingVault" 32 ⟨"DrawingVault$ChunkSet", "<init>", "()V"⟩ "DrawingVault" : Cond) ∈ lw_tbl := tb_1 (List.mem_of_getElem? (i := 53) rfl)
theorem nb_2 : (.methodLinkNest "DrawingVault" 39 ⟨"DrawingVault$Pages", "<init>", "()V"⟩ "DrawingVault" : Cond) ∈ lw_tbl := tb_1 (List.mem_of_getElem? (i := 72) rfl)
theorem nb_3 : (.methodLinkNest "DrawingVault$Content" 65 ⟨"DrawingVault", "bit", "(I)I"⟩ "DrawingVault" : Cond) ∈ lw_tbl := tb_1 (List.mem_of_getElem? (i := 166) rfl)
theorem nb_4 : (.methodLinkNest "DrawingVault" 63 ⟨"DrawingVault$Drawing", "<init>", "()V"⟩ "DrawingVault" : Cond) ∈ lw_tbl := tb_2 (List.mem_of_getElem? (i := 125) rfl)
theorem nb_5 : (.methodLinkNest "DrawingVault$Drawing" 23 ⟨"DrawingVault$Content", "<init>", "()V"⟩ "DrawingVault" : Cond) ∈ lw_tbl := tb_2 (List.mem_of_getElem? (i := 133) rfl)
theorem nb_6 : (.methodLinkNest "DrawingVault$Revision" 11 ⟨"DrawingVault$Content", "<init>", "()V"⟩ "DrawingVault" : Cond) ∈ lw_tbl := tb_2 (List.mem_of_getElem? (i := 189) rfl)
theorem nb_7 : (.arrayOver (.object "DrawingVault$Drawing") : Cond) ∈ lw_tbl := tb_1 (List.mem_of_getElem? (i := 26) rfl)
theorem nb_8 : (.arrayOver (.object "DrawingVault$Baseline") : Cond) ∈ lw_tbl := tb_1 (List.mem_of_getElem? (i := 28) rfl)
theorem nb_9 : (.arrayOver (.object "DrawingVault$Revision") : Cond) ∈ lw_tbl := tb_2 (List.mem_of_getElem? (i := 130) rfl)
theorem nb_10 : (.castable "java/lang/IndexOutOfBoundsException" "java/lang/IndexOutOfBoundsException" : Cond) ∈ lw_tbl := tb_3 (List.mem_of_getElem? (i := 200) rfl)
theorem nb_11 : (.castable "java/lang/IllegalStateException" "java/lang/IllegalStateException" : Cond) ∈ lw_tbl := tb_2 (List.mem_of_getElem? (i := 10) rfl)
theorem nb_12 : (.declares ⟨"java/lang/RuntimeException", "<init>", "()V"⟩ : Cond) ∈ lw_tbl := tb_2 (List.mem_of_getElem? (i := 11) rfl)
theorem nb_13 : (.declares ⟨"java/lang/Exception", "<init>", "()V"⟩ : Cond) ∈ lw_tbl := tb_2 (List.mem_of_getElem? (i := 13) rfl)
theorem nb_14 : (.declares ⟨"java/lang/Throwable", "<init>", "()V"⟩ : Cond) ∈ lw_tbl := tb_2 (List.mem_of_getElem? (i := 15) rfl)
theorem nb_15 : (.laysStatic "java/lang/Throwable" "UNASSIGNED_STACK" "[Ljava/lang/StackTraceElement;" : Cond) ∈ lw_tbl := tb_2 (List.mem_of_getElem? (i := 35) rfl)
theorem nb_16 : (.laysStatic "java/lang/Throwable" "SUPPRESSED_SENTINEL" "Ljava/util/List;" : Cond) ∈ lw_tbl := tb_2 (List.mem_of_getElem? (i := 37) rfl)
set_option maxHeartbeats 4000000 in
set_option maxRecDepth 100000 in
theorem whole_start (RR : hT → List (Nat × Nat) → Prop) (hRR : lawP RR) (h00 : ∀ fk : Nat → Int32, (∀ j, j < 25240 → fk j = (upd (fun _ => 0) (17 : Int32).toNatClampNeg 400) j) → RR (st0 fk) dom0) {p : Program} {e : Env} {s : State} {m : MethodId} {below : List Frame} {meth : Method} {c : Code} (l : Launch) (hfl : l.stackTraces = false) {b L : Nat} {xs : Nat → Int32} (hL : L ≤ 3072) (C0 : lw_At p s m meth c b L xs) : W p l e room_1 s m #[Value.ref b] below meth c s.heap [] 0 0 (lw_Z below #[Value.ref b] s) (entryFrame m ([Value.ref b] : List Value).toArray 7) := by
  obtain ⟨hx, hb, hr, hml, hown, htsT, hX, hbl, hlocks, hgv⟩ := C0
  have hts : ∀ w ∈ aw, w.before #[Value.ref b] s = true := fun w h => htsT w (List.mem_filter.mp h).1
  have hown : s.vm.findClass RL = some m.cls := hown
  have hG : eG s := ⟨va_Nw.of rfl (htsT _ nb_1), va_Nw.of rfl (htsT _ nb_2), va_Nw.of rfl (htsT _ nb_3), va_Nw.of rfl (htsT _ nb_4), va_Nw.of rfl (htsT _ nb_5), va_Nw.of rfl (htsT _ nb_6), va_AO.of (htsT _ nb_7), va_AO.of (htsT _ nb_8), va_AO.of (htsT _ nb_9)⟩
  have hsg := flat_of_before _ hgv
  have hXE : xE (fun q => s.heap.size ≤ q) s := ⟨va_Nw.of rfl (htsT _ nb_10), va_Nw.of rfl (htsT _ nb_11), va_Nw.of rfl (htsT _ nb_12), va_Nw.of rfl (htsT _ nb_13), va_Nw.of rfl (htsT _ nb_14), zA.of (fun a h => Nat.not_le.mpr h) (htsT _ nb_15) (hsg _ (by decide +kernel)), zA.of (fun a h => Nat.not_le.mpr h) (htsT _ nb_16) (hsg _ (by decide +kernel))⟩
  obtain ⟨c0, i0, hk0⟩ := u_known (C := RV) (T := TV) (N := 9) hts inV (hts _ wd_946)
  obtain ⟨c1, i1, hk1⟩ := u_known (C := RB) (T := TB) (N := 3) hts inB (hts _ wd_662)
  obtain ⟨c2, i2, hk2⟩ := u_known (C := RK) (T := TK) (N := 3) hts inK (hts _ wd_667)
  obtain ⟨c3, i3, hk3⟩ := u_known (C := RP) (T := TP) (N := 6) hts inP (hts _ wd_671)
  obtain ⟨c4, i4, hk4⟩ := u_known (C := RM) (T := TM) (N := 11) hts inM (hts _ wd_951)
  obtain ⟨c5, i5, hk5⟩ := u_known (C := RC) (T := TC) (N := 5) hts inC (hts _ wd_649)
  obtain ⟨c6, i6, hk6⟩ := u_known (C := RD) (T := TD) (N := 5) hts inD (hts _ wd_685)
  obtain ⟨c7, i7, hk7⟩ := u_known (C := RS) (T := TS) (N := 3) hts inS (hts _ wd_676)
  obtain ⟨dC, hdC⟩ : ∃ dC : Nat → ClassId, dC = fun k => match k with | 0 => c0 | 1 => c1 | 2 => c2 | 3 => c3 | 4 => c4 | 5 => c5 | 6 => c6 | _ => c7 := ⟨_, rfl⟩
  obtain ⟨dI, hdI⟩ : ∃ dI : Nat → Nat → Nat, dI = fun k => match k with | 0 => i0 | 1 => i1 | 2 => i2 | 3 => i3 | 4 => i4 | 5 => i5 | 6 => i6 | _ => i7 := ⟨_, rfl⟩
  have hK : va_K (dC, dI) kCl [] s := by
    refine ⟨fun k q hq => ?_, fun k q hq => by simp at hq⟩
    have hk5 : k < 8 := (List.getElem?_eq_some_iff.mp hq).1
    rcases (show k = 0 ∨ k = 1 ∨ k = 2 ∨ k = 3 ∨ k = 4 ∨ k = 5 ∨ k = 6 ∨ k = 7 by omega) with rfl | rfl | rfl | rfl | rfl | rfl | rfl | rfl <;> (cases hq; rw [hdC, hdI]; assumption)
  clear hdC hdI
  obtain ⟨A, hAd⟩ : ∃ A : Nat → Prop, A = fun q => s.heap.size ≤ q := ⟨_, rfl⟩
  have hA : ∀ q, s.heap.size ≤ q → A q := fun q h => by rw [hAd]; exact h
  have hA2 : ∀ q, A q → s.heap.size ≤ q := fun q h => by rw [hAd] at h; exact h
  have hbA : ¬ A b := fun h => absurd (hA2 b h) (Nat.not_le.mpr hbl)
  clear hAd
  obtain ⟨H, hH⟩ : ∃ H, H = s.heap := ⟨_, rfl⟩
  have hS : va_S A s.heap H [] := by rw [hH]; exact va_S.rf
  rw [← hH]
  have hP : va_P (dC, dI) kCl ([] : va_W) H := fun k q h => by simp at h
  have hD : va_D A ([] : va_W) := ⟨fun i j p q h => by simp at h, fun k q h => by simp at h⟩
  have hl := lv_entry ([.ref b]) (n := 7) (Nat.le_of_ble_eq_true rfl)
  rw [lg_entry_eq]
  generalize (lg_sl ([.ref b]) ++ List.replicate (7 - (lg_sl ([.ref b])).length) Slot.unset).toArray = ls at hl ⊢
  have hl : lv_has ls 7 [(0, .ref b)] := hl
  refine va_new (D := (dC, dI)) (cl := kCl) (pc := 0) (ci := 0) (fs := [.null, .null, .int 0, .int 0, .null, .null, .null, .null, .int 0]) (C := RV) (T := TV) (N := 9) hx hb hts inV tyV tyV_ok hown (hts _ wd_945) (hts _ wd_946) (hts _ wd_254) hK hP hD hS hA rfl (fun j hj => by rcases (show j = 0 ∨ j = 1 ∨ j = 2 ∨ j = 3 ∨ j = 4 ∨ j = 5 ∨ j = 6 ∨ j = 7 ∨ j = 8 by omega) with rfl | rfl | rfl | rfl | rfl | rfl | rfl | rfl | rfl <;> rfl) (Nat.le_of_ble_eq_true rfl) (Nat.le_of_ble_eq_true rfl) dL_law_0 (fun q1 H hP hD hS => ?_)
  have hP : va_P (dC, dI) kCl [(q1, .inr (0, [.null, .null, .int 0, .int 0, .null, .null, .null, .null, .int 0]))] H := hP
  have hD : va_D A [(q1, .inr (0, [.null, .null, .int 0, .int 0, .null, .null, .null, .null, .int 0]))] := hD
  have hK : va_K (dC, dI) kCl [] s := hK
  refine W.widen (k := 1) (n := 9) (Nat.le_of_ble_eq_true rfl) (Nat.le_of_ble_eq_true rfl) ?_
  refine lv_dup (pc := 3) hx hb dL_law_3 rfl ?_
  have hPc := hP.sub (ws' := [(q1, .inr (0, [.null, .null, .int 0, .int 0, .null, .null, .null, .null, .int 0]))]) [0] rfl
  have hDc := hD.sub (ws' := [(q1, .inr (0, [.null, .null, .int 0, .int 0, .null, .null, .null, .null, .int 0]))]) [0] (by decide) rfl
  have hKc := hK.sub (tys' := []) [] rfl
  have hFc := va_free (wc := [(q1, .inr (0, [.null, .null, .int 0, .int 0, .null, .null, .null, .null, .int 0]))]) hD hS hA [0] rfl
  refine va_callv (pc := 4) (va_runI (As := []) (rest := [.ref q1]) ⟨hx, hb, hml, hown, hts⟩ (gv_init l dC dI H.size q1) (cwI 0 hts (gI wd_947) rfl rfl rfl (hts _ wd_254) (hts _ wd_948) (hts _ wd_949) rfl (by decide +kernel) ⟨Nat.le_of_ble_eq_true rfl, Nat.le_of_ble_eq_true rfl⟩) ⟨pW_blind, pW_pre hPc hKc hDc hG⟩ rfl rfl hl.1 rfl (lv_room (Nat.le_of_ble_eq_true rfl)) dL_law_4 ⟨Nat.le_of_ble_eq_true rfl, Nat.le_of_ble_eq_true rfl⟩) hS (fun q _ h => hFc q h) hFc (fun u t H1 locs ht hvm hr3 hB hz1 hk1 hS => ?_)
  obtain ⟨rt4, dr5, bs6, df7, dv8, do99, ch10, cp11, cn12, pg13, cR14, cD15, cB16, cF17, cO18, cP19, cL20, hP1, hK1, hD1⟩ := hB
  rw [ht] at hP1
  have hK1 := va_K.moved hvm.symm hK1
  obtain ⟨hP, hD⟩ := va_join (wr := []) (w1 := [(q1, .inr (0, [.ref rt4, .ref dr5, .int 0, .int 0, .ref bs6, .ref df7, .ref ch10, .ref pg13, .int 0])), (rt4, .inl (cR14, 16, .inl (fun _ => 0))), (dr5, .inl (cD15, 24, .inr (.inr (.inr (.inr (fun _ => none)))))), (bs6, .inl (cB16, 10, .inr (.inr (.inr (.inr (fun _ => none)))))), (df7, .inr (1, [.ref dv8, .ref do99, .int 0])), (dv8, .inl (cF17, 24, .inl (c_fl (fun _ => 0) (-1) 24))), (do99, .inl (cO18, 24, .inl (fun _ => 0))), (ch10, .inr (2, [.ref cp11, .ref cn12, .int 0])), (cp11, .inl (cP19, 992, .inr (.inl (fun _ => 0)))), (cn12, .inl (cL20, 992, .inl (fun _ => 0))), (pg13, .inr (3, [.int 400, .int 0, .int 0, .int 0, .int 0, .int 0]))]) hP hD [0] [] rfl rfl (by decide) (by decide) hk1 hFc hP1 hD1
  generalize H1 = H at hP hS ⊢
  have hK := hK.app hK1
  have hK : va_K (dC, dI) kCl [(cR14, .int), (cD15, .object "DrawingVault$Drawing"), (cB16, .object "DrawingVault$Baseline"), (cF17, .int), (cO18, .int), (cP19, .long), (cL20, .byte)] s := hK
  have hP : va_P (dC, dI) kCl [(q1, .inr (0, [.ref rt4, .ref dr5, .int 0, .int 0, .ref bs6, .ref df7, .ref ch10, .ref pg13, .int 0])), (rt4, .inl (cR14, 16, .inl (fun _ => 0))), (dr5, .inl (cD15, 24, .inr (.inr (.inr (.inr (fun _ => none)))))), (bs6, .inl (cB16, 10, .inr (.inr (.inr (.inr (fun _ => none)))))), (df7, .inr (1, [.ref dv8, .ref do99, .int 0])), (dv8, .inl (cF17, 24, .inl (c_fl (fun _ => 0) (-1) 24))), (do99, .inl (cO18, 24, .inl (fun _ => 0))), (ch10, .inr (2, [.ref cp11, .ref cn12, .int 0])), (cp11, .inl (cP19, 992, .inr (.inl (fun _ => 0)))), (cn12, .inl (cL20, 992, .inl (fun _ => 0))), (pg13, .inr (3, [.int 400, .int 0, .int 0, .int 0, .int 0, .int 0]))] H := hP
  have hD : va_D A [(q1, .inr (0, [.ref rt4, .ref dr5, .int 0, .int 0, .ref bs6, .ref df7, .ref ch10, .ref pg13, .int 0])), (rt4, .inl (cR14, 16, .inl (fun _ => 0))), (dr5, .inl (cD15, 24, .inr (.inr (.inr (.inr (fun _ => none)))))), (bs6, .inl (cB16, 10, .inr (.inr (.inr (.inr (fun _ => none)))))), (df7, .inr (1, [.ref dv8, .ref do99, .int 0])), (dv8, .inl (cF17, 24, .inl (c_fl (fun _ => 0) (-1) 24))), (do99, .inl (cO18, 24, .inl (fun _ => 0))), (ch10, .inr (2, [.ref cp11, .ref cn12, .int 0])), (cp11, .inl (cP19, 992, .inr (.inl (fun _ => 0)))), (cn12, .inl (cL20, 992, .inl (fun _ => 0))), (pg13, .inr (3, [.int 400, .int 0, .int 0, .int 0, .int 0, .int 0]))] := hD
  refine W.widen (k := 11) (n := 2103) (Nat.le_of_ble_eq_true rfl) (Nat.le_of_ble_eq_true rfl) ?_
  refine lv_astore_n (pc := 7) hx hb dL_law_7 rfl hl (by decide) rfl (fun ls hl => ?_)
  have hl : lv_has ls 7 [(1, .ref q1), (0, .ref b)] := hl
  refine va_new (D := (dC, dI)) (cl := kCl) (pc := 8) (ci := 4) (fs := [.int 0, .int 0, .null, .null, .int 0, .int 0, .null, .null, .int 0, .int 0, .null]) (C := RM) (T := TM) (N := 11) hx hb hts inM tyM tyM_ok hown (hts _ wd_950) (hts _ wd_951) (hts _ wd_50) hK hP hD hS hA rfl (fun j hj => by rcases (show j = 0 ∨ j = 1 ∨ j = 2 ∨ j = 3 ∨ j = 4 ∨ j = 5 ∨ j = 6 ∨ j = 7 ∨ j = 8 ∨ j = 9 ∨ j = 10 by omega) with rfl | rfl | rfl | rfl | rfl | rfl | rfl | rfl | rfl | rfl | rfl <;> rfl) (Nat.le_of_ble_eq_true rfl) (Nat.le_of_ble_eq_true rfl) dL_law_8 (fun q22 H hP hD hS => ?_)
  have hP : va_P (dC, dI) kCl [(q1, .inr (0, [.ref rt4, .ref dr5, .int 0, .int 0, .ref bs6, .ref df7, .ref ch10, .ref pg13, .int 0])), (rt4, .inl (cR14, 16, .inl (fun _ => 0))), (dr5, .inl (cD15, 24, .inr (.inr (.inr (.inr (fun _ => none)))))), (bs6, .inl (cB16, 10, .inr (.inr (.inr (.inr (fun _ => none)))))), (df7, .inr (1, [.ref dv8, .ref do99, .int 0])), (dv8, .inl (cF17, 24, .inl (c_fl (fun _ => 0) (-1) 24))), (do99, .inl (cO18, 24, .inl (fun _ => 0))), (ch10, .inr (2, [.ref cp11, .ref cn12, .int 0])), (cp11, .inl (cP19, 992, .inr (.inl (fun _ => 0)))), (cn12, .inl (cL20, 992, .inl (fun _ => 0))), (pg13, .inr (3, [.int 400, .int 0, .int 0, .int 0, .int 0, .int 0])), (q22, .inr (4, [.int 0, .int 0, .null, .null, .int 0, .int 0, .null, .null, .int 0, .int 0, .null]))] H := hP
  have hD : va_D A [(q1, .inr (0, [.ref rt4, .ref dr5, .int 0, .int 0, .ref bs6, .ref df7, .ref ch10, .ref pg13, .int 0])), (rt4, .inl (cR14, 16, .inl (fun _ => 0))), (dr5, .inl (cD15, 24, .inr (.inr (.inr (.inr (fun _ => none)))))), (bs6, .inl (cB16, 10, .inr (.inr (.inr (.inr (fun _ => none)))))), (df7, .inr (1, [.ref dv8, .ref do99, .int 0])), (dv8, .inl (cF17, 24, .inl (c_fl (fun _ => 0) (-1) 24))), (do99, .inl (cO18, 24, .inl (fun _ => 0))), (ch10, .inr (2, [.ref cp11, .ref cn12, .int 0])), (cp11, .inl (cP19, 992, .inr (.inl (fun _ => 0)))), (cn12, .inl (cL20, 992, .inl (fun _ => 0))), (pg13, .inr (3, [.int 400, .int 0, .int 0, .int 0, .int 0, .int 0])), (q22, .inr (4, [.int 0, .int 0, .null, .null, .int 0, .int 0, .null, .null, .int 0, .int 0, .null]))] := hD
  have hK : va_K (dC, dI) kCl [(cR14, .int), (cD15, .object "DrawingVault$Drawing"), (cB16, .object "DrawingVault$Baseline"), (cF17, .int), (cO18, .int), (cP19, .long), (cL20, .byte)] s := hK
  refine W.widen (k := 12) (n := 2114) (Nat.le_of_ble_eq_true rfl) (Nat.le_of_ble_eq_true rfl) ?_
  refine lv_dup (pc := 11) hx hb dL_law_11 rfl ?_
  have hPc := hP.sub (ws' := [(q22, .inr (4, [.int 0, .int 0, .null, .null, .int 0, .int 0, .null, .null, .int 0, .int 0, .null]))]) [11] rfl
  have hDc := hD.sub (ws' := [(q22, .inr (4, [.int 0, .int 0, .null, .null, .int 0, .int 0, .null, .null, .int 0, .int 0, .null]))]) [11] (by decide) rfl
  have hKc := hK.sub (tys' := []) [] rfl
  have hFc := va_free (wc := [(q22, .inr (4, [.int 0, .int 0, .null, .null, .int 0, .int 0, .null, .null, .int 0, .int 0, .null]))]) hD hS hA [11] rfl
  refine va_callv (pc := 12) (va_runI (As := []) (rest := [.ref q22]) ⟨hx, hb, hml, hown, hts⟩ (gmo_init l dC dI H.size q22) (cwI 0 hts (gI wd_952) rfl rfl rfl (hts _ wd_50) (hts _ wd_953) (hts _ wd_954) rfl (by decide +kernel) ⟨Nat.le_of_ble_eq_true rfl, Nat.le_of_ble_eq_true rfl⟩) ⟨pW_blind, pW_pre hPc hKc hDc hG⟩ rfl rfl hl.1 rfl (lv_room (Nat.le_of_ble_eq_true rfl)) dL_law_12 ⟨Nat.le_of_ble_eq_true rfl, Nat.le_of_ble_eq_true rfl⟩) hS (fun q _ h => hFc q h) hFc (fun u t H1 locs ht hvm hr24 hB hz1 hk1 hS => ?_)
  obtain ⟨nw25, kp26, mk27, co28, se29, cN30, cK31, cM32, cC33, cS34, fk35, hfc36, hP1, hK1, hD1⟩ := hB
  rw [ht] at hP1
  have hK1 := va_K.moved hvm.symm hK1
  obtain ⟨hP, hD⟩ := va_join (wr := [(q1, .inr (0, [.ref rt4, .ref dr5, .int 0, .int 0, .ref bs6, .ref df7, .ref ch10, .ref pg13, .int 0])), (rt4, .inl (cR14, 16, .inl (fun _ => 0))), (dr5, .inl (cD15, 24, .inr (.inr (.inr (.inr (fun _ => none)))))), (bs6, .inl (cB16, 10, .inr (.inr (.inr (.inr (fun _ => none)))))), (df7, .inr (1, [.ref dv8, .ref do99, .int 0])), (dv8, .inl (cF17, 24, .inl (c_fl (fun _ => 0) (-1) 24))), (do99, .inl (cO18, 24, .inl (fun _ => 0))), (ch10, .inr (2, [.ref cp11, .ref cn12, .int 0])), (cp11, .inl (cP19, 992, .inr (.inl (fun _ => 0)))), (cn12, .inl (cL20, 992, .inl (fun _ => 0))), (pg13, .inr (3, [.int 400, .int 0, .int 0, .int 0, .int 0, .int 0]))]) (w1 := [(q22, .inr (4, [.int 0, .int 0, .ref nw25, .ref kp26, .int 0, .int (-1), .ref mk27, .ref co28, .int 0, .int 0, .ref se29])), (nw25, .inl (cN30, 25240, .inl (upd (fun _ => 0) (17 : Int32).toNatClampNeg 400))), (kp26, .inl (cK31, 25240, .inl fk35)), (mk27, .inl (cM32, 24, .inl (fun _ => 0))), (co28, .inl (cC33, 24, .inl (fun _ => 0))), (se29, .inl (cS34, 288, .inl (fun _ => 0)))]) hP hD [11] [0, 1, 2, 3, 4, 5, 6, 7, 8, 9, 10] rfl rfl (by decide) (by decide) hk1 hFc hP1 hD1
  generalize H1 = H at hP hS ⊢
  have hK := hK.app hK1
  have hK : va_K (dC, dI) kCl [(cR14, .int), (cD15, .object "DrawingVault$Drawing"), (cB16, .object "DrawingVault$Baseline"), (cF17, .int), (cO18, .int), (cP19, .long), (cL20, .byte), (cN30, .int), (cK31, .int), (cM32, .boolean), (cC33, .int), (cS34, .boolean)] s := hK
  have hP : va_P (dC, dI) kCl [(q1, .inr (0, [.ref rt4, .ref dr5, .int 0, .int 0, .ref bs6, .ref df7, .ref ch10, .ref pg13, .int 0])), (rt4, .inl (cR14, 16, .inl (fun _ => 0))), (dr5, .inl (cD15, 24, .inr (.inr (.inr (.inr (fun _ => none)))))), (bs6, .inl (cB16, 10, .inr (.inr (.inr (.inr (fun _ => none)))))), (df7, .inr (1, [.ref dv8, .ref do99, .int 0])), (dv8, .inl (cF17, 24, .inl (c_fl (fun _ => 0) (-1) 24))), (do99, .inl (cO18, 24, .inl (fun _ => 0))), (ch10, .inr (2, [.ref cp11, .ref cn12, .int 0])), (cp11, .inl (cP19, 992, .inr (.inl (fun _ => 0)))), (cn12, .inl (cL20, 992, .inl (fun _ => 0))), (pg13, .inr (3, [.int 400, .int 0, .int 0, .int 0, .int 0, .int 0])), (q22, .inr (4, [.int 0, .int 0, .ref nw25, .ref kp26, .int 0, .int (-1), .ref mk27, .ref co28, .int 0, .int 0, .ref se29])), (nw25, .inl (cN30, 25240, .inl (upd (fun _ => 0) (17 : Int32).toNatClampNeg 400))), (kp26, .inl (cK31, 25240, .inl fk35)), (mk27, .inl (cM32, 24, .inl (fun _ => 0))), (co28, .inl (cC33, 24, .inl (fun _ => 0))), (se29, .inl (cS34, 288, .inl (fun _ => 0)))] H := hP
  have hD : va_D A [(q1, .inr (0, [.ref rt4, .ref dr5, .int 0, .int 0, .ref bs6, .ref df7, .ref ch10, .ref pg13, .int 0])), (rt4, .inl (cR14, 16, .inl (fun _ => 0))), (dr5, .inl (cD15, 24, .inr (.inr (.inr (.inr (fun _ => none)))))), (bs6, .inl (cB16, 10, .inr (.inr (.inr (.inr (fun _ => none)))))), (df7, .inr (1, [.ref dv8, .ref do99, .int 0])), (dv8, .inl (cF17, 24, .inl (c_fl (fun _ => 0) (-1) 24))), (do99, .inl (cO18, 24, .inl (fun _ => 0))), (ch10, .inr (2, [.ref cp11, .ref cn12, .int 0])), (cp11, .inl (cP19, 992, .inr (.inl (fun _ => 0)))), (cn12, .inl (cL20, 992, .inl (fun _ => 0))), (pg13, .inr (3, [.int 400, .int 0, .int 0, .int 0, .int 0, .int 0])), (q22, .inr (4, [.int 0, .int 0, .ref nw25, .ref kp26, .int 0, .int (-1), .ref mk27, .ref co28, .int 0, .int 0, .ref se29])), (nw25, .inl (cN30, 25240, .inl (upd (fun _ => 0) (17 : Int32).toNatClampNeg 400))), (kp26, .inl (cK31, 25240, .inl fk35)), (mk27, .inl (cM32, 24, .inl (fun _ => 0))), (co28, .inl (cC33, 24, .inl (fun _ => 0))), (se29, .inl (cS34, 288, .inl (fun _ => 0)))] := hD
  refine W.widen (k := 17) (n := 52930) (Nat.le_of_ble_eq_true rfl) (Nat.le_of_ble_eq_true rfl) ?_
  refine lv_astore_n (pc := 15) hx hb dL_law_15 rfl hl (by decide) rfl (fun ls hl => ?_)
  have hl : lv_has ls 7 [(2, .ref q22), (1, .ref q1), (0, .ref b)] := hl
  refine lv_iconst (pc := 16) (v := 1) hx hb dL_law_16 (by decide) ?_
  refine va_newa (atype := .long) (D := (dC, dI)) (cl := kCl) (pc := 17) (ty := .long) (n := 1) (N' := 1) (a0 := (1, .inr (.inl (fun _ => 0)))) hx hb (hts _ wd_641) rfl hK hP hD hS hA (fun cA => rfl) (by decide) (by decide) (by decide) (Nat.le_of_ble_eq_true rfl) (Nat.le_of_ble_eq_true rfl) dL_law_17 (fun q37 cA38 H hK hP hD hS => ?_)
  have hP : va_P (dC, dI) kCl [(q1, .inr (0, [.ref rt4, .ref dr5, .int 0, .int 0, .ref bs6, .ref df7, .ref ch10, .ref pg13, .int 0])), (rt4, .inl (cR14, 16, .inl (fun _ => 0))), (dr5, .inl (cD15, 24, .inr (.inr (.inr (.inr (fun _ => none)))))), (bs6, .inl (cB16, 10, .inr (.inr (.inr (.inr (fun _ => none)))))), (df7, .inr (1, [.ref dv8, .ref do99, .int 0])), (dv8, .inl (cF17, 24, .inl (c_fl (fun _ => 0) (-1) 24))), (do99, .inl (cO18, 24, .inl (fun _ => 0))), (ch10, .inr (2, [.ref cp11, .ref cn12, .int 0])), (cp11, .inl (cP19, 992, .inr (.inl (fun _ => 0)))), (cn12, .inl (cL20, 992, .inl (fun _ => 0))), (pg13, .inr (3, [.int 400, .int 0, .int 0, .int 0, .int 0, .int 0])), (q22, .inr (4, [.int 0, .int 0, .ref nw25, .ref kp26, .int 0, .int (-1), .ref mk27, .ref co28, .int 0, .int 0, .ref se29])), (nw25, .inl (cN30, 25240, .inl (upd (fun _ => 0) (17 : Int32).toNatClampNeg 400))), (kp26, .inl (cK31, 25240, .inl fk35)), (mk27, .inl (cM32, 24, .inl (fun _ => 0))), (co28, .inl (cC33, 24, .inl (fun _ => 0))), (se29, .inl (cS34, 288, .inl (fun _ => 0))), (q37, .inl (cA38, 1, .inr (.inl (fun _ => 0))))] H := hP
  have hD : va_D A [(q1, .inr (0, [.ref rt4, .ref dr5, .int 0, .int 0, .ref bs6, .ref df7, .ref ch10, .ref pg13, .int 0])), (rt4, .inl (cR14, 16, .inl (fun _ => 0))), (dr5, .inl (cD15, 24, .inr (.inr (.inr (.inr (fun _ => none)))))), (bs6, .inl (cB16, 10, .inr (.inr (.inr (.inr (fun _ => none)))))), (df7, .inr (1, [.ref dv8, .ref do99, .int 0])), (dv8, .inl (cF17, 24, .inl (c_fl (fun _ => 0) (-1) 24))), (do99, .inl (cO18, 24, .inl (fun _ => 0))), (ch10, .inr (2, [.ref cp11, .ref cn12, .int 0])), (cp11, .inl (cP19, 992, .inr (.inl (fun _ => 0)))), (cn12, .inl (cL20, 992, .inl (fun _ => 0))), (pg13, .inr (3, [.int 400, .int 0, .int 0, .int 0, .int 0, .int 0])), (q22, .inr (4, [.int 0, .int 0, .ref nw25, .ref kp26, .int 0, .int (-1), .ref mk27, .ref co28, .int 0, .int 0, .ref se29])), (nw25, .inl (cN30, 25240, .inl (upd (fun _ => 0) (17 : Int32).toNatClampNeg 400))), (kp26, .inl (cK31, 25240, .inl fk35)), (mk27, .inl (cM32, 24, .inl (fun _ => 0))), (co28, .inl (cC33, 24, .inl (fun _ => 0))), (se29, .inl (cS34, 288, .inl (fun _ => 0))), (q37, .inl (cA38, 1, .inr (.inl (fun _ => 0))))] := hD
  have hK : va_K (dC, dI) kCl [(cR14, .int), (cD15, .object "DrawingVault$Drawing"), (cB16, .object "DrawingVault$Baseline"), (cF17, .int), (cO18, .int), (cP19, .long), (cL20, .byte), (cN30, .int), (cK31, .int), (cM32, .boolean), (cC33, .int), (cS34, .boolean), (cA38, .long)] s := hK
  refine W.widen (k := 18) (n := 52931) (Nat.le_of_ble_eq_true rfl) (Nat.le_of_ble_eq_true rfl) ?_
  refine lv_astore_n (pc := 19) hx hb dL_law_19 rfl hl (by decide) rfl (fun ls hl => ?_)
  have hl : lv_has ls 7 [(3, .ref q37), (2, .ref q22), (1, .ref q1), (0, .ref b)] := hl
  refine lv_iconst (pc := 20) (v := 0) hx hb dL_law_20 (by decide) ?_
  refine lv_istore (pc := 21) hx hb dL_law_21 hl (by decide) rfl (fun ls hl => ?_)
  have hl : lv_has ls 7 [(4, .int 0), (3, .ref q37), (2, .ref q22), (1, .ref q1), (0, .ref b)] := hl
  obtain ⟨ad, had⟩ : ∃ ad : Nat → Nat → Nat, ad = fun κ _ => match κ with
    | 0 => q1
    | 8 => rt4
    | 9 => dr5
    | 10 => bs6
    | 1 => df7
    | 11 => dv8
    | 12 => do99
    | 2 => ch10
    | 13 => cp11
    | 14 => cn12
    | 3 => pg13
    | 4 => q22
    | 15 => nw25
    | 16 => kp26
    | 17 => mk27
    | 18 => co28
    | 19 => se29
    | 24 => q37
    | _ => 0 := ⟨_, rfl⟩
  obtain ⟨ca, hca⟩ : ∃ ca : Nat → Nat → ClassId, ca = fun κ _ => match κ with
    | 8 => cR14
    | 9 => cD15
    | 10 => cB16
    | 11 => cF17
    | 12 => cO18
    | 13 => cP19
    | 14 => cL20
    | 15 => cN30
    | 16 => cK31
    | 17 => cM32
    | 18 => cC33
    | 19 => cS34
    | 24 => cA38
    | _ => c0 := ⟨_, rfl⟩
  have hw : w9 ad ca dom0 (st0 fk35) = [(q1, .inr (0, [.ref rt4, .ref dr5, .int 0, .int 0, .ref bs6, .ref df7, .ref ch10, .ref pg13, .int 0])), (rt4, .inl (cR14, 16, .inl (fun _ => 0))), (dr5, .inl (cD15, 24, .inr (.inr (.inr (.inr (fun _ => none)))))), (bs6, .inl (cB16, 10, .inr (.inr (.inr (.inr (fun _ => none)))))), (df7, .inr (1, [.ref dv8, .ref do99, .int 0])), (dv8, .inl (cF17, 24, .inl (c_fl (fun _ => 0) (-1) 24))), (do99, .inl (cO18, 24, .inl (fun _ => 0))), (ch10, .inr (2, [.ref cp11, .ref cn12, .int 0])), (cp11, .inl (cP19, 992, .inr (.inl (fun _ => 0)))), (cn12, .inl (cL20, 992, .inl (fun _ => 0))), (pg13, .inr (3, [.int 400, .int 0, .int 0, .int 0, .int 0, .int 0])), (q22, .inr (4, [.int 0, .int 0, .ref nw25, .ref kp26, .int 0, .int (-1), .ref mk27, .ref co28, .int 0, .int 0, .ref se29])), (nw25, .inl (cN30, 25240, .inl (upd (fun _ => 0) (17 : Int32).toNatClampNeg 400))), (kp26, .inl (cK31, 25240, .inl fk35)), (mk27, .inl (cM32, 24, .inl (fun _ => 0))), (co28, .inl (cC33, 24, .inl (fun _ => 0))), (se29, .inl (cS34, 288, .inl (fun _ => 0))), (q37, .inl (cA38, 1, .inr (.inl (fun _ => 0))))] := by rw [had, hca]; rfl
  have hKt : hkt (dC, dI) ca dom0 s := by
    refine ⟨hK.sub [] rfl, fun κ j ty h ht => ?_⟩
    simp only [dom0, List.mem_cons, List.not_mem_nil, or_false, Prod.mk.injEq] at h
    rcases h with ⟨rfl, rfl⟩ | ⟨rfl, rfl⟩ | ⟨rfl, rfl⟩ | ⟨rfl, rfl⟩ | ⟨rfl, rfl⟩ | ⟨rfl, rfl⟩ | ⟨rfl, rfl⟩ | ⟨rfl, rfl⟩ | ⟨rfl, rfl⟩ | ⟨rfl, rfl⟩ | ⟨rfl, rfl⟩ | ⟨rfl, rfl⟩ | ⟨rfl, rfl⟩ | ⟨rfl, rfl⟩ | ⟨rfl, rfl⟩ | ⟨rfl, rfl⟩ | ⟨rfl, rfl⟩ | ⟨rfl, rfl⟩
    · exact nomatch ht
    · have e8 : ty = .int := (Option.some.inj ht).symm
      have e9 : ca 8 0 = cR14 := by rw [hca]; rfl
      rw [e9, e8]; exact hK.sub [0] rfl
    · have e8 : ty = .object "DrawingVault$Drawing" := (Option.some.inj ht).symm
      have e9 : ca 9 0 = cD15 := by rw [hca]; rfl
      rw [e9, e8]; exact hK.sub [1] rfl
    · have e8 : ty = .object "DrawingVault$Baseline" := (Option.some.inj ht).symm
      have e9 : ca 10 0 = cB16 := by rw [hca]; rfl
      rw [e9, e8]; exact hK.sub [2] rfl
    · exact nomatch ht
    · have e8 : ty = .int := (Option.some.inj ht).symm
      have e9 : ca 11 0 = cF17 := by rw [hca]; rfl
      rw [e9, e8]; exact hK.sub [3] rfl
    · have e8 : ty = .int := (Option.some.inj ht).symm
      have e9 : ca 12 0 = cO18 := by rw [hca]; rfl
      rw [e9, e8]; exact hK.sub [4] rfl
    · exact nomatch ht
    · have e8 : ty = .long := (Option.some.inj ht).symm
      have e9 : ca 13 0 = cP19 := by rw [hca]; rfl
      rw [e9, e8]; exact hK.sub [5] rfl
    · have e8 : ty = .byte := (Option.some.inj ht).symm
      have e9 : ca 14 0 = cL20 := by rw [hca]; rfl
      rw [e9, e8]; exact hK.sub [6] rfl
    · exact nomatch ht
    · exact nomatch ht
    · have e8 : ty = .int := (Option.some.inj ht).symm
      have e9 : ca 15 0 = cN30 := by rw [hca]; rfl
      rw [e9, e8]; exact hK.sub [7] rfl
    · have e8 : ty = .int := (Option.some.inj ht).symm
      have e9 : ca 16 0 = cK31 := by rw [hca]; rfl
      rw [e9, e8]; exact hK.sub [8] rfl
    · have e8 : ty = .boolean := (Option.some.inj ht).symm
      have e9 : ca 17 0 = cM32 := by rw [hca]; rfl
      rw [e9, e8]; exact hK.sub [9] rfl
    · have e8 : ty = .int := (Option.some.inj ht).symm
      have e9 : ca 18 0 = cC33 := by rw [hca]; rfl
      rw [e9, e8]; exact hK.sub [10] rfl
    · have e8 : ty = .boolean := (Option.some.inj ht).symm
      have e9 : ca 19 0 = cS34 := by rw [hca]; rfl
      rw [e9, e8]; exact hK.sub [11] rfl
    · have e8 : ty = .long := (Option.some.inj ht).symm
      have e9 : ca 24 0 = cA38 := by rw [hca]; rfl
      rw [e9, e8]; exact hK.sub [12] rfl
  have hCl : clo dom0 (st0 fk35).2.2 := by
    refine ⟨?_, ?_, ?_, ?_, ?_, ?_, ?_, ?_, ?_, ?_, ?_, ?_, ?_, ?_, ?_, ?_, ?_, ?_, ?_, ?_, ?_, ?_, ?_, ?_, ?_⟩
    · intro j h; simp [dom0] at h ⊢ <;> omega
    · intro j h; simp [dom0] at h ⊢ <;> omega
    · intro j h; simp [dom0] at h ⊢ <;> omega
    · intro j b h hb; simp [st0] at hb; subst hb; simp [dom0]
    · intro j h; simp [dom0] at h ⊢ <;> omega
    · intro j h; simp [dom0] at h ⊢ <;> omega
    · intro j h; simp [dom0] at h ⊢ <;> omega
    · intro j h; simp [dom0] at h ⊢ <;> omega
    · intro j h; simp [dom0] at h ⊢ <;> omega
    · intro j h; simp [dom0] at h ⊢ <;> omega
    · intro j h; simp [dom0] at h ⊢ <;> omega
    · intro j h; simp [dom0] at h ⊢ <;> omega
    · intro j h; simp [dom0] at h ⊢ <;> omega
    · intro j h; simp [dom0] at h ⊢ <;> omega
    · intro j h; simp [dom0] at h ⊢ <;> omega
    · intro j h; simp [dom0] at h ⊢ <;> omega
    · intro j h; simp [dom0] at h ⊢ <;> omega
    · intro j h; simp [dom0] at h ⊢ <;> omega
    · intro j h; simp [dom0] at h ⊢ <;> omega
    · intro j h; simp [dom0] at h ⊢ <;> omega
    · intro j h; simp [dom0] at h ⊢ <;> omega
    · intro j h; simp [dom0] at h ⊢ <;> omega
    · intro j k b h hb; simp [st0] at hb
    · intro j k b h hb; simp [st0] at hb
    · intro j k b h hb; simp [st0] at hb
  rw [← hw] at hP hD
  have hl : lv_has ls 7 [(4, .int (nI (6 * 0))), (3, .ref (ad 24 0)), (2, .ref (ad 4 0)), (1, .ref (ad 0 0)), (0, .ref b)] := by rw [had]; exact hl
  exact law_loop hfl ⟨hx, hb, hr, hml, hown, hts, hX, hbl, hbA, hlocks, hA, hA2, hG, hXE⟩ hL RR hRR L 0 (by omega) (by omega) ad ca dom0 (st0 fk35) H _ ls (h00 fk35 hfc36) (by simp [dom0]) (by simp [dom0]) (by simp [dom0]) (by simp [dom0]) hCl hP hD hKt hS hl
