set_option maxHeartbeats 4000000 in
set_option maxRecDepth 100000 in
theorem whole_start {p : Program} {e : Env} {s : State} {m : MethodId} {below : List Frame} {meth : Method} {c : Code} (l : Launch) (hfl : l.stackTraces = false) {b L : Nat} {xs : Nat → Int32} (hL : L ≤ 6) (C0 : lw_At p s m meth c b L xs) : W p l e room_1 s m #[Value.ref b] below meth c s.heap [] 0 0 (lw_Z below #[Value.ref b] s) (entryFrame m ([Value.ref b] : List Value).toArray 7) := by
  obtain ⟨hx, hb, hr, hml, hown, htsT, hX, hbl, hlocks, hgv⟩ := C0
  have hts : ∀ w ∈ aw, w.before #[Value.ref b] s = true := fun w h => htsT w (List.mem_filter.mp h).1
  have hown : s.vm.findClass RL = some m.cls := hown
  have hE : eV s := ⟨va_Nw.of rfl (htsT _ nb_1), va_Nw.of rfl (htsT _ nb_2), va_AO.of (htsT _ nb_3), va_AO.of (htsT _ nb_4)⟩
  have hsg := flat_of_before _ hgv
  have hXE : xE s := ⟨va_Nw.of rfl (htsT _ nb_5), va_Nw.of rfl (htsT _ nb_6), va_Nw.of rfl (htsT _ nb_7), va_Nw.of rfl (htsT _ nb_8), zS.of (htsT _ nb_9) (hsg _ (by decide +kernel)), zS.of (htsT _ nb_10) (hsg _ (by decide +kernel))⟩
  obtain ⟨c0, i0, hk0⟩ := u_known (C := RV) (T := TV) (N := 9) hts inV (hts _ wd_393)
  obtain ⟨c1, i1, hk1⟩ := u_known (C := RB) (T := TB) (N := 3) hts inB (hts _ wd_241)
  obtain ⟨c2, i2, hk2⟩ := u_known (C := RK) (T := TK) (N := 3) hts inK (hts _ wd_248)
  obtain ⟨c3, i3, hk3⟩ := u_known (C := RP) (T := TP) (N := 6) hts inP (hts _ wd_252)
  obtain ⟨c4, i4, hk4⟩ := u_known (C := RM) (T := TM) (N := 11) hts inM (hts _ wd_398)
  obtain ⟨dC, hdC⟩ : ∃ dC : Nat → ClassId, dC = fun k => match k with | 0 => c0 | 1 => c1 | 2 => c2 | 3 => c3 | _ => c4 := ⟨_, rfl⟩
  obtain ⟨dI, hdI⟩ : ∃ dI : Nat → Nat → Nat, dI = fun k => match k with | 0 => i0 | 1 => i1 | 2 => i2 | 3 => i3 | _ => i4 := ⟨_, rfl⟩
  have hK : va_K (dC, dI) kCl [] s := by
    refine ⟨fun k q hq => ?_, fun k q hq => by simp at hq⟩
    have hk5 : k < 5 := (List.getElem?_eq_some_iff.mp hq).1
    rcases (show k = 0 ∨ k = 1 ∨ k = 2 ∨ k = 3 ∨ k = 4 by omega) with rfl | rfl | rfl | rfl | rfl <;> (cases hq; rw [hdC, hdI]; assumption)
  clear hdC hdI
  obtain ⟨A, hAd⟩ : ∃ A : Nat → Prop, A = fun q => s.heap.size ≤ q := ⟨_, rfl⟩
  have hA : ∀ q, s.heap.size ≤ q → A q := fun q h => by rw [hAd]; exact h
  have hA2 : ∀ q, A q → s.heap.size ≤ q := fun q h => by rw [hAd] at h; exact h
  have hbA : ¬ A b := fun h => absurd (hA2 b h) (Nat.not_le.mpr hbl)
  clear hAd
  obtain ⟨H, hH⟩ : ∃ H, H = s.heap := ⟨_, rfl⟩
  have hS : va_S A s.heap H [] := by rw [hH]; exact va_S.rf
  rw [← hH]
  have hP : va_P (dC, dI) kCl ([] : va_W) H := va_nil
  have hD : va_D A ([] : va_W) := va_nilD
  have hl := lv_entry ([.ref b]) (n := 7) (Nat.le_of_ble_eq_true rfl)
  rw [lg_entry_eq]
  generalize (lg_sl ([.ref b]) ++ List.replicate (7 - (lg_sl ([.ref b])).length) Slot.unset).toArray = ls at hl ⊢
  have hl : lv_has ls 7 [(0, .ref b)] := hl
  refine va_new (D := (dC, dI)) (cl := kCl) (pc := 0) (ci := 0) (fs := [.null, .null, .int 0, .int 0, .null, .null, .null, .null, .int 0]) (C := RV) (T := TV) (N := 9) hx hb hts inV tyV tyV_ok hown (hts _ wd_392) (hts _ wd_393) (hts _ wd_35) hK hP hD hS hA rfl (fun j hj => by rcases (show j = 0 ∨ j = 1 ∨ j = 2 ∨ j = 3 ∨ j = 4 ∨ j = 5 ∨ j = 6 ∨ j = 7 ∨ j = 8 by omega) with rfl | rfl | rfl | rfl | rfl | rfl | rfl | rfl | rfl <;> rfl) (Nat.le_of_ble_eq_true rfl) (Nat.le_of_ble_eq_true rfl) dL_law_0 (fun q1 H hP hD hS => ?_)
  have hP : va_P (dC, dI) kCl [(q1, .inr (0, [.null, .null, .int 0, .int 0, .null, .null, .null, .null, .int 0]))] H := hP
  have hD : va_D A [(q1, .inr (0, [.null, .null, .int 0, .int 0, .null, .null, .null, .null, .int 0]))] := hD
  have hK : va_K (dC, dI) kCl [] s := hK
  refine W.widen (k := 1) (n := 9) (Nat.le_of_ble_eq_true rfl) (Nat.le_of_ble_eq_true rfl) ?_
  refine lv_dup (pc := 3) hx hb dL_law_3 rfl ?_
  have hPc := hP.sub (ws' := [(q1, .inr (0, [.null, .null, .int 0, .int 0, .null, .null, .null, .null, .int 0]))]) [0] rfl
  have hDc := hD.sub (ws' := [(q1, .inr (0, [.null, .null, .int 0, .int 0, .null, .null, .null, .null, .int 0]))]) [0] (by decide) rfl
  have hKc := hK.sub (tys' := []) [] rfl
  have hFc := va_free (wc := [(q1, .inr (0, [.null, .null, .int 0, .int 0, .null, .null, .null, .null, .int 0]))]) hD hS hA [0] rfl
  refine va_callv (pc := 4) (va_runI (As := []) (rest := [.ref q1]) ⟨hx, hb, hml, hown, hts⟩ (v_init l dC dI H.size q1) (cwI 0 hts (gI wd_394) rfl rfl rfl (hts _ wd_35) (hts _ wd_395) (hts _ wd_396) rfl (by decide +kernel) ⟨Nat.le_of_ble_eq_true rfl, Nat.le_of_ble_eq_true rfl⟩) ⟨pWx_blind (fun u U h => eV_same h), pWx_pre hPc hKc hDc (fun U hW => eV_warm hW hE)⟩ rfl rfl hl.1 rfl (lv_room (Nat.le_of_ble_eq_true rfl)) dL_law_4 ⟨Nat.le_of_ble_eq_true rfl, Nat.le_of_ble_eq_true rfl⟩) hS (fun q _ h => hFc q h) hFc (fun u t H1 locs ht hvm hr3 hB hz1 hk1 hS => ?_)
  obtain ⟨rt4, dr5, bs6, df7, ch8, pg9, dv10, do911, cp12, cn13, cR14, cB15, cF16, fv17, hP1, hK1, hD1⟩ := hB
  rw [ht] at hP1
  have hK1 := va_K.moved hvm.symm hK1
  obtain ⟨hP, hD⟩ := va_join (wr := []) (w1 := [(q1, .inr (0, [.ref rt4, .ref dr5, .int 0, .int 0, .ref bs6, .ref df7, .ref ch8, .ref pg9, .int 0])), (rt4, .inl (cR14, 16, .inl (fun _ => 0))), (pg9, .inr (3, [.int 400, .int 0, .int 0, .int 0, .int 0, .int 0])), (bs6, .inl (cB15, 10, .inr (.inr (.inr (.inr (fun _ => none)))))), (df7, .inr (1, [.ref dv10, .ref do911, .int 0])), (dv10, .inl (cF16, 24, .inl fv17)), (ch8, .inr (2, [.ref cp12, .ref cn13, .int 0]))]) hP hD [0] [] rfl rfl (by decide) (by decide) hk1 hFc hP1 hD1
  generalize H1 = H at hP hS ⊢
  have hK := hK.app hK1
  have hK : va_K (dC, dI) kCl [(cR14, .int), (cB15, .object "DrawingVault$Baseline"), (cF16, .int)] s := hK
  have hP : va_P (dC, dI) kCl [(q1, .inr (0, [.ref rt4, .ref dr5, .int 0, .int 0, .ref bs6, .ref df7, .ref ch8, .ref pg9, .int 0])), (rt4, .inl (cR14, 16, .inl (fun _ => 0))), (pg9, .inr (3, [.int 400, .int 0, .int 0, .int 0, .int 0, .int 0])), (bs6, .inl (cB15, 10, .inr (.inr (.inr (.inr (fun _ => none)))))), (df7, .inr (1, [.ref dv10, .ref do911, .int 0])), (dv10, .inl (cF16, 24, .inl fv17)), (ch8, .inr (2, [.ref cp12, .ref cn13, .int 0]))] H := hP
  have hD : va_D A [(q1, .inr (0, [.ref rt4, .ref dr5, .int 0, .int 0, .ref bs6, .ref df7, .ref ch8, .ref pg9, .int 0])), (rt4, .inl (cR14, 16, .inl (fun _ => 0))), (pg9, .inr (3, [.int 400, .int 0, .int 0, .int 0, .int 0, .int 0])), (bs6, .inl (cB15, 10, .inr (.inr (.inr (.inr (fun _ => none)))))), (df7, .inr (1, [.ref dv10, .ref do911, .int 0])), (dv10, .inl (cF16, 24, .inl fv17)), (ch8, .inr (2, [.ref cp12, .ref cn13, .int 0]))] := hD
  refine W.widen (k := 11) (n := 2103) (Nat.le_of_ble_eq_true rfl) (Nat.le_of_ble_eq_true rfl) ?_
  refine lv_astore_n (pc := 7) hx hb dL_law_7 rfl hl (by decide) rfl (fun ls hl => ?_)
  have hl : lv_has ls 7 [(1, .ref q1), (0, .ref b)] := hl
  refine va_new (D := (dC, dI)) (cl := kCl) (pc := 8) (ci := 4) (fs := [.int 0, .int 0, .null, .null, .int 0, .int 0, .null, .null, .int 0, .int 0, .null]) (C := RM) (T := TM) (N := 11) hx hb hts inM tyM tyM_ok hown (hts _ wd_397) (hts _ wd_398) (hts _ wd_157) hK hP hD hS hA rfl (fun j hj => by rcases (show j = 0 ∨ j = 1 ∨ j = 2 ∨ j = 3 ∨ j = 4 ∨ j = 5 ∨ j = 6 ∨ j = 7 ∨ j = 8 ∨ j = 9 ∨ j = 10 by omega) with rfl | rfl | rfl | rfl | rfl | rfl | rfl | rfl | rfl | rfl | rfl <;> rfl) (Nat.le_of_ble_eq_true rfl) (Nat.le_of_ble_eq_true rfl) dL_law_8 (fun q19 H hP hD hS => ?_)
  have hP : va_P (dC, dI) kCl [(q1, .inr (0, [.ref rt4, .ref dr5, .int 0, .int 0, .ref bs6, .ref df7, .ref ch8, .ref pg9, .int 0])), (rt4, .inl (cR14, 16, .inl (fun _ => 0))), (pg9, .inr (3, [.int 400, .int 0, .int 0, .int 0, .int 0, .int 0])), (bs6, .inl (cB15, 10, .inr (.inr (.inr (.inr (fun _ => none)))))), (df7, .inr (1, [.ref dv10, .ref do911, .int 0])), (dv10, .inl (cF16, 24, .inl fv17)), (ch8, .inr (2, [.ref cp12, .ref cn13, .int 0])), (q19, .inr (4, [.int 0, .int 0, .null, .null, .int 0, .int 0, .null, .null, .int 0, .int 0, .null]))] H := hP
  have hD : va_D A [(q1, .inr (0, [.ref rt4, .ref dr5, .int 0, .int 0, .ref bs6, .ref df7, .ref ch8, .ref pg9, .int 0])), (rt4, .inl (cR14, 16, .inl (fun _ => 0))), (pg9, .inr (3, [.int 400, .int 0, .int 0, .int 0, .int 0, .int 0])), (bs6, .inl (cB15, 10, .inr (.inr (.inr (.inr (fun _ => none)))))), (df7, .inr (1, [.ref dv10, .ref do911, .int 0])), (dv10, .inl (cF16, 24, .inl fv17)), (ch8, .inr (2, [.ref cp12, .ref cn13, .int 0])), (q19, .inr (4, [.int 0, .int 0, .null, .null, .int 0, .int 0, .null, .null, .int 0, .int 0, .null]))] := hD
  have hK : va_K (dC, dI) kCl [(cR14, .int), (cB15, .object "DrawingVault$Baseline"), (cF16, .int)] s := hK
  refine W.widen (k := 12) (n := 2114) (Nat.le_of_ble_eq_true rfl) (Nat.le_of_ble_eq_true rfl) ?_
  refine lv_dup (pc := 11) hx hb dL_law_11 rfl ?_
  have hPc := hP.sub (ws' := [(q19, .inr (4, [.int 0, .int 0, .null, .null, .int 0, .int 0, .null, .null, .int 0, .int 0, .null]))]) [7] rfl
  have hDc := hD.sub (ws' := [(q19, .inr (4, [.int 0, .int 0, .null, .null, .int 0, .int 0, .null, .null, .int 0, .int 0, .null]))]) [7] (by decide) rfl
  have hKc := hK.sub (tys' := []) [] rfl
  have hFc := va_free (wc := [(q19, .inr (4, [.int 0, .int 0, .null, .null, .int 0, .int 0, .null, .null, .int 0, .int 0, .null]))]) hD hS hA [7] rfl
  refine va_callv (pc := 12) (va_runI (As := []) (rest := [.ref q19]) ⟨hx, hb, hml, hown, hts⟩ (m_init l dC dI H.size q19) (cwI 0 hts (gI wd_399) rfl rfl rfl (hts _ wd_157) (hts _ wd_400) (hts _ wd_401) rfl (by decide +kernel) ⟨Nat.le_of_ble_eq_true rfl, Nat.le_of_ble_eq_true rfl⟩) ⟨pW_blind, pW_pre hPc hKc hDc⟩ rfl rfl hl.1 rfl (lv_room (Nat.le_of_ble_eq_true rfl)) dL_law_12 ⟨Nat.le_of_ble_eq_true rfl, Nat.le_of_ble_eq_true rfl⟩) hS (fun q _ h => hFc q h) hFc (fun u t H1 locs ht hvm hr21 hB hz1 hk1 hS => ?_)
  obtain ⟨nw22, kp23, mk24, co25, se26, cN27, cK28, fk29, hfc30, hP1, hK1, hD1⟩ := hB
  rw [ht] at hP1
  have hK1 := va_K.moved hvm.symm hK1
  obtain ⟨hP, hD⟩ := va_join (wr := [(q1, .inr (0, [.ref rt4, .ref dr5, .int 0, .int 0, .ref bs6, .ref df7, .ref ch8, .ref pg9, .int 0])), (rt4, .inl (cR14, 16, .inl (fun _ => 0))), (pg9, .inr (3, [.int 400, .int 0, .int 0, .int 0, .int 0, .int 0])), (bs6, .inl (cB15, 10, .inr (.inr (.inr (.inr (fun _ => none)))))), (df7, .inr (1, [.ref dv10, .ref do911, .int 0])), (dv10, .inl (cF16, 24, .inl fv17)), (ch8, .inr (2, [.ref cp12, .ref cn13, .int 0]))]) (w1 := [(q19, .inr (4, [.int 0, .int 0, .ref nw22, .ref kp23, .int 0, .int (-1), .ref mk24, .ref co25, .int 0, .int 0, .ref se26])), (nw22, .inl (cN27, 25240, .inl now0)), (kp23, .inl (cK28, 25240, .inl fk29))]) hP hD [7] [0, 1, 2, 3, 4, 5, 6] rfl rfl (by decide) (by decide) hk1 hFc hP1 hD1
  generalize H1 = H at hP hS ⊢
  have hK := hK.app hK1
  have hK : va_K (dC, dI) kCl [(cR14, .int), (cB15, .object "DrawingVault$Baseline"), (cF16, .int), (cN27, .int), (cK28, .int)] s := hK
  have hP : va_P (dC, dI) kCl [(q1, .inr (0, [.ref rt4, .ref dr5, .int 0, .int 0, .ref bs6, .ref df7, .ref ch8, .ref pg9, .int 0])), (rt4, .inl (cR14, 16, .inl (fun _ => 0))), (pg9, .inr (3, [.int 400, .int 0, .int 0, .int 0, .int 0, .int 0])), (bs6, .inl (cB15, 10, .inr (.inr (.inr (.inr (fun _ => none)))))), (df7, .inr (1, [.ref dv10, .ref do911, .int 0])), (dv10, .inl (cF16, 24, .inl fv17)), (ch8, .inr (2, [.ref cp12, .ref cn13, .int 0])), (q19, .inr (4, [.int 0, .int 0, .ref nw22, .ref kp23, .int 0, .int (-1), .ref mk24, .ref co25, .int 0, .int 0, .ref se26])), (nw22, .inl (cN27, 25240, .inl now0)), (kp23, .inl (cK28, 25240, .inl fk29))] H := hP
  have hD : va_D A [(q1, .inr (0, [.ref rt4, .ref dr5, .int 0, .int 0, .ref bs6, .ref df7, .ref ch8, .ref pg9, .int 0])), (rt4, .inl (cR14, 16, .inl (fun _ => 0))), (pg9, .inr (3, [.int 400, .int 0, .int 0, .int 0, .int 0, .int 0])), (bs6, .inl (cB15, 10, .inr (.inr (.inr (.inr (fun _ => none)))))), (df7, .inr (1, [.ref dv10, .ref do911, .int 0])), (dv10, .inl (cF16, 24, .inl fv17)), (ch8, .inr (2, [.ref cp12, .ref cn13, .int 0])), (q19, .inr (4, [.int 0, .int 0, .ref nw22, .ref kp23, .int 0, .int (-1), .ref mk24, .ref co25, .int 0, .int 0, .ref se26])), (nw22, .inl (cN27, 25240, .inl now0)), (kp23, .inl (cK28, 25240, .inl fk29))] := hD
  refine W.widen (k := 17) (n := 52930) (Nat.le_of_ble_eq_true rfl) (Nat.le_of_ble_eq_true rfl) ?_
  refine lv_astore_n (pc := 15) hx hb dL_law_15 rfl hl (by decide) rfl (fun ls hl => ?_)
  have hl : lv_has ls 7 [(2, .ref q19), (1, .ref q1), (0, .ref b)] := hl
  refine lv_iconst (pc := 16) (v := 1) hx hb dL_law_16 (by decide) ?_
  refine va_newa (atype := .long) (D := (dC, dI)) (cl := kCl) (pc := 17) (ty := .long) (n := 1) (N' := 1) (a0 := (1, .inr (.inl (fun _ => 0)))) hx hb (hts _ wd_232) rfl hK hP hD hS hA (fun cA => rfl) (by decide) (by decide) (by decide) (Nat.le_of_ble_eq_true rfl) (Nat.le_of_ble_eq_true rfl) dL_law_17 (fun q31 cA32 H hK hP hD hS => ?_)
  have hP : va_P (dC, dI) kCl [(q1, .inr (0, [.ref rt4, .ref dr5, .int 0, .int 0, .ref bs6, .ref df7, .ref ch8, .ref pg9, .int 0])), (rt4, .inl (cR14, 16, .inl (fun _ => 0))), (pg9, .inr (3, [.int 400, .int 0, .int 0, .int 0, .int 0, .int 0])), (bs6, .inl (cB15, 10, .inr (.inr (.inr (.inr (fun _ => none)))))), (df7, .inr (1, [.ref dv10, .ref do911, .int 0])), (dv10, .inl (cF16, 24, .inl fv17)), (ch8, .inr (2, [.ref cp12, .ref cn13, .int 0])), (q19, .inr (4, [.int 0, .int 0, .ref nw22, .ref kp23, .int 0, .int (-1), .ref mk24, .ref co25, .int 0, .int 0, .ref se26])), (nw22, .inl (cN27, 25240, .inl now0)), (kp23, .inl (cK28, 25240, .inl fk29)), (q31, .inl (cA32, 1, .inr (.inl (fun _ => 0))))] H := hP
  have hD : va_D A [(q1, .inr (0, [.ref rt4, .ref dr5, .int 0, .int 0, .ref bs6, .ref df7, .ref ch8, .ref pg9, .int 0])), (rt4, .inl (cR14, 16, .inl (fun _ => 0))), (pg9, .inr (3, [.int 400, .int 0, .int 0, .int 0, .int 0, .int 0])), (bs6, .inl (cB15, 10, .inr (.inr (.inr (.inr (fun _ => none)))))), (df7, .inr (1, [.ref dv10, .ref do911, .int 0])), (dv10, .inl (cF16, 24, .inl fv17)), (ch8, .inr (2, [.ref cp12, .ref cn13, .int 0])), (q19, .inr (4, [.int 0, .int 0, .ref nw22, .ref kp23, .int 0, .int (-1), .ref mk24, .ref co25, .int 0, .int 0, .ref se26])), (nw22, .inl (cN27, 25240, .inl now0)), (kp23, .inl (cK28, 25240, .inl fk29)), (q31, .inl (cA32, 1, .inr (.inl (fun _ => 0))))] := hD
  have hK : va_K (dC, dI) kCl [(cR14, .int), (cB15, .object "DrawingVault$Baseline"), (cF16, .int), (cN27, .int), (cK28, .int), (cA32, .long)] s := hK
  refine W.widen (k := 18) (n := 52931) (Nat.le_of_ble_eq_true rfl) (Nat.le_of_ble_eq_true rfl) ?_
  refine lv_astore_n (pc := 19) hx hb dL_law_19 rfl hl (by decide) rfl (fun ls hl => ?_)
  have hl : lv_has ls 7 [(3, .ref q31), (2, .ref q19), (1, .ref q1), (0, .ref b)] := hl
  refine lv_iconst (pc := 20) (v := 0) hx hb dL_law_20 (by decide) ?_
  refine lv_istore (pc := 21) hx hb dL_law_21 hl (by decide) rfl (fun ls hl => ?_)
  have hl : lv_has ls 7 [(4, .int 0), (3, .ref q31), (2, .ref q19), (1, .ref q1), (0, .ref b)] := hl
  refine lv_iload (pc := 23) hx hb dL_law_23 (lv_at hl 0 rfl) ?_
  refine lv_aload_n (pc := 25) hx hb dL_law_25 rfl (lv_at hl 4 rfl) ?_
  refine va_slen (A := A) (pc := 26) hx hb hX hbl hbA hS dL_law_26 ?_
  rcases (show L = 0 ∨ L = 1 ∨ L = 2 ∨ L = 3 ∨ L = 4 ∨ L = 5 ∨ L = 6 by omega) with rfl | rfl | rfl | rfl | rfl | rfl | rfl
  · refine W.eq (g2 := F0 m 27 ls [.int 0, .int 0]) rfl ?_
    refine lv_bipush (pc := 27) (v := 6) hx hb dL_law_27 (by decide) ?_
    refine lv_isub (pc := 29) hx hb dL_law_29 ?_
    refine lv_topi (fun z33 hz34 => ?_)
    obtain rfl : z33 = (-6) := hz34.trans (by decide)
    refine lv_icmp_gt (pc := 30) (tgt := 1769) hx hb dL_law_30 rfl (fun h35 => ?_) (fun h35 => absurd h35 (by decide))
    refine lv_iconst (pc := 1769) (v := 1) hx hb dL_law_1769 (by decide) ?_
    refine va_forget (fun q hq => hA2 _ (hS.2.2 q hq)) ?_
    refine W.widen (k := 600002) (n := 7302232) (Nat.le_of_ble_eq_true rfl) (Nat.le_of_ble_eq_true rfl) ?_
    exact lw_ret hx hb hr hlocks (pc := 1770) dL_law_1770
  · refine W.eq (g2 := F0 m 27 ls [.int 1, .int 0]) rfl ?_
    refine lv_bipush (pc := 27) (v := 6) hx hb dL_law_27 (by decide) ?_
    refine lv_isub (pc := 29) hx hb dL_law_29 ?_
    refine lv_topi (fun z36 hz37 => ?_)
    obtain rfl : z36 = (-5) := hz37.trans (by decide)
    refine lv_icmp_gt (pc := 30) (tgt := 1769) hx hb dL_law_30 rfl (fun h38 => ?_) (fun h38 => absurd h38 (by decide))
    refine lv_iconst (pc := 1769) (v := 1) hx hb dL_law_1769 (by decide) ?_
    refine va_forget (fun q hq => hA2 _ (hS.2.2 q hq)) ?_
    refine W.widen (k := 600002) (n := 7302232) (Nat.le_of_ble_eq_true rfl) (Nat.le_of_ble_eq_true rfl) ?_
    exact lw_ret hx hb hr hlocks (pc := 1770) dL_law_1770
  · refine W.eq (g2 := F0 m 27 ls [.int 2, .int 0]) rfl ?_
    refine lv_bipush (pc := 27) (v := 6) hx hb dL_law_27 (by decide) ?_
    refine lv_isub (pc := 29) hx hb dL_law_29 ?_
    refine lv_topi (fun z39 hz40 => ?_)
    obtain rfl : z39 = (-4) := hz40.trans (by decide)
    refine lv_icmp_gt (pc := 30) (tgt := 1769) hx hb dL_law_30 rfl (fun h41 => ?_) (fun h41 => absurd h41 (by decide))
    refine lv_iconst (pc := 1769) (v := 1) hx hb dL_law_1769 (by decide) ?_
    refine va_forget (fun q hq => hA2 _ (hS.2.2 q hq)) ?_
    refine W.widen (k := 600002) (n := 7302232) (Nat.le_of_ble_eq_true rfl) (Nat.le_of_ble_eq_true rfl) ?_
    exact lw_ret hx hb hr hlocks (pc := 1770) dL_law_1770
  · refine W.eq (g2 := F0 m 27 ls [.int 3, .int 0]) rfl ?_
    refine lv_bipush (pc := 27) (v := 6) hx hb dL_law_27 (by decide) ?_
    refine lv_isub (pc := 29) hx hb dL_law_29 ?_
    refine lv_topi (fun z42 hz43 => ?_)
    obtain rfl : z42 = (-3) := hz43.trans (by decide)
    refine lv_icmp_gt (pc := 30) (tgt := 1769) hx hb dL_law_30 rfl (fun h44 => ?_) (fun h44 => absurd h44 (by decide))
    refine lv_iconst (pc := 1769) (v := 1) hx hb dL_law_1769 (by decide) ?_
    refine va_forget (fun q hq => hA2 _ (hS.2.2 q hq)) ?_
    refine W.widen (k := 600002) (n := 7302232) (Nat.le_of_ble_eq_true rfl) (Nat.le_of_ble_eq_true rfl) ?_
    exact lw_ret hx hb hr hlocks (pc := 1770) dL_law_1770
  · refine W.eq (g2 := F0 m 27 ls [.int 4, .int 0]) rfl ?_
    refine lv_bipush (pc := 27) (v := 6) hx hb dL_law_27 (by decide) ?_
    refine lv_isub (pc := 29) hx hb dL_law_29 ?_
    refine lv_topi (fun z45 hz46 => ?_)
    obtain rfl : z45 = (-2) := hz46.trans (by decide)
    refine lv_icmp_gt (pc := 30) (tgt := 1769) hx hb dL_law_30 rfl (fun h47 => ?_) (fun h47 => absurd h47 (by decide))
    refine lv_iconst (pc := 1769) (v := 1) hx hb dL_law_1769 (by decide) ?_
    refine va_forget (fun q hq => hA2 _ (hS.2.2 q hq)) ?_
    refine W.widen (k := 600002) (n := 7302232) (Nat.le_of_ble_eq_true rfl) (Nat.le_of_ble_eq_true rfl) ?_
    exact lw_ret hx hb hr hlocks (pc := 1770) dL_law_1770
  · refine W.eq (g2 := F0 m 27 ls [.int 5, .int 0]) rfl ?_
    refine lv_bipush (pc := 27) (v := 6) hx hb dL_law_27 (by decide) ?_
    refine lv_isub (pc := 29) hx hb dL_law_29 ?_
    refine lv_topi (fun z48 hz49 => ?_)
    obtain rfl : z48 = (-1) := hz49.trans (by decide)
    refine lv_icmp_gt (pc := 30) (tgt := 1769) hx hb dL_law_30 rfl (fun h50 => ?_) (fun h50 => absurd h50 (by decide))
    refine lv_iconst (pc := 1769) (v := 1) hx hb dL_law_1769 (by decide) ?_
    refine va_forget (fun q hq => hA2 _ (hS.2.2 q hq)) ?_
    refine W.widen (k := 600002) (n := 7302232) (Nat.le_of_ble_eq_true rfl) (Nat.le_of_ble_eq_true rfl) ?_
    exact lw_ret hx hb hr hlocks (pc := 1770) dL_law_1770
  · refine W.eq (g2 := F0 m 27 ls [.int 6, .int 0]) rfl ?_
    refine lv_bipush (pc := 27) (v := 6) hx hb dL_law_27 (by decide) ?_
    refine lv_isub (pc := 29) hx hb dL_law_29 ?_
    refine lv_topi (fun z51 hz52 => ?_)
    obtain rfl : z51 = 0 := hz52.trans (by decide)
    refine lv_icmp_gt (pc := 30) (tgt := 1769) hx hb dL_law_30 rfl (fun h53 => absurd h53 (by decide)) (fun h53 => ?_)
    refine lv_aload_n (pc := 33) hx hb dL_law_33 rfl (lv_at hl 4 rfl) ?_
    refine lv_iload (pc := 34) hx hb dL_law_34 (lv_at hl 0 rfl) ?_
    refine va_sld (A := A) (pc := 36) hx hb hX hbl hbA hS (vp_in_lit 0 6 (by decide)) dL_law_36 ?_
    refine W.eq (g2 := F0 m 37 ls [.int (xs 0)]) rfl ?_
    refine lv_bipush (pc := 37) (v := 31) hx hb dL_law_37 (by decide) ?_
    refine lv_iand (pc := 39) hx hb dL_law_39 ?_
    refine lv_topi (fun z54 hz55 => ?_)
    rcases pk_ix z54 (n := 23) (by decide) with h56 | h56 | ⟨j57, hj58, rfl⟩
    · refine lv_tableOut (pc := 40) (tgt := 1763) hx hb dL_law_40 (Or.inl (tsw_lo h56)) rfl ?_
      exact law_tail hx hb hr hlocks hX hbl hbA hA2 hS (lv_sub hl (l' := [(4, .int 0), (0, .ref b)]) [0, 4] rfl) (Nat.le_of_ble_eq_true rfl) (Nat.le_of_ble_eq_true rfl)
    · refine lv_tableOut (pc := 40) (tgt := 1763) hx hb dL_law_40 (Or.inr (tsw_hi (n := 22) (by decide) h56)) rfl ?_
      exact law_tail hx hb hr hlocks hX hbl hbA hA2 hS (lv_sub hl (l' := [(4, .int 0), (0, .ref b)]) [0, 4] rfl) (Nat.le_of_ble_eq_true rfl) (Nat.le_of_ble_eq_true rfl)
    · have hT : lawS p l s m meth c b xs dC dI A q1 rt4 dr5 bs6 df7 ch8 pg9 cR14 cB15 dv10 do911 cF16 fv17 cp12 cn13 q19 nw22 kp23 mk24 co25 se26 cN27 cK28 fk29 q31 cA32 H locs ls := ⟨hx, hb, hr, hml, hown, hts, hX, hbl, hbA, hlocks, hA, hA2, hP, hD, hK, hS, hl, hXE, hfl, hfc30⟩
      rcases (show j57 = 0 ∨ j57 = 1 ∨ j57 = 2 ∨ j57 = 3 ∨ j57 = 4 ∨ j57 = 5 ∨ j57 = 6 ∨ j57 = 7 ∨ j57 = 8 ∨ j57 = 9 ∨ j57 = 10 ∨ j57 = 11 ∨ j57 = 12 ∨ j57 = 13 ∨ j57 = 14 ∨ j57 = 15 ∨ j57 = 16 ∨ j57 = 17 ∨ j57 = 18 ∨ j57 = 19 ∨ j57 = 20 ∨ j57 = 21 ∨ j57 = 22 by omega) with rfl | rfl | rfl | rfl | rfl | rfl | rfl | rfl | rfl | rfl | rfl | rfl | rfl | rfl | rfl | rfl | rfl | rfl | rfl | rfl | rfl | rfl | rfl
      · refine lv_tableIn (pc := 40) (tgt := 148) (off := 108) hx hb dL_law_40 (by decide) (by decide) (by decide) rfl ?_
        exact lawcase_0 hT
      · refine lv_tableIn (pc := 40) (tgt := 223) (off := 183) hx hb dL_law_40 (by decide) (by decide) (by decide) rfl ?_
        exact lawcase_1 hT
      · refine lv_tableIn (pc := 40) (tgt := 279) (off := 239) hx hb dL_law_40 (by decide) (by decide) (by decide) rfl ?_
        exact lawcase_2 hT
      · refine lv_tableIn (pc := 40) (tgt := 354) (off := 314) hx hb dL_law_40 (by decide) (by decide) (by decide) rfl ?_
        exact lawcase_3 hT
      · refine lv_tableIn (pc := 40) (tgt := 429) (off := 389) hx hb dL_law_40 (by decide) (by decide) (by decide) rfl ?_
        exact lawcase_4 hT
      · refine lv_tableIn (pc := 40) (tgt := 528) (off := 488) hx hb dL_law_40 (by decide) (by decide) (by decide) rfl ?_
        exact lawcase_5 hT
      · refine lv_tableIn (pc := 40) (tgt := 615) (off := 575) hx hb dL_law_40 (by decide) (by decide) (by decide) rfl ?_
        exact lawcase_6 hT
      · refine lv_tableIn (pc := 40) (tgt := 726) (off := 686) hx hb dL_law_40 (by decide) (by decide) (by decide) rfl ?_
        exact lawcase_7 hT
      · refine lv_tableIn (pc := 40) (tgt := 813) (off := 773) hx hb dL_law_40 (by decide) (by decide) (by decide) rfl ?_
        exact lawcase_8 hT
      · refine lv_tableIn (pc := 40) (tgt := 881) (off := 841) hx hb dL_law_40 (by decide) (by decide) (by decide) rfl ?_
        exact lawcase_9 hT
      · refine lv_tableIn (pc := 40) (tgt := 968) (off := 928) hx hb dL_law_40 (by decide) (by decide) (by decide) rfl ?_
        exact lawcase_10 hT
      · refine lv_tableIn (pc := 40) (tgt := 1055) (off := 1015) hx hb dL_law_40 (by decide) (by decide) (by decide) rfl ?_
        exact lawcase_11 hT
      · refine lv_tableIn (pc := 40) (tgt := 1142) (off := 1102) hx hb dL_law_40 (by decide) (by decide) (by decide) rfl ?_
        exact lawcase_12 hT
      · refine lv_tableIn (pc := 40) (tgt := 1210) (off := 1170) hx hb dL_law_40 (by decide) (by decide) (by decide) rfl ?_
        exact lawcase_13 hT
      · refine lv_tableIn (pc := 40) (tgt := 1223) (off := 1183) hx hb dL_law_40 (by decide) (by decide) (by decide) rfl ?_
        exact lawcase_14 hT
      · refine lv_tableIn (pc := 40) (tgt := 1303) (off := 1263) hx hb dL_law_40 (by decide) (by decide) (by decide) rfl ?_
        exact lawcase_15 hT
      · refine lv_tableIn (pc := 40) (tgt := 1395) (off := 1355) hx hb dL_law_40 (by decide) (by decide) (by decide) rfl ?_
        exact lawcase_16 hT
      · refine lv_tableIn (pc := 40) (tgt := 1463) (off := 1423) hx hb dL_law_40 (by decide) (by decide) (by decide) rfl ?_
        exact lawcase_17 hT
      · refine lv_tableIn (pc := 40) (tgt := 1543) (off := 1503) hx hb dL_law_40 (by decide) (by decide) (by decide) rfl ?_
        exact lawcase_18 hT
      · refine lv_tableIn (pc := 40) (tgt := 1608) (off := 1568) hx hb dL_law_40 (by decide) (by decide) (by decide) rfl ?_
        exact lawcase_19 hT
      · refine lv_tableIn (pc := 40) (tgt := 1700) (off := 1660) hx hb dL_law_40 (by decide) (by decide) (by decide) rfl ?_
        exact lawcase_20 hT
      · refine lv_tableIn (pc := 40) (tgt := 1725) (off := 1685) hx hb dL_law_40 (by decide) (by decide) (by decide) rfl ?_
        exact lawcase_21 hT
      · refine lv_tableIn (pc := 40) (tgt := 1738) (off := 1698) hx hb dL_law_40 (by decide) (by decide) (by decide) rfl ?_
        exact lawcase_22 hT
