set_option maxHeartbeats 4000000 in
set_option maxRecDepth 100000 in
theorem lawcase_16 {p : Program} {l : Launch} {e : Env} {s : State} {m : MethodId} {below : List Frame} {meth : Method} {c : Code} {b : Nat} {xs : Nat → Int32} {A : Nat → Prop} {H : Heap} {locs : List Loc} {ls : Array Slot} {dC : Nat → ClassId} {dI : Nat → Nat → Nat} {q1 : Nat} {rt4 : Nat} {dr5 : Nat} {bs6 : Nat} {df7 : Nat} {ch8 : Nat} {pg9 : Nat} {cR14 : ClassId} {cB15 : ClassId} {dv10 : Nat} {do911 : Nat} {cF16 : ClassId} {fv17 : Nat → Int32} {cp12 : Nat} {cn13 : Nat} {q19 : Nat} {nw22 : Nat} {kp23 : Nat} {mk24 : Nat} {co25 : Nat} {se26 : Nat} {cN27 : ClassId} {cK28 : ClassId} {fk29 : Nat → Int32} {q31 : Nat} {cA32 : ClassId} (h : lawS p l s m meth c b xs dC dI A q1 rt4 dr5 bs6 df7 ch8 pg9 cR14 cB15 dv10 do911 cF16 fv17 cp12 cn13 q19 nw22 kp23 mk24 co25 se26 cN27 cK28 fk29 q31 cA32 H locs ls) : W p l e room_1 s m #[Value.ref b] below meth c H locs 18 52931 (lw_Z below #[Value.ref b] s) (F0 m 1395 ls []) := by
  obtain ⟨hx, hb, hr, hml, hown, hts, hX, hbl, hbA, hlocks, hA, hA2, hP, hD, hK, hS, hl, hXE, hfl, hfk⟩ := h
  refine lv_aload_n (pc := 1395) hx hb dL_law_1395 rfl (lv_at hl 3 rfl) ?_
  refine lv_aload_n (pc := 1396) hx hb dL_law_1396 rfl (lv_at hl 4 rfl) ?_
  refine lv_iload (pc := 1397) hx hb dL_law_1397 (lv_at hl 0 rfl) ?_
  refine lv_iconst (pc := 1399) (v := 1) hx hb dL_law_1399 (by decide) ?_
  refine lv_iadd (pc := 1400) hx hb dL_law_1400 ?_
  refine lv_topi (fun z1001 hz1002 => ?_)
  obtain rfl : z1001 = 1 := hz1002.trans (by decide)
  refine va_sld (A := A) (pc := 1401) hx hb hX hbl hbA hS (vp_in_lit 1 6 (by decide)) dL_law_1401 ?_
  refine W.eq (g2 := F0 m 1402 ls [.int (xs 1), .ref q1]) rfl ?_
  refine lv_aload_n (pc := 1402) hx hb dL_law_1402 rfl (lv_at hl 4 rfl) ?_
  refine lv_iload (pc := 1403) hx hb dL_law_1403 (lv_at hl 0 rfl) ?_
  refine lv_iconst (pc := 1405) (v := 2) hx hb dL_law_1405 (by decide) ?_
  refine lv_iadd (pc := 1406) hx hb dL_law_1406 ?_
  refine lv_topi (fun z1003 hz1004 => ?_)
  obtain rfl : z1003 = 2 := hz1004.trans (by decide)
  refine va_sld (A := A) (pc := 1407) hx hb hX hbl hbA hS (vp_in_lit 2 6 (by decide)) dL_law_1407 ?_
  refine W.eq (g2 := F0 m 1408 ls [.int (xs 2), .int (xs 1), .ref q1]) rfl ?_
  refine lv_aload_n (pc := 1408) hx hb dL_law_1408 rfl (lv_at hl 1 rfl) ?_
  have hPc := hP.sub (ws' := [(q1, .inr (0, [.ref rt4, .ref dr5, .int 0, .int 0, .ref bs6, .ref df7, .ref ch8, .ref pg9, .int 0])), (q31, .inl (cA32, 1, .inr (.inl (fun _ => 0))))]) [0, 10] rfl
  have hDc := hD.sub (ws' := [(q1, .inr (0, [.ref rt4, .ref dr5, .int 0, .int 0, .ref bs6, .ref df7, .ref ch8, .ref pg9, .int 0])), (q31, .inl (cA32, 1, .inr (.inl (fun _ => 0))))]) [0, 10] (by decide) rfl
  have hKc := hK.sub (tys' := [(cA32, .long)]) [5] rfl
  have hFc := va_free (wc := [(q1, .inr (0, [.ref rt4, .ref dr5, .int 0, .int 0, .ref bs6, .ref df7, .ref ch8, .ref pg9, .int 0])), (q31, .inl (cA32, 1, .inr (.inl (fun _ => 0))))]) hD hS hA [0, 10] rfl
  refine va_calli (pc := 1409) (hxR (As := [.ref q1, .int (xs 1), .int (xs 2), .ref q31]) (rest := []) ⟨hx, hb, hml, hown, hts⟩ (l_about l dC dI H.size q1 rt4 dr5 bs6 df7 ch8 pg9 0 q31 cA32 (fun _ => 0) (xs 1) (xs 2) (hfl)) 4 wd_521 wd_522 wd_405 wd_520 rfl rfl ⟨Nat.le_of_ble_eq_true rfl, Nat.le_of_ble_eq_true rfl⟩ (by decide +kernel) ⟨pWy_blind, pWy_pre hPc hKc hDc (fun U hU hW => xE_warm hW (fun q hq => by rw [hU]; exact hS.2.1 q hq (fun h => absurd (hA2 q h) (Nat.not_le.mpr hq))) hXE)⟩ rfl rfl hl.1 rfl (lv_room (Nat.le_of_ble_eq_true rfl)) dL_law_1409 ⟨Nat.le_of_ble_eq_true rfl, Nat.le_of_ble_eq_true rfl⟩) hS (fun q _ h => hFc q h) hFc (fun r1005 u t H1 locs ht hvm hr1006 hB hz1 hk1 hS => ?_)
  obtain ⟨hP1, hK1, hD1⟩ := hB
  rw [ht] at hP1
  have hK1 := va_K.moved hvm.symm hK1
  obtain ⟨hP, hD⟩ := va_join (wr := [(rt4, .inl (cR14, 16, .inl (fun _ => 0))), (pg9, .inr (3, [.int 400, .int 0, .int 0, .int 0, .int 0, .int 0])), (bs6, .inl (cB15, 10, .inr (.inr (.inr (.inr (fun _ => none)))))), (df7, .inr (1, [.ref dv10, .ref do911, .int 0])), (dv10, .inl (cF16, 24, .inl fv17)), (ch8, .inr (2, [.ref cp12, .ref cn13, .int 0])), (q19, .inr (4, [.int 0, .int 0, .ref nw22, .ref kp23, .int 0, .int (-1), .ref mk24, .ref co25, .int 0, .int 0, .ref se26])), (nw22, .inl (cN27, 25240, .inl now0)), (kp23, .inl (cK28, 25240, .inl fk29))]) (w1 := []) hP hD [0, 10] [1, 2, 3, 4, 5, 6, 7, 8, 9] rfl rfl (by decide) (by decide) hk1 hFc hP1 hD1
  generalize H1 = H at hP hS ⊢
  have hP : va_P (dC, dI) kCl [(rt4, .inl (cR14, 16, .inl (fun _ => 0))), (pg9, .inr (3, [.int 400, .int 0, .int 0, .int 0, .int 0, .int 0])), (bs6, .inl (cB15, 10, .inr (.inr (.inr (.inr (fun _ => none)))))), (df7, .inr (1, [.ref dv10, .ref do911, .int 0])), (dv10, .inl (cF16, 24, .inl fv17)), (ch8, .inr (2, [.ref cp12, .ref cn13, .int 0])), (q19, .inr (4, [.int 0, .int 0, .ref nw22, .ref kp23, .int 0, .int (-1), .ref mk24, .ref co25, .int 0, .int 0, .ref se26])), (nw22, .inl (cN27, 25240, .inl now0)), (kp23, .inl (cK28, 25240, .inl fk29))] H := hP
  have hD : va_D A [(rt4, .inl (cR14, 16, .inl (fun _ => 0))), (pg9, .inr (3, [.int 400, .int 0, .int 0, .int 0, .int 0, .int 0])), (bs6, .inl (cB15, 10, .inr (.inr (.inr (.inr (fun _ => none)))))), (df7, .inr (1, [.ref dv10, .ref do911, .int 0])), (dv10, .inl (cF16, 24, .inl fv17)), (ch8, .inr (2, [.ref cp12, .ref cn13, .int 0])), (q19, .inr (4, [.int 0, .int 0, .ref nw22, .ref kp23, .int 0, .int (-1), .ref mk24, .ref co25, .int 0, .int 0, .ref se26])), (nw22, .inl (cN27, 25240, .inl now0)), (kp23, .inl (cK28, 25240, .inl fk29))] := hD
  refine W.widen (k := 19) (n := 52937) (Nat.le_of_ble_eq_true rfl) (Nat.le_of_ble_eq_true rfl) ?_
  obtain rfl : r1005 = 1 := hr1006
  refine lv_istore (pc := 1412) hx hb dL_law_1412 hl (by decide) rfl (fun ls hl => ?_)
  have hl : lv_has ls 7 [(5, .int 1), (4, .int 0), (3, .ref q31), (2, .ref q19), (1, .ref q1), (0, .ref b)] := hl
  refine lv_aload_n (pc := 1414) hx hb dL_law_1414 rfl (lv_at hl 3 rfl) ?_
  refine lv_aload_n (pc := 1415) hx hb dL_law_1415 rfl (lv_at hl 5 rfl) ?_
  refine lv_iload (pc := 1416) hx hb dL_law_1416 (lv_at hl 1 rfl) ?_
  refine lv_iconst (pc := 1418) (v := 1) hx hb dL_law_1418 (by decide) ?_
  refine lv_iadd (pc := 1419) hx hb dL_law_1419 ?_
  refine lv_topi (fun z1008 hz1009 => ?_)
  obtain rfl : z1008 = 1 := hz1009.trans (by decide)
  refine va_sld (A := A) (pc := 1420) hx hb hX hbl hbA hS (vp_in_lit 1 6 (by decide)) dL_law_1420 ?_
  refine W.eq (g2 := F0 m 1421 ls [.int (xs 1), .ref q19]) rfl ?_
  refine lv_aload_n (pc := 1421) hx hb dL_law_1421 rfl (lv_at hl 5 rfl) ?_
  refine lv_iload (pc := 1422) hx hb dL_law_1422 (lv_at hl 1 rfl) ?_
  refine lv_iconst (pc := 1424) (v := 2) hx hb dL_law_1424 (by decide) ?_
  refine lv_iadd (pc := 1425) hx hb dL_law_1425 ?_
  refine lv_topi (fun z1010 hz1011 => ?_)
  obtain rfl : z1010 = 2 := hz1011.trans (by decide)
  refine va_sld (A := A) (pc := 1426) hx hb hX hbl hbA hS (vp_in_lit 2 6 (by decide)) dL_law_1426 ?_
  refine W.eq (g2 := F0 m 1427 ls [.int (xs 2), .int (xs 1), .ref q19]) rfl ?_
  have hPc := hP.sub (ws' := [(q19, .inr (4, [.int 0, .int 0, .ref nw22, .ref kp23, .int 0, .int (-1), .ref mk24, .ref co25, .int 0, .int 0, .ref se26])), (nw22, .inl (cN27, 25240, .inl now0))]) [6, 7] rfl
  have hDc := hD.sub (ws' := [(q19, .inr (4, [.int 0, .int 0, .ref nw22, .ref kp23, .int 0, .int (-1), .ref mk24, .ref co25, .int 0, .int 0, .ref se26])), (nw22, .inl (cN27, 25240, .inl now0))]) [6, 7] (by decide) rfl
  have hKc := hK.sub (tys' := [(cN27, .int)]) [3] rfl
  have hFc := va_free (wc := [(q19, .inr (4, [.int 0, .int 0, .ref nw22, .ref kp23, .int 0, .int (-1), .ref mk24, .ref co25, .int 0, .int 0, .ref se26])), (nw22, .inl (cN27, 25240, .inl now0))]) hD hS hA [6, 7] rfl
  refine va_calli (pc := 1427) (va_runV (As := [.int (xs 1), .int (xs 2)]) (rest := []) ⟨hx, hb, hml, hown, hts⟩ (m_about l dC dI H.size q19 nw22 kp23 mk24 co25 se26 0 0 cN27 (xs 1) (xs 2)) (cwV 2 hts (gV wd_524 wd_525 wd_526 wd_157 wd_523) rfl rfl rfl (by decide +kernel) ⟨Nat.le_of_ble_eq_true rfl, Nat.le_of_ble_eq_true rfl⟩) ⟨pW_blind, va_recv (q := (RM, TM, 11)) (q0 := 6) (ci := 4) hK hP rfl rfl, pW_pre hPc hKc hDc⟩ rfl rfl hl.1 rfl (lv_room (Nat.le_of_ble_eq_true rfl)) dL_law_1427 ⟨Nat.le_of_ble_eq_true rfl, Nat.le_of_ble_eq_true rfl⟩) hS (fun q _ h => hFc q h) hFc (fun r1012 u t H1 locs ht hvm hr1013 hB hz1 hk1 hS => ?_)
  obtain ⟨hP1, hK1, hD1⟩ := hB
  rw [ht] at hP1
  have hK1 := va_K.moved hvm.symm hK1
  obtain ⟨hP, hD⟩ := va_join (wr := [(rt4, .inl (cR14, 16, .inl (fun _ => 0))), (pg9, .inr (3, [.int 400, .int 0, .int 0, .int 0, .int 0, .int 0])), (bs6, .inl (cB15, 10, .inr (.inr (.inr (.inr (fun _ => none)))))), (df7, .inr (1, [.ref dv10, .ref do911, .int 0])), (dv10, .inl (cF16, 24, .inl fv17)), (ch8, .inr (2, [.ref cp12, .ref cn13, .int 0])), (kp23, .inl (cK28, 25240, .inl fk29))]) (w1 := [(q19, .inr (4, [.int 1, .int 0, .ref nw22, .ref kp23, .int 0, .int (-1), .ref mk24, .ref co25, .int 0, .int 0, .ref se26]))]) hP hD [6, 7] [0, 1, 2, 3, 4, 5, 8] rfl rfl (by decide) (by decide) hk1 hFc hP1 hD1
  generalize H1 = H at hP hS ⊢
  have hP : va_P (dC, dI) kCl [(rt4, .inl (cR14, 16, .inl (fun _ => 0))), (pg9, .inr (3, [.int 400, .int 0, .int 0, .int 0, .int 0, .int 0])), (bs6, .inl (cB15, 10, .inr (.inr (.inr (.inr (fun _ => none)))))), (df7, .inr (1, [.ref dv10, .ref do911, .int 0])), (dv10, .inl (cF16, 24, .inl fv17)), (ch8, .inr (2, [.ref cp12, .ref cn13, .int 0])), (kp23, .inl (cK28, 25240, .inl fk29)), (q19, .inr (4, [.int 1, .int 0, .ref nw22, .ref kp23, .int 0, .int (-1), .ref mk24, .ref co25, .int 0, .int 0, .ref se26]))] H := hP
  have hD : va_D A [(rt4, .inl (cR14, 16, .inl (fun _ => 0))), (pg9, .inr (3, [.int 400, .int 0, .int 0, .int 0, .int 0, .int 0])), (bs6, .inl (cB15, 10, .inr (.inr (.inr (.inr (fun _ => none)))))), (df7, .inr (1, [.ref dv10, .ref do911, .int 0])), (dv10, .inl (cF16, 24, .inl fv17)), (ch8, .inr (2, [.ref cp12, .ref cn13, .int 0])), (kp23, .inl (cK28, 25240, .inl fk29)), (q19, .inr (4, [.int 1, .int 0, .ref nw22, .ref kp23, .int 0, .int (-1), .ref mk24, .ref co25, .int 0, .int 0, .ref se26]))] := hD
  refine W.widen (k := 19) (n := 52937) (Nat.le_of_ble_eq_true rfl) (Nat.le_of_ble_eq_true rfl) ?_
  obtain rfl : r1012 = 0 := hr1013
  refine lv_istore (pc := 1430) hx hb dL_law_1430 hl (by decide) rfl (fun ls hl => ?_)
  have hl : lv_has ls 7 [(6, .int 0), (5, .int 1), (4, .int 0), (3, .ref q31), (2, .ref q19), (1, .ref q1), (0, .ref b)] := hl
  refine lv_aload_n (pc := 1432) hx hb dL_law_1432 rfl (lv_at hl 4 rfl) ?_
  refine vp_callSi (pc := 1433) (W.runV (As := []) (rest := []) ⟨hx, hb, hml, hown, hts⟩ (m_thrown l dC dI q19 nw22 kp23 mk24 co25 se26 1 0) (cwV 0 hts (gV wd_411 wd_412 wd_413 wd_157 wd_410) rfl rfl rfl (by decide +kernel) ⟨Nat.le_of_ble_eq_true rfl, Nat.le_of_ble_eq_true rfl⟩) ⟨pR_blind, va_recv (q := (RM, TM, 11)) (q0 := 7) (ci := 4) hK hP rfl rfl, pR_pre (hP.sub (ws' := [(q19, .inr (4, [.int 1, .int 0, .ref nw22, .ref kp23, .int 0, .int (-1), .ref mk24, .ref co25, .int 0, .int 0, .ref se26]))]) [7] rfl) (hK.sub (tys' := []) [] rfl)⟩ rfl rfl hl.1 rfl (lv_room (Nat.le_of_ble_eq_true rfl)) dL_law_1433 ⟨Nat.le_of_ble_eq_true rfl, Nat.le_of_ble_eq_true rfl⟩) (fun r1015 hr1016 => ?_)
  obtain rfl : r1015 = 1 := hr1016
  refine lv_iload (pc := 1436) hx hb dL_law_1436 (lv_at hl 1 rfl) ?_
  refine lv_icmp_eq (pc := 1438) (tgt := 1443) hx hb dL_law_1438 rfl (fun h1017 => ?_) (fun h1017 => absurd h1017 (by decide))
  refine lv_iload (pc := 1443) hx hb dL_law_1443 (lv_at hl 1 rfl) ?_
  refine lv_if_ne (pc := 1445) (tgt := 1460) hx hb dL_law_1445 rfl (fun h1018 => ?_) (fun h1018 => absurd h1018 (by decide))
  refine lv_goto (pc := 1460) (tgt := 1763) hx hb dL_law_1460 rfl ?_
  exact law_tail hx hb hr hlocks hX hbl hbA hA2 hS (lv_sub hl (l' := [(4, .int 0), (0, .ref b)]) [2, 6] rfl) (Nat.le_of_ble_eq_true rfl) (Nat.le_of_ble_eq_true rfl)
set_option maxHeartbeats 4000000 in
set_option maxRecDepth 100000 in
theorem lawcase_17 {p : Program} {l : Launch} {e : Env} {s : State} {m : MethodId} {below : List Frame} {meth : Method} {c : Code} {b : Nat} {xs : Nat → Int32} {A : Nat → Prop} {H : Heap} {locs : List Loc} {ls : Array Slot} {dC : Nat → ClassId} {dI : Nat → Nat → Nat} {q1 : Nat} {rt4 : Nat} {dr5 : Nat} {bs6 : Nat} {df7 : Nat} {ch8 : Nat} {pg9 : Nat} {cR14 : ClassId} {cB15 : ClassId} {dv10 : Nat} {do911 : Nat} {cF16 : ClassId} {fv17 : Nat → Int32} {cp12 : Nat} {cn13 : Nat} {q19 : Nat} {nw22 : Nat} {kp23 : Nat} {mk24 : Nat} {co25 : Nat} {se26 : Nat} {cN27 : ClassId} {cK28 : ClassId} {fk29 : Nat → Int32} {q31 : Nat} {cA32 : ClassId} (h : lawS p l s m meth c b xs dC dI A q1 rt4 dr5 bs6 df7 ch8 pg9 cR14 cB15 dv10 do911 cF16 fv17 cp12 cn13 q19 nw22 kp23 mk24 co25 se26 cN27 cK28 fk29 q31 cA32 H locs ls) : W p l e room_1 s m #[Value.ref b] below meth c H locs 18 52931 (lw_Z below #[Value.ref b] s) (F0 m 1463 ls []) := by
  obtain ⟨hx, hb, hr, hml, hown, hts, hX, hbl, hbA, hlocks, hA, hA2, hP, hD, hK, hS, hl, hXE, hfl, hfk⟩ := h
  refine lv_aload_n (pc := 1463) hx hb dL_law_1463 rfl (lv_at hl 3 rfl) ?_
  refine lv_aload_n (pc := 1464) hx hb dL_law_1464 rfl (lv_at hl 4 rfl) ?_
  refine lv_iload (pc := 1465) hx hb dL_law_1465 (lv_at hl 0 rfl) ?_
  refine lv_iconst (pc := 1467) (v := 1) hx hb dL_law_1467 (by decide) ?_
  refine lv_iadd (pc := 1468) hx hb dL_law_1468 ?_
  refine lv_topi (fun z1001 hz1002 => ?_)
  obtain rfl : z1001 = 1 := hz1002.trans (by decide)
  refine va_sld (A := A) (pc := 1469) hx hb hX hbl hbA hS (vp_in_lit 1 6 (by decide)) dL_law_1469 ?_
  refine W.eq (g2 := F0 m 1470 ls [.int (xs 1), .ref q1]) rfl ?_
  refine lv_aload_n (pc := 1470) hx hb dL_law_1470 rfl (lv_at hl 4 rfl) ?_
  refine lv_iload (pc := 1471) hx hb dL_law_1471 (lv_at hl 0 rfl) ?_
  refine lv_iconst (pc := 1473) (v := 2) hx hb dL_law_1473 (by decide) ?_
  refine lv_iadd (pc := 1474) hx hb dL_law_1474 ?_
  refine lv_topi (fun z1003 hz1004 => ?_)
  obtain rfl : z1003 = 2 := hz1004.trans (by decide)
  refine va_sld (A := A) (pc := 1475) hx hb hX hbl hbA hS (vp_in_lit 2 6 (by decide)) dL_law_1475 ?_
  refine W.eq (g2 := F0 m 1476 ls [.int (xs 2), .int (xs 1), .ref q1]) rfl ?_
  refine lv_aload_n (pc := 1476) hx hb dL_law_1476 rfl (lv_at hl 4 rfl) ?_
  refine lv_iload (pc := 1477) hx hb dL_law_1477 (lv_at hl 0 rfl) ?_
  refine lv_iconst (pc := 1479) (v := 3) hx hb dL_law_1479 (by decide) ?_
  refine lv_iadd (pc := 1480) hx hb dL_law_1480 ?_
  refine lv_topi (fun z1005 hz1006 => ?_)
  obtain rfl : z1005 = 3 := hz1006.trans (by decide)
  refine va_sld (A := A) (pc := 1481) hx hb hX hbl hbA hS (vp_in_lit 3 6 (by decide)) dL_law_1481 ?_
  refine W.eq (g2 := F0 m 1482 ls [.int (xs 3), .int (xs 2), .int (xs 1), .ref q1]) rfl ?_
  refine lv_aload_n (pc := 1482) hx hb dL_law_1482 rfl (lv_at hl 1 rfl) ?_
  have hPc := hP.sub (ws' := [(q1, .inr (0, [.ref rt4, .ref dr5, .int 0, .int 0, .ref bs6, .ref df7, .ref ch8, .ref pg9, .int 0])), (bs6, .inl (cB15, 10, .inr (.inr (.inr (.inr (fun _ => none)))))), (q31, .inl (cA32, 1, .inr (.inl (fun _ => 0))))]) [0, 3, 10] rfl
  have hDc := hD.sub (ws' := [(q1, .inr (0, [.ref rt4, .ref dr5, .int 0, .int 0, .ref bs6, .ref df7, .ref ch8, .ref pg9, .int 0])), (bs6, .inl (cB15, 10, .inr (.inr (.inr (.inr (fun _ => none)))))), (q31, .inl (cA32, 1, .inr (.inl (fun _ => 0))))]) [0, 3, 10] (by decide) rfl
  have hKc := hK.sub (tys' := [(cB15, .object "DrawingVault$Baseline"), (cA32, .long)]) [1, 5] rfl
  have hFc := va_free (wc := [(q1, .inr (0, [.ref rt4, .ref dr5, .int 0, .int 0, .ref bs6, .ref df7, .ref ch8, .ref pg9, .int 0])), (bs6, .inl (cB15, 10, .inr (.inr (.inr (.inr (fun _ => none)))))), (q31, .inl (cA32, 1, .inr (.inl (fun _ => 0))))]) hD hS hA [0, 3, 10] rfl
  refine va_calli (pc := 1483) (hxR (As := [.ref q1, .int (xs 1), .int (xs 2), .int (xs 3), .ref q31]) (rest := []) ⟨hx, hb, hml, hown, hts⟩ (l_inBaseline l dC dI H.size q1 rt4 dr5 bs6 df7 ch8 pg9 0 cB15 q31 cA32 (fun _ => 0) (xs 1) (xs 2) (xs 3) (hfl)) 5 wd_528 wd_529 wd_405 wd_527 rfl rfl ⟨Nat.le_of_ble_eq_true rfl, Nat.le_of_ble_eq_true rfl⟩ (by decide +kernel) ⟨pWy_blind, pWy_pre hPc hKc hDc (fun U hU hW => xE_warm hW (fun q hq => by rw [hU]; exact hS.2.1 q hq (fun h => absurd (hA2 q h) (Nat.not_le.mpr hq))) hXE)⟩ rfl rfl hl.1 rfl (lv_room (Nat.le_of_ble_eq_true rfl)) dL_law_1483 ⟨Nat.le_of_ble_eq_true rfl, Nat.le_of_ble_eq_true rfl⟩) hS (fun q _ h => hFc q h) hFc (fun r1007 u t H1 locs ht hvm hr1008 hB hz1 hk1 hS => ?_)
  obtain ⟨hP1, hK1, hD1⟩ := hB
  rw [ht] at hP1
  have hK1 := va_K.moved hvm.symm hK1
  obtain ⟨hP, hD⟩ := va_join (wr := [(rt4, .inl (cR14, 16, .inl (fun _ => 0))), (pg9, .inr (3, [.int 400, .int 0, .int 0, .int 0, .int 0, .int 0])), (df7, .inr (1, [.ref dv10, .ref do911, .int 0])), (dv10, .inl (cF16, 24, .inl fv17)), (ch8, .inr (2, [.ref cp12, .ref cn13, .int 0])), (q19, .inr (4, [.int 0, .int 0, .ref nw22, .ref kp23, .int 0, .int (-1), .ref mk24, .ref co25, .int 0, .int 0, .ref se26])), (nw22, .inl (cN27, 25240, .inl now0)), (kp23, .inl (cK28, 25240, .inl fk29))]) (w1 := []) hP hD [0, 3, 10] [1, 2, 4, 5, 6, 7, 8, 9] rfl rfl (by decide) (by decide) hk1 hFc hP1 hD1
  generalize H1 = H at hP hS ⊢
  have hP : va_P (dC, dI) kCl [(rt4, .inl (cR14, 16, .inl (fun _ => 0))), (pg9, .inr (3, [.int 400, .int 0, .int 0, .int 0, .int 0, .int 0])), (df7, .inr (1, [.ref dv10, .ref do911, .int 0])), (dv10, .inl (cF16, 24, .inl fv17)), (ch8, .inr (2, [.ref cp12, .ref cn13, .int 0])), (q19, .inr (4, [.int 0, .int 0, .ref nw22, .ref kp23, .int 0, .int (-1), .ref mk24, .ref co25, .int 0, .int 0, .ref se26])), (nw22, .inl (cN27, 25240, .inl now0)), (kp23, .inl (cK28, 25240, .inl fk29))] H := hP
  have hD : va_D A [(rt4, .inl (cR14, 16, .inl (fun _ => 0))), (pg9, .inr (3, [.int 400, .int 0, .int 0, .int 0, .int 0, .int 0])), (df7, .inr (1, [.ref dv10, .ref do911, .int 0])), (dv10, .inl (cF16, 24, .inl fv17)), (ch8, .inr (2, [.ref cp12, .ref cn13, .int 0])), (q19, .inr (4, [.int 0, .int 0, .ref nw22, .ref kp23, .int 0, .int (-1), .ref mk24, .ref co25, .int 0, .int 0, .ref se26])), (nw22, .inl (cN27, 25240, .inl now0)), (kp23, .inl (cK28, 25240, .inl fk29))] := hD
  refine W.widen (k := 19) (n := 52937) (Nat.le_of_ble_eq_true rfl) (Nat.le_of_ble_eq_true rfl) ?_
  obtain rfl : r1007 = 1 := hr1008
  refine lv_istore (pc := 1486) hx hb dL_law_1486 hl (by decide) rfl (fun ls hl => ?_)
  have hl : lv_has ls 7 [(5, .int 1), (4, .int 0), (3, .ref q31), (2, .ref q19), (1, .ref q1), (0, .ref b)] := hl
  refine lv_aload_n (pc := 1488) hx hb dL_law_1488 rfl (lv_at hl 3 rfl) ?_
  refine lv_aload_n (pc := 1489) hx hb dL_law_1489 rfl (lv_at hl 5 rfl) ?_
  refine lv_iload (pc := 1490) hx hb dL_law_1490 (lv_at hl 1 rfl) ?_
  refine lv_iconst (pc := 1492) (v := 1) hx hb dL_law_1492 (by decide) ?_
  refine lv_iadd (pc := 1493) hx hb dL_law_1493 ?_
  refine lv_topi (fun z1010 hz1011 => ?_)
  obtain rfl : z1010 = 1 := hz1011.trans (by decide)
  refine va_sld (A := A) (pc := 1494) hx hb hX hbl hbA hS (vp_in_lit 1 6 (by decide)) dL_law_1494 ?_
  refine W.eq (g2 := F0 m 1495 ls [.int (xs 1), .ref q19]) rfl ?_
  refine lv_aload_n (pc := 1495) hx hb dL_law_1495 rfl (lv_at hl 5 rfl) ?_
  refine lv_iload (pc := 1496) hx hb dL_law_1496 (lv_at hl 1 rfl) ?_
  refine lv_iconst (pc := 1498) (v := 2) hx hb dL_law_1498 (by decide) ?_
  refine lv_iadd (pc := 1499) hx hb dL_law_1499 ?_
  refine lv_topi (fun z1012 hz1013 => ?_)
  obtain rfl : z1012 = 2 := hz1013.trans (by decide)
  refine va_sld (A := A) (pc := 1500) hx hb hX hbl hbA hS (vp_in_lit 2 6 (by decide)) dL_law_1500 ?_
  refine W.eq (g2 := F0 m 1501 ls [.int (xs 2), .int (xs 1), .ref q19]) rfl ?_
  refine lv_aload_n (pc := 1501) hx hb dL_law_1501 rfl (lv_at hl 5 rfl) ?_
  refine lv_iload (pc := 1502) hx hb dL_law_1502 (lv_at hl 1 rfl) ?_
  refine lv_iconst (pc := 1504) (v := 3) hx hb dL_law_1504 (by decide) ?_
  refine lv_iadd (pc := 1505) hx hb dL_law_1505 ?_
  refine lv_topi (fun z1014 hz1015 => ?_)
  obtain rfl : z1014 = 3 := hz1015.trans (by decide)
  refine va_sld (A := A) (pc := 1506) hx hb hX hbl hbA hS (vp_in_lit 3 6 (by decide)) dL_law_1506 ?_
  refine W.eq (g2 := F0 m 1507 ls [.int (xs 3), .int (xs 2), .int (xs 1), .ref q19]) rfl ?_
  have hPc := hP.sub (ws' := [(q19, .inr (4, [.int 0, .int 0, .ref nw22, .ref kp23, .int 0, .int (-1), .ref mk24, .ref co25, .int 0, .int 0, .ref se26])), (nw22, .inl (cN27, 25240, .inl now0))]) [5, 6] rfl
  have hDc := hD.sub (ws' := [(q19, .inr (4, [.int 0, .int 0, .ref nw22, .ref kp23, .int 0, .int (-1), .ref mk24, .ref co25, .int 0, .int 0, .ref se26])), (nw22, .inl (cN27, 25240, .inl now0))]) [5, 6] (by decide) rfl
  have hKc := hK.sub (tys' := [(cN27, .int)]) [3] rfl
  have hFc := va_free (wc := [(q19, .inr (4, [.int 0, .int 0, .ref nw22, .ref kp23, .int 0, .int (-1), .ref mk24, .ref co25, .int 0, .int 0, .ref se26])), (nw22, .inl (cN27, 25240, .inl now0))]) hD hS hA [5, 6] rfl
  refine va_calli (pc := 1507) (va_runV (As := [.int (xs 1), .int (xs 2), .int (xs 3)]) (rest := []) ⟨hx, hb, hml, hown, hts⟩ (m_inBaseline l dC dI H.size q19 nw22 kp23 mk24 co25 se26 0 0 cN27 (xs 1) (xs 2) (xs 3)) (cwV 3 hts (gV wd_531 wd_532 wd_533 wd_157 wd_530) rfl rfl rfl (by decide +kernel) ⟨Nat.le_of_ble_eq_true rfl, Nat.le_of_ble_eq_true rfl⟩) ⟨pW_blind, va_recv (q := (RM, TM, 11)) (q0 := 5) (ci := 4) hK hP rfl rfl, pW_pre hPc hKc hDc⟩ rfl rfl hl.1 rfl (lv_room (Nat.le_of_ble_eq_true rfl)) dL_law_1507 ⟨Nat.le_of_ble_eq_true rfl, Nat.le_of_ble_eq_true rfl⟩) hS (fun q _ h => hFc q h) hFc (fun r1016 u t H1 locs ht hvm hr1017 hB hz1 hk1 hS => ?_)
  obtain ⟨hP1, hK1, hD1⟩ := hB
  rw [ht] at hP1
  have hK1 := va_K.moved hvm.symm hK1
  obtain ⟨hP, hD⟩ := va_join (wr := [(rt4, .inl (cR14, 16, .inl (fun _ => 0))), (pg9, .inr (3, [.int 400, .int 0, .int 0, .int 0, .int 0, .int 0])), (df7, .inr (1, [.ref dv10, .ref do911, .int 0])), (dv10, .inl (cF16, 24, .inl fv17)), (ch8, .inr (2, [.ref cp12, .ref cn13, .int 0])), (kp23, .inl (cK28, 25240, .inl fk29))]) (w1 := [(q19, .inr (4, [.int 1, .int 0, .ref nw22, .ref kp23, .int 0, .int (-1), .ref mk24, .ref co25, .int 0, .int 0, .ref se26]))]) hP hD [5, 6] [0, 1, 2, 3, 4, 7] rfl rfl (by decide) (by decide) hk1 hFc hP1 hD1
  generalize H1 = H at hP hS ⊢
  have hP : va_P (dC, dI) kCl [(rt4, .inl (cR14, 16, .inl (fun _ => 0))), (pg9, .inr (3, [.int 400, .int 0, .int 0, .int 0, .int 0, .int 0])), (df7, .inr (1, [.ref dv10, .ref do911, .int 0])), (dv10, .inl (cF16, 24, .inl fv17)), (ch8, .inr (2, [.ref cp12, .ref cn13, .int 0])), (kp23, .inl (cK28, 25240, .inl fk29)), (q19, .inr (4, [.int 1, .int 0, .ref nw22, .ref kp23, .int 0, .int (-1), .ref mk24, .ref co25, .int 0, .int 0, .ref se26]))] H := hP
  have hD : va_D A [(rt4, .inl (cR14, 16, .inl (fun _ => 0))), (pg9, .inr (3, [.int 400, .int 0, .int 0, .int 0, .int 0, .int 0])), (df7, .inr (1, [.ref dv10, .ref do911, .int 0])), (dv10, .inl (cF16, 24, .inl fv17)), (ch8, .inr (2, [.ref cp12, .ref cn13, .int 0])), (kp23, .inl (cK28, 25240, .inl fk29)), (q19, .inr (4, [.int 1, .int 0, .ref nw22, .ref kp23, .int 0, .int (-1), .ref mk24, .ref co25, .int 0, .int 0, .ref se26]))] := hD
  refine W.widen (k := 19) (n := 52937) (Nat.le_of_ble_eq_true rfl) (Nat.le_of_ble_eq_true rfl) ?_
  obtain rfl : r1016 = 0 := hr1017
  refine lv_istore (pc := 1510) hx hb dL_law_1510 hl (by decide) rfl (fun ls hl => ?_)
  have hl : lv_has ls 7 [(6, .int 0), (5, .int 1), (4, .int 0), (3, .ref q31), (2, .ref q19), (1, .ref q1), (0, .ref b)] := hl
  refine lv_aload_n (pc := 1512) hx hb dL_law_1512 rfl (lv_at hl 4 rfl) ?_
  refine vp_callSi (pc := 1513) (W.runV (As := []) (rest := []) ⟨hx, hb, hml, hown, hts⟩ (m_thrown l dC dI q19 nw22 kp23 mk24 co25 se26 1 0) (cwV 0 hts (gV wd_411 wd_412 wd_413 wd_157 wd_410) rfl rfl rfl (by decide +kernel) ⟨Nat.le_of_ble_eq_true rfl, Nat.le_of_ble_eq_true rfl⟩) ⟨pR_blind, va_recv (q := (RM, TM, 11)) (q0 := 6) (ci := 4) hK hP rfl rfl, pR_pre (hP.sub (ws' := [(q19, .inr (4, [.int 1, .int 0, .ref nw22, .ref kp23, .int 0, .int (-1), .ref mk24, .ref co25, .int 0, .int 0, .ref se26]))]) [6] rfl) (hK.sub (tys' := []) [] rfl)⟩ rfl rfl hl.1 rfl (lv_room (Nat.le_of_ble_eq_true rfl)) dL_law_1513 ⟨Nat.le_of_ble_eq_true rfl, Nat.le_of_ble_eq_true rfl⟩) (fun r1019 hr1020 => ?_)
  obtain rfl : r1019 = 1 := hr1020
  refine lv_iload (pc := 1516) hx hb dL_law_1516 (lv_at hl 1 rfl) ?_
  refine lv_icmp_eq (pc := 1518) (tgt := 1523) hx hb dL_law_1518 rfl (fun h1021 => ?_) (fun h1021 => absurd h1021 (by decide))
  refine lv_iload (pc := 1523) hx hb dL_law_1523 (lv_at hl 1 rfl) ?_
  refine lv_if_ne (pc := 1525) (tgt := 1540) hx hb dL_law_1525 rfl (fun h1022 => ?_) (fun h1022 => absurd h1022 (by decide))
  refine lv_goto (pc := 1540) (tgt := 1763) hx hb dL_law_1540 rfl ?_
  exact law_tail hx hb hr hlocks hX hbl hbA hA2 hS (lv_sub hl (l' := [(4, .int 0), (0, .ref b)]) [2, 6] rfl) (Nat.le_of_ble_eq_true rfl) (Nat.le_of_ble_eq_true rfl)
set_option maxHeartbeats 4000000 in
set_option maxRecDepth 100000 in
theorem lawcase_18 {p : Program} {l : Launch} {e : Env} {s : State} {m : MethodId} {below : List Frame} {meth : Method} {c : Code} {b : Nat} {xs : Nat → Int32} {A : Nat → Prop} {H : Heap} {locs : List Loc} {ls : Array Slot} {dC : Nat → ClassId} {dI : Nat → Nat → Nat} {q1 : Nat} {rt4 : Nat} {dr5 : Nat} {bs6 : Nat} {df7 : Nat} {ch8 : Nat} {pg9 : Nat} {cR14 : ClassId} {cB15 : ClassId} {dv10 : Nat} {do911 : Nat} {cF16 : ClassId} {fv17 : Nat → Int32} {cp12 : Nat} {cn13 : Nat} {q19 : Nat} {nw22 : Nat} {kp23 : Nat} {mk24 : Nat} {co25 : Nat} {se26 : Nat} {cN27 : ClassId} {cK28 : ClassId} {fk29 : Nat → Int32} {q31 : Nat} {cA32 : ClassId} (h : lawS p l s m meth c b xs dC dI A q1 rt4 dr5 bs6 df7 ch8 pg9 cR14 cB15 dv10 do911 cF16 fv17 cp12 cn13 q19 nw22 kp23 mk24 co25 se26 cN27 cK28 fk29 q31 cA32 H locs ls) : W p l e room_1 s m #[Value.ref b] below meth c H locs 18 52931 (lw_Z below #[Value.ref b] s) (F0 m 1543 ls []) := by
  obtain ⟨hx, hb, hr, hml, hown, hts, hX, hbl, hbA, hlocks, hA, hA2, hP, hD, hK, hS, hl, hXE, hfl, hfk⟩ := h
  refine lv_aload_n (pc := 1543) hx hb dL_law_1543 rfl (lv_at hl 3 rfl) ?_
  refine lv_aload_n (pc := 1544) hx hb dL_law_1544 rfl (lv_at hl 4 rfl) ?_
  refine lv_iload (pc := 1545) hx hb dL_law_1545 (lv_at hl 0 rfl) ?_
  refine lv_iconst (pc := 1547) (v := 1) hx hb dL_law_1547 (by decide) ?_
  refine lv_iadd (pc := 1548) hx hb dL_law_1548 ?_
  refine lv_topi (fun z1001 hz1002 => ?_)
  obtain rfl : z1001 = 1 := hz1002.trans (by decide)
  refine va_sld (A := A) (pc := 1549) hx hb hX hbl hbA hS (vp_in_lit 1 6 (by decide)) dL_law_1549 ?_
  refine W.eq (g2 := F0 m 1550 ls [.int (xs 1), .ref q1]) rfl ?_
  refine lv_aload_n (pc := 1550) hx hb dL_law_1550 rfl (lv_at hl 4 rfl) ?_
  refine lv_iload (pc := 1551) hx hb dL_law_1551 (lv_at hl 0 rfl) ?_
  refine lv_iconst (pc := 1553) (v := 2) hx hb dL_law_1553 (by decide) ?_
  refine lv_iadd (pc := 1554) hx hb dL_law_1554 ?_
  refine lv_topi (fun z1003 hz1004 => ?_)
  obtain rfl : z1003 = 2 := hz1004.trans (by decide)
  refine va_sld (A := A) (pc := 1555) hx hb hX hbl hbA hS (vp_in_lit 2 6 (by decide)) dL_law_1555 ?_
  refine W.eq (g2 := F0 m 1556 ls [.int (xs 2), .int (xs 1), .ref q1]) rfl ?_
  refine lv_if_eq (pc := 1556) (tgt := 1563) hx hb dL_law_1556 rfl (fun h1005 => ?_) (fun h1005 => ?_)
  · refine lv_iconst (pc := 1563) (v := 0) hx hb dL_law_1563 (by decide) ?_
    refine lv_aload_n (pc := 1564) hx hb dL_law_1564 rfl (lv_at hl 4 rfl) ?_
    refine lv_iload (pc := 1565) hx hb dL_law_1565 (lv_at hl 0 rfl) ?_
    refine lv_iconst (pc := 1567) (v := 3) hx hb dL_law_1567 (by decide) ?_
    refine lv_iadd (pc := 1568) hx hb dL_law_1568 ?_
    refine lv_topi (fun z1006 hz1007 => ?_)
    obtain rfl : z1006 = 3 := hz1007.trans (by decide)
    refine va_sld (A := A) (pc := 1569) hx hb hX hbl hbA hS (vp_in_lit 3 6 (by decide)) dL_law_1569 ?_
    refine W.eq (g2 := F0 m 1570 ls [.int (xs 3), .int 0, .int (xs 1), .ref q1]) rfl ?_
    refine vp_callSi (pc := 1570) (W.runV (As := [.int (xs 1), .int 0, .int (xs 3)]) (rest := []) ⟨hx, hb, hml, hown, hts⟩ (v_user l dC dI q1 rt4 dr5 bs6 df7 ch8 pg9 0 (xs 1) 0 (xs 3)) (cwV 3 hts (gV wd_535 wd_536 wd_537 wd_35 wd_534) rfl rfl rfl (by decide +kernel) ⟨Nat.le_of_ble_eq_true rfl, Nat.le_of_ble_eq_true rfl⟩) ⟨pR_blind, va_recv (q := (RV, TV, 9)) (q0 := 0) (ci := 0) hK hP rfl rfl, pR_pre (hP.sub (ws' := [(q1, .inr (0, [.ref rt4, .ref dr5, .int 0, .int 0, .ref bs6, .ref df7, .ref ch8, .ref pg9, .int 0]))]) [0] rfl) (hK.sub (tys' := []) [] rfl)⟩ rfl rfl hl.1 rfl (lv_room (Nat.le_of_ble_eq_true rfl)) dL_law_1570 ⟨Nat.le_of_ble_eq_true rfl, Nat.le_of_ble_eq_true rfl⟩) (fun r1008 hr1009 => ?_)
    obtain rfl : r1008 = (-1) := hr1009
    refine lv_aload_n (pc := 1573) hx hb dL_law_1573 rfl (lv_at hl 2 rfl) ?_
    refine lv_aload_n (pc := 1574) hx hb dL_law_1574 rfl (lv_at hl 4 rfl) ?_
    refine lv_iload (pc := 1575) hx hb dL_law_1575 (lv_at hl 0 rfl) ?_
    refine lv_iconst (pc := 1577) (v := 1) hx hb dL_law_1577 (by decide) ?_
    refine lv_iadd (pc := 1578) hx hb dL_law_1578 ?_
    refine lv_topi (fun z1010 hz1011 => ?_)
    obtain rfl : z1010 = 1 := hz1011.trans (by decide)
    refine va_sld (A := A) (pc := 1579) hx hb hX hbl hbA hS (vp_in_lit 1 6 (by decide)) dL_law_1579 ?_
    refine W.eq (g2 := F0 m 1580 ls [.int (xs 1), .ref q19, .int (-1)]) rfl ?_
    refine lv_aload_n (pc := 1580) hx hb dL_law_1580 rfl (lv_at hl 4 rfl) ?_
    refine lv_iload (pc := 1581) hx hb dL_law_1581 (lv_at hl 0 rfl) ?_
    refine lv_iconst (pc := 1583) (v := 2) hx hb dL_law_1583 (by decide) ?_
    refine lv_iadd (pc := 1584) hx hb dL_law_1584 ?_
    refine lv_topi (fun z1012 hz1013 => ?_)
    obtain rfl : z1012 = 2 := hz1013.trans (by decide)
    refine va_sld (A := A) (pc := 1585) hx hb hX hbl hbA hS (vp_in_lit 2 6 (by decide)) dL_law_1585 ?_
    refine W.eq (g2 := F0 m 1586 ls [.int (xs 2), .int (xs 1), .ref q19, .int (-1)]) rfl ?_
    refine lv_if_eq (pc := 1586) (tgt := 1593) hx hb dL_law_1586 rfl (fun h1014 => ?_) (fun h1014 => ?_)
    · refine lv_iconst (pc := 1593) (v := 0) hx hb dL_law_1593 (by decide) ?_
      refine lv_aload_n (pc := 1594) hx hb dL_law_1594 rfl (lv_at hl 4 rfl) ?_
      refine lv_iload (pc := 1595) hx hb dL_law_1595 (lv_at hl 0 rfl) ?_
      refine lv_iconst (pc := 1597) (v := 3) hx hb dL_law_1597 (by decide) ?_
      refine lv_iadd (pc := 1598) hx hb dL_law_1598 ?_
      refine lv_topi (fun z1015 hz1016 => ?_)
      obtain rfl : z1015 = 3 := hz1016.trans (by decide)
      refine va_sld (A := A) (pc := 1599) hx hb hX hbl hbA hS (vp_in_lit 3 6 (by decide)) dL_law_1599 ?_
      refine W.eq (g2 := F0 m 1600 ls [.int (xs 3), .int 0, .int (xs 1), .ref q19, .int (-1)]) rfl ?_
      have hPc := hP.sub (ws' := [(q19, .inr (4, [.int 0, .int 0, .ref nw22, .ref kp23, .int 0, .int (-1), .ref mk24, .ref co25, .int 0, .int 0, .ref se26])), (nw22, .inl (cN27, 25240, .inl now0))]) [7, 8] rfl
      have hDc := hD.sub (ws' := [(q19, .inr (4, [.int 0, .int 0, .ref nw22, .ref kp23, .int 0, .int (-1), .ref mk24, .ref co25, .int 0, .int 0, .ref se26])), (nw22, .inl (cN27, 25240, .inl now0))]) [7, 8] (by decide) rfl
      have hKc := hK.sub (tys' := [(cN27, .int)]) [3] rfl
      have hFc := va_free (wc := [(q19, .inr (4, [.int 0, .int 0, .ref nw22, .ref kp23, .int 0, .int (-1), .ref mk24, .ref co25, .int 0, .int 0, .ref se26])), (nw22, .inl (cN27, 25240, .inl now0))]) hD hS hA [7, 8] rfl
      refine va_calli (pc := 1600) (va_runV (As := [.int (xs 1), .int 0, .int (xs 3)]) (rest := [.int (-1)]) ⟨hx, hb, hml, hown, hts⟩ (m_user l dC dI H.size q19 nw22 kp23 mk24 co25 se26 0 0 cN27 (xs 1) 0 (xs 3)) (cwV 3 hts (gV wd_539 wd_540 wd_541 wd_157 wd_538) rfl rfl rfl (by decide +kernel) ⟨Nat.le_of_ble_eq_true rfl, Nat.le_of_ble_eq_true rfl⟩) ⟨pW_blind, va_recv (q := (RM, TM, 11)) (q0 := 7) (ci := 4) hK hP rfl rfl, pW_pre hPc hKc hDc⟩ rfl rfl hl.1 rfl (lv_room (Nat.le_of_ble_eq_true rfl)) dL_law_1600 ⟨Nat.le_of_ble_eq_true rfl, Nat.le_of_ble_eq_true rfl⟩) hS (fun q _ h => hFc q h) hFc (fun r1017 u t H1 locs ht hvm hr1018 hB hz1 hk1 hS => ?_)
      obtain ⟨hP1, hK1, hD1⟩ := hB
      rw [ht] at hP1
      have hK1 := va_K.moved hvm.symm hK1
      obtain ⟨hP, hD⟩ := va_join (wr := [(q1, .inr (0, [.ref rt4, .ref dr5, .int 0, .int 0, .ref bs6, .ref df7, .ref ch8, .ref pg9, .int 0])), (rt4, .inl (cR14, 16, .inl (fun _ => 0))), (pg9, .inr (3, [.int 400, .int 0, .int 0, .int 0, .int 0, .int 0])), (bs6, .inl (cB15, 10, .inr (.inr (.inr (.inr (fun _ => none)))))), (df7, .inr (1, [.ref dv10, .ref do911, .int 0])), (dv10, .inl (cF16, 24, .inl fv17)), (ch8, .inr (2, [.ref cp12, .ref cn13, .int 0])), (kp23, .inl (cK28, 25240, .inl fk29)), (q31, .inl (cA32, 1, .inr (.inl (fun _ => 0))))]) (w1 := [(q19, .inr (4, [.int 0, .int 0, .ref nw22, .ref kp23, .int 0, .int (-1), .ref mk24, .ref co25, .int 0, .int 0, .ref se26]))]) hP hD [7, 8] [0, 1, 2, 3, 4, 5, 6, 9, 10] rfl rfl (by decide) (by decide) hk1 hFc hP1 hD1
      generalize H1 = H at hP hS ⊢
      have hP : va_P (dC, dI) kCl [(q1, .inr (0, [.ref rt4, .ref dr5, .int 0, .int 0, .ref bs6, .ref df7, .ref ch8, .ref pg9, .int 0])), (rt4, .inl (cR14, 16, .inl (fun _ => 0))), (pg9, .inr (3, [.int 400, .int 0, .int 0, .int 0, .int 0, .int 0])), (bs6, .inl (cB15, 10, .inr (.inr (.inr (.inr (fun _ => none)))))), (df7, .inr (1, [.ref dv10, .ref do911, .int 0])), (dv10, .inl (cF16, 24, .inl fv17)), (ch8, .inr (2, [.ref cp12, .ref cn13, .int 0])), (kp23, .inl (cK28, 25240, .inl fk29)), (q31, .inl (cA32, 1, .inr (.inl (fun _ => 0)))), (q19, .inr (4, [.int 0, .int 0, .ref nw22, .ref kp23, .int 0, .int (-1), .ref mk24, .ref co25, .int 0, .int 0, .ref se26]))] H := hP
      have hD : va_D A [(q1, .inr (0, [.ref rt4, .ref dr5, .int 0, .int 0, .ref bs6, .ref df7, .ref ch8, .ref pg9, .int 0])), (rt4, .inl (cR14, 16, .inl (fun _ => 0))), (pg9, .inr (3, [.int 400, .int 0, .int 0, .int 0, .int 0, .int 0])), (bs6, .inl (cB15, 10, .inr (.inr (.inr (.inr (fun _ => none)))))), (df7, .inr (1, [.ref dv10, .ref do911, .int 0])), (dv10, .inl (cF16, 24, .inl fv17)), (ch8, .inr (2, [.ref cp12, .ref cn13, .int 0])), (kp23, .inl (cK28, 25240, .inl fk29)), (q31, .inl (cA32, 1, .inr (.inl (fun _ => 0)))), (q19, .inr (4, [.int 0, .int 0, .ref nw22, .ref kp23, .int 0, .int (-1), .ref mk24, .ref co25, .int 0, .int 0, .ref se26]))] := hD
      refine W.widen (k := 18) (n := 52931) (Nat.le_of_ble_eq_true rfl) (Nat.le_of_ble_eq_true rfl) ?_
      obtain rfl : r1017 = (-1) := hr1018
      refine lv_icmp_eq (pc := 1603) (tgt := 1763) hx hb dL_law_1603 rfl (fun h1020 => ?_) (fun h1020 => absurd h1020 (by decide))
      exact law_tail hx hb hr hlocks hX hbl hbA hA2 hS (lv_sub hl (l' := [(4, .int 0), (0, .ref b)]) [0, 4] rfl) (Nat.le_of_ble_eq_true rfl) (Nat.le_of_ble_eq_true rfl)
    · refine lv_iconst (pc := 1589) (v := 1) hx hb dL_law_1589 (by decide) ?_
      refine lv_goto (pc := 1590) (tgt := 1594) hx hb dL_law_1590 rfl ?_
      refine lv_aload_n (pc := 1594) hx hb dL_law_1594 rfl (lv_at hl 4 rfl) ?_
      refine lv_iload (pc := 1595) hx hb dL_law_1595 (lv_at hl 0 rfl) ?_
      refine lv_iconst (pc := 1597) (v := 3) hx hb dL_law_1597 (by decide) ?_
      refine lv_iadd (pc := 1598) hx hb dL_law_1598 ?_
      refine lv_topi (fun z1021 hz1022 => ?_)
      obtain rfl : z1021 = 3 := hz1022.trans (by decide)
      refine va_sld (A := A) (pc := 1599) hx hb hX hbl hbA hS (vp_in_lit 3 6 (by decide)) dL_law_1599 ?_
      refine W.eq (g2 := F0 m 1600 ls [.int (xs 3), .int 1, .int (xs 1), .ref q19, .int (-1)]) rfl ?_
      have hPc := hP.sub (ws' := [(q19, .inr (4, [.int 0, .int 0, .ref nw22, .ref kp23, .int 0, .int (-1), .ref mk24, .ref co25, .int 0, .int 0, .ref se26])), (nw22, .inl (cN27, 25240, .inl now0))]) [7, 8] rfl
      have hDc := hD.sub (ws' := [(q19, .inr (4, [.int 0, .int 0, .ref nw22, .ref kp23, .int 0, .int (-1), .ref mk24, .ref co25, .int 0, .int 0, .ref se26])), (nw22, .inl (cN27, 25240, .inl now0))]) [7, 8] (by decide) rfl
      have hKc := hK.sub (tys' := [(cN27, .int)]) [3] rfl
      have hFc := va_free (wc := [(q19, .inr (4, [.int 0, .int 0, .ref nw22, .ref kp23, .int 0, .int (-1), .ref mk24, .ref co25, .int 0, .int 0, .ref se26])), (nw22, .inl (cN27, 25240, .inl now0))]) hD hS hA [7, 8] rfl
      refine va_calli (pc := 1600) (va_runV (As := [.int (xs 1), .int 1, .int (xs 3)]) (rest := [.int (-1)]) ⟨hx, hb, hml, hown, hts⟩ (m_user l dC dI H.size q19 nw22 kp23 mk24 co25 se26 0 0 cN27 (xs 1) 1 (xs 3)) (cwV 3 hts (gV wd_539 wd_540 wd_541 wd_157 wd_538) rfl rfl rfl (by decide +kernel) ⟨Nat.le_of_ble_eq_true rfl, Nat.le_of_ble_eq_true rfl⟩) ⟨pW_blind, va_recv (q := (RM, TM, 11)) (q0 := 7) (ci := 4) hK hP rfl rfl, pW_pre hPc hKc hDc⟩ rfl rfl hl.1 rfl (lv_room (Nat.le_of_ble_eq_true rfl)) dL_law_1600 ⟨Nat.le_of_ble_eq_true rfl, Nat.le_of_ble_eq_true rfl⟩) hS (fun q _ h => hFc q h) hFc (fun r1023 u t H1 locs ht hvm hr1024 hB hz1 hk1 hS => ?_)
      obtain ⟨hP1, hK1, hD1⟩ := hB
      rw [ht] at hP1
      have hK1 := va_K.moved hvm.symm hK1
      obtain ⟨hP, hD⟩ := va_join (wr := [(q1, .inr (0, [.ref rt4, .ref dr5, .int 0, .int 0, .ref bs6, .ref df7, .ref ch8, .ref pg9, .int 0])), (rt4, .inl (cR14, 16, .inl (fun _ => 0))), (pg9, .inr (3, [.int 400, .int 0, .int 0, .int 0, .int 0, .int 0])), (bs6, .inl (cB15, 10, .inr (.inr (.inr (.inr (fun _ => none)))))), (df7, .inr (1, [.ref dv10, .ref do911, .int 0])), (dv10, .inl (cF16, 24, .inl fv17)), (ch8, .inr (2, [.ref cp12, .ref cn13, .int 0])), (kp23, .inl (cK28, 25240, .inl fk29)), (q31, .inl (cA32, 1, .inr (.inl (fun _ => 0))))]) (w1 := [(q19, .inr (4, [.int 0, .int 0, .ref nw22, .ref kp23, .int 0, .int (-1), .ref mk24, .ref co25, .int 0, .int 0, .ref se26]))]) hP hD [7, 8] [0, 1, 2, 3, 4, 5, 6, 9, 10] rfl rfl (by decide) (by decide) hk1 hFc hP1 hD1
      generalize H1 = H at hP hS ⊢
      have hP : va_P (dC, dI) kCl [(q1, .inr (0, [.ref rt4, .ref dr5, .int 0, .int 0, .ref bs6, .ref df7, .ref ch8, .ref pg9, .int 0])), (rt4, .inl (cR14, 16, .inl (fun _ => 0))), (pg9, .inr (3, [.int 400, .int 0, .int 0, .int 0, .int 0, .int 0])), (bs6, .inl (cB15, 10, .inr (.inr (.inr (.inr (fun _ => none)))))), (df7, .inr (1, [.ref dv10, .ref do911, .int 0])), (dv10, .inl (cF16, 24, .inl fv17)), (ch8, .inr (2, [.ref cp12, .ref cn13, .int 0])), (kp23, .inl (cK28, 25240, .inl fk29)), (q31, .inl (cA32, 1, .inr (.inl (fun _ => 0)))), (q19, .inr (4, [.int 0, .int 0, .ref nw22, .ref kp23, .int 0, .int (-1), .ref mk24, .ref co25, .int 0, .int 0, .ref se26]))] H := hP
      have hD : va_D A [(q1, .inr (0, [.ref rt4, .ref dr5, .int 0, .int 0, .ref bs6, .ref df7, .ref ch8, .ref pg9, .int 0])), (rt4, .inl (cR14, 16, .inl (fun _ => 0))), (pg9, .inr (3, [.int 400, .int 0, .int 0, .int 0, .int 0, .int 0])), (bs6, .inl (cB15, 10, .inr (.inr (.inr (.inr (fun _ => none)))))), (df7, .inr (1, [.ref dv10, .ref do911, .int 0])), (dv10, .inl (cF16, 24, .inl fv17)), (ch8, .inr (2, [.ref cp12, .ref cn13, .int 0])), (kp23, .inl (cK28, 25240, .inl fk29)), (q31, .inl (cA32, 1, .inr (.inl (fun _ => 0)))), (q19, .inr (4, [.int 0, .int 0, .ref nw22, .ref kp23, .int 0, .int (-1), .ref mk24, .ref co25, .int 0, .int 0, .ref se26]))] := hD
      refine W.widen (k := 18) (n := 52931) (Nat.le_of_ble_eq_true rfl) (Nat.le_of_ble_eq_true rfl) ?_
      obtain rfl : r1023 = (-1) := hr1024
      refine lv_icmp_eq (pc := 1603) (tgt := 1763) hx hb dL_law_1603 rfl (fun h1026 => ?_) (fun h1026 => absurd h1026 (by decide))
      exact law_tail hx hb hr hlocks hX hbl hbA hA2 hS (lv_sub hl (l' := [(4, .int 0), (0, .ref b)]) [0, 4] rfl) (Nat.le_of_ble_eq_true rfl) (Nat.le_of_ble_eq_true rfl)
  · refine lv_iconst (pc := 1559) (v := 1) hx hb dL_law_1559 (by decide) ?_
    refine lv_goto (pc := 1560) (tgt := 1564) hx hb dL_law_1560 rfl ?_
    refine lv_aload_n (pc := 1564) hx hb dL_law_1564 rfl (lv_at hl 4 rfl) ?_
    refine lv_iload (pc := 1565) hx hb dL_law_1565 (lv_at hl 0 rfl) ?_
    refine lv_iconst (pc := 1567) (v := 3) hx hb dL_law_1567 (by decide) ?_
    refine lv_iadd (pc := 1568) hx hb dL_law_1568 ?_
    refine lv_topi (fun z1027 hz1028 => ?_)
    obtain rfl : z1027 = 3 := hz1028.trans (by decide)
    refine va_sld (A := A) (pc := 1569) hx hb hX hbl hbA hS (vp_in_lit 3 6 (by decide)) dL_law_1569 ?_
    refine W.eq (g2 := F0 m 1570 ls [.int (xs 3), .int 1, .int (xs 1), .ref q1]) rfl ?_
    refine vp_callSi (pc := 1570) (W.runV (As := [.int (xs 1), .int 1, .int (xs 3)]) (rest := []) ⟨hx, hb, hml, hown, hts⟩ (v_user l dC dI q1 rt4 dr5 bs6 df7 ch8 pg9 0 (xs 1) 1 (xs 3)) (cwV 3 hts (gV wd_535 wd_536 wd_537 wd_35 wd_534) rfl rfl rfl (by decide +kernel) ⟨Nat.le_of_ble_eq_true rfl, Nat.le_of_ble_eq_true rfl⟩) ⟨pR_blind, va_recv (q := (RV, TV, 9)) (q0 := 0) (ci := 0) hK hP rfl rfl, pR_pre (hP.sub (ws' := [(q1, .inr (0, [.ref rt4, .ref dr5, .int 0, .int 0, .ref bs6, .ref df7, .ref ch8, .ref pg9, .int 0]))]) [0] rfl) (hK.sub (tys' := []) [] rfl)⟩ rfl rfl hl.1 rfl (lv_room (Nat.le_of_ble_eq_true rfl)) dL_law_1570 ⟨Nat.le_of_ble_eq_true rfl, Nat.le_of_ble_eq_true rfl⟩) (fun r1029 hr1030 => ?_)
    obtain rfl : r1029 = (-1) := hr1030
    refine lv_aload_n (pc := 1573) hx hb dL_law_1573 rfl (lv_at hl 2 rfl) ?_
    refine lv_aload_n (pc := 1574) hx hb dL_law_1574 rfl (lv_at hl 4 rfl) ?_
    refine lv_iload (pc := 1575) hx hb dL_law_1575 (lv_at hl 0 rfl) ?_
    refine lv_iconst (pc := 1577) (v := 1) hx hb dL_law_1577 (by decide) ?_
    refine lv_iadd (pc := 1578) hx hb dL_law_1578 ?_
    refine lv_topi (fun z1031 hz1032 => ?_)
    obtain rfl : z1031 = 1 := hz1032.trans (by decide)
    refine va_sld (A := A) (pc := 1579) hx hb hX hbl hbA hS (vp_in_lit 1 6 (by decide)) dL_law_1579 ?_
    refine W.eq (g2 := F0 m 1580 ls [.int (xs 1), .ref q19, .int (-1)]) rfl ?_
    refine lv_aload_n (pc := 1580) hx hb dL_law_1580 rfl (lv_at hl 4 rfl) ?_
    refine lv_iload (pc := 1581) hx hb dL_law_1581 (lv_at hl 0 rfl) ?_
    refine lv_iconst (pc := 1583) (v := 2) hx hb dL_law_1583 (by decide) ?_
    refine lv_iadd (pc := 1584) hx hb dL_law_1584 ?_
    refine lv_topi (fun z1033 hz1034 => ?_)
    obtain rfl : z1033 = 2 := hz1034.trans (by decide)
    refine va_sld (A := A) (pc := 1585) hx hb hX hbl hbA hS (vp_in_lit 2 6 (by decide)) dL_law_1585 ?_
    refine W.eq (g2 := F0 m 1586 ls [.int (xs 2), .int (xs 1), .ref q19, .int (-1)]) rfl ?_
    refine lv_if_eq (pc := 1586) (tgt := 1593) hx hb dL_law_1586 rfl (fun h1035 => ?_) (fun h1035 => ?_)
    · refine lv_iconst (pc := 1593) (v := 0) hx hb dL_law_1593 (by decide) ?_
      refine lv_aload_n (pc := 1594) hx hb dL_law_1594 rfl (lv_at hl 4 rfl) ?_
      refine lv_iload (pc := 1595) hx hb dL_law_1595 (lv_at hl 0 rfl) ?_
      refine lv_iconst (pc := 1597) (v := 3) hx hb dL_law_1597 (by decide) ?_
      refine lv_iadd (pc := 1598) hx hb dL_law_1598 ?_
      refine lv_topi (fun z1036 hz1037 => ?_)
      obtain rfl : z1036 = 3 := hz1037.trans (by decide)
      refine va_sld (A := A) (pc := 1599) hx hb hX hbl hbA hS (vp_in_lit 3 6 (by decide)) dL_law_1599 ?_
      refine W.eq (g2 := F0 m 1600 ls [.int (xs 3), .int 0, .int (xs 1), .ref q19, .int (-1)]) rfl ?_
      have hPc := hP.sub (ws' := [(q19, .inr (4, [.int 0, .int 0, .ref nw22, .ref kp23, .int 0, .int (-1), .ref mk24, .ref co25, .int 0, .int 0, .ref se26])), (nw22, .inl (cN27, 25240, .inl now0))]) [7, 8] rfl
      have hDc := hD.sub (ws' := [(q19, .inr (4, [.int 0, .int 0, .ref nw22, .ref kp23, .int 0, .int (-1), .ref mk24, .ref co25, .int 0, .int 0, .ref se26])), (nw22, .inl (cN27, 25240, .inl now0))]) [7, 8] (by decide) rfl
      have hKc := hK.sub (tys' := [(cN27, .int)]) [3] rfl
      have hFc := va_free (wc := [(q19, .inr (4, [.int 0, .int 0, .ref nw22, .ref kp23, .int 0, .int (-1), .ref mk24, .ref co25, .int 0, .int 0, .ref se26])), (nw22, .inl (cN27, 25240, .inl now0))]) hD hS hA [7, 8] rfl
      refine va_calli (pc := 1600) (va_runV (As := [.int (xs 1), .int 0, .int (xs 3)]) (rest := [.int (-1)]) ⟨hx, hb, hml, hown, hts⟩ (m_user l dC dI H.size q19 nw22 kp23 mk24 co25 se26 0 0 cN27 (xs 1) 0 (xs 3)) (cwV 3 hts (gV wd_539 wd_540 wd_541 wd_157 wd_538) rfl rfl rfl (by decide +kernel) ⟨Nat.le_of_ble_eq_true rfl, Nat.le_of_ble_eq_true rfl⟩) ⟨pW_blind, va_recv (q := (RM, TM, 11)) (q0 := 7) (ci := 4) hK hP rfl rfl, pW_pre hPc hKc hDc⟩ rfl rfl hl.1 rfl (lv_room (Nat.le_of_ble_eq_true rfl)) dL_law_1600 ⟨Nat.le_of_ble_eq_true rfl, Nat.le_of_ble_eq_true rfl⟩) hS (fun q _ h => hFc q h) hFc (fun r1038 u t H1 locs ht hvm hr1039 hB hz1 hk1 hS => ?_)
      obtain ⟨hP1, hK1, hD1⟩ := hB
      rw [ht] at hP1
      have hK1 := va_K.moved hvm.symm hK1
      obtain ⟨hP, hD⟩ := va_join (wr := [(q1, .inr (0, [.ref rt4, .ref dr5, .int 0, .int 0, .ref bs6, .ref df7, .ref ch8, .ref pg9, .int 0])), (rt4, .inl (cR14, 16, .inl (fun _ => 0))), (pg9, .inr (3, [.int 400, .int 0, .int 0, .int 0, .int 0, .int 0])), (bs6, .inl (cB15, 10, .inr (.inr (.inr (.inr (fun _ => none)))))), (df7, .inr (1, [.ref dv10, .ref do911, .int 0])), (dv10, .inl (cF16, 24, .inl fv17)), (ch8, .inr (2, [.ref cp12, .ref cn13, .int 0])), (kp23, .inl (cK28, 25240, .inl fk29)), (q31, .inl (cA32, 1, .inr (.inl (fun _ => 0))))]) (w1 := [(q19, .inr (4, [.int 0, .int 0, .ref nw22, .ref kp23, .int 0, .int (-1), .ref mk24, .ref co25, .int 0, .int 0, .ref se26]))]) hP hD [7, 8] [0, 1, 2, 3, 4, 5, 6, 9, 10] rfl rfl (by decide) (by decide) hk1 hFc hP1 hD1
      generalize H1 = H at hP hS ⊢
      have hP : va_P (dC, dI) kCl [(q1, .inr (0, [.ref rt4, .ref dr5, .int 0, .int 0, .ref bs6, .ref df7, .ref ch8, .ref pg9, .int 0])), (rt4, .inl (cR14, 16, .inl (fun _ => 0))), (pg9, .inr (3, [.int 400, .int 0, .int 0, .int 0, .int 0, .int 0])), (bs6, .inl (cB15, 10, .inr (.inr (.inr (.inr (fun _ => none)))))), (df7, .inr (1, [.ref dv10, .ref do911, .int 0])), (dv10, .inl (cF16, 24, .inl fv17)), (ch8, .inr (2, [.ref cp12, .ref cn13, .int 0])), (kp23, .inl (cK28, 25240, .inl fk29)), (q31, .inl (cA32, 1, .inr (.inl (fun _ => 0)))), (q19, .inr (4, [.int 0, .int 0, .ref nw22, .ref kp23, .int 0, .int (-1), .ref mk24, .ref co25, .int 0, .int 0, .ref se26]))] H := hP
      have hD : va_D A [(q1, .inr (0, [.ref rt4, .ref dr5, .int 0, .int 0, .ref bs6, .ref df7, .ref ch8, .ref pg9, .int 0])), (rt4, .inl (cR14, 16, .inl (fun _ => 0))), (pg9, .inr (3, [.int 400, .int 0, .int 0, .int 0, .int 0, .int 0])), (bs6, .inl (cB15, 10, .inr (.inr (.inr (.inr (fun _ => none)))))), (df7, .inr (1, [.ref dv10, .ref do911, .int 0])), (dv10, .inl (cF16, 24, .inl fv17)), (ch8, .inr (2, [.ref cp12, .ref cn13, .int 0])), (kp23, .inl (cK28, 25240, .inl fk29)), (q31, .inl (cA32, 1, .inr (.inl (fun _ => 0)))), (q19, .inr (4, [.int 0, .int 0, .ref nw22, .ref kp23, .int 0, .int (-1), .ref mk24, .ref co25, .int 0, .int 0, .ref se26]))] := hD
      refine W.widen (k := 18) (n := 52931) (Nat.le_of_ble_eq_true rfl) (Nat.le_of_ble_eq_true rfl) ?_
      obtain rfl : r1038 = (-1) := hr1039
      refine lv_icmp_eq (pc := 1603) (tgt := 1763) hx hb dL_law_1603 rfl (fun h1041 => ?_) (fun h1041 => absurd h1041 (by decide))
      exact law_tail hx hb hr hlocks hX hbl hbA hA2 hS (lv_sub hl (l' := [(4, .int 0), (0, .ref b)]) [0, 4] rfl) (Nat.le_of_ble_eq_true rfl) (Nat.le_of_ble_eq_true rfl)
    · refine lv_iconst (pc := 1589) (v := 1) hx hb dL_law_1589 (by decide) ?_
      refine lv_goto (pc := 1590) (tgt := 1594) hx hb dL_law_1590 rfl ?_
      refine lv_aload_n (pc := 1594) hx hb dL_law_1594 rfl (lv_at hl 4 rfl) ?_
      refine lv_iload (pc := 1595) hx hb dL_law_1595 (lv_at hl 0 rfl) ?_
      refine lv_iconst (pc := 1597) (v := 3) hx hb dL_law_1597 (by decide) ?_
      refine lv_iadd (pc := 1598) hx hb dL_law_1598 ?_
      refine lv_topi (fun z1042 hz1043 => ?_)
      obtain rfl : z1042 = 3 := hz1043.trans (by decide)
      refine va_sld (A := A) (pc := 1599) hx hb hX hbl hbA hS (vp_in_lit 3 6 (by decide)) dL_law_1599 ?_
      refine W.eq (g2 := F0 m 1600 ls [.int (xs 3), .int 1, .int (xs 1), .ref q19, .int (-1)]) rfl ?_
      have hPc := hP.sub (ws' := [(q19, .inr (4, [.int 0, .int 0, .ref nw22, .ref kp23, .int 0, .int (-1), .ref mk24, .ref co25, .int 0, .int 0, .ref se26])), (nw22, .inl (cN27, 25240, .inl now0))]) [7, 8] rfl
      have hDc := hD.sub (ws' := [(q19, .inr (4, [.int 0, .int 0, .ref nw22, .ref kp23, .int 0, .int (-1), .ref mk24, .ref co25, .int 0, .int 0, .ref se26])), (nw22, .inl (cN27, 25240, .inl now0))]) [7, 8] (by decide) rfl
      have hKc := hK.sub (tys' := [(cN27, .int)]) [3] rfl
      have hFc := va_free (wc := [(q19, .inr (4, [.int 0, .int 0, .ref nw22, .ref kp23, .int 0, .int (-1), .ref mk24, .ref co25, .int 0, .int 0, .ref se26])), (nw22, .inl (cN27, 25240, .inl now0))]) hD hS hA [7, 8] rfl
      refine va_calli (pc := 1600) (va_runV (As := [.int (xs 1), .int 1, .int (xs 3)]) (rest := [.int (-1)]) ⟨hx, hb, hml, hown, hts⟩ (m_user l dC dI H.size q19 nw22 kp23 mk24 co25 se26 0 0 cN27 (xs 1) 1 (xs 3)) (cwV 3 hts (gV wd_539 wd_540 wd_541 wd_157 wd_538) rfl rfl rfl (by decide +kernel) ⟨Nat.le_of_ble_eq_true rfl, Nat.le_of_ble_eq_true rfl⟩) ⟨pW_blind, va_recv (q := (RM, TM, 11)) (q0 := 7) (ci := 4) hK hP rfl rfl, pW_pre hPc hKc hDc⟩ rfl rfl hl.1 rfl (lv_room (Nat.le_of_ble_eq_true rfl)) dL_law_1600 ⟨Nat.le_of_ble_eq_true rfl, Nat.le_of_ble_eq_true rfl⟩) hS (fun q _ h => hFc q h) hFc (fun r1044 u t H1 locs ht hvm hr1045 hB hz1 hk1 hS => ?_)
      obtain ⟨hP1, hK1, hD1⟩ := hB
      rw [ht] at hP1
      have hK1 := va_K.moved hvm.symm hK1
      obtain ⟨hP, hD⟩ := va_join (wr := [(q1, .inr (0, [.ref rt4, .ref dr5, .int 0, .int 0, .ref bs6, .ref df7, .ref ch8, .ref pg9, .int 0])), (rt4, .inl (cR14, 16, .inl (fun _ => 0))), (pg9, .inr (3, [.int 400, .int 0, .int 0, .int 0, .int 0, .int 0])), (bs6, .inl (cB15, 10, .inr (.inr (.inr (.inr (fun _ => none)))))), (df7, .inr (1, [.ref dv10, .ref do911, .int 0])), (dv10, .inl (cF16, 24, .inl fv17)), (ch8, .inr (2, [.ref cp12, .ref cn13, .int 0])), (kp23, .inl (cK28, 25240, .inl fk29)), (q31, .inl (cA32, 1, .inr (.inl (fun _ => 0))))]) (w1 := [(q19, .inr (4, [.int 0, .int 0, .ref nw22, .ref kp23, .int 0, .int (-1), .ref mk24, .ref co25, .int 0, .int 0, .ref se26]))]) hP hD [7, 8] [0, 1, 2, 3, 4, 5, 6, 9, 10] rfl rfl (by decide) (by decide) hk1 hFc hP1 hD1
      generalize H1 = H at hP hS ⊢
      have hP : va_P (dC, dI) kCl [(q1, .inr (0, [.ref rt4, .ref dr5, .int 0, .int 0, .ref bs6, .ref df7, .ref ch8, .ref pg9, .int 0])), (rt4, .inl (cR14, 16, .inl (fun _ => 0))), (pg9, .inr (3, [.int 400, .int 0, .int 0, .int 0, .int 0, .int 0])), (bs6, .inl (cB15, 10, .inr (.inr (.inr (.inr (fun _ => none)))))), (df7, .inr (1, [.ref dv10, .ref do911, .int 0])), (dv10, .inl (cF16, 24, .inl fv17)), (ch8, .inr (2, [.ref cp12, .ref cn13, .int 0])), (kp23, .inl (cK28, 25240, .inl fk29)), (q31, .inl (cA32, 1, .inr (.inl (fun _ => 0)))), (q19, .inr (4, [.int 0, .int 0, .ref nw22, .ref kp23, .int 0, .int (-1), .ref mk24, .ref co25, .int 0, .int 0, .ref se26]))] H := hP
      have hD : va_D A [(q1, .inr (0, [.ref rt4, .ref dr5, .int 0, .int 0, .ref bs6, .ref df7, .ref ch8, .ref pg9, .int 0])), (rt4, .inl (cR14, 16, .inl (fun _ => 0))), (pg9, .inr (3, [.int 400, .int 0, .int 0, .int 0, .int 0, .int 0])), (bs6, .inl (cB15, 10, .inr (.inr (.inr (.inr (fun _ => none)))))), (df7, .inr (1, [.ref dv10, .ref do911, .int 0])), (dv10, .inl (cF16, 24, .inl fv17)), (ch8, .inr (2, [.ref cp12, .ref cn13, .int 0])), (kp23, .inl (cK28, 25240, .inl fk29)), (q31, .inl (cA32, 1, .inr (.inl (fun _ => 0)))), (q19, .inr (4, [.int 0, .int 0, .ref nw22, .ref kp23, .int 0, .int (-1), .ref mk24, .ref co25, .int 0, .int 0, .ref se26]))] := hD
      refine W.widen (k := 18) (n := 52931) (Nat.le_of_ble_eq_true rfl) (Nat.le_of_ble_eq_true rfl) ?_
      obtain rfl : r1044 = (-1) := hr1045
      refine lv_icmp_eq (pc := 1603) (tgt := 1763) hx hb dL_law_1603 rfl (fun h1047 => ?_) (fun h1047 => absurd h1047 (by decide))
      exact law_tail hx hb hr hlocks hX hbl hbA hA2 hS (lv_sub hl (l' := [(4, .int 0), (0, .ref b)]) [0, 4] rfl) (Nat.le_of_ble_eq_true rfl) (Nat.le_of_ble_eq_true rfl)
set_option maxHeartbeats 4000000 in
set_option maxRecDepth 100000 in
theorem lawcase_19 {p : Program} {l : Launch} {e : Env} {s : State} {m : MethodId} {below : List Frame} {meth : Method} {c : Code} {b : Nat} {xs : Nat → Int32} {A : Nat → Prop} {H : Heap} {locs : List Loc} {ls : Array Slot} {dC : Nat → ClassId} {dI : Nat → Nat → Nat} {q1 : Nat} {rt4 : Nat} {dr5 : Nat} {bs6 : Nat} {df7 : Nat} {ch8 : Nat} {pg9 : Nat} {cR14 : ClassId} {cB15 : ClassId} {dv10 : Nat} {do911 : Nat} {cF16 : ClassId} {fv17 : Nat → Int32} {cp12 : Nat} {cn13 : Nat} {q19 : Nat} {nw22 : Nat} {kp23 : Nat} {mk24 : Nat} {co25 : Nat} {se26 : Nat} {cN27 : ClassId} {cK28 : ClassId} {fk29 : Nat → Int32} {q31 : Nat} {cA32 : ClassId} (h : lawS p l s m meth c b xs dC dI A q1 rt4 dr5 bs6 df7 ch8 pg9 cR14 cB15 dv10 do911 cF16 fv17 cp12 cn13 q19 nw22 kp23 mk24 co25 se26 cN27 cK28 fk29 q31 cA32 H locs ls) : W p l e room_1 s m #[Value.ref b] below meth c H locs 18 52931 (lw_Z below #[Value.ref b] s) (F0 m 1608 ls []) := by
  obtain ⟨hx, hb, hr, hml, hown, hts, hX, hbl, hbA, hlocks, hA, hA2, hP, hD, hK, hS, hl, hXE, hfl, hfk⟩ := h
  refine lv_aload_n (pc := 1608) hx hb dL_law_1608 rfl (lv_at hl 3 rfl) ?_
  refine lv_aload_n (pc := 1609) hx hb dL_law_1609 rfl (lv_at hl 4 rfl) ?_
  refine lv_iload (pc := 1610) hx hb dL_law_1610 (lv_at hl 0 rfl) ?_
  refine lv_iconst (pc := 1612) (v := 1) hx hb dL_law_1612 (by decide) ?_
  refine lv_iadd (pc := 1613) hx hb dL_law_1613 ?_
  refine lv_topi (fun z1001 hz1002 => ?_)
  obtain rfl : z1001 = 1 := hz1002.trans (by decide)
  refine va_sld (A := A) (pc := 1614) hx hb hX hbl hbA hS (vp_in_lit 1 6 (by decide)) dL_law_1614 ?_
  refine W.eq (g2 := F0 m 1615 ls [.int (xs 1), .ref q1]) rfl ?_
  refine lv_aload_n (pc := 1615) hx hb dL_law_1615 rfl (lv_at hl 4 rfl) ?_
  refine lv_iload (pc := 1616) hx hb dL_law_1616 (lv_at hl 0 rfl) ?_
  refine lv_iconst (pc := 1618) (v := 2) hx hb dL_law_1618 (by decide) ?_
  refine lv_iadd (pc := 1619) hx hb dL_law_1619 ?_
  refine lv_topi (fun z1003 hz1004 => ?_)
  obtain rfl : z1003 = 2 := hz1004.trans (by decide)
  refine va_sld (A := A) (pc := 1620) hx hb hX hbl hbA hS (vp_in_lit 2 6 (by decide)) dL_law_1620 ?_
  refine W.eq (g2 := F0 m 1621 ls [.int (xs 2), .int (xs 1), .ref q1]) rfl ?_
  refine lv_aload_n (pc := 1621) hx hb dL_law_1621 rfl (lv_at hl 4 rfl) ?_
  refine lv_iload (pc := 1622) hx hb dL_law_1622 (lv_at hl 0 rfl) ?_
  refine lv_iconst (pc := 1624) (v := 3) hx hb dL_law_1624 (by decide) ?_
  refine lv_iadd (pc := 1625) hx hb dL_law_1625 ?_
  refine lv_topi (fun z1005 hz1006 => ?_)
  obtain rfl : z1005 = 3 := hz1006.trans (by decide)
  refine va_sld (A := A) (pc := 1626) hx hb hX hbl hbA hS (vp_in_lit 3 6 (by decide)) dL_law_1626 ?_
  refine W.eq (g2 := F0 m 1627 ls [.int (xs 3), .int (xs 2), .int (xs 1), .ref q1]) rfl ?_
  refine lv_aload_n (pc := 1627) hx hb dL_law_1627 rfl (lv_at hl 4 rfl) ?_
  refine lv_iload (pc := 1628) hx hb dL_law_1628 (lv_at hl 0 rfl) ?_
  refine lv_iconst (pc := 1630) (v := 4) hx hb dL_law_1630 (by decide) ?_
  refine lv_iadd (pc := 1631) hx hb dL_law_1631 ?_
  refine lv_topi (fun z1007 hz1008 => ?_)
  obtain rfl : z1007 = 4 := hz1008.trans (by decide)
  refine va_sld (A := A) (pc := 1632) hx hb hX hbl hbA hS (vp_in_lit 4 6 (by decide)) dL_law_1632 ?_
  refine W.eq (g2 := F0 m 1633 ls [.int (xs 4), .int (xs 3), .int (xs 2), .int (xs 1), .ref q1]) rfl ?_
  refine lv_aload_n (pc := 1633) hx hb dL_law_1633 rfl (lv_at hl 1 rfl) ?_
  have hPc := hP.sub (ws' := [(q1, .inr (0, [.ref rt4, .ref dr5, .int 0, .int 0, .ref bs6, .ref df7, .ref ch8, .ref pg9, .int 0])), (q31, .inl (cA32, 1, .inr (.inl (fun _ => 0))))]) [0, 10] rfl
  have hDc := hD.sub (ws' := [(q1, .inr (0, [.ref rt4, .ref dr5, .int 0, .int 0, .ref bs6, .ref df7, .ref ch8, .ref pg9, .int 0])), (q31, .inl (cA32, 1, .inr (.inl (fun _ => 0))))]) [0, 10] (by decide) rfl
  have hKc := hK.sub (tys' := [(cA32, .long)]) [5] rfl
  have hFc := va_free (wc := [(q1, .inr (0, [.ref rt4, .ref dr5, .int 0, .int 0, .ref bs6, .ref df7, .ref ch8, .ref pg9, .int 0])), (q31, .inl (cA32, 1, .inr (.inl (fun _ => 0))))]) hD hS hA [0, 10] rfl
  refine va_calli (pc := 1634) (hxR (As := [.ref q1, .int (xs 1), .int (xs 2), .int (xs 3), .int (xs 4), .ref q31]) (rest := []) ⟨hx, hb, hml, hown, hts⟩ (l_difference l dC dI H.size q1 rt4 dr5 bs6 df7 ch8 pg9 0 q31 cA32 (fun _ => 0) (xs 1) (xs 2) (xs 3) (xs 4) (hfl)) 6 wd_543 wd_544 wd_405 wd_542 rfl rfl ⟨Nat.le_of_ble_eq_true rfl, Nat.le_of_ble_eq_true rfl⟩ (by decide +kernel) ⟨pWy_blind, pWy_pre hPc hKc hDc (fun U hU hW => xE_warm hW (fun q hq => by rw [hU]; exact hS.2.1 q hq (fun h => absurd (hA2 q h) (Nat.not_le.mpr hq))) hXE)⟩ rfl rfl hl.1 rfl (lv_room (Nat.le_of_ble_eq_true rfl)) dL_law_1634 ⟨Nat.le_of_ble_eq_true rfl, Nat.le_of_ble_eq_true rfl⟩) hS (fun q _ h => hFc q h) hFc (fun r1009 u t H1 locs ht hvm hr1010 hB hz1 hk1 hS => ?_)
  obtain ⟨hP1, hK1, hD1⟩ := hB
  rw [ht] at hP1
  have hK1 := va_K.moved hvm.symm hK1
  obtain ⟨hP, hD⟩ := va_join (wr := [(rt4, .inl (cR14, 16, .inl (fun _ => 0))), (pg9, .inr (3, [.int 400, .int 0, .int 0, .int 0, .int 0, .int 0])), (bs6, .inl (cB15, 10, .inr (.inr (.inr (.inr (fun _ => none)))))), (df7, .inr (1, [.ref dv10, .ref do911, .int 0])), (dv10, .inl (cF16, 24, .inl fv17)), (ch8, .inr (2, [.ref cp12, .ref cn13, .int 0])), (q19, .inr (4, [.int 0, .int 0, .ref nw22, .ref kp23, .int 0, .int (-1), .ref mk24, .ref co25, .int 0, .int 0, .ref se26])), (nw22, .inl (cN27, 25240, .inl now0)), (kp23, .inl (cK28, 25240, .inl fk29))]) (w1 := []) hP hD [0, 10] [1, 2, 3, 4, 5, 6, 7, 8, 9] rfl rfl (by decide) (by decide) hk1 hFc hP1 hD1
  generalize H1 = H at hP hS ⊢
  have hP : va_P (dC, dI) kCl [(rt4, .inl (cR14, 16, .inl (fun _ => 0))), (pg9, .inr (3, [.int 400, .int 0, .int 0, .int 0, .int 0, .int 0])), (bs6, .inl (cB15, 10, .inr (.inr (.inr (.inr (fun _ => none)))))), (df7, .inr (1, [.ref dv10, .ref do911, .int 0])), (dv10, .inl (cF16, 24, .inl fv17)), (ch8, .inr (2, [.ref cp12, .ref cn13, .int 0])), (q19, .inr (4, [.int 0, .int 0, .ref nw22, .ref kp23, .int 0, .int (-1), .ref mk24, .ref co25, .int 0, .int 0, .ref se26])), (nw22, .inl (cN27, 25240, .inl now0)), (kp23, .inl (cK28, 25240, .inl fk29))] H := hP
  have hD : va_D A [(rt4, .inl (cR14, 16, .inl (fun _ => 0))), (pg9, .inr (3, [.int 400, .int 0, .int 0, .int 0, .int 0, .int 0])), (bs6, .inl (cB15, 10, .inr (.inr (.inr (.inr (fun _ => none)))))), (df7, .inr (1, [.ref dv10, .ref do911, .int 0])), (dv10, .inl (cF16, 24, .inl fv17)), (ch8, .inr (2, [.ref cp12, .ref cn13, .int 0])), (q19, .inr (4, [.int 0, .int 0, .ref nw22, .ref kp23, .int 0, .int (-1), .ref mk24, .ref co25, .int 0, .int 0, .ref se26])), (nw22, .inl (cN27, 25240, .inl now0)), (kp23, .inl (cK28, 25240, .inl fk29))] := hD
  refine W.widen (k := 19) (n := 52937) (Nat.le_of_ble_eq_true rfl) (Nat.le_of_ble_eq_true rfl) ?_
  obtain rfl : r1009 = 1 := hr1010
  refine lv_istore (pc := 1637) hx hb dL_law_1637 hl (by decide) rfl (fun ls hl => ?_)
  have hl : lv_has ls 7 [(5, .int 1), (4, .int 0), (3, .ref q31), (2, .ref q19), (1, .ref q1), (0, .ref b)] := hl
  refine lv_aload_n (pc := 1639) hx hb dL_law_1639 rfl (lv_at hl 3 rfl) ?_
  refine lv_aload_n (pc := 1640) hx hb dL_law_1640 rfl (lv_at hl 5 rfl) ?_
  refine lv_iload (pc := 1641) hx hb dL_law_1641 (lv_at hl 1 rfl) ?_
  refine lv_iconst (pc := 1643) (v := 1) hx hb dL_law_1643 (by decide) ?_
  refine lv_iadd (pc := 1644) hx hb dL_law_1644 ?_
  refine lv_topi (fun z1012 hz1013 => ?_)
  obtain rfl : z1012 = 1 := hz1013.trans (by decide)
  refine va_sld (A := A) (pc := 1645) hx hb hX hbl hbA hS (vp_in_lit 1 6 (by decide)) dL_law_1645 ?_
  refine W.eq (g2 := F0 m 1646 ls [.int (xs 1), .ref q19]) rfl ?_
  refine lv_aload_n (pc := 1646) hx hb dL_law_1646 rfl (lv_at hl 5 rfl) ?_
  refine lv_iload (pc := 1647) hx hb dL_law_1647 (lv_at hl 1 rfl) ?_
  refine lv_iconst (pc := 1649) (v := 2) hx hb dL_law_1649 (by decide) ?_
  refine lv_iadd (pc := 1650) hx hb dL_law_1650 ?_
  refine lv_topi (fun z1014 hz1015 => ?_)
  obtain rfl : z1014 = 2 := hz1015.trans (by decide)
  refine va_sld (A := A) (pc := 1651) hx hb hX hbl hbA hS (vp_in_lit 2 6 (by decide)) dL_law_1651 ?_
  refine W.eq (g2 := F0 m 1652 ls [.int (xs 2), .int (xs 1), .ref q19]) rfl ?_
  refine lv_aload_n (pc := 1652) hx hb dL_law_1652 rfl (lv_at hl 5 rfl) ?_
  refine lv_iload (pc := 1653) hx hb dL_law_1653 (lv_at hl 1 rfl) ?_
  refine lv_iconst (pc := 1655) (v := 3) hx hb dL_law_1655 (by decide) ?_
  refine lv_iadd (pc := 1656) hx hb dL_law_1656 ?_
  refine lv_topi (fun z1016 hz1017 => ?_)
  obtain rfl : z1016 = 3 := hz1017.trans (by decide)
  refine va_sld (A := A) (pc := 1657) hx hb hX hbl hbA hS (vp_in_lit 3 6 (by decide)) dL_law_1657 ?_
  refine W.eq (g2 := F0 m 1658 ls [.int (xs 3), .int (xs 2), .int (xs 1), .ref q19]) rfl ?_
  refine lv_aload_n (pc := 1658) hx hb dL_law_1658 rfl (lv_at hl 5 rfl) ?_
  refine lv_iload (pc := 1659) hx hb dL_law_1659 (lv_at hl 1 rfl) ?_
  refine lv_iconst (pc := 1661) (v := 4) hx hb dL_law_1661 (by decide) ?_
  refine lv_iadd (pc := 1662) hx hb dL_law_1662 ?_
  refine lv_topi (fun z1018 hz1019 => ?_)
  obtain rfl : z1018 = 4 := hz1019.trans (by decide)
  refine va_sld (A := A) (pc := 1663) hx hb hX hbl hbA hS (vp_in_lit 4 6 (by decide)) dL_law_1663 ?_
  refine W.eq (g2 := F0 m 1664 ls [.int (xs 4), .int (xs 3), .int (xs 2), .int (xs 1), .ref q19]) rfl ?_
  have hPc := hP.sub (ws' := [(q19, .inr (4, [.int 0, .int 0, .ref nw22, .ref kp23, .int 0, .int (-1), .ref mk24, .ref co25, .int 0, .int 0, .ref se26])), (nw22, .inl (cN27, 25240, .inl now0))]) [6, 7] rfl
  have hDc := hD.sub (ws' := [(q19, .inr (4, [.int 0, .int 0, .ref nw22, .ref kp23, .int 0, .int (-1), .ref mk24, .ref co25, .int 0, .int 0, .ref se26])), (nw22, .inl (cN27, 25240, .inl now0))]) [6, 7] (by decide) rfl
  have hKc := hK.sub (tys' := [(cN27, .int)]) [3] rfl
  have hFc := va_free (wc := [(q19, .inr (4, [.int 0, .int 0, .ref nw22, .ref kp23, .int 0, .int (-1), .ref mk24, .ref co25, .int 0, .int 0, .ref se26])), (nw22, .inl (cN27, 25240, .inl now0))]) hD hS hA [6, 7] rfl
  refine va_calli (pc := 1664) (va_runV (As := [.int (xs 1), .int (xs 2), .int (xs 3), .int (xs 4)]) (rest := []) ⟨hx, hb, hml, hown, hts⟩ (m_difference l dC dI H.size q19 nw22 kp23 mk24 co25 se26 0 0 cN27 (xs 1) (xs 2) (xs 3) (xs 4)) (cwV 4 hts (gV wd_546 wd_547 wd_548 wd_157 wd_545) rfl rfl rfl (by decide +kernel) ⟨Nat.le_of_ble_eq_true rfl, Nat.le_of_ble_eq_true rfl⟩) ⟨pW_blind, va_recv (q := (RM, TM, 11)) (q0 := 6) (ci := 4) hK hP rfl rfl, pW_pre hPc hKc hDc⟩ rfl rfl hl.1 rfl (lv_room (Nat.le_of_ble_eq_true rfl)) dL_law_1664 ⟨Nat.le_of_ble_eq_true rfl, Nat.le_of_ble_eq_true rfl⟩) hS (fun q _ h => hFc q h) hFc (fun r1020 u t H1 locs ht hvm hr1021 hB hz1 hk1 hS => ?_)
  obtain ⟨hP1, hK1, hD1⟩ := hB
  rw [ht] at hP1
  have hK1 := va_K.moved hvm.symm hK1
  obtain ⟨hP, hD⟩ := va_join (wr := [(rt4, .inl (cR14, 16, .inl (fun _ => 0))), (pg9, .inr (3, [.int 400, .int 0, .int 0, .int 0, .int 0, .int 0])), (bs6, .inl (cB15, 10, .inr (.inr (.inr (.inr (fun _ => none)))))), (df7, .inr (1, [.ref dv10, .ref do911, .int 0])), (dv10, .inl (cF16, 24, .inl fv17)), (ch8, .inr (2, [.ref cp12, .ref cn13, .int 0])), (kp23, .inl (cK28, 25240, .inl fk29))]) (w1 := [(q19, .inr (4, [.int 1, .int 0, .ref nw22, .ref kp23, .int 0, .int (-1), .ref mk24, .ref co25, .int 0, .int 0, .ref se26]))]) hP hD [6, 7] [0, 1, 2, 3, 4, 5, 8] rfl rfl (by decide) (by decide) hk1 hFc hP1 hD1
  generalize H1 = H at hP hS ⊢
  have hP : va_P (dC, dI) kCl [(rt4, .inl (cR14, 16, .inl (fun _ => 0))), (pg9, .inr (3, [.int 400, .int 0, .int 0, .int 0, .int 0, .int 0])), (bs6, .inl (cB15, 10, .inr (.inr (.inr (.inr (fun _ => none)))))), (df7, .inr (1, [.ref dv10, .ref do911, .int 0])), (dv10, .inl (cF16, 24, .inl fv17)), (ch8, .inr (2, [.ref cp12, .ref cn13, .int 0])), (kp23, .inl (cK28, 25240, .inl fk29)), (q19, .inr (4, [.int 1, .int 0, .ref nw22, .ref kp23, .int 0, .int (-1), .ref mk24, .ref co25, .int 0, .int 0, .ref se26]))] H := hP
  have hD : va_D A [(rt4, .inl (cR14, 16, .inl (fun _ => 0))), (pg9, .inr (3, [.int 400, .int 0, .int 0, .int 0, .int 0, .int 0])), (bs6, .inl (cB15, 10, .inr (.inr (.inr (.inr (fun _ => none)))))), (df7, .inr (1, [.ref dv10, .ref do911, .int 0])), (dv10, .inl (cF16, 24, .inl fv17)), (ch8, .inr (2, [.ref cp12, .ref cn13, .int 0])), (kp23, .inl (cK28, 25240, .inl fk29)), (q19, .inr (4, [.int 1, .int 0, .ref nw22, .ref kp23, .int 0, .int (-1), .ref mk24, .ref co25, .int 0, .int 0, .ref se26]))] := hD
  refine W.widen (k := 19) (n := 52937) (Nat.le_of_ble_eq_true rfl) (Nat.le_of_ble_eq_true rfl) ?_
  obtain rfl : r1020 = 0 := hr1021
  refine lv_istore (pc := 1667) hx hb dL_law_1667 hl (by decide) rfl (fun ls hl => ?_)
  have hl : lv_has ls 7 [(6, .int 0), (5, .int 1), (4, .int 0), (3, .ref q31), (2, .ref q19), (1, .ref q1), (0, .ref b)] := hl
  refine lv_aload_n (pc := 1669) hx hb dL_law_1669 rfl (lv_at hl 4 rfl) ?_
  refine vp_callSi (pc := 1670) (W.runV (As := []) (rest := []) ⟨hx, hb, hml, hown, hts⟩ (m_thrown l dC dI q19 nw22 kp23 mk24 co25 se26 1 0) (cwV 0 hts (gV wd_411 wd_412 wd_413 wd_157 wd_410) rfl rfl rfl (by decide +kernel) ⟨Nat.le_of_ble_eq_true rfl, Nat.le_of_ble_eq_true rfl⟩) ⟨pR_blind, va_recv (q := (RM, TM, 11)) (q0 := 7) (ci := 4) hK hP rfl rfl, pR_pre (hP.sub (ws' := [(q19, .inr (4, [.int 1, .int 0, .ref nw22, .ref kp23, .int 0, .int (-1), .ref mk24, .ref co25, .int 0, .int 0, .ref se26]))]) [7] rfl) (hK.sub (tys' := []) [] rfl)⟩ rfl rfl hl.1 rfl (lv_room (Nat.le_of_ble_eq_true rfl)) dL_law_1670 ⟨Nat.le_of_ble_eq_true rfl, Nat.le_of_ble_eq_true rfl⟩) (fun r1023 hr1024 => ?_)
  obtain rfl : r1023 = 1 := hr1024
  refine lv_iload (pc := 1673) hx hb dL_law_1673 (lv_at hl 1 rfl) ?_
  refine lv_icmp_eq (pc := 1675) (tgt := 1680) hx hb dL_law_1675 rfl (fun h1025 => ?_) (fun h1025 => absurd h1025 (by decide))
  refine lv_iload (pc := 1680) hx hb dL_law_1680 (lv_at hl 1 rfl) ?_
  refine lv_if_ne (pc := 1682) (tgt := 1697) hx hb dL_law_1682 rfl (fun h1026 => ?_) (fun h1026 => absurd h1026 (by decide))
  refine lv_goto (pc := 1697) (tgt := 1763) hx hb dL_law_1697 rfl ?_
  exact law_tail hx hb hr hlocks hX hbl hbA hA2 hS (lv_sub hl (l' := [(4, .int 0), (0, .ref b)]) [2, 6] rfl) (Nat.le_of_ble_eq_true rfl) (Nat.le_of_ble_eq_true rfl)
set_option maxHeartbeats 4000000 in
set_option maxRecDepth 100000 in
theorem lawcase_20 {p : Program} {l : Launch} {e : Env} {s : State} {m : MethodId} {below : List Frame} {meth : Method} {c : Code} {b : Nat} {xs : Nat → Int32} {A : Nat → Prop} {H : Heap} {locs : List Loc} {ls : Array Slot} {dC : Nat → ClassId} {dI : Nat → Nat → Nat} {q1 : Nat} {rt4 : Nat} {dr5 : Nat} {bs6 : Nat} {df7 : Nat} {ch8 : Nat} {pg9 : Nat} {cR14 : ClassId} {cB15 : ClassId} {dv10 : Nat} {do911 : Nat} {cF16 : ClassId} {fv17 : Nat → Int32} {cp12 : Nat} {cn13 : Nat} {q19 : Nat} {nw22 : Nat} {kp23 : Nat} {mk24 : Nat} {co25 : Nat} {se26 : Nat} {cN27 : ClassId} {cK28 : ClassId} {fk29 : Nat → Int32} {q31 : Nat} {cA32 : ClassId} (h : lawS p l s m meth c b xs dC dI A q1 rt4 dr5 bs6 df7 ch8 pg9 cR14 cB15 dv10 do911 cF16 fv17 cp12 cn13 q19 nw22 kp23 mk24 co25 se26 cN27 cK28 fk29 q31 cA32 H locs ls) : W p l e room_1 s m #[Value.ref b] below meth c H locs 18 52931 (lw_Z below #[Value.ref b] s) (F0 m 1700 ls []) := by
  obtain ⟨hx, hb, hr, hml, hown, hts, hX, hbl, hbA, hlocks, hA, hA2, hP, hD, hK, hS, hl, hXE, hfl, hfk⟩ := h
  refine lv_aload_n (pc := 1700) hx hb dL_law_1700 rfl (lv_at hl 3 rfl) ?_
  refine lv_aload_n (pc := 1701) hx hb dL_law_1701 rfl (lv_at hl 4 rfl) ?_
  refine lv_iload (pc := 1702) hx hb dL_law_1702 (lv_at hl 0 rfl) ?_
  refine lv_iconst (pc := 1704) (v := 1) hx hb dL_law_1704 (by decide) ?_
  refine lv_iadd (pc := 1705) hx hb dL_law_1705 ?_
  refine lv_topi (fun z1001 hz1002 => ?_)
  obtain rfl : z1001 = 1 := hz1002.trans (by decide)
  refine va_sld (A := A) (pc := 1706) hx hb hX hbl hbA hS (vp_in_lit 1 6 (by decide)) dL_law_1706 ?_
  refine W.eq (g2 := F0 m 1707 ls [.int (xs 1), .ref q1]) rfl ?_
  have hPc := hP.sub (ws' := [(q1, .inr (0, [.ref rt4, .ref dr5, .int 0, .int 0, .ref bs6, .ref df7, .ref ch8, .ref pg9, .int 0])), (pg9, .inr (3, [.int 400, .int 0, .int 0, .int 0, .int 0, .int 0]))]) [0, 2] rfl
  have hDc := hD.sub (ws' := [(q1, .inr (0, [.ref rt4, .ref dr5, .int 0, .int 0, .ref bs6, .ref df7, .ref ch8, .ref pg9, .int 0])), (pg9, .inr (3, [.int 400, .int 0, .int 0, .int 0, .int 0, .int 0]))]) [0, 2] (by decide) rfl
  have hKc := hK.sub (tys' := []) [] rfl
  have hFc := va_free (wc := [(q1, .inr (0, [.ref rt4, .ref dr5, .int 0, .int 0, .ref bs6, .ref df7, .ref ch8, .ref pg9, .int 0])), (pg9, .inr (3, [.int 400, .int 0, .int 0, .int 0, .int 0, .int 0]))]) hD hS hA [0, 2] rfl
  refine va_calli (pc := 1707) (va_runV (As := [.int (xs 1)]) (rest := []) ⟨hx, hb, hml, hown, hts⟩ (v_failAfter l dC dI H.size q1 rt4 dr5 bs6 df7 ch8 pg9 0 (xs 1)) (cwV 1 hts (gV wd_550 wd_551 wd_552 wd_35 wd_549) rfl rfl rfl (by decide +kernel) ⟨Nat.le_of_ble_eq_true rfl, Nat.le_of_ble_eq_true rfl⟩) ⟨pW_blind, va_recv (q := (RV, TV, 9)) (q0 := 0) (ci := 0) hK hP rfl rfl, pW_pre hPc hKc hDc⟩ rfl rfl hl.1 rfl (lv_room (Nat.le_of_ble_eq_true rfl)) dL_law_1707 ⟨Nat.le_of_ble_eq_true rfl, Nat.le_of_ble_eq_true rfl⟩) hS (fun q _ h => hFc q h) hFc (fun r1003 u t H1 locs ht hvm hr1004 hB hz1 hk1 hS => ?_)
  obtain ⟨hP1, hK1, hD1⟩ := hB
  rw [ht] at hP1
  have hK1 := va_K.moved hvm.symm hK1
  obtain ⟨hP, hD⟩ := va_join (wr := [(rt4, .inl (cR14, 16, .inl (fun _ => 0))), (bs6, .inl (cB15, 10, .inr (.inr (.inr (.inr (fun _ => none)))))), (df7, .inr (1, [.ref dv10, .ref do911, .int 0])), (dv10, .inl (cF16, 24, .inl fv17)), (ch8, .inr (2, [.ref cp12, .ref cn13, .int 0])), (q19, .inr (4, [.int 0, .int 0, .ref nw22, .ref kp23, .int 0, .int (-1), .ref mk24, .ref co25, .int 0, .int 0, .ref se26])), (nw22, .inl (cN27, 25240, .inl now0)), (kp23, .inl (cK28, 25240, .inl fk29)), (q31, .inl (cA32, 1, .inr (.inl (fun _ => 0))))]) (w1 := []) hP hD [0, 2] [1, 3, 4, 5, 6, 7, 8, 9, 10] rfl rfl (by decide) (by decide) hk1 hFc hP1 hD1
  generalize H1 = H at hP hS ⊢
  have hP : va_P (dC, dI) kCl [(rt4, .inl (cR14, 16, .inl (fun _ => 0))), (bs6, .inl (cB15, 10, .inr (.inr (.inr (.inr (fun _ => none)))))), (df7, .inr (1, [.ref dv10, .ref do911, .int 0])), (dv10, .inl (cF16, 24, .inl fv17)), (ch8, .inr (2, [.ref cp12, .ref cn13, .int 0])), (q19, .inr (4, [.int 0, .int 0, .ref nw22, .ref kp23, .int 0, .int (-1), .ref mk24, .ref co25, .int 0, .int 0, .ref se26])), (nw22, .inl (cN27, 25240, .inl now0)), (kp23, .inl (cK28, 25240, .inl fk29)), (q31, .inl (cA32, 1, .inr (.inl (fun _ => 0))))] H := hP
  have hD : va_D A [(rt4, .inl (cR14, 16, .inl (fun _ => 0))), (bs6, .inl (cB15, 10, .inr (.inr (.inr (.inr (fun _ => none)))))), (df7, .inr (1, [.ref dv10, .ref do911, .int 0])), (dv10, .inl (cF16, 24, .inl fv17)), (ch8, .inr (2, [.ref cp12, .ref cn13, .int 0])), (q19, .inr (4, [.int 0, .int 0, .ref nw22, .ref kp23, .int 0, .int (-1), .ref mk24, .ref co25, .int 0, .int 0, .ref se26])), (nw22, .inl (cN27, 25240, .inl now0)), (kp23, .inl (cK28, 25240, .inl fk29)), (q31, .inl (cA32, 1, .inr (.inl (fun _ => 0))))] := hD
  refine W.widen (k := 18) (n := 52931) (Nat.le_of_ble_eq_true rfl) (Nat.le_of_ble_eq_true rfl) ?_
  obtain ⟨rfl, h1006⟩ | ⟨rfl, h1006⟩ : (r1003 = 1 ∧ (¬ (xs 1) < 0)) ∨ (r1003 = 0 ∧ ((xs 1) < 0)) := hr1004
  · refine lv_aload_n (pc := 1710) hx hb dL_law_1710 rfl (lv_at hl 2 rfl) ?_
    refine lv_aload_n (pc := 1711) hx hb dL_law_1711 rfl (lv_at hl 4 rfl) ?_
    refine lv_iload (pc := 1712) hx hb dL_law_1712 (lv_at hl 0 rfl) ?_
    refine lv_iconst (pc := 1714) (v := 1) hx hb dL_law_1714 (by decide) ?_
    refine lv_iadd (pc := 1715) hx hb dL_law_1715 ?_
    refine lv_topi (fun z1007 hz1008 => ?_)
    obtain rfl : z1007 = 1 := hz1008.trans (by decide)
    refine va_sld (A := A) (pc := 1716) hx hb hX hbl hbA hS (vp_in_lit 1 6 (by decide)) dL_law_1716 ?_
    refine W.eq (g2 := F0 m 1717 ls [.int (xs 1), .ref q19, .int 1]) rfl ?_
    have hPc := hP.sub (ws' := [(q19, .inr (4, [.int 0, .int 0, .ref nw22, .ref kp23, .int 0, .int (-1), .ref mk24, .ref co25, .int 0, .int 0, .ref se26]))]) [5] rfl
    have hDc := hD.sub (ws' := [(q19, .inr (4, [.int 0, .int 0, .ref nw22, .ref kp23, .int 0, .int (-1), .ref mk24, .ref co25, .int 0, .int 0, .ref se26]))]) [5] (by decide) rfl
    have hKc := hK.sub (tys' := []) [] rfl
    have hFc := va_free (wc := [(q19, .inr (4, [.int 0, .int 0, .ref nw22, .ref kp23, .int 0, .int (-1), .ref mk24, .ref co25, .int 0, .int 0, .ref se26]))]) hD hS hA [5] rfl
    refine va_calli (pc := 1717) (va_runV (As := [.int (xs 1)]) (rest := [.int 1]) ⟨hx, hb, hml, hown, hts⟩ (m_failAfter l dC dI H.size q19 nw22 kp23 mk24 co25 se26 0 0 (xs 1)) (cwV 1 hts (gV wd_554 wd_555 wd_556 wd_157 wd_553) rfl rfl rfl (by decide +kernel) ⟨Nat.le_of_ble_eq_true rfl, Nat.le_of_ble_eq_true rfl⟩) ⟨pW_blind, va_recv (q := (RM, TM, 11)) (q0 := 5) (ci := 4) hK hP rfl rfl, pW_pre hPc hKc hDc⟩ rfl rfl hl.1 rfl (lv_room (Nat.le_of_ble_eq_true rfl)) dL_law_1717 ⟨Nat.le_of_ble_eq_true rfl, Nat.le_of_ble_eq_true rfl⟩) hS (fun q _ h => hFc q h) hFc (fun r1009 u1011 t H1 locs ht hvm hr1010 hB hz1 hk1 hS => ?_)
    obtain ⟨hP1, hK1, hD1⟩ := hB
    rw [ht] at hP1
    have hK1 := va_K.moved hvm.symm hK1
    obtain ⟨hP, hD⟩ := va_join (wr := [(rt4, .inl (cR14, 16, .inl (fun _ => 0))), (bs6, .inl (cB15, 10, .inr (.inr (.inr (.inr (fun _ => none)))))), (df7, .inr (1, [.ref dv10, .ref do911, .int 0])), (dv10, .inl (cF16, 24, .inl fv17)), (ch8, .inr (2, [.ref cp12, .ref cn13, .int 0])), (nw22, .inl (cN27, 25240, .inl now0)), (kp23, .inl (cK28, 25240, .inl fk29)), (q31, .inl (cA32, 1, .inr (.inl (fun _ => 0))))]) (w1 := [(q19, .inr (4, [.int 0, .int 0, .ref nw22, .ref kp23, .int 0, .int u1011, .ref mk24, .ref co25, .int 0, .int 0, .ref se26]))]) hP hD [5] [0, 1, 2, 3, 4, 6, 7, 8] rfl rfl (by decide) (by decide) hk1 hFc hP1 hD1
    generalize H1 = H at hP hS ⊢
    have hP : va_P (dC, dI) kCl [(rt4, .inl (cR14, 16, .inl (fun _ => 0))), (bs6, .inl (cB15, 10, .inr (.inr (.inr (.inr (fun _ => none)))))), (df7, .inr (1, [.ref dv10, .ref do911, .int 0])), (dv10, .inl (cF16, 24, .inl fv17)), (ch8, .inr (2, [.ref cp12, .ref cn13, .int 0])), (nw22, .inl (cN27, 25240, .inl now0)), (kp23, .inl (cK28, 25240, .inl fk29)), (q31, .inl (cA32, 1, .inr (.inl (fun _ => 0)))), (q19, .inr (4, [.int 0, .int 0, .ref nw22, .ref kp23, .int 0, .int u1011, .ref mk24, .ref co25, .int 0, .int 0, .ref se26]))] H := hP
    have hD : va_D A [(rt4, .inl (cR14, 16, .inl (fun _ => 0))), (bs6, .inl (cB15, 10, .inr (.inr (.inr (.inr (fun _ => none)))))), (df7, .inr (1, [.ref dv10, .ref do911, .int 0])), (dv10, .inl (cF16, 24, .inl fv17)), (ch8, .inr (2, [.ref cp12, .ref cn13, .int 0])), (nw22, .inl (cN27, 25240, .inl now0)), (kp23, .inl (cK28, 25240, .inl fk29)), (q31, .inl (cA32, 1, .inr (.inl (fun _ => 0)))), (q19, .inr (4, [.int 0, .int 0, .ref nw22, .ref kp23, .int 0, .int u1011, .ref mk24, .ref co25, .int 0, .int 0, .ref se26]))] := hD
    refine W.widen (k := 18) (n := 52931) (Nat.le_of_ble_eq_true rfl) (Nat.le_of_ble_eq_true rfl) ?_
    obtain ⟨rfl, rfl, h1013⟩ | ⟨rfl, rfl, h1013⟩ : (r1009 = 1 ∧ u1011 = (xs 1) ∧ (¬ (xs 1) < 0)) ∨ (r1009 = 0 ∧ u1011 = (-1) ∧ ((xs 1) < 0)) := hr1010
    · refine lv_icmp_eq (pc := 1720) (tgt := 1763) hx hb dL_law_1720 rfl (fun h1014 => ?_) (fun h1014 => absurd h1014 (by decide))
      exact law_tail hx hb hr hlocks hX hbl hbA hA2 hS (lv_sub hl (l' := [(4, .int 0), (0, .ref b)]) [0, 4] rfl) (Nat.le_of_ble_eq_true rfl) (Nat.le_of_ble_eq_true rfl)
    · refine lv_icmp_eq (pc := 1720) (tgt := 1763) hx hb dL_law_1720 rfl (fun h1015 => absurd h1015 (by decide)) (fun h1015 => ?_)
      refine lv_iconst (pc := 1723) (v := 0) hx hb dL_law_1723 (by decide) ?_
      exact absurd h1013 h1006
  · refine lv_aload_n (pc := 1710) hx hb dL_law_1710 rfl (lv_at hl 2 rfl) ?_
    refine lv_aload_n (pc := 1711) hx hb dL_law_1711 rfl (lv_at hl 4 rfl) ?_
    refine lv_iload (pc := 1712) hx hb dL_law_1712 (lv_at hl 0 rfl) ?_
    refine lv_iconst (pc := 1714) (v := 1) hx hb dL_law_1714 (by decide) ?_
    refine lv_iadd (pc := 1715) hx hb dL_law_1715 ?_
    refine lv_topi (fun z1016 hz1017 => ?_)
    obtain rfl : z1016 = 1 := hz1017.trans (by decide)
    refine va_sld (A := A) (pc := 1716) hx hb hX hbl hbA hS (vp_in_lit 1 6 (by decide)) dL_law_1716 ?_
    refine W.eq (g2 := F0 m 1717 ls [.int (xs 1), .ref q19, .int 0]) rfl ?_
    have hPc := hP.sub (ws' := [(q19, .inr (4, [.int 0, .int 0, .ref nw22, .ref kp23, .int 0, .int (-1), .ref mk24, .ref co25, .int 0, .int 0, .ref se26]))]) [5] rfl
    have hDc := hD.sub (ws' := [(q19, .inr (4, [.int 0, .int 0, .ref nw22, .ref kp23, .int 0, .int (-1), .ref mk24, .ref co25, .int 0, .int 0, .ref se26]))]) [5] (by decide) rfl
    have hKc := hK.sub (tys' := []) [] rfl
    have hFc := va_free (wc := [(q19, .inr (4, [.int 0, .int 0, .ref nw22, .ref kp23, .int 0, .int (-1), .ref mk24, .ref co25, .int 0, .int 0, .ref se26]))]) hD hS hA [5] rfl
    refine va_calli (pc := 1717) (va_runV (As := [.int (xs 1)]) (rest := [.int 0]) ⟨hx, hb, hml, hown, hts⟩ (m_failAfter l dC dI H.size q19 nw22 kp23 mk24 co25 se26 0 0 (xs 1)) (cwV 1 hts (gV wd_554 wd_555 wd_556 wd_157 wd_553) rfl rfl rfl (by decide +kernel) ⟨Nat.le_of_ble_eq_true rfl, Nat.le_of_ble_eq_true rfl⟩) ⟨pW_blind, va_recv (q := (RM, TM, 11)) (q0 := 5) (ci := 4) hK hP rfl rfl, pW_pre hPc hKc hDc⟩ rfl rfl hl.1 rfl (lv_room (Nat.le_of_ble_eq_true rfl)) dL_law_1717 ⟨Nat.le_of_ble_eq_true rfl, Nat.le_of_ble_eq_true rfl⟩) hS (fun q _ h => hFc q h) hFc (fun r1018 u1020 t H1 locs ht hvm hr1019 hB hz1 hk1 hS => ?_)
    obtain ⟨hP1, hK1, hD1⟩ := hB
    rw [ht] at hP1
    have hK1 := va_K.moved hvm.symm hK1
    obtain ⟨hP, hD⟩ := va_join (wr := [(rt4, .inl (cR14, 16, .inl (fun _ => 0))), (bs6, .inl (cB15, 10, .inr (.inr (.inr (.inr (fun _ => none)))))), (df7, .inr (1, [.ref dv10, .ref do911, .int 0])), (dv10, .inl (cF16, 24, .inl fv17)), (ch8, .inr (2, [.ref cp12, .ref cn13, .int 0])), (nw22, .inl (cN27, 25240, .inl now0)), (kp23, .inl (cK28, 25240, .inl fk29)), (q31, .inl (cA32, 1, .inr (.inl (fun _ => 0))))]) (w1 := [(q19, .inr (4, [.int 0, .int 0, .ref nw22, .ref kp23, .int 0, .int u1020, .ref mk24, .ref co25, .int 0, .int 0, .ref se26]))]) hP hD [5] [0, 1, 2, 3, 4, 6, 7, 8] rfl rfl (by decide) (by decide) hk1 hFc hP1 hD1
    generalize H1 = H at hP hS ⊢
    have hP : va_P (dC, dI) kCl [(rt4, .inl (cR14, 16, .inl (fun _ => 0))), (bs6, .inl (cB15, 10, .inr (.inr (.inr (.inr (fun _ => none)))))), (df7, .inr (1, [.ref dv10, .ref do911, .int 0])), (dv10, .inl (cF16, 24, .inl fv17)), (ch8, .inr (2, [.ref cp12, .ref cn13, .int 0])), (nw22, .inl (cN27, 25240, .inl now0)), (kp23, .inl (cK28, 25240, .inl fk29)), (q31, .inl (cA32, 1, .inr (.inl (fun _ => 0)))), (q19, .inr (4, [.int 0, .int 0, .ref nw22, .ref kp23, .int 0, .int u1020, .ref mk24, .ref co25, .int 0, .int 0, .ref se26]))] H := hP
    have hD : va_D A [(rt4, .inl (cR14, 16, .inl (fun _ => 0))), (bs6, .inl (cB15, 10, .inr (.inr (.inr (.inr (fun _ => none)))))), (df7, .inr (1, [.ref dv10, .ref do911, .int 0])), (dv10, .inl (cF16, 24, .inl fv17)), (ch8, .inr (2, [.ref cp12, .ref cn13, .int 0])), (nw22, .inl (cN27, 25240, .inl now0)), (kp23, .inl (cK28, 25240, .inl fk29)), (q31, .inl (cA32, 1, .inr (.inl (fun _ => 0)))), (q19, .inr (4, [.int 0, .int 0, .ref nw22, .ref kp23, .int 0, .int u1020, .ref mk24, .ref co25, .int 0, .int 0, .ref se26]))] := hD
    refine W.widen (k := 18) (n := 52931) (Nat.le_of_ble_eq_true rfl) (Nat.le_of_ble_eq_true rfl) ?_
    obtain ⟨rfl, rfl, h1022⟩ | ⟨rfl, rfl, h1022⟩ : (r1018 = 1 ∧ u1020 = (xs 1) ∧ (¬ (xs 1) < 0)) ∨ (r1018 = 0 ∧ u1020 = (-1) ∧ ((xs 1) < 0)) := hr1019
    · refine lv_icmp_eq (pc := 1720) (tgt := 1763) hx hb dL_law_1720 rfl (fun h1023 => absurd h1023 (by decide)) (fun h1023 => ?_)
      refine lv_iconst (pc := 1723) (v := 0) hx hb dL_law_1723 (by decide) ?_
      exact absurd h1006 h1022
    · refine lv_icmp_eq (pc := 1720) (tgt := 1763) hx hb dL_law_1720 rfl (fun h1024 => ?_) (fun h1024 => absurd h1024 (by decide))
      exact law_tail hx hb hr hlocks hX hbl hbA hA2 hS (lv_sub hl (l' := [(4, .int 0), (0, .ref b)]) [0, 4] rfl) (Nat.le_of_ble_eq_true rfl) (Nat.le_of_ble_eq_true rfl)
set_option maxHeartbeats 4000000 in
set_option maxRecDepth 100000 in
theorem lawcase_21 {p : Program} {l : Launch} {e : Env} {s : State} {m : MethodId} {below : List Frame} {meth : Method} {c : Code} {b : Nat} {xs : Nat → Int32} {A : Nat → Prop} {H : Heap} {locs : List Loc} {ls : Array Slot} {dC : Nat → ClassId} {dI : Nat → Nat → Nat} {q1 : Nat} {rt4 : Nat} {dr5 : Nat} {bs6 : Nat} {df7 : Nat} {ch8 : Nat} {pg9 : Nat} {cR14 : ClassId} {cB15 : ClassId} {dv10 : Nat} {do911 : Nat} {cF16 : ClassId} {fv17 : Nat → Int32} {cp12 : Nat} {cn13 : Nat} {q19 : Nat} {nw22 : Nat} {kp23 : Nat} {mk24 : Nat} {co25 : Nat} {se26 : Nat} {cN27 : ClassId} {cK28 : ClassId} {fk29 : Nat → Int32} {q31 : Nat} {cA32 : ClassId} (h : lawS p l s m meth c b xs dC dI A q1 rt4 dr5 bs6 df7 ch8 pg9 cR14 cB15 dv10 do911 cF16 fv17 cp12 cn13 q19 nw22 kp23 mk24 co25 se26 cN27 cK28 fk29 q31 cA32 H locs ls) : W p l e room_1 s m #[Value.ref b] below meth c H locs 18 52931 (lw_Z below #[Value.ref b] s) (F0 m 1725 ls []) := by
  obtain ⟨hx, hb, hr, hml, hown, hts, hX, hbl, hbA, hlocks, hA, hA2, hP, hD, hK, hS, hl, hXE, hfl, hfk⟩ := h
  refine lv_aload_n (pc := 1725) hx hb dL_law_1725 rfl (lv_at hl 3 rfl) ?_
  have hPc := hP.sub (ws' := [(q1, .inr (0, [.ref rt4, .ref dr5, .int 0, .int 0, .ref bs6, .ref df7, .ref ch8, .ref pg9, .int 0])), (pg9, .inr (3, [.int 400, .int 0, .int 0, .int 0, .int 0, .int 0]))]) [0, 2] rfl
  have hDc := hD.sub (ws' := [(q1, .inr (0, [.ref rt4, .ref dr5, .int 0, .int 0, .ref bs6, .ref df7, .ref ch8, .ref pg9, .int 0])), (pg9, .inr (3, [.int 400, .int 0, .int 0, .int 0, .int 0, .int 0]))]) [0, 2] (by decide) rfl
  have hKc := hK.sub (tys' := []) [] rfl
  have hFc := va_free (wc := [(q1, .inr (0, [.ref rt4, .ref dr5, .int 0, .int 0, .ref bs6, .ref df7, .ref ch8, .ref pg9, .int 0])), (pg9, .inr (3, [.int 400, .int 0, .int 0, .int 0, .int 0, .int 0]))]) hD hS hA [0, 2] rfl
  refine va_calli (pc := 1726) (va_runV (As := []) (rest := []) ⟨hx, hb, hml, hown, hts⟩ (v_start l dC dI H.size q1 rt4 dr5 bs6 df7 ch8 pg9 0) (cwV 0 hts (gV wd_558 wd_559 wd_560 wd_35 wd_557) rfl rfl rfl (by decide +kernel) ⟨Nat.le_of_ble_eq_true rfl, Nat.le_of_ble_eq_true rfl⟩) ⟨pW_blind, va_recv (q := (RV, TV, 9)) (q0 := 0) (ci := 0) hK hP rfl rfl, pW_pre hPc hKc hDc⟩ rfl rfl hl.1 rfl (lv_room (Nat.le_of_ble_eq_true rfl)) dL_law_1726 ⟨Nat.le_of_ble_eq_true rfl, Nat.le_of_ble_eq_true rfl⟩) hS (fun q _ h => hFc q h) hFc (fun r1001 u t H1 locs ht hvm hr1002 hB hz1 hk1 hS => ?_)
  obtain ⟨hP1, hK1, hD1⟩ := hB
  rw [ht] at hP1
  have hK1 := va_K.moved hvm.symm hK1
  obtain ⟨hP, hD⟩ := va_join (wr := [(rt4, .inl (cR14, 16, .inl (fun _ => 0))), (bs6, .inl (cB15, 10, .inr (.inr (.inr (.inr (fun _ => none)))))), (df7, .inr (1, [.ref dv10, .ref do911, .int 0])), (dv10, .inl (cF16, 24, .inl fv17)), (ch8, .inr (2, [.ref cp12, .ref cn13, .int 0])), (q19, .inr (4, [.int 0, .int 0, .ref nw22, .ref kp23, .int 0, .int (-1), .ref mk24, .ref co25, .int 0, .int 0, .ref se26])), (nw22, .inl (cN27, 25240, .inl now0)), (kp23, .inl (cK28, 25240, .inl fk29)), (q31, .inl (cA32, 1, .inr (.inl (fun _ => 0))))]) (w1 := []) hP hD [0, 2] [1, 3, 4, 5, 6, 7, 8, 9, 10] rfl rfl (by decide) (by decide) hk1 hFc hP1 hD1
  generalize H1 = H at hP hS ⊢
  have hP : va_P (dC, dI) kCl [(rt4, .inl (cR14, 16, .inl (fun _ => 0))), (bs6, .inl (cB15, 10, .inr (.inr (.inr (.inr (fun _ => none)))))), (df7, .inr (1, [.ref dv10, .ref do911, .int 0])), (dv10, .inl (cF16, 24, .inl fv17)), (ch8, .inr (2, [.ref cp12, .ref cn13, .int 0])), (q19, .inr (4, [.int 0, .int 0, .ref nw22, .ref kp23, .int 0, .int (-1), .ref mk24, .ref co25, .int 0, .int 0, .ref se26])), (nw22, .inl (cN27, 25240, .inl now0)), (kp23, .inl (cK28, 25240, .inl fk29)), (q31, .inl (cA32, 1, .inr (.inl (fun _ => 0))))] H := hP
  have hD : va_D A [(rt4, .inl (cR14, 16, .inl (fun _ => 0))), (bs6, .inl (cB15, 10, .inr (.inr (.inr (.inr (fun _ => none)))))), (df7, .inr (1, [.ref dv10, .ref do911, .int 0])), (dv10, .inl (cF16, 24, .inl fv17)), (ch8, .inr (2, [.ref cp12, .ref cn13, .int 0])), (q19, .inr (4, [.int 0, .int 0, .ref nw22, .ref kp23, .int 0, .int (-1), .ref mk24, .ref co25, .int 0, .int 0, .ref se26])), (nw22, .inl (cN27, 25240, .inl now0)), (kp23, .inl (cK28, 25240, .inl fk29)), (q31, .inl (cA32, 1, .inr (.inl (fun _ => 0))))] := hD
  refine W.widen (k := 18) (n := 52931) (Nat.le_of_ble_eq_true rfl) (Nat.le_of_ble_eq_true rfl) ?_
  obtain rfl : r1001 = 0 := hr1002
  refine lv_aload_n (pc := 1729) hx hb dL_law_1729 rfl (lv_at hl 2 rfl) ?_
  have hPc := hP.sub (ws' := [(q19, .inr (4, [.int 0, .int 0, .ref nw22, .ref kp23, .int 0, .int (-1), .ref mk24, .ref co25, .int 0, .int 0, .ref se26])), (nw22, .inl (cN27, 25240, .inl now0)), (kp23, .inl (cK28, 25240, .inl fk29))]) [5, 6, 7] rfl
  have hDc := hD.sub (ws' := [(q19, .inr (4, [.int 0, .int 0, .ref nw22, .ref kp23, .int 0, .int (-1), .ref mk24, .ref co25, .int 0, .int 0, .ref se26])), (nw22, .inl (cN27, 25240, .inl now0)), (kp23, .inl (cK28, 25240, .inl fk29))]) [5, 6, 7] (by decide) rfl
  have hKc := hK.sub (tys' := [(cN27, .int), (cK28, .int)]) [3, 4] rfl
  have hFc := va_free (wc := [(q19, .inr (4, [.int 0, .int 0, .ref nw22, .ref kp23, .int 0, .int (-1), .ref mk24, .ref co25, .int 0, .int 0, .ref se26])), (nw22, .inl (cN27, 25240, .inl now0)), (kp23, .inl (cK28, 25240, .inl fk29))]) hD hS hA [5, 6, 7] rfl
  refine va_calli (pc := 1730) (va_runV (As := []) (rest := [.int 0]) ⟨hx, hb, hml, hown, hts⟩ (m_start l dC dI H.size q19 nw22 kp23 mk24 co25 se26 0 0 cN27 cK28 fk29 (hfk)) (cwV 0 hts (gV wd_562 wd_563 wd_564 wd_157 wd_561) rfl rfl rfl (by decide +kernel) ⟨Nat.le_of_ble_eq_true rfl, Nat.le_of_ble_eq_true rfl⟩) ⟨pW_blind, va_recv (q := (RM, TM, 11)) (q0 := 5) (ci := 4) hK hP rfl rfl, pW_pre hPc hKc hDc⟩ rfl rfl hl.1 rfl (lv_room (Nat.le_of_ble_eq_true rfl)) dL_law_1730 ⟨Nat.le_of_ble_eq_true rfl, Nat.le_of_ble_eq_true rfl⟩) hS (fun q _ h => hFc q h) hFc (fun r1004 u t H1 locs ht hvm hr1005 hB hz1 hk1 hS => ?_)
  obtain ⟨hP1, hK1, hD1⟩ := hB
  rw [ht] at hP1
  have hK1 := va_K.moved hvm.symm hK1
  obtain ⟨hP, hD⟩ := va_join (wr := [(rt4, .inl (cR14, 16, .inl (fun _ => 0))), (bs6, .inl (cB15, 10, .inr (.inr (.inr (.inr (fun _ => none)))))), (df7, .inr (1, [.ref dv10, .ref do911, .int 0])), (dv10, .inl (cF16, 24, .inl fv17)), (ch8, .inr (2, [.ref cp12, .ref cn13, .int 0])), (q31, .inl (cA32, 1, .inr (.inl (fun _ => 0))))]) (w1 := [(q19, .inr (4, [.int 0, .int 0, .ref nw22, .ref kp23, .int 0, .int (-1), .ref mk24, .ref co25, .int 0, .int 0, .ref se26]))]) hP hD [5, 6, 7] [0, 1, 2, 3, 4, 8] rfl rfl (by decide) (by decide) hk1 hFc hP1 hD1
  generalize H1 = H at hP hS ⊢
  have hP : va_P (dC, dI) kCl [(rt4, .inl (cR14, 16, .inl (fun _ => 0))), (bs6, .inl (cB15, 10, .inr (.inr (.inr (.inr (fun _ => none)))))), (df7, .inr (1, [.ref dv10, .ref do911, .int 0])), (dv10, .inl (cF16, 24, .inl fv17)), (ch8, .inr (2, [.ref cp12, .ref cn13, .int 0])), (q31, .inl (cA32, 1, .inr (.inl (fun _ => 0)))), (q19, .inr (4, [.int 0, .int 0, .ref nw22, .ref kp23, .int 0, .int (-1), .ref mk24, .ref co25, .int 0, .int 0, .ref se26]))] H := hP
  have hD : va_D A [(rt4, .inl (cR14, 16, .inl (fun _ => 0))), (bs6, .inl (cB15, 10, .inr (.inr (.inr (.inr (fun _ => none)))))), (df7, .inr (1, [.ref dv10, .ref do911, .int 0])), (dv10, .inl (cF16, 24, .inl fv17)), (ch8, .inr (2, [.ref cp12, .ref cn13, .int 0])), (q31, .inl (cA32, 1, .inr (.inl (fun _ => 0)))), (q19, .inr (4, [.int 0, .int 0, .ref nw22, .ref kp23, .int 0, .int (-1), .ref mk24, .ref co25, .int 0, .int 0, .ref se26]))] := hD
  refine W.widen (k := 18) (n := 52931) (Nat.le_of_ble_eq_true rfl) (Nat.le_of_ble_eq_true rfl) ?_
  obtain rfl : r1004 = 0 := hr1005
  refine lv_icmp_eq (pc := 1733) (tgt := 1763) hx hb dL_law_1733 rfl (fun h1007 => ?_) (fun h1007 => absurd h1007 (by decide))
  exact law_tail hx hb hr hlocks hX hbl hbA hA2 hS (lv_sub hl (l' := [(4, .int 0), (0, .ref b)]) [0, 4] rfl) (Nat.le_of_ble_eq_true rfl) (Nat.le_of_ble_eq_true rfl)
set_option maxHeartbeats 4000000 in
set_option maxRecDepth 100000 in
theorem lawcase_22 {p : Program} {l : Launch} {e : Env} {s : State} {m : MethodId} {below : List Frame} {meth : Method} {c : Code} {b : Nat} {xs : Nat → Int32} {A : Nat → Prop} {H : Heap} {locs : List Loc} {ls : Array Slot} {dC : Nat → ClassId} {dI : Nat → Nat → Nat} {q1 : Nat} {rt4 : Nat} {dr5 : Nat} {bs6 : Nat} {df7 : Nat} {ch8 : Nat} {pg9 : Nat} {cR14 : ClassId} {cB15 : ClassId} {dv10 : Nat} {do911 : Nat} {cF16 : ClassId} {fv17 : Nat → Int32} {cp12 : Nat} {cn13 : Nat} {q19 : Nat} {nw22 : Nat} {kp23 : Nat} {mk24 : Nat} {co25 : Nat} {se26 : Nat} {cN27 : ClassId} {cK28 : ClassId} {fk29 : Nat → Int32} {q31 : Nat} {cA32 : ClassId} (h : lawS p l s m meth c b xs dC dI A q1 rt4 dr5 bs6 df7 ch8 pg9 cR14 cB15 dv10 do911 cF16 fv17 cp12 cn13 q19 nw22 kp23 mk24 co25 se26 cN27 cK28 fk29 q31 cA32 H locs ls) : W p l e room_1 s m #[Value.ref b] below meth c H locs 18 52931 (lw_Z below #[Value.ref b] s) (F0 m 1738 ls []) := by
  obtain ⟨hx, hb, hr, hml, hown, hts, hX, hbl, hbA, hlocks, hA, hA2, hP, hD, hK, hS, hl, hXE, hfl, hfk⟩ := h
  refine lv_aload_n (pc := 1738) hx hb dL_law_1738 rfl (lv_at hl 3 rfl) ?_
  refine lv_aload_n (pc := 1739) hx hb dL_law_1739 rfl (lv_at hl 4 rfl) ?_
  refine lv_iload (pc := 1740) hx hb dL_law_1740 (lv_at hl 0 rfl) ?_
  refine lv_iconst (pc := 1742) (v := 1) hx hb dL_law_1742 (by decide) ?_
  refine lv_iadd (pc := 1743) hx hb dL_law_1743 ?_
  refine lv_topi (fun z1001 hz1002 => ?_)
  obtain rfl : z1001 = 1 := hz1002.trans (by decide)
  refine va_sld (A := A) (pc := 1744) hx hb hX hbl hbA hS (vp_in_lit 1 6 (by decide)) dL_law_1744 ?_
  refine W.eq (g2 := F0 m 1745 ls [.int (xs 1), .ref q1]) rfl ?_
  have hPc := hP.sub (ws' := [(q1, .inr (0, [.ref rt4, .ref dr5, .int 0, .int 0, .ref bs6, .ref df7, .ref ch8, .ref pg9, .int 0])), (bs6, .inl (cB15, 10, .inr (.inr (.inr (.inr (fun _ => none)))))), (ch8, .inr (2, [.ref cp12, .ref cn13, .int 0])), (pg9, .inr (3, [.int 400, .int 0, .int 0, .int 0, .int 0, .int 0]))]) [0, 3, 6, 2] rfl
  have hDc := hD.sub (ws' := [(q1, .inr (0, [.ref rt4, .ref dr5, .int 0, .int 0, .ref bs6, .ref df7, .ref ch8, .ref pg9, .int 0])), (bs6, .inl (cB15, 10, .inr (.inr (.inr (.inr (fun _ => none)))))), (ch8, .inr (2, [.ref cp12, .ref cn13, .int 0])), (pg9, .inr (3, [.int 400, .int 0, .int 0, .int 0, .int 0, .int 0]))]) [0, 3, 6, 2] (by decide) rfl
  have hKc := hK.sub (tys' := [(cB15, .object "DrawingVault$Baseline")]) [1] rfl
  have hFc := va_free (wc := [(q1, .inr (0, [.ref rt4, .ref dr5, .int 0, .int 0, .ref bs6, .ref df7, .ref ch8, .ref pg9, .int 0])), (bs6, .inl (cB15, 10, .inr (.inr (.inr (.inr (fun _ => none)))))), (ch8, .inr (2, [.ref cp12, .ref cn13, .int 0])), (pg9, .inr (3, [.int 400, .int 0, .int 0, .int 0, .int 0, .int 0]))]) hD hS hA [0, 3, 6, 2] rfl
  refine va_calli (pc := 1745) (va_runV (As := [.int (xs 1)]) (rest := []) ⟨hx, hb, hml, hown, hts⟩ (v_count l dC dI H.size q1 rt4 dr5 bs6 df7 ch8 pg9 0 cB15 cp12 cn13 (xs 1)) (cwV 1 hts (gV wd_566 wd_567 wd_568 wd_35 wd_565) rfl rfl rfl (by decide +kernel) ⟨Nat.le_of_ble_eq_true rfl, Nat.le_of_ble_eq_true rfl⟩) ⟨pW_blind, va_recv (q := (RV, TV, 9)) (q0 := 0) (ci := 0) hK hP rfl rfl, pW_pre hPc hKc hDc⟩ rfl rfl hl.1 rfl (lv_room (Nat.le_of_ble_eq_true rfl)) dL_law_1745 ⟨Nat.le_of_ble_eq_true rfl, Nat.le_of_ble_eq_true rfl⟩) hS (fun q _ h => hFc q h) hFc (fun r1003 u t H1 locs ht hvm hr1004 hB hz1 hk1 hS => ?_)
  obtain ⟨hP1, hK1, hD1⟩ := hB
  rw [ht] at hP1
  have hK1 := va_K.moved hvm.symm hK1
  obtain ⟨hP, hD⟩ := va_join (wr := [(rt4, .inl (cR14, 16, .inl (fun _ => 0))), (df7, .inr (1, [.ref dv10, .ref do911, .int 0])), (dv10, .inl (cF16, 24, .inl fv17)), (q19, .inr (4, [.int 0, .int 0, .ref nw22, .ref kp23, .int 0, .int (-1), .ref mk24, .ref co25, .int 0, .int 0, .ref se26])), (nw22, .inl (cN27, 25240, .inl now0)), (kp23, .inl (cK28, 25240, .inl fk29)), (q31, .inl (cA32, 1, .inr (.inl (fun _ => 0))))]) (w1 := []) hP hD [0, 3, 6, 2] [1, 4, 5, 7, 8, 9, 10] rfl rfl (by decide) (by decide) hk1 hFc hP1 hD1
  generalize H1 = H at hP hS ⊢
  have hP : va_P (dC, dI) kCl [(rt4, .inl (cR14, 16, .inl (fun _ => 0))), (df7, .inr (1, [.ref dv10, .ref do911, .int 0])), (dv10, .inl (cF16, 24, .inl fv17)), (q19, .inr (4, [.int 0, .int 0, .ref nw22, .ref kp23, .int 0, .int (-1), .ref mk24, .ref co25, .int 0, .int 0, .ref se26])), (nw22, .inl (cN27, 25240, .inl now0)), (kp23, .inl (cK28, 25240, .inl fk29)), (q31, .inl (cA32, 1, .inr (.inl (fun _ => 0))))] H := hP
  have hD : va_D A [(rt4, .inl (cR14, 16, .inl (fun _ => 0))), (df7, .inr (1, [.ref dv10, .ref do911, .int 0])), (dv10, .inl (cF16, 24, .inl fv17)), (q19, .inr (4, [.int 0, .int 0, .ref nw22, .ref kp23, .int 0, .int (-1), .ref mk24, .ref co25, .int 0, .int 0, .ref se26])), (nw22, .inl (cN27, 25240, .inl now0)), (kp23, .inl (cK28, 25240, .inl fk29)), (q31, .inl (cA32, 1, .inr (.inl (fun _ => 0))))] := hD
  refine W.widen (k := 18) (n := 52931) (Nat.le_of_ble_eq_true rfl) (Nat.le_of_ble_eq_true rfl) ?_
  obtain rfl : r1003 = (cnt0 (xs 1)) := hr1004
  refine lv_aload_n (pc := 1748) hx hb dL_law_1748 rfl (lv_at hl 2 rfl) ?_
  refine lv_aload_n (pc := 1749) hx hb dL_law_1749 rfl (lv_at hl 4 rfl) ?_
  refine lv_iload (pc := 1750) hx hb dL_law_1750 (lv_at hl 0 rfl) ?_
  refine lv_iconst (pc := 1752) (v := 1) hx hb dL_law_1752 (by decide) ?_
  refine lv_iadd (pc := 1753) hx hb dL_law_1753 ?_
  refine lv_topi (fun z1006 hz1007 => ?_)
  obtain rfl : z1006 = 1 := hz1007.trans (by decide)
  refine va_sld (A := A) (pc := 1754) hx hb hX hbl hbA hS (vp_in_lit 1 6 (by decide)) dL_law_1754 ?_
  refine W.eq (g2 := F0 m 1755 ls [.int (xs 1), .ref q19, .int (cnt0 (xs 1))]) rfl ?_
  have hPc := hP.sub (ws' := [(q19, .inr (4, [.int 0, .int 0, .ref nw22, .ref kp23, .int 0, .int (-1), .ref mk24, .ref co25, .int 0, .int 0, .ref se26])), (nw22, .inl (cN27, 25240, .inl now0))]) [3, 4] rfl
  have hDc := hD.sub (ws' := [(q19, .inr (4, [.int 0, .int 0, .ref nw22, .ref kp23, .int 0, .int (-1), .ref mk24, .ref co25, .int 0, .int 0, .ref se26])), (nw22, .inl (cN27, 25240, .inl now0))]) [3, 4] (by decide) rfl
  have hKc := hK.sub (tys' := [(cN27, .int)]) [3] rfl
  have hFc := va_free (wc := [(q19, .inr (4, [.int 0, .int 0, .ref nw22, .ref kp23, .int 0, .int (-1), .ref mk24, .ref co25, .int 0, .int 0, .ref se26])), (nw22, .inl (cN27, 25240, .inl now0))]) hD hS hA [3, 4] rfl
  refine va_calli (pc := 1755) (va_runV (As := [.int (xs 1)]) (rest := [.int (cnt0 (xs 1))]) ⟨hx, hb, hml, hown, hts⟩ (m_count l dC dI H.size q19 nw22 kp23 mk24 co25 se26 0 0 cN27 (xs 1)) (cwV 1 hts (gV wd_570 wd_571 wd_572 wd_157 wd_569) rfl rfl rfl (by decide +kernel) ⟨Nat.le_of_ble_eq_true rfl, Nat.le_of_ble_eq_true rfl⟩) ⟨pW_blind, va_recv (q := (RM, TM, 11)) (q0 := 3) (ci := 4) hK hP rfl rfl, pW_pre hPc hKc hDc⟩ rfl rfl hl.1 rfl (lv_room (Nat.le_of_ble_eq_true rfl)) dL_law_1755 ⟨Nat.le_of_ble_eq_true rfl, Nat.le_of_ble_eq_true rfl⟩) hS (fun q _ h => hFc q h) hFc (fun r1008 u t H1 locs ht hvm hr1009 hB hz1 hk1 hS => ?_)
  obtain ⟨hP1, hK1, hD1⟩ := hB
  rw [ht] at hP1
  have hK1 := va_K.moved hvm.symm hK1
  obtain ⟨hP, hD⟩ := va_join (wr := [(rt4, .inl (cR14, 16, .inl (fun _ => 0))), (df7, .inr (1, [.ref dv10, .ref do911, .int 0])), (dv10, .inl (cF16, 24, .inl fv17)), (kp23, .inl (cK28, 25240, .inl fk29)), (q31, .inl (cA32, 1, .inr (.inl (fun _ => 0))))]) (w1 := [(q19, .inr (4, [.int 0, .int 0, .ref nw22, .ref kp23, .int 0, .int (-1), .ref mk24, .ref co25, .int 0, .int 0, .ref se26]))]) hP hD [3, 4] [0, 1, 2, 5, 6] rfl rfl (by decide) (by decide) hk1 hFc hP1 hD1
  generalize H1 = H at hP hS ⊢
  have hP : va_P (dC, dI) kCl [(rt4, .inl (cR14, 16, .inl (fun _ => 0))), (df7, .inr (1, [.ref dv10, .ref do911, .int 0])), (dv10, .inl (cF16, 24, .inl fv17)), (kp23, .inl (cK28, 25240, .inl fk29)), (q31, .inl (cA32, 1, .inr (.inl (fun _ => 0)))), (q19, .inr (4, [.int 0, .int 0, .ref nw22, .ref kp23, .int 0, .int (-1), .ref mk24, .ref co25, .int 0, .int 0, .ref se26]))] H := hP
  have hD : va_D A [(rt4, .inl (cR14, 16, .inl (fun _ => 0))), (df7, .inr (1, [.ref dv10, .ref do911, .int 0])), (dv10, .inl (cF16, 24, .inl fv17)), (kp23, .inl (cK28, 25240, .inl fk29)), (q31, .inl (cA32, 1, .inr (.inl (fun _ => 0)))), (q19, .inr (4, [.int 0, .int 0, .ref nw22, .ref kp23, .int 0, .int (-1), .ref mk24, .ref co25, .int 0, .int 0, .ref se26]))] := hD
  refine W.widen (k := 18) (n := 52931) (Nat.le_of_ble_eq_true rfl) (Nat.le_of_ble_eq_true rfl) ?_
  obtain rfl : r1008 = (cnt0 (xs 1)) := hr1009
  refine lv_icmp_eq (pc := 1758) (tgt := 1763) hx hb dL_law_1758 rfl (fun h1011 => ?_) (fun h1011 => absurd rfl h1011)
  exact law_tail hx hb hr hlocks hX hbl hbA hA2 hS (lv_sub hl (l' := [(4, .int 0), (0, .ref b)]) [0, 4] rfl) (Nat.le_of_ble_eq_true rfl) (Nat.le_of_ble_eq_true rfl)
