set_option maxHeartbeats 4000000 in
set_option maxRecDepth 100000 in
theorem lawcase_8 {p : Program} {l : Launch} {e : Env} {s : State} {m : MethodId} {below : List Frame} {meth : Method} {c : Code} {b : Nat} {xs : Nat → Int32} {A : Nat → Prop} {H : Heap} {locs : List Loc} {ls : Array Slot} {dC : Nat → ClassId} {dI : Nat → Nat → Nat} {q1 : Nat} {rt4 : Nat} {dr5 : Nat} {bs6 : Nat} {df7 : Nat} {ch8 : Nat} {pg9 : Nat} {cR14 : ClassId} {cB15 : ClassId} {dv10 : Nat} {do911 : Nat} {cF16 : ClassId} {fv17 : Nat → Int32} {cp12 : Nat} {cn13 : Nat} {q19 : Nat} {nw22 : Nat} {kp23 : Nat} {mk24 : Nat} {co25 : Nat} {se26 : Nat} {cN27 : ClassId} {cK28 : ClassId} {fk29 : Nat → Int32} {q31 : Nat} {cA32 : ClassId} (h : lawS p l s m meth c b xs dC dI A q1 rt4 dr5 bs6 df7 ch8 pg9 cR14 cB15 dv10 do911 cF16 fv17 cp12 cn13 q19 nw22 kp23 mk24 co25 se26 cN27 cK28 fk29 q31 cA32 H locs ls) : W p l e room_1 s m #[Value.ref b] below meth c H locs 18 52931 (lw_Z below #[Value.ref b] s) (F0 m 813 ls []) := by
  obtain ⟨hx, hb, hr, hml, hown, hts, hX, hbl, hbA, hlocks, hA, hA2, hP, hD, hK, hS, hl, hXE, hfl, hfk⟩ := h
  refine lv_aload_n (pc := 813) hx hb dL_law_813 rfl (lv_at hl 3 rfl) ?_
  refine lv_aload_n (pc := 814) hx hb dL_law_814 rfl (lv_at hl 4 rfl) ?_
  refine lv_iload (pc := 815) hx hb dL_law_815 (lv_at hl 0 rfl) ?_
  refine lv_iconst (pc := 817) (v := 1) hx hb dL_law_817 (by decide) ?_
  refine lv_iadd (pc := 818) hx hb dL_law_818 ?_
  refine lv_topi (fun z1001 hz1002 => ?_)
  obtain rfl : z1001 = 1 := hz1002.trans (by decide)
  refine va_sld (A := A) (pc := 819) hx hb hX hbl hbA hS (vp_in_lit 1 6 (by decide)) dL_law_819 ?_
  refine W.eq (g2 := F0 m 820 ls [.int (xs 1), .ref q1]) rfl ?_
  refine lv_aload_n (pc := 820) hx hb dL_law_820 rfl (lv_at hl 4 rfl) ?_
  refine lv_iload (pc := 821) hx hb dL_law_821 (lv_at hl 0 rfl) ?_
  refine lv_iconst (pc := 823) (v := 2) hx hb dL_law_823 (by decide) ?_
  refine lv_iadd (pc := 824) hx hb dL_law_824 ?_
  refine lv_topi (fun z1003 hz1004 => ?_)
  obtain rfl : z1003 = 2 := hz1004.trans (by decide)
  refine va_sld (A := A) (pc := 825) hx hb hX hbl hbA hS (vp_in_lit 2 6 (by decide)) dL_law_825 ?_
  refine W.eq (g2 := F0 m 826 ls [.int (xs 2), .int (xs 1), .ref q1]) rfl ?_
  refine lv_aload_n (pc := 826) hx hb dL_law_826 rfl (lv_at hl 1 rfl) ?_
  have hPc := hP.sub (ws' := [(q1, .inr (0, [.ref rt4, .ref dr5, .int 0, .int 0, .ref bs6, .ref df7, .ref ch8, .ref pg9, .int 0])), (rt4, .inl (cR14, 16, .inl (fun _ => 0))), (pg9, .inr (3, [.int 400, .int 0, .int 0, .int 0, .int 0, .int 0])), (q31, .inl (cA32, 1, .inr (.inl (fun _ => 0))))]) [0, 1, 2, 10] rfl
  have hDc := hD.sub (ws' := [(q1, .inr (0, [.ref rt4, .ref dr5, .int 0, .int 0, .ref bs6, .ref df7, .ref ch8, .ref pg9, .int 0])), (rt4, .inl (cR14, 16, .inl (fun _ => 0))), (pg9, .inr (3, [.int 400, .int 0, .int 0, .int 0, .int 0, .int 0])), (q31, .inl (cA32, 1, .inr (.inl (fun _ => 0))))]) [0, 1, 2, 10] (by decide) rfl
  have hKc := hK.sub (tys' := [(cR14, .int), (cA32, .long)]) [0, 5] rfl
  have hFc := va_free (wc := [(q1, .inr (0, [.ref rt4, .ref dr5, .int 0, .int 0, .ref bs6, .ref df7, .ref ch8, .ref pg9, .int 0])), (rt4, .inl (cR14, 16, .inl (fun _ => 0))), (pg9, .inr (3, [.int 400, .int 0, .int 0, .int 0, .int 0, .int 0])), (q31, .inl (cA32, 1, .inr (.inl (fun _ => 0))))]) hD hS hA [0, 1, 2, 10] rfl
  refine va_calli (pc := 827) (hxR (As := [.ref q1, .int (xs 1), .int (xs 2), .ref q31]) (rest := []) ⟨hx, hb, hml, hown, hts⟩ (l_checkIn l dC dI H.size q1 rt4 dr5 bs6 df7 ch8 pg9 0 cR14 q31 cA32 (fun _ => 0) (xs 1) (xs 2)) 4 wd_464 wd_465 wd_405 wd_463 rfl rfl ⟨Nat.le_of_ble_eq_true rfl, Nat.le_of_ble_eq_true rfl⟩ (by decide +kernel) ⟨pW_blind, pW_pre hPc hKc hDc⟩ rfl rfl hl.1 rfl (lv_room (Nat.le_of_ble_eq_true rfl)) dL_law_827 ⟨Nat.le_of_ble_eq_true rfl, Nat.le_of_ble_eq_true rfl⟩) hS (fun q _ h => hFc q h) hFc (fun r1005 u t H1 locs ht hvm hr1006 hB hz1 hk1 hS => ?_)
  obtain ⟨hP1, hK1, hD1⟩ := hB
  rw [ht] at hP1
  have hK1 := va_K.moved hvm.symm hK1
  obtain ⟨hP, hD⟩ := va_join (wr := [(bs6, .inl (cB15, 10, .inr (.inr (.inr (.inr (fun _ => none)))))), (df7, .inr (1, [.ref dv10, .ref do911, .int 0])), (dv10, .inl (cF16, 24, .inl fv17)), (ch8, .inr (2, [.ref cp12, .ref cn13, .int 0])), (q19, .inr (4, [.int 0, .int 0, .ref nw22, .ref kp23, .int 0, .int (-1), .ref mk24, .ref co25, .int 0, .int 0, .ref se26])), (nw22, .inl (cN27, 25240, .inl now0)), (kp23, .inl (cK28, 25240, .inl fk29))]) (w1 := [(q31, .inl (cA32, 1, .inr (.inl (vp_updL (fun _ => 0) (0 : Int32).toNatClampNeg (-1)))))]) hP hD [0, 1, 2, 10] [3, 4, 5, 6, 7, 8, 9] rfl rfl (by decide) (by decide) hk1 hFc hP1 hD1
  generalize H1 = H at hP hS ⊢
  have hP : va_P (dC, dI) kCl [(bs6, .inl (cB15, 10, .inr (.inr (.inr (.inr (fun _ => none)))))), (df7, .inr (1, [.ref dv10, .ref do911, .int 0])), (dv10, .inl (cF16, 24, .inl fv17)), (ch8, .inr (2, [.ref cp12, .ref cn13, .int 0])), (q19, .inr (4, [.int 0, .int 0, .ref nw22, .ref kp23, .int 0, .int (-1), .ref mk24, .ref co25, .int 0, .int 0, .ref se26])), (nw22, .inl (cN27, 25240, .inl now0)), (kp23, .inl (cK28, 25240, .inl fk29)), (q31, .inl (cA32, 1, .inr (.inl (vp_updL (fun _ => 0) (0 : Int32).toNatClampNeg (-1)))))] H := hP
  have hD : va_D A [(bs6, .inl (cB15, 10, .inr (.inr (.inr (.inr (fun _ => none)))))), (df7, .inr (1, [.ref dv10, .ref do911, .int 0])), (dv10, .inl (cF16, 24, .inl fv17)), (ch8, .inr (2, [.ref cp12, .ref cn13, .int 0])), (q19, .inr (4, [.int 0, .int 0, .ref nw22, .ref kp23, .int 0, .int (-1), .ref mk24, .ref co25, .int 0, .int 0, .ref se26])), (nw22, .inl (cN27, 25240, .inl now0)), (kp23, .inl (cK28, 25240, .inl fk29)), (q31, .inl (cA32, 1, .inr (.inl (vp_updL (fun _ => 0) (0 : Int32).toNatClampNeg (-1)))))] := hD
  refine W.widen (k := 18) (n := 52931) (Nat.le_of_ble_eq_true rfl) (Nat.le_of_ble_eq_true rfl) ?_
  obtain rfl : r1005 = 0 := hr1006
  refine lv_istore (pc := 830) hx hb dL_law_830 hl (by decide) rfl (fun ls hl => ?_)
  have hl : lv_has ls 7 [(5, .int 0), (4, .int 0), (3, .ref q31), (2, .ref q19), (1, .ref q1), (0, .ref b)] := hl
  refine lv_aload_n (pc := 832) hx hb dL_law_832 rfl (lv_at hl 3 rfl) ?_
  refine lv_aload_n (pc := 833) hx hb dL_law_833 rfl (lv_at hl 5 rfl) ?_
  refine lv_iload (pc := 834) hx hb dL_law_834 (lv_at hl 1 rfl) ?_
  refine lv_iconst (pc := 836) (v := 1) hx hb dL_law_836 (by decide) ?_
  refine lv_iadd (pc := 837) hx hb dL_law_837 ?_
  refine lv_topi (fun z1008 hz1009 => ?_)
  obtain rfl : z1008 = 1 := hz1009.trans (by decide)
  refine va_sld (A := A) (pc := 838) hx hb hX hbl hbA hS (vp_in_lit 1 6 (by decide)) dL_law_838 ?_
  refine W.eq (g2 := F0 m 839 ls [.int (xs 1), .ref q19]) rfl ?_
  refine lv_aload_n (pc := 839) hx hb dL_law_839 rfl (lv_at hl 5 rfl) ?_
  refine lv_iload (pc := 840) hx hb dL_law_840 (lv_at hl 1 rfl) ?_
  refine lv_iconst (pc := 842) (v := 2) hx hb dL_law_842 (by decide) ?_
  refine lv_iadd (pc := 843) hx hb dL_law_843 ?_
  refine lv_topi (fun z1010 hz1011 => ?_)
  obtain rfl : z1010 = 2 := hz1011.trans (by decide)
  refine va_sld (A := A) (pc := 844) hx hb hX hbl hbA hS (vp_in_lit 2 6 (by decide)) dL_law_844 ?_
  refine W.eq (g2 := F0 m 845 ls [.int (xs 2), .int (xs 1), .ref q19]) rfl ?_
  have hPc := hP.sub (ws' := [(q19, .inr (4, [.int 0, .int 0, .ref nw22, .ref kp23, .int 0, .int (-1), .ref mk24, .ref co25, .int 0, .int 0, .ref se26])), (nw22, .inl (cN27, 25240, .inl now0))]) [4, 5] rfl
  have hDc := hD.sub (ws' := [(q19, .inr (4, [.int 0, .int 0, .ref nw22, .ref kp23, .int 0, .int (-1), .ref mk24, .ref co25, .int 0, .int 0, .ref se26])), (nw22, .inl (cN27, 25240, .inl now0))]) [4, 5] (by decide) rfl
  have hKc := hK.sub (tys' := [(cN27, .int)]) [3] rfl
  have hFc := va_free (wc := [(q19, .inr (4, [.int 0, .int 0, .ref nw22, .ref kp23, .int 0, .int (-1), .ref mk24, .ref co25, .int 0, .int 0, .ref se26])), (nw22, .inl (cN27, 25240, .inl now0))]) hD hS hA [4, 5] rfl
  refine va_calli (pc := 845) (va_runV (As := [.int (xs 1), .int (xs 2)]) (rest := []) ⟨hx, hb, hml, hown, hts⟩ (m_checkIn l dC dI H.size q19 nw22 kp23 mk24 co25 se26 0 0 cN27 (xs 1) (xs 2)) (cwV 2 hts (gV wd_467 wd_468 wd_469 wd_157 wd_466) rfl rfl rfl (by decide +kernel) ⟨Nat.le_of_ble_eq_true rfl, Nat.le_of_ble_eq_true rfl⟩) ⟨pW_blind, va_recv (q := (RM, TM, 11)) (q0 := 4) (ci := 4) hK hP rfl rfl, pW_pre hPc hKc hDc⟩ rfl rfl hl.1 rfl (lv_room (Nat.le_of_ble_eq_true rfl)) dL_law_845 ⟨Nat.le_of_ble_eq_true rfl, Nat.le_of_ble_eq_true rfl⟩) hS (fun q _ h => hFc q h) hFc (fun r1012 u t H1 locs ht hvm hr1013 hB hz1 hk1 hS => ?_)
  obtain ⟨hP1, hK1, hD1⟩ := hB
  rw [ht] at hP1
  have hK1 := va_K.moved hvm.symm hK1
  obtain ⟨hP, hD⟩ := va_join (wr := [(bs6, .inl (cB15, 10, .inr (.inr (.inr (.inr (fun _ => none)))))), (df7, .inr (1, [.ref dv10, .ref do911, .int 0])), (dv10, .inl (cF16, 24, .inl fv17)), (ch8, .inr (2, [.ref cp12, .ref cn13, .int 0])), (kp23, .inl (cK28, 25240, .inl fk29)), (q31, .inl (cA32, 1, .inr (.inl (vp_updL (fun _ => 0) (0 : Int32).toNatClampNeg (-1)))))]) (w1 := [(q19, .inr (4, [.int 0, .int 1, .ref nw22, .ref kp23, .int 0, .int (-1), .ref mk24, .ref co25, .int 0, .int 0, .ref se26]))]) hP hD [4, 5] [0, 1, 2, 3, 6, 7] rfl rfl (by decide) (by decide) hk1 hFc hP1 hD1
  generalize H1 = H at hP hS ⊢
  have hP : va_P (dC, dI) kCl [(bs6, .inl (cB15, 10, .inr (.inr (.inr (.inr (fun _ => none)))))), (df7, .inr (1, [.ref dv10, .ref do911, .int 0])), (dv10, .inl (cF16, 24, .inl fv17)), (ch8, .inr (2, [.ref cp12, .ref cn13, .int 0])), (kp23, .inl (cK28, 25240, .inl fk29)), (q31, .inl (cA32, 1, .inr (.inl (vp_updL (fun _ => 0) (0 : Int32).toNatClampNeg (-1))))), (q19, .inr (4, [.int 0, .int 1, .ref nw22, .ref kp23, .int 0, .int (-1), .ref mk24, .ref co25, .int 0, .int 0, .ref se26]))] H := hP
  have hD : va_D A [(bs6, .inl (cB15, 10, .inr (.inr (.inr (.inr (fun _ => none)))))), (df7, .inr (1, [.ref dv10, .ref do911, .int 0])), (dv10, .inl (cF16, 24, .inl fv17)), (ch8, .inr (2, [.ref cp12, .ref cn13, .int 0])), (kp23, .inl (cK28, 25240, .inl fk29)), (q31, .inl (cA32, 1, .inr (.inl (vp_updL (fun _ => 0) (0 : Int32).toNatClampNeg (-1))))), (q19, .inr (4, [.int 0, .int 1, .ref nw22, .ref kp23, .int 0, .int (-1), .ref mk24, .ref co25, .int 0, .int 0, .ref se26]))] := hD
  refine W.widen (k := 18) (n := 52931) (Nat.le_of_ble_eq_true rfl) (Nat.le_of_ble_eq_true rfl) ?_
  obtain rfl : r1012 = (-1) := hr1013
  refine lv_istore (pc := 848) hx hb dL_law_848 hl (by decide) rfl (fun ls hl => ?_)
  have hl : lv_has ls 7 [(6, .int (-1)), (5, .int 0), (4, .int 0), (3, .ref q31), (2, .ref q19), (1, .ref q1), (0, .ref b)] := hl
  refine lv_aload_n (pc := 850) hx hb dL_law_850 rfl (lv_at hl 4 rfl) ?_
  refine vp_callSi (pc := 851) (W.runV (As := []) (rest := []) ⟨hx, hb, hml, hown, hts⟩ (m_thrown l dC dI q19 nw22 kp23 mk24 co25 se26 0 1) (cwV 0 hts (gV wd_411 wd_412 wd_413 wd_157 wd_410) rfl rfl rfl (by decide +kernel) ⟨Nat.le_of_ble_eq_true rfl, Nat.le_of_ble_eq_true rfl⟩) ⟨pR_blind, va_recv (q := (RM, TM, 11)) (q0 := 6) (ci := 4) hK hP rfl rfl, pR_pre (hP.sub (ws' := [(q19, .inr (4, [.int 0, .int 1, .ref nw22, .ref kp23, .int 0, .int (-1), .ref mk24, .ref co25, .int 0, .int 0, .ref se26]))]) [6] rfl) (hK.sub (tys' := []) [] rfl)⟩ rfl rfl hl.1 rfl (lv_room (Nat.le_of_ble_eq_true rfl)) dL_law_851 ⟨Nat.le_of_ble_eq_true rfl, Nat.le_of_ble_eq_true rfl⟩) (fun r1015 hr1016 => ?_)
  obtain rfl : r1015 = 0 := hr1016
  refine lv_iload (pc := 854) hx hb dL_law_854 (lv_at hl 1 rfl) ?_
  refine lv_icmp_eq (pc := 856) (tgt := 861) hx hb dL_law_856 rfl (fun h1017 => ?_) (fun h1017 => absurd h1017 (by decide))
  refine lv_iload (pc := 861) hx hb dL_law_861 (lv_at hl 1 rfl) ?_
  refine lv_if_ne (pc := 863) (tgt := 878) hx hb dL_law_863 rfl (fun h1018 => absurd h1018 (by decide)) (fun h1018 => ?_)
  refine lv_aload_n (pc := 866) hx hb dL_law_866 rfl (lv_at hl 3 rfl) ?_
  refine lv_iconst (pc := 867) (v := 0) hx hb dL_law_867 (by decide) ?_
  refine va_lald (D := (dC, dI)) (cl := kCl) (pc := 868) hx hb hK hP 5 5 rfl rfl (vp_in_lit 0 1 (by decide)) dL_law_868 ?_
  refine W.eq (g2 := F0 m 869 ls [.long (-1)]) rfl ?_
  refine lv_iload (pc := 869) hx hb dL_law_869 (lv_at hl 0 rfl) ?_
  refine lv_i2l (pc := 871) (v := (-1)) hx hb dL_law_871 (by decide) ?_
  refine W.lcmp (pc := 872) hx hb dL_law_872 ?_
  refine lv_topi (fun z1019 hz1020 => ?_)
  obtain rfl : z1019 = 0 := hz1020.trans (by decide)
  refine lv_if_eq (pc := 873) (tgt := 878) hx hb dL_law_873 rfl (fun h1021 => ?_) (fun h1021 => absurd h1021 (by decide))
  refine lv_goto (pc := 878) (tgt := 1763) hx hb dL_law_878 rfl ?_
  exact law_tail hx hb hr hlocks hX hbl hbA hA2 hS (lv_sub hl (l' := [(4, .int 0), (0, .ref b)]) [2, 6] rfl) (Nat.le_of_ble_eq_true rfl) (Nat.le_of_ble_eq_true rfl)
set_option maxHeartbeats 4000000 in
set_option maxRecDepth 100000 in
theorem lawcase_9 {p : Program} {l : Launch} {e : Env} {s : State} {m : MethodId} {below : List Frame} {meth : Method} {c : Code} {b : Nat} {xs : Nat → Int32} {A : Nat → Prop} {H : Heap} {locs : List Loc} {ls : Array Slot} {dC : Nat → ClassId} {dI : Nat → Nat → Nat} {q1 : Nat} {rt4 : Nat} {dr5 : Nat} {bs6 : Nat} {df7 : Nat} {ch8 : Nat} {pg9 : Nat} {cR14 : ClassId} {cB15 : ClassId} {dv10 : Nat} {do911 : Nat} {cF16 : ClassId} {fv17 : Nat → Int32} {cp12 : Nat} {cn13 : Nat} {q19 : Nat} {nw22 : Nat} {kp23 : Nat} {mk24 : Nat} {co25 : Nat} {se26 : Nat} {cN27 : ClassId} {cK28 : ClassId} {fk29 : Nat → Int32} {q31 : Nat} {cA32 : ClassId} (h : lawS p l s m meth c b xs dC dI A q1 rt4 dr5 bs6 df7 ch8 pg9 cR14 cB15 dv10 do911 cF16 fv17 cp12 cn13 q19 nw22 kp23 mk24 co25 se26 cN27 cK28 fk29 q31 cA32 H locs ls) : W p l e room_1 s m #[Value.ref b] below meth c H locs 18 52931 (lw_Z below #[Value.ref b] s) (F0 m 881 ls []) := by
  obtain ⟨hx, hb, hr, hml, hown, hts, hX, hbl, hbA, hlocks, hA, hA2, hP, hD, hK, hS, hl, hXE, hfl, hfk⟩ := h
  refine lv_aload_n (pc := 881) hx hb dL_law_881 rfl (lv_at hl 3 rfl) ?_
  refine lv_aload_n (pc := 882) hx hb dL_law_882 rfl (lv_at hl 4 rfl) ?_
  refine lv_iload (pc := 883) hx hb dL_law_883 (lv_at hl 0 rfl) ?_
  refine lv_iconst (pc := 885) (v := 1) hx hb dL_law_885 (by decide) ?_
  refine lv_iadd (pc := 886) hx hb dL_law_886 ?_
  refine lv_topi (fun z1001 hz1002 => ?_)
  obtain rfl : z1001 = 1 := hz1002.trans (by decide)
  refine va_sld (A := A) (pc := 887) hx hb hX hbl hbA hS (vp_in_lit 1 6 (by decide)) dL_law_887 ?_
  refine W.eq (g2 := F0 m 888 ls [.int (xs 1), .ref q1]) rfl ?_
  refine lv_aload_n (pc := 888) hx hb dL_law_888 rfl (lv_at hl 4 rfl) ?_
  refine lv_iload (pc := 889) hx hb dL_law_889 (lv_at hl 0 rfl) ?_
  refine lv_iconst (pc := 891) (v := 2) hx hb dL_law_891 (by decide) ?_
  refine lv_iadd (pc := 892) hx hb dL_law_892 ?_
  refine lv_topi (fun z1003 hz1004 => ?_)
  obtain rfl : z1003 = 2 := hz1004.trans (by decide)
  refine va_sld (A := A) (pc := 893) hx hb hX hbl hbA hS (vp_in_lit 2 6 (by decide)) dL_law_893 ?_
  refine W.eq (g2 := F0 m 894 ls [.int (xs 2), .int (xs 1), .ref q1]) rfl ?_
  refine lv_aload_n (pc := 894) hx hb dL_law_894 rfl (lv_at hl 4 rfl) ?_
  refine lv_iload (pc := 895) hx hb dL_law_895 (lv_at hl 0 rfl) ?_
  refine lv_iconst (pc := 897) (v := 3) hx hb dL_law_897 (by decide) ?_
  refine lv_iadd (pc := 898) hx hb dL_law_898 ?_
  refine lv_topi (fun z1005 hz1006 => ?_)
  obtain rfl : z1005 = 3 := hz1006.trans (by decide)
  refine va_sld (A := A) (pc := 899) hx hb hX hbl hbA hS (vp_in_lit 3 6 (by decide)) dL_law_899 ?_
  refine W.eq (g2 := F0 m 900 ls [.int (xs 3), .int (xs 2), .int (xs 1), .ref q1]) rfl ?_
  refine lv_aload_n (pc := 900) hx hb dL_law_900 rfl (lv_at hl 1 rfl) ?_
  have hPc := hP.sub (ws' := [(q1, .inr (0, [.ref rt4, .ref dr5, .int 0, .int 0, .ref bs6, .ref df7, .ref ch8, .ref pg9, .int 0])), (rt4, .inl (cR14, 16, .inl (fun _ => 0))), (pg9, .inr (3, [.int 400, .int 0, .int 0, .int 0, .int 0, .int 0])), (q31, .inl (cA32, 1, .inr (.inl (fun _ => 0))))]) [0, 1, 2, 10] rfl
  have hDc := hD.sub (ws' := [(q1, .inr (0, [.ref rt4, .ref dr5, .int 0, .int 0, .ref bs6, .ref df7, .ref ch8, .ref pg9, .int 0])), (rt4, .inl (cR14, 16, .inl (fun _ => 0))), (pg9, .inr (3, [.int 400, .int 0, .int 0, .int 0, .int 0, .int 0])), (q31, .inl (cA32, 1, .inr (.inl (fun _ => 0))))]) [0, 1, 2, 10] (by decide) rfl
  have hKc := hK.sub (tys' := [(cR14, .int), (cA32, .long)]) [0, 5] rfl
  have hFc := va_free (wc := [(q1, .inr (0, [.ref rt4, .ref dr5, .int 0, .int 0, .ref bs6, .ref df7, .ref ch8, .ref pg9, .int 0])), (rt4, .inl (cR14, 16, .inl (fun _ => 0))), (pg9, .inr (3, [.int 400, .int 0, .int 0, .int 0, .int 0, .int 0])), (q31, .inl (cA32, 1, .inr (.inl (fun _ => 0))))]) hD hS hA [0, 1, 2, 10] rfl
  refine va_calli (pc := 901) (hxR (As := [.ref q1, .int (xs 1), .int (xs 2), .int (xs 3), .ref q31]) (rest := []) ⟨hx, hb, hml, hown, hts⟩ (l_check l dC dI H.size q1 rt4 dr5 bs6 df7 ch8 pg9 0 cR14 q31 cA32 (fun _ => 0) (xs 1) (xs 2) (xs 3)) 5 wd_471 wd_472 wd_405 wd_470 rfl rfl ⟨Nat.le_of_ble_eq_true rfl, Nat.le_of_ble_eq_true rfl⟩ (by decide +kernel) ⟨pW_blind, pW_pre hPc hKc hDc⟩ rfl rfl hl.1 rfl (lv_room (Nat.le_of_ble_eq_true rfl)) dL_law_901 ⟨Nat.le_of_ble_eq_true rfl, Nat.le_of_ble_eq_true rfl⟩) hS (fun q _ h => hFc q h) hFc (fun r1007 u t H1 locs ht hvm hr1008 hB hz1 hk1 hS => ?_)
  obtain ⟨hP1, hK1, hD1⟩ := hB
  rw [ht] at hP1
  have hK1 := va_K.moved hvm.symm hK1
  obtain ⟨hP, hD⟩ := va_join (wr := [(bs6, .inl (cB15, 10, .inr (.inr (.inr (.inr (fun _ => none)))))), (df7, .inr (1, [.ref dv10, .ref do911, .int 0])), (dv10, .inl (cF16, 24, .inl fv17)), (ch8, .inr (2, [.ref cp12, .ref cn13, .int 0])), (q19, .inr (4, [.int 0, .int 0, .ref nw22, .ref kp23, .int 0, .int (-1), .ref mk24, .ref co25, .int 0, .int 0, .ref se26])), (nw22, .inl (cN27, 25240, .inl now0)), (kp23, .inl (cK28, 25240, .inl fk29))]) (w1 := [(q31, .inl (cA32, 1, .inr (.inl (vp_updL (fun _ => 0) (0 : Int32).toNatClampNeg 0))))]) hP hD [0, 1, 2, 10] [3, 4, 5, 6, 7, 8, 9] rfl rfl (by decide) (by decide) hk1 hFc hP1 hD1
  generalize H1 = H at hP hS ⊢
  have hP : va_P (dC, dI) kCl [(bs6, .inl (cB15, 10, .inr (.inr (.inr (.inr (fun _ => none)))))), (df7, .inr (1, [.ref dv10, .ref do911, .int 0])), (dv10, .inl (cF16, 24, .inl fv17)), (ch8, .inr (2, [.ref cp12, .ref cn13, .int 0])), (q19, .inr (4, [.int 0, .int 0, .ref nw22, .ref kp23, .int 0, .int (-1), .ref mk24, .ref co25, .int 0, .int 0, .ref se26])), (nw22, .inl (cN27, 25240, .inl now0)), (kp23, .inl (cK28, 25240, .inl fk29)), (q31, .inl (cA32, 1, .inr (.inl (vp_updL (fun _ => 0) (0 : Int32).toNatClampNeg 0))))] H := hP
  have hD : va_D A [(bs6, .inl (cB15, 10, .inr (.inr (.inr (.inr (fun _ => none)))))), (df7, .inr (1, [.ref dv10, .ref do911, .int 0])), (dv10, .inl (cF16, 24, .inl fv17)), (ch8, .inr (2, [.ref cp12, .ref cn13, .int 0])), (q19, .inr (4, [.int 0, .int 0, .ref nw22, .ref kp23, .int 0, .int (-1), .ref mk24, .ref co25, .int 0, .int 0, .ref se26])), (nw22, .inl (cN27, 25240, .inl now0)), (kp23, .inl (cK28, 25240, .inl fk29)), (q31, .inl (cA32, 1, .inr (.inl (vp_updL (fun _ => 0) (0 : Int32).toNatClampNeg 0))))] := hD
  refine W.widen (k := 18) (n := 52931) (Nat.le_of_ble_eq_true rfl) (Nat.le_of_ble_eq_true rfl) ?_
  obtain rfl : r1007 = 0 := hr1008
  refine lv_istore (pc := 904) hx hb dL_law_904 hl (by decide) rfl (fun ls hl => ?_)
  have hl : lv_has ls 7 [(5, .int 0), (4, .int 0), (3, .ref q31), (2, .ref q19), (1, .ref q1), (0, .ref b)] := hl
  refine lv_aload_n (pc := 906) hx hb dL_law_906 rfl (lv_at hl 3 rfl) ?_
  refine lv_aload_n (pc := 907) hx hb dL_law_907 rfl (lv_at hl 5 rfl) ?_
  refine lv_iload (pc := 908) hx hb dL_law_908 (lv_at hl 1 rfl) ?_
  refine lv_iconst (pc := 910) (v := 1) hx hb dL_law_910 (by decide) ?_
  refine lv_iadd (pc := 911) hx hb dL_law_911 ?_
  refine lv_topi (fun z1010 hz1011 => ?_)
  obtain rfl : z1010 = 1 := hz1011.trans (by decide)
  refine va_sld (A := A) (pc := 912) hx hb hX hbl hbA hS (vp_in_lit 1 6 (by decide)) dL_law_912 ?_
  refine W.eq (g2 := F0 m 913 ls [.int (xs 1), .ref q19]) rfl ?_
  refine lv_aload_n (pc := 913) hx hb dL_law_913 rfl (lv_at hl 5 rfl) ?_
  refine lv_iload (pc := 914) hx hb dL_law_914 (lv_at hl 1 rfl) ?_
  refine lv_iconst (pc := 916) (v := 2) hx hb dL_law_916 (by decide) ?_
  refine lv_iadd (pc := 917) hx hb dL_law_917 ?_
  refine lv_topi (fun z1012 hz1013 => ?_)
  obtain rfl : z1012 = 2 := hz1013.trans (by decide)
  refine va_sld (A := A) (pc := 918) hx hb hX hbl hbA hS (vp_in_lit 2 6 (by decide)) dL_law_918 ?_
  refine W.eq (g2 := F0 m 919 ls [.int (xs 2), .int (xs 1), .ref q19]) rfl ?_
  refine lv_aload_n (pc := 919) hx hb dL_law_919 rfl (lv_at hl 5 rfl) ?_
  refine lv_iload (pc := 920) hx hb dL_law_920 (lv_at hl 1 rfl) ?_
  refine lv_iconst (pc := 922) (v := 3) hx hb dL_law_922 (by decide) ?_
  refine lv_iadd (pc := 923) hx hb dL_law_923 ?_
  refine lv_topi (fun z1014 hz1015 => ?_)
  obtain rfl : z1014 = 3 := hz1015.trans (by decide)
  refine va_sld (A := A) (pc := 924) hx hb hX hbl hbA hS (vp_in_lit 3 6 (by decide)) dL_law_924 ?_
  refine W.eq (g2 := F0 m 925 ls [.int (xs 3), .int (xs 2), .int (xs 1), .ref q19]) rfl ?_
  have hPc := hP.sub (ws' := [(q19, .inr (4, [.int 0, .int 0, .ref nw22, .ref kp23, .int 0, .int (-1), .ref mk24, .ref co25, .int 0, .int 0, .ref se26])), (nw22, .inl (cN27, 25240, .inl now0))]) [4, 5] rfl
  have hDc := hD.sub (ws' := [(q19, .inr (4, [.int 0, .int 0, .ref nw22, .ref kp23, .int 0, .int (-1), .ref mk24, .ref co25, .int 0, .int 0, .ref se26])), (nw22, .inl (cN27, 25240, .inl now0))]) [4, 5] (by decide) rfl
  have hKc := hK.sub (tys' := [(cN27, .int)]) [3] rfl
  have hFc := va_free (wc := [(q19, .inr (4, [.int 0, .int 0, .ref nw22, .ref kp23, .int 0, .int (-1), .ref mk24, .ref co25, .int 0, .int 0, .ref se26])), (nw22, .inl (cN27, 25240, .inl now0))]) hD hS hA [4, 5] rfl
  refine va_calli (pc := 925) (va_runV (As := [.int (xs 1), .int (xs 2), .int (xs 3)]) (rest := []) ⟨hx, hb, hml, hown, hts⟩ (m_check l dC dI H.size q19 nw22 kp23 mk24 co25 se26 0 0 cN27 (xs 1) (xs 2) (xs 3)) (cwV 3 hts (gV wd_474 wd_475 wd_476 wd_157 wd_473) rfl rfl rfl (by decide +kernel) ⟨Nat.le_of_ble_eq_true rfl, Nat.le_of_ble_eq_true rfl⟩) ⟨pW_blind, va_recv (q := (RM, TM, 11)) (q0 := 4) (ci := 4) hK hP rfl rfl, pW_pre hPc hKc hDc⟩ rfl rfl hl.1 rfl (lv_room (Nat.le_of_ble_eq_true rfl)) dL_law_925 ⟨Nat.le_of_ble_eq_true rfl, Nat.le_of_ble_eq_true rfl⟩) hS (fun q _ h => hFc q h) hFc (fun r1016 u t H1 locs ht hvm hr1017 hB hz1 hk1 hS => ?_)
  obtain ⟨hP1, hK1, hD1⟩ := hB
  rw [ht] at hP1
  have hK1 := va_K.moved hvm.symm hK1
  obtain ⟨hP, hD⟩ := va_join (wr := [(bs6, .inl (cB15, 10, .inr (.inr (.inr (.inr (fun _ => none)))))), (df7, .inr (1, [.ref dv10, .ref do911, .int 0])), (dv10, .inl (cF16, 24, .inl fv17)), (ch8, .inr (2, [.ref cp12, .ref cn13, .int 0])), (kp23, .inl (cK28, 25240, .inl fk29)), (q31, .inl (cA32, 1, .inr (.inl (vp_updL (fun _ => 0) (0 : Int32).toNatClampNeg 0))))]) (w1 := [(q19, .inr (4, [.int 0, .int 1, .ref nw22, .ref kp23, .int 0, .int (-1), .ref mk24, .ref co25, .int 0, .int 0, .ref se26]))]) hP hD [4, 5] [0, 1, 2, 3, 6, 7] rfl rfl (by decide) (by decide) hk1 hFc hP1 hD1
  generalize H1 = H at hP hS ⊢
  have hP : va_P (dC, dI) kCl [(bs6, .inl (cB15, 10, .inr (.inr (.inr (.inr (fun _ => none)))))), (df7, .inr (1, [.ref dv10, .ref do911, .int 0])), (dv10, .inl (cF16, 24, .inl fv17)), (ch8, .inr (2, [.ref cp12, .ref cn13, .int 0])), (kp23, .inl (cK28, 25240, .inl fk29)), (q31, .inl (cA32, 1, .inr (.inl (vp_updL (fun _ => 0) (0 : Int32).toNatClampNeg 0)))), (q19, .inr (4, [.int 0, .int 1, .ref nw22, .ref kp23, .int 0, .int (-1), .ref mk24, .ref co25, .int 0, .int 0, .ref se26]))] H := hP
  have hD : va_D A [(bs6, .inl (cB15, 10, .inr (.inr (.inr (.inr (fun _ => none)))))), (df7, .inr (1, [.ref dv10, .ref do911, .int 0])), (dv10, .inl (cF16, 24, .inl fv17)), (ch8, .inr (2, [.ref cp12, .ref cn13, .int 0])), (kp23, .inl (cK28, 25240, .inl fk29)), (q31, .inl (cA32, 1, .inr (.inl (vp_updL (fun _ => 0) (0 : Int32).toNatClampNeg 0)))), (q19, .inr (4, [.int 0, .int 1, .ref nw22, .ref kp23, .int 0, .int (-1), .ref mk24, .ref co25, .int 0, .int 0, .ref se26]))] := hD
  refine W.widen (k := 18) (n := 52931) (Nat.le_of_ble_eq_true rfl) (Nat.le_of_ble_eq_true rfl) ?_
  obtain rfl : r1016 = 0 := hr1017
  refine lv_istore (pc := 928) hx hb dL_law_928 hl (by decide) rfl (fun ls hl => ?_)
  have hl : lv_has ls 7 [(6, .int 0), (5, .int 0), (4, .int 0), (3, .ref q31), (2, .ref q19), (1, .ref q1), (0, .ref b)] := hl
  refine lv_aload_n (pc := 930) hx hb dL_law_930 rfl (lv_at hl 4 rfl) ?_
  refine vp_callSi (pc := 931) (W.runV (As := []) (rest := []) ⟨hx, hb, hml, hown, hts⟩ (m_thrown l dC dI q19 nw22 kp23 mk24 co25 se26 0 1) (cwV 0 hts (gV wd_411 wd_412 wd_413 wd_157 wd_410) rfl rfl rfl (by decide +kernel) ⟨Nat.le_of_ble_eq_true rfl, Nat.le_of_ble_eq_true rfl⟩) ⟨pR_blind, va_recv (q := (RM, TM, 11)) (q0 := 6) (ci := 4) hK hP rfl rfl, pR_pre (hP.sub (ws' := [(q19, .inr (4, [.int 0, .int 1, .ref nw22, .ref kp23, .int 0, .int (-1), .ref mk24, .ref co25, .int 0, .int 0, .ref se26]))]) [6] rfl) (hK.sub (tys' := []) [] rfl)⟩ rfl rfl hl.1 rfl (lv_room (Nat.le_of_ble_eq_true rfl)) dL_law_931 ⟨Nat.le_of_ble_eq_true rfl, Nat.le_of_ble_eq_true rfl⟩) (fun r1019 hr1020 => ?_)
  obtain rfl : r1019 = 0 := hr1020
  refine lv_iload (pc := 934) hx hb dL_law_934 (lv_at hl 1 rfl) ?_
  refine lv_icmp_eq (pc := 936) (tgt := 941) hx hb dL_law_936 rfl (fun h1021 => ?_) (fun h1021 => absurd h1021 (by decide))
  refine lv_iload (pc := 941) hx hb dL_law_941 (lv_at hl 1 rfl) ?_
  refine lv_if_ne (pc := 943) (tgt := 965) hx hb dL_law_943 rfl (fun h1022 => absurd h1022 (by decide)) (fun h1022 => ?_)
  refine lv_aload_n (pc := 946) hx hb dL_law_946 rfl (lv_at hl 3 rfl) ?_
  refine lv_iconst (pc := 947) (v := 0) hx hb dL_law_947 (by decide) ?_
  refine va_lald (D := (dC, dI)) (cl := kCl) (pc := 948) hx hb hK hP 5 5 rfl rfl (vp_in_lit 0 1 (by decide)) dL_law_948 ?_
  refine W.eq (g2 := F0 m 949 ls [.long 0]) rfl ?_
  refine lv_iload (pc := 949) hx hb dL_law_949 (lv_at hl 0 rfl) ?_
  refine lv_if_eq (pc := 951) (tgt := 958) hx hb dL_law_951 rfl (fun h1023 => ?_) (fun h1023 => absurd h1023 (by decide))
  refine lv_lconst (pc := 958) (v := 0) hx hb dL_law_958 (by decide) ?_
  refine W.lcmp (pc := 959) hx hb dL_law_959 ?_
  refine lv_topi (fun z1024 hz1025 => ?_)
  obtain rfl : z1024 = 0 := hz1025.trans (by decide)
  refine lv_if_eq (pc := 960) (tgt := 965) hx hb dL_law_960 rfl (fun h1026 => ?_) (fun h1026 => absurd h1026 (by decide))
  refine lv_goto (pc := 965) (tgt := 1763) hx hb dL_law_965 rfl ?_
  exact law_tail hx hb hr hlocks hX hbl hbA hA2 hS (lv_sub hl (l' := [(4, .int 0), (0, .ref b)]) [2, 6] rfl) (Nat.le_of_ble_eq_true rfl) (Nat.le_of_ble_eq_true rfl)
set_option maxHeartbeats 4000000 in
set_option maxRecDepth 100000 in
theorem lawcase_10 {p : Program} {l : Launch} {e : Env} {s : State} {m : MethodId} {below : List Frame} {meth : Method} {c : Code} {b : Nat} {xs : Nat → Int32} {A : Nat → Prop} {H : Heap} {locs : List Loc} {ls : Array Slot} {dC : Nat → ClassId} {dI : Nat → Nat → Nat} {q1 : Nat} {rt4 : Nat} {dr5 : Nat} {bs6 : Nat} {df7 : Nat} {ch8 : Nat} {pg9 : Nat} {cR14 : ClassId} {cB15 : ClassId} {dv10 : Nat} {do911 : Nat} {cF16 : ClassId} {fv17 : Nat → Int32} {cp12 : Nat} {cn13 : Nat} {q19 : Nat} {nw22 : Nat} {kp23 : Nat} {mk24 : Nat} {co25 : Nat} {se26 : Nat} {cN27 : ClassId} {cK28 : ClassId} {fk29 : Nat → Int32} {q31 : Nat} {cA32 : ClassId} (h : lawS p l s m meth c b xs dC dI A q1 rt4 dr5 bs6 df7 ch8 pg9 cR14 cB15 dv10 do911 cF16 fv17 cp12 cn13 q19 nw22 kp23 mk24 co25 se26 cN27 cK28 fk29 q31 cA32 H locs ls) : W p l e room_1 s m #[Value.ref b] below meth c H locs 18 52931 (lw_Z below #[Value.ref b] s) (F0 m 968 ls []) := by
  obtain ⟨hx, hb, hr, hml, hown, hts, hX, hbl, hbA, hlocks, hA, hA2, hP, hD, hK, hS, hl, hXE, hfl, hfk⟩ := h
  refine lv_aload_n (pc := 968) hx hb dL_law_968 rfl (lv_at hl 3 rfl) ?_
  refine lv_aload_n (pc := 969) hx hb dL_law_969 rfl (lv_at hl 4 rfl) ?_
  refine lv_iload (pc := 970) hx hb dL_law_970 (lv_at hl 0 rfl) ?_
  refine lv_iconst (pc := 972) (v := 1) hx hb dL_law_972 (by decide) ?_
  refine lv_iadd (pc := 973) hx hb dL_law_973 ?_
  refine lv_topi (fun z1001 hz1002 => ?_)
  obtain rfl : z1001 = 1 := hz1002.trans (by decide)
  refine va_sld (A := A) (pc := 974) hx hb hX hbl hbA hS (vp_in_lit 1 6 (by decide)) dL_law_974 ?_
  refine W.eq (g2 := F0 m 975 ls [.int (xs 1), .ref q1]) rfl ?_
  refine lv_aload_n (pc := 975) hx hb dL_law_975 rfl (lv_at hl 4 rfl) ?_
  refine lv_iload (pc := 976) hx hb dL_law_976 (lv_at hl 0 rfl) ?_
  refine lv_iconst (pc := 978) (v := 2) hx hb dL_law_978 (by decide) ?_
  refine lv_iadd (pc := 979) hx hb dL_law_979 ?_
  refine lv_topi (fun z1003 hz1004 => ?_)
  obtain rfl : z1003 = 2 := hz1004.trans (by decide)
  refine va_sld (A := A) (pc := 980) hx hb hX hbl hbA hS (vp_in_lit 2 6 (by decide)) dL_law_980 ?_
  refine W.eq (g2 := F0 m 981 ls [.int (xs 2), .int (xs 1), .ref q1]) rfl ?_
  refine lv_aload_n (pc := 981) hx hb dL_law_981 rfl (lv_at hl 4 rfl) ?_
  refine lv_iload (pc := 982) hx hb dL_law_982 (lv_at hl 0 rfl) ?_
  refine lv_iconst (pc := 984) (v := 3) hx hb dL_law_984 (by decide) ?_
  refine lv_iadd (pc := 985) hx hb dL_law_985 ?_
  refine lv_topi (fun z1005 hz1006 => ?_)
  obtain rfl : z1005 = 3 := hz1006.trans (by decide)
  refine va_sld (A := A) (pc := 986) hx hb hX hbl hbA hS (vp_in_lit 3 6 (by decide)) dL_law_986 ?_
  refine W.eq (g2 := F0 m 987 ls [.int (xs 3), .int (xs 2), .int (xs 1), .ref q1]) rfl ?_
  refine lv_aload_n (pc := 987) hx hb dL_law_987 rfl (lv_at hl 1 rfl) ?_
  have hPc := hP.sub (ws' := [(q1, .inr (0, [.ref rt4, .ref dr5, .int 0, .int 0, .ref bs6, .ref df7, .ref ch8, .ref pg9, .int 0])), (rt4, .inl (cR14, 16, .inl (fun _ => 0))), (pg9, .inr (3, [.int 400, .int 0, .int 0, .int 0, .int 0, .int 0])), (q31, .inl (cA32, 1, .inr (.inl (fun _ => 0))))]) [0, 1, 2, 10] rfl
  have hDc := hD.sub (ws' := [(q1, .inr (0, [.ref rt4, .ref dr5, .int 0, .int 0, .ref bs6, .ref df7, .ref ch8, .ref pg9, .int 0])), (rt4, .inl (cR14, 16, .inl (fun _ => 0))), (pg9, .inr (3, [.int 400, .int 0, .int 0, .int 0, .int 0, .int 0])), (q31, .inl (cA32, 1, .inr (.inl (fun _ => 0))))]) [0, 1, 2, 10] (by decide) rfl
  have hKc := hK.sub (tys' := [(cR14, .int), (cA32, .long)]) [0, 5] rfl
  have hFc := va_free (wc := [(q1, .inr (0, [.ref rt4, .ref dr5, .int 0, .int 0, .ref bs6, .ref df7, .ref ch8, .ref pg9, .int 0])), (rt4, .inl (cR14, 16, .inl (fun _ => 0))), (pg9, .inr (3, [.int 400, .int 0, .int 0, .int 0, .int 0, .int 0])), (q31, .inl (cA32, 1, .inr (.inl (fun _ => 0))))]) hD hS hA [0, 1, 2, 10] rfl
  refine va_calli (pc := 988) (hxR (As := [.ref q1, .int (xs 1), .int (xs 2), .int (xs 3), .ref q31]) (rest := []) ⟨hx, hb, hml, hown, hts⟩ (l_release l dC dI H.size q1 rt4 dr5 bs6 df7 ch8 pg9 0 cR14 q31 cA32 (fun _ => 0) (xs 1) (xs 2) (xs 3)) 5 wd_478 wd_479 wd_405 wd_477 rfl rfl ⟨Nat.le_of_ble_eq_true rfl, Nat.le_of_ble_eq_true rfl⟩ (by decide +kernel) ⟨pW_blind, pW_pre hPc hKc hDc⟩ rfl rfl hl.1 rfl (lv_room (Nat.le_of_ble_eq_true rfl)) dL_law_988 ⟨Nat.le_of_ble_eq_true rfl, Nat.le_of_ble_eq_true rfl⟩) hS (fun q _ h => hFc q h) hFc (fun r1007 u t H1 locs ht hvm hr1008 hB hz1 hk1 hS => ?_)
  obtain ⟨hP1, hK1, hD1⟩ := hB
  rw [ht] at hP1
  have hK1 := va_K.moved hvm.symm hK1
  obtain ⟨hP, hD⟩ := va_join (wr := [(bs6, .inl (cB15, 10, .inr (.inr (.inr (.inr (fun _ => none)))))), (df7, .inr (1, [.ref dv10, .ref do911, .int 0])), (dv10, .inl (cF16, 24, .inl fv17)), (ch8, .inr (2, [.ref cp12, .ref cn13, .int 0])), (q19, .inr (4, [.int 0, .int 0, .ref nw22, .ref kp23, .int 0, .int (-1), .ref mk24, .ref co25, .int 0, .int 0, .ref se26])), (nw22, .inl (cN27, 25240, .inl now0)), (kp23, .inl (cK28, 25240, .inl fk29))]) (w1 := [(q31, .inl (cA32, 1, .inr (.inl (vp_updL (fun _ => 0) (0 : Int32).toNatClampNeg 0))))]) hP hD [0, 1, 2, 10] [3, 4, 5, 6, 7, 8, 9] rfl rfl (by decide) (by decide) hk1 hFc hP1 hD1
  generalize H1 = H at hP hS ⊢
  have hP : va_P (dC, dI) kCl [(bs6, .inl (cB15, 10, .inr (.inr (.inr (.inr (fun _ => none)))))), (df7, .inr (1, [.ref dv10, .ref do911, .int 0])), (dv10, .inl (cF16, 24, .inl fv17)), (ch8, .inr (2, [.ref cp12, .ref cn13, .int 0])), (q19, .inr (4, [.int 0, .int 0, .ref nw22, .ref kp23, .int 0, .int (-1), .ref mk24, .ref co25, .int 0, .int 0, .ref se26])), (nw22, .inl (cN27, 25240, .inl now0)), (kp23, .inl (cK28, 25240, .inl fk29)), (q31, .inl (cA32, 1, .inr (.inl (vp_updL (fun _ => 0) (0 : Int32).toNatClampNeg 0))))] H := hP
  have hD : va_D A [(bs6, .inl (cB15, 10, .inr (.inr (.inr (.inr (fun _ => none)))))), (df7, .inr (1, [.ref dv10, .ref do911, .int 0])), (dv10, .inl (cF16, 24, .inl fv17)), (ch8, .inr (2, [.ref cp12, .ref cn13, .int 0])), (q19, .inr (4, [.int 0, .int 0, .ref nw22, .ref kp23, .int 0, .int (-1), .ref mk24, .ref co25, .int 0, .int 0, .ref se26])), (nw22, .inl (cN27, 25240, .inl now0)), (kp23, .inl (cK28, 25240, .inl fk29)), (q31, .inl (cA32, 1, .inr (.inl (vp_updL (fun _ => 0) (0 : Int32).toNatClampNeg 0))))] := hD
  refine W.widen (k := 18) (n := 52931) (Nat.le_of_ble_eq_true rfl) (Nat.le_of_ble_eq_true rfl) ?_
  obtain rfl : r1007 = 0 := hr1008
  refine lv_istore (pc := 991) hx hb dL_law_991 hl (by decide) rfl (fun ls hl => ?_)
  have hl : lv_has ls 7 [(5, .int 0), (4, .int 0), (3, .ref q31), (2, .ref q19), (1, .ref q1), (0, .ref b)] := hl
  refine lv_aload_n (pc := 993) hx hb dL_law_993 rfl (lv_at hl 3 rfl) ?_
  refine lv_aload_n (pc := 994) hx hb dL_law_994 rfl (lv_at hl 5 rfl) ?_
  refine lv_iload (pc := 995) hx hb dL_law_995 (lv_at hl 1 rfl) ?_
  refine lv_iconst (pc := 997) (v := 1) hx hb dL_law_997 (by decide) ?_
  refine lv_iadd (pc := 998) hx hb dL_law_998 ?_
  refine lv_topi (fun z1010 hz1011 => ?_)
  obtain rfl : z1010 = 1 := hz1011.trans (by decide)
  refine va_sld (A := A) (pc := 999) hx hb hX hbl hbA hS (vp_in_lit 1 6 (by decide)) dL_law_999 ?_
  refine W.eq (g2 := F0 m 1000 ls [.int (xs 1), .ref q19]) rfl ?_
  refine lv_aload_n (pc := 1000) hx hb dL_law_1000 rfl (lv_at hl 5 rfl) ?_
  refine lv_iload (pc := 1001) hx hb dL_law_1001 (lv_at hl 1 rfl) ?_
  refine lv_iconst (pc := 1003) (v := 2) hx hb dL_law_1003 (by decide) ?_
  refine lv_iadd (pc := 1004) hx hb dL_law_1004 ?_
  refine lv_topi (fun z1012 hz1013 => ?_)
  obtain rfl : z1012 = 2 := hz1013.trans (by decide)
  refine va_sld (A := A) (pc := 1005) hx hb hX hbl hbA hS (vp_in_lit 2 6 (by decide)) dL_law_1005 ?_
  refine W.eq (g2 := F0 m 1006 ls [.int (xs 2), .int (xs 1), .ref q19]) rfl ?_
  refine lv_aload_n (pc := 1006) hx hb dL_law_1006 rfl (lv_at hl 5 rfl) ?_
  refine lv_iload (pc := 1007) hx hb dL_law_1007 (lv_at hl 1 rfl) ?_
  refine lv_iconst (pc := 1009) (v := 3) hx hb dL_law_1009 (by decide) ?_
  refine lv_iadd (pc := 1010) hx hb dL_law_1010 ?_
  refine lv_topi (fun z1014 hz1015 => ?_)
  obtain rfl : z1014 = 3 := hz1015.trans (by decide)
  refine va_sld (A := A) (pc := 1011) hx hb hX hbl hbA hS (vp_in_lit 3 6 (by decide)) dL_law_1011 ?_
  refine W.eq (g2 := F0 m 1012 ls [.int (xs 3), .int (xs 2), .int (xs 1), .ref q19]) rfl ?_
  have hPc := hP.sub (ws' := [(q19, .inr (4, [.int 0, .int 0, .ref nw22, .ref kp23, .int 0, .int (-1), .ref mk24, .ref co25, .int 0, .int 0, .ref se26])), (nw22, .inl (cN27, 25240, .inl now0))]) [4, 5] rfl
  have hDc := hD.sub (ws' := [(q19, .inr (4, [.int 0, .int 0, .ref nw22, .ref kp23, .int 0, .int (-1), .ref mk24, .ref co25, .int 0, .int 0, .ref se26])), (nw22, .inl (cN27, 25240, .inl now0))]) [4, 5] (by decide) rfl
  have hKc := hK.sub (tys' := [(cN27, .int)]) [3] rfl
  have hFc := va_free (wc := [(q19, .inr (4, [.int 0, .int 0, .ref nw22, .ref kp23, .int 0, .int (-1), .ref mk24, .ref co25, .int 0, .int 0, .ref se26])), (nw22, .inl (cN27, 25240, .inl now0))]) hD hS hA [4, 5] rfl
  refine va_calli (pc := 1012) (va_runV (As := [.int (xs 1), .int (xs 2), .int (xs 3)]) (rest := []) ⟨hx, hb, hml, hown, hts⟩ (m_release l dC dI H.size q19 nw22 kp23 mk24 co25 se26 0 0 cN27 (xs 1) (xs 2) (xs 3)) (cwV 3 hts (gV wd_481 wd_482 wd_483 wd_157 wd_480) rfl rfl rfl (by decide +kernel) ⟨Nat.le_of_ble_eq_true rfl, Nat.le_of_ble_eq_true rfl⟩) ⟨pW_blind, va_recv (q := (RM, TM, 11)) (q0 := 4) (ci := 4) hK hP rfl rfl, pW_pre hPc hKc hDc⟩ rfl rfl hl.1 rfl (lv_room (Nat.le_of_ble_eq_true rfl)) dL_law_1012 ⟨Nat.le_of_ble_eq_true rfl, Nat.le_of_ble_eq_true rfl⟩) hS (fun q _ h => hFc q h) hFc (fun r1016 u t H1 locs ht hvm hr1017 hB hz1 hk1 hS => ?_)
  obtain ⟨hP1, hK1, hD1⟩ := hB
  rw [ht] at hP1
  have hK1 := va_K.moved hvm.symm hK1
  obtain ⟨hP, hD⟩ := va_join (wr := [(bs6, .inl (cB15, 10, .inr (.inr (.inr (.inr (fun _ => none)))))), (df7, .inr (1, [.ref dv10, .ref do911, .int 0])), (dv10, .inl (cF16, 24, .inl fv17)), (ch8, .inr (2, [.ref cp12, .ref cn13, .int 0])), (kp23, .inl (cK28, 25240, .inl fk29)), (q31, .inl (cA32, 1, .inr (.inl (vp_updL (fun _ => 0) (0 : Int32).toNatClampNeg 0))))]) (w1 := [(q19, .inr (4, [.int 0, .int 1, .ref nw22, .ref kp23, .int 0, .int (-1), .ref mk24, .ref co25, .int 0, .int 0, .ref se26]))]) hP hD [4, 5] [0, 1, 2, 3, 6, 7] rfl rfl (by decide) (by decide) hk1 hFc hP1 hD1
  generalize H1 = H at hP hS ⊢
  have hP : va_P (dC, dI) kCl [(bs6, .inl (cB15, 10, .inr (.inr (.inr (.inr (fun _ => none)))))), (df7, .inr (1, [.ref dv10, .ref do911, .int 0])), (dv10, .inl (cF16, 24, .inl fv17)), (ch8, .inr (2, [.ref cp12, .ref cn13, .int 0])), (kp23, .inl (cK28, 25240, .inl fk29)), (q31, .inl (cA32, 1, .inr (.inl (vp_updL (fun _ => 0) (0 : Int32).toNatClampNeg 0)))), (q19, .inr (4, [.int 0, .int 1, .ref nw22, .ref kp23, .int 0, .int (-1), .ref mk24, .ref co25, .int 0, .int 0, .ref se26]))] H := hP
  have hD : va_D A [(bs6, .inl (cB15, 10, .inr (.inr (.inr (.inr (fun _ => none)))))), (df7, .inr (1, [.ref dv10, .ref do911, .int 0])), (dv10, .inl (cF16, 24, .inl fv17)), (ch8, .inr (2, [.ref cp12, .ref cn13, .int 0])), (kp23, .inl (cK28, 25240, .inl fk29)), (q31, .inl (cA32, 1, .inr (.inl (vp_updL (fun _ => 0) (0 : Int32).toNatClampNeg 0)))), (q19, .inr (4, [.int 0, .int 1, .ref nw22, .ref kp23, .int 0, .int (-1), .ref mk24, .ref co25, .int 0, .int 0, .ref se26]))] := hD
  refine W.widen (k := 18) (n := 52931) (Nat.le_of_ble_eq_true rfl) (Nat.le_of_ble_eq_true rfl) ?_
  obtain rfl : r1016 = 0 := hr1017
  refine lv_istore (pc := 1015) hx hb dL_law_1015 hl (by decide) rfl (fun ls hl => ?_)
  have hl : lv_has ls 7 [(6, .int 0), (5, .int 0), (4, .int 0), (3, .ref q31), (2, .ref q19), (1, .ref q1), (0, .ref b)] := hl
  refine lv_aload_n (pc := 1017) hx hb dL_law_1017 rfl (lv_at hl 4 rfl) ?_
  refine vp_callSi (pc := 1018) (W.runV (As := []) (rest := []) ⟨hx, hb, hml, hown, hts⟩ (m_thrown l dC dI q19 nw22 kp23 mk24 co25 se26 0 1) (cwV 0 hts (gV wd_411 wd_412 wd_413 wd_157 wd_410) rfl rfl rfl (by decide +kernel) ⟨Nat.le_of_ble_eq_true rfl, Nat.le_of_ble_eq_true rfl⟩) ⟨pR_blind, va_recv (q := (RM, TM, 11)) (q0 := 6) (ci := 4) hK hP rfl rfl, pR_pre (hP.sub (ws' := [(q19, .inr (4, [.int 0, .int 1, .ref nw22, .ref kp23, .int 0, .int (-1), .ref mk24, .ref co25, .int 0, .int 0, .ref se26]))]) [6] rfl) (hK.sub (tys' := []) [] rfl)⟩ rfl rfl hl.1 rfl (lv_room (Nat.le_of_ble_eq_true rfl)) dL_law_1018 ⟨Nat.le_of_ble_eq_true rfl, Nat.le_of_ble_eq_true rfl⟩) (fun r1019 hr1020 => ?_)
  obtain rfl : r1019 = 0 := hr1020
  refine lv_iload (pc := 1021) hx hb dL_law_1021 (lv_at hl 1 rfl) ?_
  refine lv_icmp_eq (pc := 1023) (tgt := 1028) hx hb dL_law_1023 rfl (fun h1021 => ?_) (fun h1021 => absurd h1021 (by decide))
  refine lv_iload (pc := 1028) hx hb dL_law_1028 (lv_at hl 1 rfl) ?_
  refine lv_if_ne (pc := 1030) (tgt := 1052) hx hb dL_law_1030 rfl (fun h1022 => absurd h1022 (by decide)) (fun h1022 => ?_)
  refine lv_aload_n (pc := 1033) hx hb dL_law_1033 rfl (lv_at hl 3 rfl) ?_
  refine lv_iconst (pc := 1034) (v := 0) hx hb dL_law_1034 (by decide) ?_
  refine va_lald (D := (dC, dI)) (cl := kCl) (pc := 1035) hx hb hK hP 5 5 rfl rfl (vp_in_lit 0 1 (by decide)) dL_law_1035 ?_
  refine W.eq (g2 := F0 m 1036 ls [.long 0]) rfl ?_
  refine lv_iload (pc := 1036) hx hb dL_law_1036 (lv_at hl 0 rfl) ?_
  refine lv_if_eq (pc := 1038) (tgt := 1045) hx hb dL_law_1038 rfl (fun h1023 => ?_) (fun h1023 => absurd h1023 (by decide))
  refine lv_lconst (pc := 1045) (v := 0) hx hb dL_law_1045 (by decide) ?_
  refine W.lcmp (pc := 1046) hx hb dL_law_1046 ?_
  refine lv_topi (fun z1024 hz1025 => ?_)
  obtain rfl : z1024 = 0 := hz1025.trans (by decide)
  refine lv_if_eq (pc := 1047) (tgt := 1052) hx hb dL_law_1047 rfl (fun h1026 => ?_) (fun h1026 => absurd h1026 (by decide))
  refine lv_goto (pc := 1052) (tgt := 1763) hx hb dL_law_1052 rfl ?_
  exact law_tail hx hb hr hlocks hX hbl hbA hA2 hS (lv_sub hl (l' := [(4, .int 0), (0, .ref b)]) [2, 6] rfl) (Nat.le_of_ble_eq_true rfl) (Nat.le_of_ble_eq_true rfl)
set_option maxHeartbeats 4000000 in
set_option maxRecDepth 100000 in
theorem lawcase_11 {p : Program} {l : Launch} {e : Env} {s : State} {m : MethodId} {below : List Frame} {meth : Method} {c : Code} {b : Nat} {xs : Nat → Int32} {A : Nat → Prop} {H : Heap} {locs : List Loc} {ls : Array Slot} {dC : Nat → ClassId} {dI : Nat → Nat → Nat} {q1 : Nat} {rt4 : Nat} {dr5 : Nat} {bs6 : Nat} {df7 : Nat} {ch8 : Nat} {pg9 : Nat} {cR14 : ClassId} {cB15 : ClassId} {dv10 : Nat} {do911 : Nat} {cF16 : ClassId} {fv17 : Nat → Int32} {cp12 : Nat} {cn13 : Nat} {q19 : Nat} {nw22 : Nat} {kp23 : Nat} {mk24 : Nat} {co25 : Nat} {se26 : Nat} {cN27 : ClassId} {cK28 : ClassId} {fk29 : Nat → Int32} {q31 : Nat} {cA32 : ClassId} (h : lawS p l s m meth c b xs dC dI A q1 rt4 dr5 bs6 df7 ch8 pg9 cR14 cB15 dv10 do911 cF16 fv17 cp12 cn13 q19 nw22 kp23 mk24 co25 se26 cN27 cK28 fk29 q31 cA32 H locs ls) : W p l e room_1 s m #[Value.ref b] below meth c H locs 18 52931 (lw_Z below #[Value.ref b] s) (F0 m 1055 ls []) := by
  obtain ⟨hx, hb, hr, hml, hown, hts, hX, hbl, hbA, hlocks, hA, hA2, hP, hD, hK, hS, hl, hXE, hfl, hfk⟩ := h
  refine lv_aload_n (pc := 1055) hx hb dL_law_1055 rfl (lv_at hl 3 rfl) ?_
  refine lv_aload_n (pc := 1056) hx hb dL_law_1056 rfl (lv_at hl 4 rfl) ?_
  refine lv_iload (pc := 1057) hx hb dL_law_1057 (lv_at hl 0 rfl) ?_
  refine lv_iconst (pc := 1059) (v := 1) hx hb dL_law_1059 (by decide) ?_
  refine lv_iadd (pc := 1060) hx hb dL_law_1060 ?_
  refine lv_topi (fun z1001 hz1002 => ?_)
  obtain rfl : z1001 = 1 := hz1002.trans (by decide)
  refine va_sld (A := A) (pc := 1061) hx hb hX hbl hbA hS (vp_in_lit 1 6 (by decide)) dL_law_1061 ?_
  refine W.eq (g2 := F0 m 1062 ls [.int (xs 1), .ref q1]) rfl ?_
  refine lv_aload_n (pc := 1062) hx hb dL_law_1062 rfl (lv_at hl 4 rfl) ?_
  refine lv_iload (pc := 1063) hx hb dL_law_1063 (lv_at hl 0 rfl) ?_
  refine lv_iconst (pc := 1065) (v := 2) hx hb dL_law_1065 (by decide) ?_
  refine lv_iadd (pc := 1066) hx hb dL_law_1066 ?_
  refine lv_topi (fun z1003 hz1004 => ?_)
  obtain rfl : z1003 = 2 := hz1004.trans (by decide)
  refine va_sld (A := A) (pc := 1067) hx hb hX hbl hbA hS (vp_in_lit 2 6 (by decide)) dL_law_1067 ?_
  refine W.eq (g2 := F0 m 1068 ls [.int (xs 2), .int (xs 1), .ref q1]) rfl ?_
  refine lv_aload_n (pc := 1068) hx hb dL_law_1068 rfl (lv_at hl 4 rfl) ?_
  refine lv_iload (pc := 1069) hx hb dL_law_1069 (lv_at hl 0 rfl) ?_
  refine lv_iconst (pc := 1071) (v := 3) hx hb dL_law_1071 (by decide) ?_
  refine lv_iadd (pc := 1072) hx hb dL_law_1072 ?_
  refine lv_topi (fun z1005 hz1006 => ?_)
  obtain rfl : z1005 = 3 := hz1006.trans (by decide)
  refine va_sld (A := A) (pc := 1073) hx hb hX hbl hbA hS (vp_in_lit 3 6 (by decide)) dL_law_1073 ?_
  refine W.eq (g2 := F0 m 1074 ls [.int (xs 3), .int (xs 2), .int (xs 1), .ref q1]) rfl ?_
  refine lv_aload_n (pc := 1074) hx hb dL_law_1074 rfl (lv_at hl 1 rfl) ?_
  have hPc := hP.sub (ws' := [(q1, .inr (0, [.ref rt4, .ref dr5, .int 0, .int 0, .ref bs6, .ref df7, .ref ch8, .ref pg9, .int 0])), (rt4, .inl (cR14, 16, .inl (fun _ => 0))), (pg9, .inr (3, [.int 400, .int 0, .int 0, .int 0, .int 0, .int 0])), (q31, .inl (cA32, 1, .inr (.inl (fun _ => 0))))]) [0, 1, 2, 10] rfl
  have hDc := hD.sub (ws' := [(q1, .inr (0, [.ref rt4, .ref dr5, .int 0, .int 0, .ref bs6, .ref df7, .ref ch8, .ref pg9, .int 0])), (rt4, .inl (cR14, 16, .inl (fun _ => 0))), (pg9, .inr (3, [.int 400, .int 0, .int 0, .int 0, .int 0, .int 0])), (q31, .inl (cA32, 1, .inr (.inl (fun _ => 0))))]) [0, 1, 2, 10] (by decide) rfl
  have hKc := hK.sub (tys' := [(cR14, .int), (cA32, .long)]) [0, 5] rfl
  have hFc := va_free (wc := [(q1, .inr (0, [.ref rt4, .ref dr5, .int 0, .int 0, .ref bs6, .ref df7, .ref ch8, .ref pg9, .int 0])), (rt4, .inl (cR14, 16, .inl (fun _ => 0))), (pg9, .inr (3, [.int 400, .int 0, .int 0, .int 0, .int 0, .int 0])), (q31, .inl (cA32, 1, .inr (.inl (fun _ => 0))))]) hD hS hA [0, 1, 2, 10] rfl
  refine va_calli (pc := 1075) (hxR (As := [.ref q1, .int (xs 1), .int (xs 2), .int (xs 3), .ref q31]) (rest := []) ⟨hx, hb, hml, hown, hts⟩ (l_withdraw l dC dI H.size q1 rt4 dr5 bs6 df7 ch8 pg9 0 cR14 q31 cA32 (fun _ => 0) (xs 1) (xs 2) (xs 3)) 5 wd_485 wd_486 wd_405 wd_484 rfl rfl ⟨Nat.le_of_ble_eq_true rfl, Nat.le_of_ble_eq_true rfl⟩ (by decide +kernel) ⟨pW_blind, pW_pre hPc hKc hDc⟩ rfl rfl hl.1 rfl (lv_room (Nat.le_of_ble_eq_true rfl)) dL_law_1075 ⟨Nat.le_of_ble_eq_true rfl, Nat.le_of_ble_eq_true rfl⟩) hS (fun q _ h => hFc q h) hFc (fun r1007 u t H1 locs ht hvm hr1008 hB hz1 hk1 hS => ?_)
  obtain ⟨hP1, hK1, hD1⟩ := hB
  rw [ht] at hP1
  have hK1 := va_K.moved hvm.symm hK1
  obtain ⟨hP, hD⟩ := va_join (wr := [(bs6, .inl (cB15, 10, .inr (.inr (.inr (.inr (fun _ => none)))))), (df7, .inr (1, [.ref dv10, .ref do911, .int 0])), (dv10, .inl (cF16, 24, .inl fv17)), (ch8, .inr (2, [.ref cp12, .ref cn13, .int 0])), (q19, .inr (4, [.int 0, .int 0, .ref nw22, .ref kp23, .int 0, .int (-1), .ref mk24, .ref co25, .int 0, .int 0, .ref se26])), (nw22, .inl (cN27, 25240, .inl now0)), (kp23, .inl (cK28, 25240, .inl fk29))]) (w1 := [(q31, .inl (cA32, 1, .inr (.inl (vp_updL (fun _ => 0) (0 : Int32).toNatClampNeg 0))))]) hP hD [0, 1, 2, 10] [3, 4, 5, 6, 7, 8, 9] rfl rfl (by decide) (by decide) hk1 hFc hP1 hD1
  generalize H1 = H at hP hS ⊢
  have hP : va_P (dC, dI) kCl [(bs6, .inl (cB15, 10, .inr (.inr (.inr (.inr (fun _ => none)))))), (df7, .inr (1, [.ref dv10, .ref do911, .int 0])), (dv10, .inl (cF16, 24, .inl fv17)), (ch8, .inr (2, [.ref cp12, .ref cn13, .int 0])), (q19, .inr (4, [.int 0, .int 0, .ref nw22, .ref kp23, .int 0, .int (-1), .ref mk24, .ref co25, .int 0, .int 0, .ref se26])), (nw22, .inl (cN27, 25240, .inl now0)), (kp23, .inl (cK28, 25240, .inl fk29)), (q31, .inl (cA32, 1, .inr (.inl (vp_updL (fun _ => 0) (0 : Int32).toNatClampNeg 0))))] H := hP
  have hD : va_D A [(bs6, .inl (cB15, 10, .inr (.inr (.inr (.inr (fun _ => none)))))), (df7, .inr (1, [.ref dv10, .ref do911, .int 0])), (dv10, .inl (cF16, 24, .inl fv17)), (ch8, .inr (2, [.ref cp12, .ref cn13, .int 0])), (q19, .inr (4, [.int 0, .int 0, .ref nw22, .ref kp23, .int 0, .int (-1), .ref mk24, .ref co25, .int 0, .int 0, .ref se26])), (nw22, .inl (cN27, 25240, .inl now0)), (kp23, .inl (cK28, 25240, .inl fk29)), (q31, .inl (cA32, 1, .inr (.inl (vp_updL (fun _ => 0) (0 : Int32).toNatClampNeg 0))))] := hD
  refine W.widen (k := 18) (n := 52931) (Nat.le_of_ble_eq_true rfl) (Nat.le_of_ble_eq_true rfl) ?_
  obtain rfl : r1007 = 0 := hr1008
  refine lv_istore (pc := 1078) hx hb dL_law_1078 hl (by decide) rfl (fun ls hl => ?_)
  have hl : lv_has ls 7 [(5, .int 0), (4, .int 0), (3, .ref q31), (2, .ref q19), (1, .ref q1), (0, .ref b)] := hl
  refine lv_aload_n (pc := 1080) hx hb dL_law_1080 rfl (lv_at hl 3 rfl) ?_
  refine lv_aload_n (pc := 1081) hx hb dL_law_1081 rfl (lv_at hl 5 rfl) ?_
  refine lv_iload (pc := 1082) hx hb dL_law_1082 (lv_at hl 1 rfl) ?_
  refine lv_iconst (pc := 1084) (v := 1) hx hb dL_law_1084 (by decide) ?_
  refine lv_iadd (pc := 1085) hx hb dL_law_1085 ?_
  refine lv_topi (fun z1010 hz1011 => ?_)
  obtain rfl : z1010 = 1 := hz1011.trans (by decide)
  refine va_sld (A := A) (pc := 1086) hx hb hX hbl hbA hS (vp_in_lit 1 6 (by decide)) dL_law_1086 ?_
  refine W.eq (g2 := F0 m 1087 ls [.int (xs 1), .ref q19]) rfl ?_
  refine lv_aload_n (pc := 1087) hx hb dL_law_1087 rfl (lv_at hl 5 rfl) ?_
  refine lv_iload (pc := 1088) hx hb dL_law_1088 (lv_at hl 1 rfl) ?_
  refine lv_iconst (pc := 1090) (v := 2) hx hb dL_law_1090 (by decide) ?_
  refine lv_iadd (pc := 1091) hx hb dL_law_1091 ?_
  refine lv_topi (fun z1012 hz1013 => ?_)
  obtain rfl : z1012 = 2 := hz1013.trans (by decide)
  refine va_sld (A := A) (pc := 1092) hx hb hX hbl hbA hS (vp_in_lit 2 6 (by decide)) dL_law_1092 ?_
  refine W.eq (g2 := F0 m 1093 ls [.int (xs 2), .int (xs 1), .ref q19]) rfl ?_
  refine lv_aload_n (pc := 1093) hx hb dL_law_1093 rfl (lv_at hl 5 rfl) ?_
  refine lv_iload (pc := 1094) hx hb dL_law_1094 (lv_at hl 1 rfl) ?_
  refine lv_iconst (pc := 1096) (v := 3) hx hb dL_law_1096 (by decide) ?_
  refine lv_iadd (pc := 1097) hx hb dL_law_1097 ?_
  refine lv_topi (fun z1014 hz1015 => ?_)
  obtain rfl : z1014 = 3 := hz1015.trans (by decide)
  refine va_sld (A := A) (pc := 1098) hx hb hX hbl hbA hS (vp_in_lit 3 6 (by decide)) dL_law_1098 ?_
  refine W.eq (g2 := F0 m 1099 ls [.int (xs 3), .int (xs 2), .int (xs 1), .ref q19]) rfl ?_
  have hPc := hP.sub (ws' := [(q19, .inr (4, [.int 0, .int 0, .ref nw22, .ref kp23, .int 0, .int (-1), .ref mk24, .ref co25, .int 0, .int 0, .ref se26])), (nw22, .inl (cN27, 25240, .inl now0))]) [4, 5] rfl
  have hDc := hD.sub (ws' := [(q19, .inr (4, [.int 0, .int 0, .ref nw22, .ref kp23, .int 0, .int (-1), .ref mk24, .ref co25, .int 0, .int 0, .ref se26])), (nw22, .inl (cN27, 25240, .inl now0))]) [4, 5] (by decide) rfl
  have hKc := hK.sub (tys' := [(cN27, .int)]) [3] rfl
  have hFc := va_free (wc := [(q19, .inr (4, [.int 0, .int 0, .ref nw22, .ref kp23, .int 0, .int (-1), .ref mk24, .ref co25, .int 0, .int 0, .ref se26])), (nw22, .inl (cN27, 25240, .inl now0))]) hD hS hA [4, 5] rfl
  refine va_calli (pc := 1099) (va_runV (As := [.int (xs 1), .int (xs 2), .int (xs 3)]) (rest := []) ⟨hx, hb, hml, hown, hts⟩ (m_withdraw l dC dI H.size q19 nw22 kp23 mk24 co25 se26 0 0 cN27 (xs 1) (xs 2) (xs 3)) (cwV 3 hts (gV wd_488 wd_489 wd_490 wd_157 wd_487) rfl rfl rfl (by decide +kernel) ⟨Nat.le_of_ble_eq_true rfl, Nat.le_of_ble_eq_true rfl⟩) ⟨pW_blind, va_recv (q := (RM, TM, 11)) (q0 := 4) (ci := 4) hK hP rfl rfl, pW_pre hPc hKc hDc⟩ rfl rfl hl.1 rfl (lv_room (Nat.le_of_ble_eq_true rfl)) dL_law_1099 ⟨Nat.le_of_ble_eq_true rfl, Nat.le_of_ble_eq_true rfl⟩) hS (fun q _ h => hFc q h) hFc (fun r1016 u t H1 locs ht hvm hr1017 hB hz1 hk1 hS => ?_)
  obtain ⟨hP1, hK1, hD1⟩ := hB
  rw [ht] at hP1
  have hK1 := va_K.moved hvm.symm hK1
  obtain ⟨hP, hD⟩ := va_join (wr := [(bs6, .inl (cB15, 10, .inr (.inr (.inr (.inr (fun _ => none)))))), (df7, .inr (1, [.ref dv10, .ref do911, .int 0])), (dv10, .inl (cF16, 24, .inl fv17)), (ch8, .inr (2, [.ref cp12, .ref cn13, .int 0])), (kp23, .inl (cK28, 25240, .inl fk29)), (q31, .inl (cA32, 1, .inr (.inl (vp_updL (fun _ => 0) (0 : Int32).toNatClampNeg 0))))]) (w1 := [(q19, .inr (4, [.int 0, .int 1, .ref nw22, .ref kp23, .int 0, .int (-1), .ref mk24, .ref co25, .int 0, .int 0, .ref se26]))]) hP hD [4, 5] [0, 1, 2, 3, 6, 7] rfl rfl (by decide) (by decide) hk1 hFc hP1 hD1
  generalize H1 = H at hP hS ⊢
  have hP : va_P (dC, dI) kCl [(bs6, .inl (cB15, 10, .inr (.inr (.inr (.inr (fun _ => none)))))), (df7, .inr (1, [.ref dv10, .ref do911, .int 0])), (dv10, .inl (cF16, 24, .inl fv17)), (ch8, .inr (2, [.ref cp12, .ref cn13, .int 0])), (kp23, .inl (cK28, 25240, .inl fk29)), (q31, .inl (cA32, 1, .inr (.inl (vp_updL (fun _ => 0) (0 : Int32).toNatClampNeg 0)))), (q19, .inr (4, [.int 0, .int 1, .ref nw22, .ref kp23, .int 0, .int (-1), .ref mk24, .ref co25, .int 0, .int 0, .ref se26]))] H := hP
  have hD : va_D A [(bs6, .inl (cB15, 10, .inr (.inr (.inr (.inr (fun _ => none)))))), (df7, .inr (1, [.ref dv10, .ref do911, .int 0])), (dv10, .inl (cF16, 24, .inl fv17)), (ch8, .inr (2, [.ref cp12, .ref cn13, .int 0])), (kp23, .inl (cK28, 25240, .inl fk29)), (q31, .inl (cA32, 1, .inr (.inl (vp_updL (fun _ => 0) (0 : Int32).toNatClampNeg 0)))), (q19, .inr (4, [.int 0, .int 1, .ref nw22, .ref kp23, .int 0, .int (-1), .ref mk24, .ref co25, .int 0, .int 0, .ref se26]))] := hD
  refine W.widen (k := 18) (n := 52931) (Nat.le_of_ble_eq_true rfl) (Nat.le_of_ble_eq_true rfl) ?_
  obtain rfl : r1016 = 0 := hr1017
  refine lv_istore (pc := 1102) hx hb dL_law_1102 hl (by decide) rfl (fun ls hl => ?_)
  have hl : lv_has ls 7 [(6, .int 0), (5, .int 0), (4, .int 0), (3, .ref q31), (2, .ref q19), (1, .ref q1), (0, .ref b)] := hl
  refine lv_aload_n (pc := 1104) hx hb dL_law_1104 rfl (lv_at hl 4 rfl) ?_
  refine vp_callSi (pc := 1105) (W.runV (As := []) (rest := []) ⟨hx, hb, hml, hown, hts⟩ (m_thrown l dC dI q19 nw22 kp23 mk24 co25 se26 0 1) (cwV 0 hts (gV wd_411 wd_412 wd_413 wd_157 wd_410) rfl rfl rfl (by decide +kernel) ⟨Nat.le_of_ble_eq_true rfl, Nat.le_of_ble_eq_true rfl⟩) ⟨pR_blind, va_recv (q := (RM, TM, 11)) (q0 := 6) (ci := 4) hK hP rfl rfl, pR_pre (hP.sub (ws' := [(q19, .inr (4, [.int 0, .int 1, .ref nw22, .ref kp23, .int 0, .int (-1), .ref mk24, .ref co25, .int 0, .int 0, .ref se26]))]) [6] rfl) (hK.sub (tys' := []) [] rfl)⟩ rfl rfl hl.1 rfl (lv_room (Nat.le_of_ble_eq_true rfl)) dL_law_1105 ⟨Nat.le_of_ble_eq_true rfl, Nat.le_of_ble_eq_true rfl⟩) (fun r1019 hr1020 => ?_)
  obtain rfl : r1019 = 0 := hr1020
  refine lv_iload (pc := 1108) hx hb dL_law_1108 (lv_at hl 1 rfl) ?_
  refine lv_icmp_eq (pc := 1110) (tgt := 1115) hx hb dL_law_1110 rfl (fun h1021 => ?_) (fun h1021 => absurd h1021 (by decide))
  refine lv_iload (pc := 1115) hx hb dL_law_1115 (lv_at hl 1 rfl) ?_
  refine lv_if_ne (pc := 1117) (tgt := 1139) hx hb dL_law_1117 rfl (fun h1022 => absurd h1022 (by decide)) (fun h1022 => ?_)
  refine lv_aload_n (pc := 1120) hx hb dL_law_1120 rfl (lv_at hl 3 rfl) ?_
  refine lv_iconst (pc := 1121) (v := 0) hx hb dL_law_1121 (by decide) ?_
  refine va_lald (D := (dC, dI)) (cl := kCl) (pc := 1122) hx hb hK hP 5 5 rfl rfl (vp_in_lit 0 1 (by decide)) dL_law_1122 ?_
  refine W.eq (g2 := F0 m 1123 ls [.long 0]) rfl ?_
  refine lv_iload (pc := 1123) hx hb dL_law_1123 (lv_at hl 0 rfl) ?_
  refine lv_if_eq (pc := 1125) (tgt := 1132) hx hb dL_law_1125 rfl (fun h1023 => ?_) (fun h1023 => absurd h1023 (by decide))
  refine lv_lconst (pc := 1132) (v := 0) hx hb dL_law_1132 (by decide) ?_
  refine W.lcmp (pc := 1133) hx hb dL_law_1133 ?_
  refine lv_topi (fun z1024 hz1025 => ?_)
  obtain rfl : z1024 = 0 := hz1025.trans (by decide)
  refine lv_if_eq (pc := 1134) (tgt := 1139) hx hb dL_law_1134 rfl (fun h1026 => ?_) (fun h1026 => absurd h1026 (by decide))
  refine lv_goto (pc := 1139) (tgt := 1763) hx hb dL_law_1139 rfl ?_
  exact law_tail hx hb hr hlocks hX hbl hbA hA2 hS (lv_sub hl (l' := [(4, .int 0), (0, .ref b)]) [2, 6] rfl) (Nat.le_of_ble_eq_true rfl) (Nat.le_of_ble_eq_true rfl)
set_option maxHeartbeats 4000000 in
set_option maxRecDepth 100000 in
theorem lawcase_12 {p : Program} {l : Launch} {e : Env} {s : State} {m : MethodId} {below : List Frame} {meth : Method} {c : Code} {b : Nat} {xs : Nat → Int32} {A : Nat → Prop} {H : Heap} {locs : List Loc} {ls : Array Slot} {dC : Nat → ClassId} {dI : Nat → Nat → Nat} {q1 : Nat} {rt4 : Nat} {dr5 : Nat} {bs6 : Nat} {df7 : Nat} {ch8 : Nat} {pg9 : Nat} {cR14 : ClassId} {cB15 : ClassId} {dv10 : Nat} {do911 : Nat} {cF16 : ClassId} {fv17 : Nat → Int32} {cp12 : Nat} {cn13 : Nat} {q19 : Nat} {nw22 : Nat} {kp23 : Nat} {mk24 : Nat} {co25 : Nat} {se26 : Nat} {cN27 : ClassId} {cK28 : ClassId} {fk29 : Nat → Int32} {q31 : Nat} {cA32 : ClassId} (h : lawS p l s m meth c b xs dC dI A q1 rt4 dr5 bs6 df7 ch8 pg9 cR14 cB15 dv10 do911 cF16 fv17 cp12 cn13 q19 nw22 kp23 mk24 co25 se26 cN27 cK28 fk29 q31 cA32 H locs ls) : W p l e room_1 s m #[Value.ref b] below meth c H locs 18 52931 (lw_Z below #[Value.ref b] s) (F0 m 1142 ls []) := by
  obtain ⟨hx, hb, hr, hml, hown, hts, hX, hbl, hbA, hlocks, hA, hA2, hP, hD, hK, hS, hl, hXE, hfl, hfk⟩ := h
  refine lv_aload_n (pc := 1142) hx hb dL_law_1142 rfl (lv_at hl 3 rfl) ?_
  refine lv_aload_n (pc := 1143) hx hb dL_law_1143 rfl (lv_at hl 4 rfl) ?_
  refine lv_iload (pc := 1144) hx hb dL_law_1144 (lv_at hl 0 rfl) ?_
  refine lv_iconst (pc := 1146) (v := 1) hx hb dL_law_1146 (by decide) ?_
  refine lv_iadd (pc := 1147) hx hb dL_law_1147 ?_
  refine lv_topi (fun z1001 hz1002 => ?_)
  obtain rfl : z1001 = 1 := hz1002.trans (by decide)
  refine va_sld (A := A) (pc := 1148) hx hb hX hbl hbA hS (vp_in_lit 1 6 (by decide)) dL_law_1148 ?_
  refine W.eq (g2 := F0 m 1149 ls [.int (xs 1), .ref q1]) rfl ?_
  refine lv_aload_n (pc := 1149) hx hb dL_law_1149 rfl (lv_at hl 4 rfl) ?_
  refine lv_iload (pc := 1150) hx hb dL_law_1150 (lv_at hl 0 rfl) ?_
  refine lv_iconst (pc := 1152) (v := 2) hx hb dL_law_1152 (by decide) ?_
  refine lv_iadd (pc := 1153) hx hb dL_law_1153 ?_
  refine lv_topi (fun z1003 hz1004 => ?_)
  obtain rfl : z1003 = 2 := hz1004.trans (by decide)
  refine va_sld (A := A) (pc := 1154) hx hb hX hbl hbA hS (vp_in_lit 2 6 (by decide)) dL_law_1154 ?_
  refine W.eq (g2 := F0 m 1155 ls [.int (xs 2), .int (xs 1), .ref q1]) rfl ?_
  refine lv_aload_n (pc := 1155) hx hb dL_law_1155 rfl (lv_at hl 1 rfl) ?_
  have hPc := hP.sub (ws' := [(q1, .inr (0, [.ref rt4, .ref dr5, .int 0, .int 0, .ref bs6, .ref df7, .ref ch8, .ref pg9, .int 0])), (pg9, .inr (3, [.int 400, .int 0, .int 0, .int 0, .int 0, .int 0])), (bs6, .inl (cB15, 10, .inr (.inr (.inr (.inr (fun _ => none)))))), (df7, .inr (1, [.ref dv10, .ref do911, .int 0])), (dv10, .inl (cF16, 24, .inl fv17)), (q31, .inl (cA32, 1, .inr (.inl (fun _ => 0))))]) [0, 2, 3, 4, 5, 10] rfl
  have hDc := hD.sub (ws' := [(q1, .inr (0, [.ref rt4, .ref dr5, .int 0, .int 0, .ref bs6, .ref df7, .ref ch8, .ref pg9, .int 0])), (pg9, .inr (3, [.int 400, .int 0, .int 0, .int 0, .int 0, .int 0])), (bs6, .inl (cB15, 10, .inr (.inr (.inr (.inr (fun _ => none)))))), (df7, .inr (1, [.ref dv10, .ref do911, .int 0])), (dv10, .inl (cF16, 24, .inl fv17)), (q31, .inl (cA32, 1, .inr (.inl (fun _ => 0))))]) [0, 2, 3, 4, 5, 10] (by decide) rfl
  have hKc := hK.sub (tys' := [(cB15, .object "DrawingVault$Baseline"), (cF16, .int), (cA32, .long)]) [1, 2, 5] rfl
  have hFc := va_free (wc := [(q1, .inr (0, [.ref rt4, .ref dr5, .int 0, .int 0, .ref bs6, .ref df7, .ref ch8, .ref pg9, .int 0])), (pg9, .inr (3, [.int 400, .int 0, .int 0, .int 0, .int 0, .int 0])), (bs6, .inl (cB15, 10, .inr (.inr (.inr (.inr (fun _ => none)))))), (df7, .inr (1, [.ref dv10, .ref do911, .int 0])), (dv10, .inl (cF16, 24, .inl fv17)), (q31, .inl (cA32, 1, .inr (.inl (fun _ => 0))))]) hD hS hA [0, 2, 3, 4, 5, 10] rfl
  refine va_calli (pc := 1156) (hxR (As := [.ref q1, .int (xs 1), .int (xs 2), .ref q31]) (rest := []) ⟨hx, hb, hml, hown, hts⟩ (l_baseline l dC dI H.size q1 rt4 dr5 bs6 df7 ch8 pg9 0 cB15 dv10 do911 cF16 fv17 q31 cA32 (fun _ => 0) (xs 1) (xs 2)) 4 wd_492 wd_493 wd_405 wd_491 rfl rfl ⟨Nat.le_of_ble_eq_true rfl, Nat.le_of_ble_eq_true rfl⟩ (by decide +kernel) ⟨pW_blind, pW_pre hPc hKc hDc⟩ rfl rfl hl.1 rfl (lv_room (Nat.le_of_ble_eq_true rfl)) dL_law_1156 ⟨Nat.le_of_ble_eq_true rfl, Nat.le_of_ble_eq_true rfl⟩) hS (fun q _ h => hFc q h) hFc (fun r1005 u t H1 locs ht hvm hr1006 hB hz1 hk1 hS => ?_)
  obtain ⟨hP1, hK1, hD1⟩ := hB
  rw [ht] at hP1
  have hK1 := va_K.moved hvm.symm hK1
  obtain ⟨hP, hD⟩ := va_join (wr := [(rt4, .inl (cR14, 16, .inl (fun _ => 0))), (ch8, .inr (2, [.ref cp12, .ref cn13, .int 0])), (q19, .inr (4, [.int 0, .int 0, .ref nw22, .ref kp23, .int 0, .int (-1), .ref mk24, .ref co25, .int 0, .int 0, .ref se26])), (nw22, .inl (cN27, 25240, .inl now0)), (kp23, .inl (cK28, 25240, .inl fk29))]) (w1 := [(q31, .inl (cA32, 1, .inr (.inl (vp_updL (fun _ => 0) (0 : Int32).toNatClampNeg (-1)))))]) hP hD [0, 2, 3, 4, 5, 10] [1, 6, 7, 8, 9] rfl rfl (by decide) (by decide) hk1 hFc hP1 hD1
  generalize H1 = H at hP hS ⊢
  have hP : va_P (dC, dI) kCl [(rt4, .inl (cR14, 16, .inl (fun _ => 0))), (ch8, .inr (2, [.ref cp12, .ref cn13, .int 0])), (q19, .inr (4, [.int 0, .int 0, .ref nw22, .ref kp23, .int 0, .int (-1), .ref mk24, .ref co25, .int 0, .int 0, .ref se26])), (nw22, .inl (cN27, 25240, .inl now0)), (kp23, .inl (cK28, 25240, .inl fk29)), (q31, .inl (cA32, 1, .inr (.inl (vp_updL (fun _ => 0) (0 : Int32).toNatClampNeg (-1)))))] H := hP
  have hD : va_D A [(rt4, .inl (cR14, 16, .inl (fun _ => 0))), (ch8, .inr (2, [.ref cp12, .ref cn13, .int 0])), (q19, .inr (4, [.int 0, .int 0, .ref nw22, .ref kp23, .int 0, .int (-1), .ref mk24, .ref co25, .int 0, .int 0, .ref se26])), (nw22, .inl (cN27, 25240, .inl now0)), (kp23, .inl (cK28, 25240, .inl fk29)), (q31, .inl (cA32, 1, .inr (.inl (vp_updL (fun _ => 0) (0 : Int32).toNatClampNeg (-1)))))] := hD
  refine W.widen (k := 18) (n := 52931) (Nat.le_of_ble_eq_true rfl) (Nat.le_of_ble_eq_true rfl) ?_
  obtain rfl : r1005 = 0 := hr1006
  refine lv_istore (pc := 1159) hx hb dL_law_1159 hl (by decide) rfl (fun ls hl => ?_)
  have hl : lv_has ls 7 [(5, .int 0), (4, .int 0), (3, .ref q31), (2, .ref q19), (1, .ref q1), (0, .ref b)] := hl
  refine lv_aload_n (pc := 1161) hx hb dL_law_1161 rfl (lv_at hl 3 rfl) ?_
  refine lv_aload_n (pc := 1162) hx hb dL_law_1162 rfl (lv_at hl 5 rfl) ?_
  refine lv_iload (pc := 1163) hx hb dL_law_1163 (lv_at hl 1 rfl) ?_
  refine lv_iconst (pc := 1165) (v := 1) hx hb dL_law_1165 (by decide) ?_
  refine lv_iadd (pc := 1166) hx hb dL_law_1166 ?_
  refine lv_topi (fun z1008 hz1009 => ?_)
  obtain rfl : z1008 = 1 := hz1009.trans (by decide)
  refine va_sld (A := A) (pc := 1167) hx hb hX hbl hbA hS (vp_in_lit 1 6 (by decide)) dL_law_1167 ?_
  refine W.eq (g2 := F0 m 1168 ls [.int (xs 1), .ref q19]) rfl ?_
  refine lv_aload_n (pc := 1168) hx hb dL_law_1168 rfl (lv_at hl 5 rfl) ?_
  refine lv_iload (pc := 1169) hx hb dL_law_1169 (lv_at hl 1 rfl) ?_
  refine lv_iconst (pc := 1171) (v := 2) hx hb dL_law_1171 (by decide) ?_
  refine lv_iadd (pc := 1172) hx hb dL_law_1172 ?_
  refine lv_topi (fun z1010 hz1011 => ?_)
  obtain rfl : z1010 = 2 := hz1011.trans (by decide)
  refine va_sld (A := A) (pc := 1173) hx hb hX hbl hbA hS (vp_in_lit 2 6 (by decide)) dL_law_1173 ?_
  refine W.eq (g2 := F0 m 1174 ls [.int (xs 2), .int (xs 1), .ref q19]) rfl ?_
  have hPc := hP.sub (ws' := [(q19, .inr (4, [.int 0, .int 0, .ref nw22, .ref kp23, .int 0, .int (-1), .ref mk24, .ref co25, .int 0, .int 0, .ref se26])), (nw22, .inl (cN27, 25240, .inl now0))]) [2, 3] rfl
  have hDc := hD.sub (ws' := [(q19, .inr (4, [.int 0, .int 0, .ref nw22, .ref kp23, .int 0, .int (-1), .ref mk24, .ref co25, .int 0, .int 0, .ref se26])), (nw22, .inl (cN27, 25240, .inl now0))]) [2, 3] (by decide) rfl
  have hKc := hK.sub (tys' := [(cN27, .int)]) [3] rfl
  have hFc := va_free (wc := [(q19, .inr (4, [.int 0, .int 0, .ref nw22, .ref kp23, .int 0, .int (-1), .ref mk24, .ref co25, .int 0, .int 0, .ref se26])), (nw22, .inl (cN27, 25240, .inl now0))]) hD hS hA [2, 3] rfl
  refine va_calli (pc := 1174) (va_runV (As := [.int (xs 1), .int (xs 2)]) (rest := []) ⟨hx, hb, hml, hown, hts⟩ (m_baseline l dC dI H.size q19 nw22 kp23 mk24 co25 se26 0 0 cN27 (xs 1) (xs 2)) (cwV 2 hts (gV wd_495 wd_496 wd_497 wd_157 wd_494) rfl rfl rfl (by decide +kernel) ⟨Nat.le_of_ble_eq_true rfl, Nat.le_of_ble_eq_true rfl⟩) ⟨pW_blind, va_recv (q := (RM, TM, 11)) (q0 := 2) (ci := 4) hK hP rfl rfl, pW_pre hPc hKc hDc⟩ rfl rfl hl.1 rfl (lv_room (Nat.le_of_ble_eq_true rfl)) dL_law_1174 ⟨Nat.le_of_ble_eq_true rfl, Nat.le_of_ble_eq_true rfl⟩) hS (fun q _ h => hFc q h) hFc (fun r1012 u t H1 locs ht hvm hr1013 hB hz1 hk1 hS => ?_)
  obtain ⟨hP1, hK1, hD1⟩ := hB
  rw [ht] at hP1
  have hK1 := va_K.moved hvm.symm hK1
  obtain ⟨hP, hD⟩ := va_join (wr := [(rt4, .inl (cR14, 16, .inl (fun _ => 0))), (ch8, .inr (2, [.ref cp12, .ref cn13, .int 0])), (kp23, .inl (cK28, 25240, .inl fk29)), (q31, .inl (cA32, 1, .inr (.inl (vp_updL (fun _ => 0) (0 : Int32).toNatClampNeg (-1)))))]) (w1 := [(q19, .inr (4, [.int 0, .int 7, .ref nw22, .ref kp23, .int 0, .int (-1), .ref mk24, .ref co25, .int 0, .int 0, .ref se26]))]) hP hD [2, 3] [0, 1, 4, 5] rfl rfl (by decide) (by decide) hk1 hFc hP1 hD1
  generalize H1 = H at hP hS ⊢
  have hP : va_P (dC, dI) kCl [(rt4, .inl (cR14, 16, .inl (fun _ => 0))), (ch8, .inr (2, [.ref cp12, .ref cn13, .int 0])), (kp23, .inl (cK28, 25240, .inl fk29)), (q31, .inl (cA32, 1, .inr (.inl (vp_updL (fun _ => 0) (0 : Int32).toNatClampNeg (-1))))), (q19, .inr (4, [.int 0, .int 7, .ref nw22, .ref kp23, .int 0, .int (-1), .ref mk24, .ref co25, .int 0, .int 0, .ref se26]))] H := hP
  have hD : va_D A [(rt4, .inl (cR14, 16, .inl (fun _ => 0))), (ch8, .inr (2, [.ref cp12, .ref cn13, .int 0])), (kp23, .inl (cK28, 25240, .inl fk29)), (q31, .inl (cA32, 1, .inr (.inl (vp_updL (fun _ => 0) (0 : Int32).toNatClampNeg (-1))))), (q19, .inr (4, [.int 0, .int 7, .ref nw22, .ref kp23, .int 0, .int (-1), .ref mk24, .ref co25, .int 0, .int 0, .ref se26]))] := hD
  refine W.widen (k := 18) (n := 52931) (Nat.le_of_ble_eq_true rfl) (Nat.le_of_ble_eq_true rfl) ?_
  obtain rfl : r1012 = (-1) := hr1013
  refine lv_istore (pc := 1177) hx hb dL_law_1177 hl (by decide) rfl (fun ls hl => ?_)
  have hl : lv_has ls 7 [(6, .int (-1)), (5, .int 0), (4, .int 0), (3, .ref q31), (2, .ref q19), (1, .ref q1), (0, .ref b)] := hl
  refine lv_aload_n (pc := 1179) hx hb dL_law_1179 rfl (lv_at hl 4 rfl) ?_
  refine vp_callSi (pc := 1180) (W.runV (As := []) (rest := []) ⟨hx, hb, hml, hown, hts⟩ (m_thrown l dC dI q19 nw22 kp23 mk24 co25 se26 0 7) (cwV 0 hts (gV wd_411 wd_412 wd_413 wd_157 wd_410) rfl rfl rfl (by decide +kernel) ⟨Nat.le_of_ble_eq_true rfl, Nat.le_of_ble_eq_true rfl⟩) ⟨pR_blind, va_recv (q := (RM, TM, 11)) (q0 := 4) (ci := 4) hK hP rfl rfl, pR_pre (hP.sub (ws' := [(q19, .inr (4, [.int 0, .int 7, .ref nw22, .ref kp23, .int 0, .int (-1), .ref mk24, .ref co25, .int 0, .int 0, .ref se26]))]) [4] rfl) (hK.sub (tys' := []) [] rfl)⟩ rfl rfl hl.1 rfl (lv_room (Nat.le_of_ble_eq_true rfl)) dL_law_1180 ⟨Nat.le_of_ble_eq_true rfl, Nat.le_of_ble_eq_true rfl⟩) (fun r1015 hr1016 => ?_)
  obtain rfl : r1015 = 0 := hr1016
  refine lv_iload (pc := 1183) hx hb dL_law_1183 (lv_at hl 1 rfl) ?_
  refine lv_icmp_eq (pc := 1185) (tgt := 1190) hx hb dL_law_1185 rfl (fun h1017 => ?_) (fun h1017 => absurd h1017 (by decide))
  refine lv_iload (pc := 1190) hx hb dL_law_1190 (lv_at hl 1 rfl) ?_
  refine lv_if_ne (pc := 1192) (tgt := 1207) hx hb dL_law_1192 rfl (fun h1018 => absurd h1018 (by decide)) (fun h1018 => ?_)
  refine lv_aload_n (pc := 1195) hx hb dL_law_1195 rfl (lv_at hl 3 rfl) ?_
  refine lv_iconst (pc := 1196) (v := 0) hx hb dL_law_1196 (by decide) ?_
  refine va_lald (D := (dC, dI)) (cl := kCl) (pc := 1197) hx hb hK hP 3 5 rfl rfl (vp_in_lit 0 1 (by decide)) dL_law_1197 ?_
  refine W.eq (g2 := F0 m 1198 ls [.long (-1)]) rfl ?_
  refine lv_iload (pc := 1198) hx hb dL_law_1198 (lv_at hl 0 rfl) ?_
  refine lv_i2l (pc := 1200) (v := (-1)) hx hb dL_law_1200 (by decide) ?_
  refine W.lcmp (pc := 1201) hx hb dL_law_1201 ?_
  refine lv_topi (fun z1019 hz1020 => ?_)
  obtain rfl : z1019 = 0 := hz1020.trans (by decide)
  refine lv_if_eq (pc := 1202) (tgt := 1207) hx hb dL_law_1202 rfl (fun h1021 => ?_) (fun h1021 => absurd h1021 (by decide))
  refine lv_goto (pc := 1207) (tgt := 1763) hx hb dL_law_1207 rfl ?_
  exact law_tail hx hb hr hlocks hX hbl hbA hA2 hS (lv_sub hl (l' := [(4, .int 0), (0, .ref b)]) [2, 6] rfl) (Nat.le_of_ble_eq_true rfl) (Nat.le_of_ble_eq_true rfl)
set_option maxHeartbeats 4000000 in
set_option maxRecDepth 100000 in
theorem lawcase_13 {p : Program} {l : Launch} {e : Env} {s : State} {m : MethodId} {below : List Frame} {meth : Method} {c : Code} {b : Nat} {xs : Nat → Int32} {A : Nat → Prop} {H : Heap} {locs : List Loc} {ls : Array Slot} {dC : Nat → ClassId} {dI : Nat → Nat → Nat} {q1 : Nat} {rt4 : Nat} {dr5 : Nat} {bs6 : Nat} {df7 : Nat} {ch8 : Nat} {pg9 : Nat} {cR14 : ClassId} {cB15 : ClassId} {dv10 : Nat} {do911 : Nat} {cF16 : ClassId} {fv17 : Nat → Int32} {cp12 : Nat} {cn13 : Nat} {q19 : Nat} {nw22 : Nat} {kp23 : Nat} {mk24 : Nat} {co25 : Nat} {se26 : Nat} {cN27 : ClassId} {cK28 : ClassId} {fk29 : Nat → Int32} {q31 : Nat} {cA32 : ClassId} (h : lawS p l s m meth c b xs dC dI A q1 rt4 dr5 bs6 df7 ch8 pg9 cR14 cB15 dv10 do911 cF16 fv17 cp12 cn13 q19 nw22 kp23 mk24 co25 se26 cN27 cK28 fk29 q31 cA32 H locs ls) : W p l e room_1 s m #[Value.ref b] below meth c H locs 18 52931 (lw_Z below #[Value.ref b] s) (F0 m 1210 ls []) := by
  obtain ⟨hx, hb, hr, hml, hown, hts, hX, hbl, hbA, hlocks, hA, hA2, hP, hD, hK, hS, hl, hXE, hfl, hfk⟩ := h
  refine lv_aload_n (pc := 1210) hx hb dL_law_1210 rfl (lv_at hl 3 rfl) ?_
  refine vp_callSi (pc := 1211) (W.runV (As := []) (rest := []) ⟨hx, hb, hml, hown, hts⟩ (v_why l dC dI q1 rt4 dr5 bs6 df7 ch8 pg9 0) (cwV 0 hts (gV wd_499 wd_500 wd_501 wd_35 wd_498) rfl rfl rfl (by decide +kernel) ⟨Nat.le_of_ble_eq_true rfl, Nat.le_of_ble_eq_true rfl⟩) ⟨pR_blind, va_recv (q := (RV, TV, 9)) (q0 := 0) (ci := 0) hK hP rfl rfl, pR_pre (hP.sub (ws' := [(q1, .inr (0, [.ref rt4, .ref dr5, .int 0, .int 0, .ref bs6, .ref df7, .ref ch8, .ref pg9, .int 0]))]) [0] rfl) (hK.sub (tys' := []) [] rfl)⟩ rfl rfl hl.1 rfl (lv_room (Nat.le_of_ble_eq_true rfl)) dL_law_1211 ⟨Nat.le_of_ble_eq_true rfl, Nat.le_of_ble_eq_true rfl⟩) (fun r1001 hr1002 => ?_)
  obtain rfl : r1001 = 0 := hr1002
  refine lv_aload_n (pc := 1214) hx hb dL_law_1214 rfl (lv_at hl 2 rfl) ?_
  have hPc := hP.sub (ws' := [(q19, .inr (4, [.int 0, .int 0, .ref nw22, .ref kp23, .int 0, .int (-1), .ref mk24, .ref co25, .int 0, .int 0, .ref se26])), (nw22, .inl (cN27, 25240, .inl now0))]) [7, 8] rfl
  have hDc := hD.sub (ws' := [(q19, .inr (4, [.int 0, .int 0, .ref nw22, .ref kp23, .int 0, .int (-1), .ref mk24, .ref co25, .int 0, .int 0, .ref se26])), (nw22, .inl (cN27, 25240, .inl now0))]) [7, 8] (by decide) rfl
  have hKc := hK.sub (tys' := [(cN27, .int)]) [3] rfl
  have hFc := va_free (wc := [(q19, .inr (4, [.int 0, .int 0, .ref nw22, .ref kp23, .int 0, .int (-1), .ref mk24, .ref co25, .int 0, .int 0, .ref se26])), (nw22, .inl (cN27, 25240, .inl now0))]) hD hS hA [7, 8] rfl
  refine va_calli (pc := 1215) (va_runV (As := []) (rest := [.int 0]) ⟨hx, hb, hml, hown, hts⟩ (m_why l dC dI H.size q19 nw22 kp23 mk24 co25 se26 0 0 cN27) (cwV 0 hts (gV wd_503 wd_504 wd_505 wd_157 wd_502) rfl rfl rfl (by decide +kernel) ⟨Nat.le_of_ble_eq_true rfl, Nat.le_of_ble_eq_true rfl⟩) ⟨pW_blind, va_recv (q := (RM, TM, 11)) (q0 := 7) (ci := 4) hK hP rfl rfl, pW_pre hPc hKc hDc⟩ rfl rfl hl.1 rfl (lv_room (Nat.le_of_ble_eq_true rfl)) dL_law_1215 ⟨Nat.le_of_ble_eq_true rfl, Nat.le_of_ble_eq_true rfl⟩) hS (fun q _ h => hFc q h) hFc (fun r1003 u t H1 locs ht hvm hr1004 hB hz1 hk1 hS => ?_)
  obtain ⟨hP1, hK1, hD1⟩ := hB
  rw [ht] at hP1
  have hK1 := va_K.moved hvm.symm hK1
  obtain ⟨hP, hD⟩ := va_join (wr := [(q1, .inr (0, [.ref rt4, .ref dr5, .int 0, .int 0, .ref bs6, .ref df7, .ref ch8, .ref pg9, .int 0])), (rt4, .inl (cR14, 16, .inl (fun _ => 0))), (pg9, .inr (3, [.int 400, .int 0, .int 0, .int 0, .int 0, .int 0])), (bs6, .inl (cB15, 10, .inr (.inr (.inr (.inr (fun _ => none)))))), (df7, .inr (1, [.ref dv10, .ref do911, .int 0])), (dv10, .inl (cF16, 24, .inl fv17)), (ch8, .inr (2, [.ref cp12, .ref cn13, .int 0])), (kp23, .inl (cK28, 25240, .inl fk29)), (q31, .inl (cA32, 1, .inr (.inl (fun _ => 0))))]) (w1 := [(q19, .inr (4, [.int 0, .int 0, .ref nw22, .ref kp23, .int 0, .int (-1), .ref mk24, .ref co25, .int 0, .int 0, .ref se26]))]) hP hD [7, 8] [0, 1, 2, 3, 4, 5, 6, 9, 10] rfl rfl (by decide) (by decide) hk1 hFc hP1 hD1
  generalize H1 = H at hP hS ⊢
  have hP : va_P (dC, dI) kCl [(q1, .inr (0, [.ref rt4, .ref dr5, .int 0, .int 0, .ref bs6, .ref df7, .ref ch8, .ref pg9, .int 0])), (rt4, .inl (cR14, 16, .inl (fun _ => 0))), (pg9, .inr (3, [.int 400, .int 0, .int 0, .int 0, .int 0, .int 0])), (bs6, .inl (cB15, 10, .inr (.inr (.inr (.inr (fun _ => none)))))), (df7, .inr (1, [.ref dv10, .ref do911, .int 0])), (dv10, .inl (cF16, 24, .inl fv17)), (ch8, .inr (2, [.ref cp12, .ref cn13, .int 0])), (kp23, .inl (cK28, 25240, .inl fk29)), (q31, .inl (cA32, 1, .inr (.inl (fun _ => 0)))), (q19, .inr (4, [.int 0, .int 0, .ref nw22, .ref kp23, .int 0, .int (-1), .ref mk24, .ref co25, .int 0, .int 0, .ref se26]))] H := hP
  have hD : va_D A [(q1, .inr (0, [.ref rt4, .ref dr5, .int 0, .int 0, .ref bs6, .ref df7, .ref ch8, .ref pg9, .int 0])), (rt4, .inl (cR14, 16, .inl (fun _ => 0))), (pg9, .inr (3, [.int 400, .int 0, .int 0, .int 0, .int 0, .int 0])), (bs6, .inl (cB15, 10, .inr (.inr (.inr (.inr (fun _ => none)))))), (df7, .inr (1, [.ref dv10, .ref do911, .int 0])), (dv10, .inl (cF16, 24, .inl fv17)), (ch8, .inr (2, [.ref cp12, .ref cn13, .int 0])), (kp23, .inl (cK28, 25240, .inl fk29)), (q31, .inl (cA32, 1, .inr (.inl (fun _ => 0)))), (q19, .inr (4, [.int 0, .int 0, .ref nw22, .ref kp23, .int 0, .int (-1), .ref mk24, .ref co25, .int 0, .int 0, .ref se26]))] := hD
  refine W.widen (k := 18) (n := 52931) (Nat.le_of_ble_eq_true rfl) (Nat.le_of_ble_eq_true rfl) ?_
  obtain rfl : r1003 = 0 := hr1004
  refine lv_icmp_eq (pc := 1218) (tgt := 1763) hx hb dL_law_1218 rfl (fun h1006 => ?_) (fun h1006 => absurd h1006 (by decide))
  exact law_tail hx hb hr hlocks hX hbl hbA hA2 hS (lv_sub hl (l' := [(4, .int 0), (0, .ref b)]) [0, 4] rfl) (Nat.le_of_ble_eq_true rfl) (Nat.le_of_ble_eq_true rfl)
set_option maxHeartbeats 4000000 in
set_option maxRecDepth 100000 in
theorem lawcase_14 {p : Program} {l : Launch} {e : Env} {s : State} {m : MethodId} {below : List Frame} {meth : Method} {c : Code} {b : Nat} {xs : Nat → Int32} {A : Nat → Prop} {H : Heap} {locs : List Loc} {ls : Array Slot} {dC : Nat → ClassId} {dI : Nat → Nat → Nat} {q1 : Nat} {rt4 : Nat} {dr5 : Nat} {bs6 : Nat} {df7 : Nat} {ch8 : Nat} {pg9 : Nat} {cR14 : ClassId} {cB15 : ClassId} {dv10 : Nat} {do911 : Nat} {cF16 : ClassId} {fv17 : Nat → Int32} {cp12 : Nat} {cn13 : Nat} {q19 : Nat} {nw22 : Nat} {kp23 : Nat} {mk24 : Nat} {co25 : Nat} {se26 : Nat} {cN27 : ClassId} {cK28 : ClassId} {fk29 : Nat → Int32} {q31 : Nat} {cA32 : ClassId} (h : lawS p l s m meth c b xs dC dI A q1 rt4 dr5 bs6 df7 ch8 pg9 cR14 cB15 dv10 do911 cF16 fv17 cp12 cn13 q19 nw22 kp23 mk24 co25 se26 cN27 cK28 fk29 q31 cA32 H locs ls) : W p l e room_1 s m #[Value.ref b] below meth c H locs 18 52931 (lw_Z below #[Value.ref b] s) (F0 m 1223 ls []) := by
  obtain ⟨hx, hb, hr, hml, hown, hts, hX, hbl, hbA, hlocks, hA, hA2, hP, hD, hK, hS, hl, hXE, hfl, hfk⟩ := h
  refine lv_aload_n (pc := 1223) hx hb dL_law_1223 rfl (lv_at hl 3 rfl) ?_
  refine lv_aload_n (pc := 1224) hx hb dL_law_1224 rfl (lv_at hl 4 rfl) ?_
  refine lv_iload (pc := 1225) hx hb dL_law_1225 (lv_at hl 0 rfl) ?_
  refine lv_iconst (pc := 1227) (v := 1) hx hb dL_law_1227 (by decide) ?_
  refine lv_iadd (pc := 1228) hx hb dL_law_1228 ?_
  refine lv_topi (fun z1001 hz1002 => ?_)
  obtain rfl : z1001 = 1 := hz1002.trans (by decide)
  refine va_sld (A := A) (pc := 1229) hx hb hX hbl hbA hS (vp_in_lit 1 6 (by decide)) dL_law_1229 ?_
  refine W.eq (g2 := F0 m 1230 ls [.int (xs 1), .ref q1]) rfl ?_
  refine lv_aload_n (pc := 1230) hx hb dL_law_1230 rfl (lv_at hl 4 rfl) ?_
  refine lv_iload (pc := 1231) hx hb dL_law_1231 (lv_at hl 0 rfl) ?_
  refine lv_iconst (pc := 1233) (v := 2) hx hb dL_law_1233 (by decide) ?_
  refine lv_iadd (pc := 1234) hx hb dL_law_1234 ?_
  refine lv_topi (fun z1003 hz1004 => ?_)
  obtain rfl : z1003 = 2 := hz1004.trans (by decide)
  refine va_sld (A := A) (pc := 1235) hx hb hX hbl hbA hS (vp_in_lit 2 6 (by decide)) dL_law_1235 ?_
  refine W.eq (g2 := F0 m 1236 ls [.int (xs 2), .int (xs 1), .ref q1]) rfl ?_
  refine lv_aload_n (pc := 1236) hx hb dL_law_1236 rfl (lv_at hl 4 rfl) ?_
  refine lv_iload (pc := 1237) hx hb dL_law_1237 (lv_at hl 0 rfl) ?_
  refine lv_iconst (pc := 1239) (v := 3) hx hb dL_law_1239 (by decide) ?_
  refine lv_iadd (pc := 1240) hx hb dL_law_1240 ?_
  refine lv_topi (fun z1005 hz1006 => ?_)
  obtain rfl : z1005 = 3 := hz1006.trans (by decide)
  refine va_sld (A := A) (pc := 1241) hx hb hX hbl hbA hS (vp_in_lit 3 6 (by decide)) dL_law_1241 ?_
  refine W.eq (g2 := F0 m 1242 ls [.int (xs 3), .int (xs 2), .int (xs 1), .ref q1]) rfl ?_
  refine lv_aload_n (pc := 1242) hx hb dL_law_1242 rfl (lv_at hl 1 rfl) ?_
  have hPc := hP.sub (ws' := [(q1, .inr (0, [.ref rt4, .ref dr5, .int 0, .int 0, .ref bs6, .ref df7, .ref ch8, .ref pg9, .int 0])), (q31, .inl (cA32, 1, .inr (.inl (fun _ => 0))))]) [0, 10] rfl
  have hDc := hD.sub (ws' := [(q1, .inr (0, [.ref rt4, .ref dr5, .int 0, .int 0, .ref bs6, .ref df7, .ref ch8, .ref pg9, .int 0])), (q31, .inl (cA32, 1, .inr (.inl (fun _ => 0))))]) [0, 10] (by decide) rfl
  have hKc := hK.sub (tys' := [(cA32, .long)]) [5] rfl
  have hFc := va_free (wc := [(q1, .inr (0, [.ref rt4, .ref dr5, .int 0, .int 0, .ref bs6, .ref df7, .ref ch8, .ref pg9, .int 0])), (q31, .inl (cA32, 1, .inr (.inl (fun _ => 0))))]) hD hS hA [0, 10] rfl
  refine va_calli (pc := 1243) (hxR (As := [.ref q1, .int (xs 1), .int (xs 2), .int (xs 3), .ref q31]) (rest := []) ⟨hx, hb, hml, hown, hts⟩ (l_look l dC dI H.size q1 rt4 dr5 bs6 df7 ch8 pg9 0 q31 cA32 (fun _ => 0) (xs 1) (xs 2) (xs 3) (hfl)) 5 wd_507 wd_508 wd_405 wd_506 rfl rfl ⟨Nat.le_of_ble_eq_true rfl, Nat.le_of_ble_eq_true rfl⟩ (by decide +kernel) ⟨pWy_blind, pWy_pre hPc hKc hDc (fun U hU hW => xE_warm hW (fun q hq => by rw [hU]; exact hS.2.1 q hq (fun h => absurd (hA2 q h) (Nat.not_le.mpr hq))) hXE)⟩ rfl rfl hl.1 rfl (lv_room (Nat.le_of_ble_eq_true rfl)) dL_law_1243 ⟨Nat.le_of_ble_eq_true rfl, Nat.le_of_ble_eq_true rfl⟩) hS (fun q _ h => hFc q h) hFc (fun r1007 u t H1 locs ht hvm hr1008 hB hz1 hk1 hS => ?_)
  obtain ⟨hP1, hK1, hD1⟩ := hB
  rw [ht] at hP1
  have hK1 := va_K.moved hvm.symm hK1
  obtain ⟨hP, hD⟩ := va_join (wr := [(rt4, .inl (cR14, 16, .inl (fun _ => 0))), (pg9, .inr (3, [.int 400, .int 0, .int 0, .int 0, .int 0, .int 0])), (bs6, .inl (cB15, 10, .inr (.inr (.inr (.inr (fun _ => none)))))), (df7, .inr (1, [.ref dv10, .ref do911, .int 0])), (dv10, .inl (cF16, 24, .inl fv17)), (ch8, .inr (2, [.ref cp12, .ref cn13, .int 0])), (q19, .inr (4, [.int 0, .int 0, .ref nw22, .ref kp23, .int 0, .int (-1), .ref mk24, .ref co25, .int 0, .int 0, .ref se26])), (nw22, .inl (cN27, 25240, .inl now0)), (kp23, .inl (cK28, 25240, .inl fk29))]) (w1 := []) hP hD [0, 10] [1, 2, 3, 4, 5, 6, 7, 8, 9] rfl rfl (by decide) (by decide) hk1 hFc hP1 hD1
  generalize H1 = H at hP hS ⊢
  have hP : va_P (dC, dI) kCl [(rt4, .inl (cR14, 16, .inl (fun _ => 0))), (pg9, .inr (3, [.int 400, .int 0, .int 0, .int 0, .int 0, .int 0])), (bs6, .inl (cB15, 10, .inr (.inr (.inr (.inr (fun _ => none)))))), (df7, .inr (1, [.ref dv10, .ref do911, .int 0])), (dv10, .inl (cF16, 24, .inl fv17)), (ch8, .inr (2, [.ref cp12, .ref cn13, .int 0])), (q19, .inr (4, [.int 0, .int 0, .ref nw22, .ref kp23, .int 0, .int (-1), .ref mk24, .ref co25, .int 0, .int 0, .ref se26])), (nw22, .inl (cN27, 25240, .inl now0)), (kp23, .inl (cK28, 25240, .inl fk29))] H := hP
  have hD : va_D A [(rt4, .inl (cR14, 16, .inl (fun _ => 0))), (pg9, .inr (3, [.int 400, .int 0, .int 0, .int 0, .int 0, .int 0])), (bs6, .inl (cB15, 10, .inr (.inr (.inr (.inr (fun _ => none)))))), (df7, .inr (1, [.ref dv10, .ref do911, .int 0])), (dv10, .inl (cF16, 24, .inl fv17)), (ch8, .inr (2, [.ref cp12, .ref cn13, .int 0])), (q19, .inr (4, [.int 0, .int 0, .ref nw22, .ref kp23, .int 0, .int (-1), .ref mk24, .ref co25, .int 0, .int 0, .ref se26])), (nw22, .inl (cN27, 25240, .inl now0)), (kp23, .inl (cK28, 25240, .inl fk29))] := hD
  refine W.widen (k := 19) (n := 52937) (Nat.le_of_ble_eq_true rfl) (Nat.le_of_ble_eq_true rfl) ?_
  obtain rfl : r1007 = 1 := hr1008
  refine lv_istore (pc := 1246) hx hb dL_law_1246 hl (by decide) rfl (fun ls hl => ?_)
  have hl : lv_has ls 7 [(5, .int 1), (4, .int 0), (3, .ref q31), (2, .ref q19), (1, .ref q1), (0, .ref b)] := hl
  refine lv_aload_n (pc := 1248) hx hb dL_law_1248 rfl (lv_at hl 3 rfl) ?_
  refine lv_aload_n (pc := 1249) hx hb dL_law_1249 rfl (lv_at hl 5 rfl) ?_
  refine lv_iload (pc := 1250) hx hb dL_law_1250 (lv_at hl 1 rfl) ?_
  refine lv_iconst (pc := 1252) (v := 1) hx hb dL_law_1252 (by decide) ?_
  refine lv_iadd (pc := 1253) hx hb dL_law_1253 ?_
  refine lv_topi (fun z1010 hz1011 => ?_)
  obtain rfl : z1010 = 1 := hz1011.trans (by decide)
  refine va_sld (A := A) (pc := 1254) hx hb hX hbl hbA hS (vp_in_lit 1 6 (by decide)) dL_law_1254 ?_
  refine W.eq (g2 := F0 m 1255 ls [.int (xs 1), .ref q19]) rfl ?_
  refine lv_aload_n (pc := 1255) hx hb dL_law_1255 rfl (lv_at hl 5 rfl) ?_
  refine lv_iload (pc := 1256) hx hb dL_law_1256 (lv_at hl 1 rfl) ?_
  refine lv_iconst (pc := 1258) (v := 2) hx hb dL_law_1258 (by decide) ?_
  refine lv_iadd (pc := 1259) hx hb dL_law_1259 ?_
  refine lv_topi (fun z1012 hz1013 => ?_)
  obtain rfl : z1012 = 2 := hz1013.trans (by decide)
  refine va_sld (A := A) (pc := 1260) hx hb hX hbl hbA hS (vp_in_lit 2 6 (by decide)) dL_law_1260 ?_
  refine W.eq (g2 := F0 m 1261 ls [.int (xs 2), .int (xs 1), .ref q19]) rfl ?_
  refine lv_aload_n (pc := 1261) hx hb dL_law_1261 rfl (lv_at hl 5 rfl) ?_
  refine lv_iload (pc := 1262) hx hb dL_law_1262 (lv_at hl 1 rfl) ?_
  refine lv_iconst (pc := 1264) (v := 3) hx hb dL_law_1264 (by decide) ?_
  refine lv_iadd (pc := 1265) hx hb dL_law_1265 ?_
  refine lv_topi (fun z1014 hz1015 => ?_)
  obtain rfl : z1014 = 3 := hz1015.trans (by decide)
  refine va_sld (A := A) (pc := 1266) hx hb hX hbl hbA hS (vp_in_lit 3 6 (by decide)) dL_law_1266 ?_
  refine W.eq (g2 := F0 m 1267 ls [.int (xs 3), .int (xs 2), .int (xs 1), .ref q19]) rfl ?_
  have hPc := hP.sub (ws' := [(q19, .inr (4, [.int 0, .int 0, .ref nw22, .ref kp23, .int 0, .int (-1), .ref mk24, .ref co25, .int 0, .int 0, .ref se26])), (nw22, .inl (cN27, 25240, .inl now0))]) [6, 7] rfl
  have hDc := hD.sub (ws' := [(q19, .inr (4, [.int 0, .int 0, .ref nw22, .ref kp23, .int 0, .int (-1), .ref mk24, .ref co25, .int 0, .int 0, .ref se26])), (nw22, .inl (cN27, 25240, .inl now0))]) [6, 7] (by decide) rfl
  have hKc := hK.sub (tys' := [(cN27, .int)]) [3] rfl
  have hFc := va_free (wc := [(q19, .inr (4, [.int 0, .int 0, .ref nw22, .ref kp23, .int 0, .int (-1), .ref mk24, .ref co25, .int 0, .int 0, .ref se26])), (nw22, .inl (cN27, 25240, .inl now0))]) hD hS hA [6, 7] rfl
  refine va_calli (pc := 1267) (va_runV (As := [.int (xs 1), .int (xs 2), .int (xs 3)]) (rest := []) ⟨hx, hb, hml, hown, hts⟩ (m_look l dC dI H.size q19 nw22 kp23 mk24 co25 se26 0 0 cN27 (xs 1) (xs 2) (xs 3)) (cwV 3 hts (gV wd_510 wd_511 wd_512 wd_157 wd_509) rfl rfl rfl (by decide +kernel) ⟨Nat.le_of_ble_eq_true rfl, Nat.le_of_ble_eq_true rfl⟩) ⟨pW_blind, va_recv (q := (RM, TM, 11)) (q0 := 6) (ci := 4) hK hP rfl rfl, pW_pre hPc hKc hDc⟩ rfl rfl hl.1 rfl (lv_room (Nat.le_of_ble_eq_true rfl)) dL_law_1267 ⟨Nat.le_of_ble_eq_true rfl, Nat.le_of_ble_eq_true rfl⟩) hS (fun q _ h => hFc q h) hFc (fun r1016 u t H1 locs ht hvm hr1017 hB hz1 hk1 hS => ?_)
  obtain ⟨hP1, hK1, hD1⟩ := hB
  rw [ht] at hP1
  have hK1 := va_K.moved hvm.symm hK1
  obtain ⟨hP, hD⟩ := va_join (wr := [(rt4, .inl (cR14, 16, .inl (fun _ => 0))), (pg9, .inr (3, [.int 400, .int 0, .int 0, .int 0, .int 0, .int 0])), (bs6, .inl (cB15, 10, .inr (.inr (.inr (.inr (fun _ => none)))))), (df7, .inr (1, [.ref dv10, .ref do911, .int 0])), (dv10, .inl (cF16, 24, .inl fv17)), (ch8, .inr (2, [.ref cp12, .ref cn13, .int 0])), (kp23, .inl (cK28, 25240, .inl fk29))]) (w1 := [(q19, .inr (4, [.int 1, .int 0, .ref nw22, .ref kp23, .int 0, .int (-1), .ref mk24, .ref co25, .int 0, .int 0, .ref se26]))]) hP hD [6, 7] [0, 1, 2, 3, 4, 5, 8] rfl rfl (by decide) (by decide) hk1 hFc hP1 hD1
  generalize H1 = H at hP hS ⊢
  have hP : va_P (dC, dI) kCl [(rt4, .inl (cR14, 16, .inl (fun _ => 0))), (pg9, .inr (3, [.int 400, .int 0, .int 0, .int 0, .int 0, .int 0])), (bs6, .inl (cB15, 10, .inr (.inr (.inr (.inr (fun _ => none)))))), (df7, .inr (1, [.ref dv10, .ref do911, .int 0])), (dv10, .inl (cF16, 24, .inl fv17)), (ch8, .inr (2, [.ref cp12, .ref cn13, .int 0])), (kp23, .inl (cK28, 25240, .inl fk29)), (q19, .inr (4, [.int 1, .int 0, .ref nw22, .ref kp23, .int 0, .int (-1), .ref mk24, .ref co25, .int 0, .int 0, .ref se26]))] H := hP
  have hD : va_D A [(rt4, .inl (cR14, 16, .inl (fun _ => 0))), (pg9, .inr (3, [.int 400, .int 0, .int 0, .int 0, .int 0, .int 0])), (bs6, .inl (cB15, 10, .inr (.inr (.inr (.inr (fun _ => none)))))), (df7, .inr (1, [.ref dv10, .ref do911, .int 0])), (dv10, .inl (cF16, 24, .inl fv17)), (ch8, .inr (2, [.ref cp12, .ref cn13, .int 0])), (kp23, .inl (cK28, 25240, .inl fk29)), (q19, .inr (4, [.int 1, .int 0, .ref nw22, .ref kp23, .int 0, .int (-1), .ref mk24, .ref co25, .int 0, .int 0, .ref se26]))] := hD
  refine W.widen (k := 19) (n := 52937) (Nat.le_of_ble_eq_true rfl) (Nat.le_of_ble_eq_true rfl) ?_
  obtain rfl : r1016 = 0 := hr1017
  refine lv_istore (pc := 1270) hx hb dL_law_1270 hl (by decide) rfl (fun ls hl => ?_)
  have hl : lv_has ls 7 [(6, .int 0), (5, .int 1), (4, .int 0), (3, .ref q31), (2, .ref q19), (1, .ref q1), (0, .ref b)] := hl
  refine lv_aload_n (pc := 1272) hx hb dL_law_1272 rfl (lv_at hl 4 rfl) ?_
  refine vp_callSi (pc := 1273) (W.runV (As := []) (rest := []) ⟨hx, hb, hml, hown, hts⟩ (m_thrown l dC dI q19 nw22 kp23 mk24 co25 se26 1 0) (cwV 0 hts (gV wd_411 wd_412 wd_413 wd_157 wd_410) rfl rfl rfl (by decide +kernel) ⟨Nat.le_of_ble_eq_true rfl, Nat.le_of_ble_eq_true rfl⟩) ⟨pR_blind, va_recv (q := (RM, TM, 11)) (q0 := 7) (ci := 4) hK hP rfl rfl, pR_pre (hP.sub (ws' := [(q19, .inr (4, [.int 1, .int 0, .ref nw22, .ref kp23, .int 0, .int (-1), .ref mk24, .ref co25, .int 0, .int 0, .ref se26]))]) [7] rfl) (hK.sub (tys' := []) [] rfl)⟩ rfl rfl hl.1 rfl (lv_room (Nat.le_of_ble_eq_true rfl)) dL_law_1273 ⟨Nat.le_of_ble_eq_true rfl, Nat.le_of_ble_eq_true rfl⟩) (fun r1019 hr1020 => ?_)
  obtain rfl : r1019 = 1 := hr1020
  refine lv_iload (pc := 1276) hx hb dL_law_1276 (lv_at hl 1 rfl) ?_
  refine lv_icmp_eq (pc := 1278) (tgt := 1283) hx hb dL_law_1278 rfl (fun h1021 => ?_) (fun h1021 => absurd h1021 (by decide))
  refine lv_iload (pc := 1283) hx hb dL_law_1283 (lv_at hl 1 rfl) ?_
  refine lv_if_ne (pc := 1285) (tgt := 1300) hx hb dL_law_1285 rfl (fun h1022 => ?_) (fun h1022 => absurd h1022 (by decide))
  refine lv_goto (pc := 1300) (tgt := 1763) hx hb dL_law_1300 rfl ?_
  exact law_tail hx hb hr hlocks hX hbl hbA hA2 hS (lv_sub hl (l' := [(4, .int 0), (0, .ref b)]) [2, 6] rfl) (Nat.le_of_ble_eq_true rfl) (Nat.le_of_ble_eq_true rfl)
set_option maxHeartbeats 4000000 in
set_option maxRecDepth 100000 in
theorem lawcase_15 {p : Program} {l : Launch} {e : Env} {s : State} {m : MethodId} {below : List Frame} {meth : Method} {c : Code} {b : Nat} {xs : Nat → Int32} {A : Nat → Prop} {H : Heap} {locs : List Loc} {ls : Array Slot} {dC : Nat → ClassId} {dI : Nat → Nat → Nat} {q1 : Nat} {rt4 : Nat} {dr5 : Nat} {bs6 : Nat} {df7 : Nat} {ch8 : Nat} {pg9 : Nat} {cR14 : ClassId} {cB15 : ClassId} {dv10 : Nat} {do911 : Nat} {cF16 : ClassId} {fv17 : Nat → Int32} {cp12 : Nat} {cn13 : Nat} {q19 : Nat} {nw22 : Nat} {kp23 : Nat} {mk24 : Nat} {co25 : Nat} {se26 : Nat} {cN27 : ClassId} {cK28 : ClassId} {fk29 : Nat → Int32} {q31 : Nat} {cA32 : ClassId} (h : lawS p l s m meth c b xs dC dI A q1 rt4 dr5 bs6 df7 ch8 pg9 cR14 cB15 dv10 do911 cF16 fv17 cp12 cn13 q19 nw22 kp23 mk24 co25 se26 cN27 cK28 fk29 q31 cA32 H locs ls) : W p l e room_1 s m #[Value.ref b] below meth c H locs 18 52931 (lw_Z below #[Value.ref b] s) (F0 m 1303 ls []) := by
  obtain ⟨hx, hb, hr, hml, hown, hts, hX, hbl, hbA, hlocks, hA, hA2, hP, hD, hK, hS, hl, hXE, hfl, hfk⟩ := h
  refine lv_aload_n (pc := 1303) hx hb dL_law_1303 rfl (lv_at hl 3 rfl) ?_
  refine lv_aload_n (pc := 1304) hx hb dL_law_1304 rfl (lv_at hl 4 rfl) ?_
  refine lv_iload (pc := 1305) hx hb dL_law_1305 (lv_at hl 0 rfl) ?_
  refine lv_iconst (pc := 1307) (v := 1) hx hb dL_law_1307 (by decide) ?_
  refine lv_iadd (pc := 1308) hx hb dL_law_1308 ?_
  refine lv_topi (fun z1001 hz1002 => ?_)
  obtain rfl : z1001 = 1 := hz1002.trans (by decide)
  refine va_sld (A := A) (pc := 1309) hx hb hX hbl hbA hS (vp_in_lit 1 6 (by decide)) dL_law_1309 ?_
  refine W.eq (g2 := F0 m 1310 ls [.int (xs 1), .ref q1]) rfl ?_
  refine lv_aload_n (pc := 1310) hx hb dL_law_1310 rfl (lv_at hl 4 rfl) ?_
  refine lv_iload (pc := 1311) hx hb dL_law_1311 (lv_at hl 0 rfl) ?_
  refine lv_iconst (pc := 1313) (v := 2) hx hb dL_law_1313 (by decide) ?_
  refine lv_iadd (pc := 1314) hx hb dL_law_1314 ?_
  refine lv_topi (fun z1003 hz1004 => ?_)
  obtain rfl : z1003 = 2 := hz1004.trans (by decide)
  refine va_sld (A := A) (pc := 1315) hx hb hX hbl hbA hS (vp_in_lit 2 6 (by decide)) dL_law_1315 ?_
  refine W.eq (g2 := F0 m 1316 ls [.int (xs 2), .int (xs 1), .ref q1]) rfl ?_
  refine lv_aload_n (pc := 1316) hx hb dL_law_1316 rfl (lv_at hl 4 rfl) ?_
  refine lv_iload (pc := 1317) hx hb dL_law_1317 (lv_at hl 0 rfl) ?_
  refine lv_iconst (pc := 1319) (v := 3) hx hb dL_law_1319 (by decide) ?_
  refine lv_iadd (pc := 1320) hx hb dL_law_1320 ?_
  refine lv_topi (fun z1005 hz1006 => ?_)
  obtain rfl : z1005 = 3 := hz1006.trans (by decide)
  refine va_sld (A := A) (pc := 1321) hx hb hX hbl hbA hS (vp_in_lit 3 6 (by decide)) dL_law_1321 ?_
  refine W.eq (g2 := F0 m 1322 ls [.int (xs 3), .int (xs 2), .int (xs 1), .ref q1]) rfl ?_
  refine lv_aload_n (pc := 1322) hx hb dL_law_1322 rfl (lv_at hl 4 rfl) ?_
  refine lv_iload (pc := 1323) hx hb dL_law_1323 (lv_at hl 0 rfl) ?_
  refine lv_iconst (pc := 1325) (v := 4) hx hb dL_law_1325 (by decide) ?_
  refine lv_iadd (pc := 1326) hx hb dL_law_1326 ?_
  refine lv_topi (fun z1007 hz1008 => ?_)
  obtain rfl : z1007 = 4 := hz1008.trans (by decide)
  refine va_sld (A := A) (pc := 1327) hx hb hX hbl hbA hS (vp_in_lit 4 6 (by decide)) dL_law_1327 ?_
  refine W.eq (g2 := F0 m 1328 ls [.int (xs 4), .int (xs 3), .int (xs 2), .int (xs 1), .ref q1]) rfl ?_
  refine lv_aload_n (pc := 1328) hx hb dL_law_1328 rfl (lv_at hl 1 rfl) ?_
  have hPc := hP.sub (ws' := [(q1, .inr (0, [.ref rt4, .ref dr5, .int 0, .int 0, .ref bs6, .ref df7, .ref ch8, .ref pg9, .int 0])), (q31, .inl (cA32, 1, .inr (.inl (fun _ => 0))))]) [0, 10] rfl
  have hDc := hD.sub (ws' := [(q1, .inr (0, [.ref rt4, .ref dr5, .int 0, .int 0, .ref bs6, .ref df7, .ref ch8, .ref pg9, .int 0])), (q31, .inl (cA32, 1, .inr (.inl (fun _ => 0))))]) [0, 10] (by decide) rfl
  have hKc := hK.sub (tys' := [(cA32, .long)]) [5] rfl
  have hFc := va_free (wc := [(q1, .inr (0, [.ref rt4, .ref dr5, .int 0, .int 0, .ref bs6, .ref df7, .ref ch8, .ref pg9, .int 0])), (q31, .inl (cA32, 1, .inr (.inl (fun _ => 0))))]) hD hS hA [0, 10] rfl
  refine va_calli (pc := 1329) (hxR (As := [.ref q1, .int (xs 1), .int (xs 2), .int (xs 3), .int (xs 4), .ref q31]) (rest := []) ⟨hx, hb, hml, hown, hts⟩ (l_reference l dC dI H.size q1 rt4 dr5 bs6 df7 ch8 pg9 0 q31 cA32 (fun _ => 0) (xs 1) (xs 2) (xs 3) (xs 4) (hfl)) 6 wd_514 wd_515 wd_405 wd_513 rfl rfl ⟨Nat.le_of_ble_eq_true rfl, Nat.le_of_ble_eq_true rfl⟩ (by decide +kernel) ⟨pWy_blind, pWy_pre hPc hKc hDc (fun U hU hW => xE_warm hW (fun q hq => by rw [hU]; exact hS.2.1 q hq (fun h => absurd (hA2 q h) (Nat.not_le.mpr hq))) hXE)⟩ rfl rfl hl.1 rfl (lv_room (Nat.le_of_ble_eq_true rfl)) dL_law_1329 ⟨Nat.le_of_ble_eq_true rfl, Nat.le_of_ble_eq_true rfl⟩) hS (fun q _ h => hFc q h) hFc (fun r1009 u t H1 locs ht hvm hr1010 hB hz1 hk1 hS => ?_)
  obtain ⟨hP1, hK1, hD1⟩ := hB
  rw [ht] at hP1
  have hK1 := va_K.moved hvm.symm hK1
  obtain ⟨hP, hD⟩ := va_join (wr := [(rt4, .inl (cR14, 16, .inl (fun _ => 0))), (pg9, .inr (3, [.int 400, .int 0, .int 0, .int 0, .int 0, .int 0])), (bs6, .inl (cB15, 10, .inr (.inr (.inr (.inr (fun _ => none)))))), (df7, .inr (1, [.ref dv10, .ref do911, .int 0])), (dv10, .inl (cF16, 24, .inl fv17)), (ch8, .inr (2, [.ref cp12, .ref cn13, .int 0])), (q19, .inr (4, [.int 0, .int 0, .ref nw22, .ref kp23, .int 0, .int (-1), .ref mk24, .ref co25, .int 0, .int 0, .ref se26])), (nw22, .inl (cN27, 25240, .inl now0)), (kp23, .inl (cK28, 25240, .inl fk29))]) (w1 := []) hP hD [0, 10] [1, 2, 3, 4, 5, 6, 7, 8, 9] rfl rfl (by decide) (by decide) hk1 hFc hP1 hD1
  generalize H1 = H at hP hS ⊢
  have hP : va_P (dC, dI) kCl [(rt4, .inl (cR14, 16, .inl (fun _ => 0))), (pg9, .inr (3, [.int 400, .int 0, .int 0, .int 0, .int 0, .int 0])), (bs6, .inl (cB15, 10, .inr (.inr (.inr (.inr (fun _ => none)))))), (df7, .inr (1, [.ref dv10, .ref do911, .int 0])), (dv10, .inl (cF16, 24, .inl fv17)), (ch8, .inr (2, [.ref cp12, .ref cn13, .int 0])), (q19, .inr (4, [.int 0, .int 0, .ref nw22, .ref kp23, .int 0, .int (-1), .ref mk24, .ref co25, .int 0, .int 0, .ref se26])), (nw22, .inl (cN27, 25240, .inl now0)), (kp23, .inl (cK28, 25240, .inl fk29))] H := hP
  have hD : va_D A [(rt4, .inl (cR14, 16, .inl (fun _ => 0))), (pg9, .inr (3, [.int 400, .int 0, .int 0, .int 0, .int 0, .int 0])), (bs6, .inl (cB15, 10, .inr (.inr (.inr (.inr (fun _ => none)))))), (df7, .inr (1, [.ref dv10, .ref do911, .int 0])), (dv10, .inl (cF16, 24, .inl fv17)), (ch8, .inr (2, [.ref cp12, .ref cn13, .int 0])), (q19, .inr (4, [.int 0, .int 0, .ref nw22, .ref kp23, .int 0, .int (-1), .ref mk24, .ref co25, .int 0, .int 0, .ref se26])), (nw22, .inl (cN27, 25240, .inl now0)), (kp23, .inl (cK28, 25240, .inl fk29))] := hD
  refine W.widen (k := 19) (n := 52937) (Nat.le_of_ble_eq_true rfl) (Nat.le_of_ble_eq_true rfl) ?_
  obtain rfl : r1009 = 1 := hr1010
  refine lv_istore (pc := 1332) hx hb dL_law_1332 hl (by decide) rfl (fun ls hl => ?_)
  have hl : lv_has ls 7 [(5, .int 1), (4, .int 0), (3, .ref q31), (2, .ref q19), (1, .ref q1), (0, .ref b)] := hl
  refine lv_aload_n (pc := 1334) hx hb dL_law_1334 rfl (lv_at hl 3 rfl) ?_
  refine lv_aload_n (pc := 1335) hx hb dL_law_1335 rfl (lv_at hl 5 rfl) ?_
  refine lv_iload (pc := 1336) hx hb dL_law_1336 (lv_at hl 1 rfl) ?_
  refine lv_iconst (pc := 1338) (v := 1) hx hb dL_law_1338 (by decide) ?_
  refine lv_iadd (pc := 1339) hx hb dL_law_1339 ?_
  refine lv_topi (fun z1012 hz1013 => ?_)
  obtain rfl : z1012 = 1 := hz1013.trans (by decide)
  refine va_sld (A := A) (pc := 1340) hx hb hX hbl hbA hS (vp_in_lit 1 6 (by decide)) dL_law_1340 ?_
  refine W.eq (g2 := F0 m 1341 ls [.int (xs 1), .ref q19]) rfl ?_
  refine lv_aload_n (pc := 1341) hx hb dL_law_1341 rfl (lv_at hl 5 rfl) ?_
  refine lv_iload (pc := 1342) hx hb dL_law_1342 (lv_at hl 1 rfl) ?_
  refine lv_iconst (pc := 1344) (v := 2) hx hb dL_law_1344 (by decide) ?_
  refine lv_iadd (pc := 1345) hx hb dL_law_1345 ?_
  refine lv_topi (fun z1014 hz1015 => ?_)
  obtain rfl : z1014 = 2 := hz1015.trans (by decide)
  refine va_sld (A := A) (pc := 1346) hx hb hX hbl hbA hS (vp_in_lit 2 6 (by decide)) dL_law_1346 ?_
  refine W.eq (g2 := F0 m 1347 ls [.int (xs 2), .int (xs 1), .ref q19]) rfl ?_
  refine lv_aload_n (pc := 1347) hx hb dL_law_1347 rfl (lv_at hl 5 rfl) ?_
  refine lv_iload (pc := 1348) hx hb dL_law_1348 (lv_at hl 1 rfl) ?_
  refine lv_iconst (pc := 1350) (v := 3) hx hb dL_law_1350 (by decide) ?_
  refine lv_iadd (pc := 1351) hx hb dL_law_1351 ?_
  refine lv_topi (fun z1016 hz1017 => ?_)
  obtain rfl : z1016 = 3 := hz1017.trans (by decide)
  refine va_sld (A := A) (pc := 1352) hx hb hX hbl hbA hS (vp_in_lit 3 6 (by decide)) dL_law_1352 ?_
  refine W.eq (g2 := F0 m 1353 ls [.int (xs 3), .int (xs 2), .int (xs 1), .ref q19]) rfl ?_
  refine lv_aload_n (pc := 1353) hx hb dL_law_1353 rfl (lv_at hl 5 rfl) ?_
  refine lv_iload (pc := 1354) hx hb dL_law_1354 (lv_at hl 1 rfl) ?_
  refine lv_iconst (pc := 1356) (v := 4) hx hb dL_law_1356 (by decide) ?_
  refine lv_iadd (pc := 1357) hx hb dL_law_1357 ?_
  refine lv_topi (fun z1018 hz1019 => ?_)
  obtain rfl : z1018 = 4 := hz1019.trans (by decide)
  refine va_sld (A := A) (pc := 1358) hx hb hX hbl hbA hS (vp_in_lit 4 6 (by decide)) dL_law_1358 ?_
  refine W.eq (g2 := F0 m 1359 ls [.int (xs 4), .int (xs 3), .int (xs 2), .int (xs 1), .ref q19]) rfl ?_
  have hPc := hP.sub (ws' := [(q19, .inr (4, [.int 0, .int 0, .ref nw22, .ref kp23, .int 0, .int (-1), .ref mk24, .ref co25, .int 0, .int 0, .ref se26])), (nw22, .inl (cN27, 25240, .inl now0))]) [6, 7] rfl
  have hDc := hD.sub (ws' := [(q19, .inr (4, [.int 0, .int 0, .ref nw22, .ref kp23, .int 0, .int (-1), .ref mk24, .ref co25, .int 0, .int 0, .ref se26])), (nw22, .inl (cN27, 25240, .inl now0))]) [6, 7] (by decide) rfl
  have hKc := hK.sub (tys' := [(cN27, .int)]) [3] rfl
  have hFc := va_free (wc := [(q19, .inr (4, [.int 0, .int 0, .ref nw22, .ref kp23, .int 0, .int (-1), .ref mk24, .ref co25, .int 0, .int 0, .ref se26])), (nw22, .inl (cN27, 25240, .inl now0))]) hD hS hA [6, 7] rfl
  refine va_calli (pc := 1359) (va_runV (As := [.int (xs 1), .int (xs 2), .int (xs 3), .int (xs 4)]) (rest := []) ⟨hx, hb, hml, hown, hts⟩ (m_reference l dC dI H.size q19 nw22 kp23 mk24 co25 se26 0 0 cN27 (xs 1) (xs 2) (xs 3) (xs 4)) (cwV 4 hts (gV wd_517 wd_518 wd_519 wd_157 wd_516) rfl rfl rfl (by decide +kernel) ⟨Nat.le_of_ble_eq_true rfl, Nat.le_of_ble_eq_true rfl⟩) ⟨pW_blind, va_recv (q := (RM, TM, 11)) (q0 := 6) (ci := 4) hK hP rfl rfl, pW_pre hPc hKc hDc⟩ rfl rfl hl.1 rfl (lv_room (Nat.le_of_ble_eq_true rfl)) dL_law_1359 ⟨Nat.le_of_ble_eq_true rfl, Nat.le_of_ble_eq_true rfl⟩) hS (fun q _ h => hFc q h) hFc (fun r1020 u t H1 locs ht hvm hr1021 hB hz1 hk1 hS => ?_)
  obtain ⟨hP1, hK1, hD1⟩ := hB
  rw [ht] at hP1
  have hK1 := va_K.moved hvm.symm hK1
  obtain ⟨hP, hD⟩ := va_join (wr := [(rt4, .inl (cR14, 16, .inl (fun _ => 0))), (pg9, .inr (3, [.int 400, .int 0, .int 0, .int 0, .int 0, .int 0])), (bs6, .inl (cB15, 10, .inr (.inr (.inr (.inr (fun _ => none)))))), (df7, .inr (1, [.ref dv10, .ref do911, .int 0])), (dv10, .inl (cF16, 24, .inl fv17)), (ch8, .inr (2, [.ref cp12, .ref cn13, .int 0])), (kp23, .inl (cK28, 25240, .inl fk29))]) (w1 := [(q19, .inr (4, [.int 1, .int 0, .ref nw22, .ref kp23, .int 0, .int (-1), .ref mk24, .ref co25, .int 0, .int 0, .ref se26]))]) hP hD [6, 7] [0, 1, 2, 3, 4, 5, 8] rfl rfl (by decide) (by decide) hk1 hFc hP1 hD1
  generalize H1 = H at hP hS ⊢
  have hP : va_P (dC, dI) kCl [(rt4, .inl (cR14, 16, .inl (fun _ => 0))), (pg9, .inr (3, [.int 400, .int 0, .int 0, .int 0, .int 0, .int 0])), (bs6, .inl (cB15, 10, .inr (.inr (.inr (.inr (fun _ => none)))))), (df7, .inr (1, [.ref dv10, .ref do911, .int 0])), (dv10, .inl (cF16, 24, .inl fv17)), (ch8, .inr (2, [.ref cp12, .ref cn13, .int 0])), (kp23, .inl (cK28, 25240, .inl fk29)), (q19, .inr (4, [.int 1, .int 0, .ref nw22, .ref kp23, .int 0, .int (-1), .ref mk24, .ref co25, .int 0, .int 0, .ref se26]))] H := hP
  have hD : va_D A [(rt4, .inl (cR14, 16, .inl (fun _ => 0))), (pg9, .inr (3, [.int 400, .int 0, .int 0, .int 0, .int 0, .int 0])), (bs6, .inl (cB15, 10, .inr (.inr (.inr (.inr (fun _ => none)))))), (df7, .inr (1, [.ref dv10, .ref do911, .int 0])), (dv10, .inl (cF16, 24, .inl fv17)), (ch8, .inr (2, [.ref cp12, .ref cn13, .int 0])), (kp23, .inl (cK28, 25240, .inl fk29)), (q19, .inr (4, [.int 1, .int 0, .ref nw22, .ref kp23, .int 0, .int (-1), .ref mk24, .ref co25, .int 0, .int 0, .ref se26]))] := hD
  refine W.widen (k := 19) (n := 52937) (Nat.le_of_ble_eq_true rfl) (Nat.le_of_ble_eq_true rfl) ?_
  obtain rfl : r1020 = 0 := hr1021
  refine lv_istore (pc := 1362) hx hb dL_law_1362 hl (by decide) rfl (fun ls hl => ?_)
  have hl : lv_has ls 7 [(6, .int 0), (5, .int 1), (4, .int 0), (3, .ref q31), (2, .ref q19), (1, .ref q1), (0, .ref b)] := hl
  refine lv_aload_n (pc := 1364) hx hb dL_law_1364 rfl (lv_at hl 4 rfl) ?_
  refine vp_callSi (pc := 1365) (W.runV (As := []) (rest := []) ⟨hx, hb, hml, hown, hts⟩ (m_thrown l dC dI q19 nw22 kp23 mk24 co25 se26 1 0) (cwV 0 hts (gV wd_411 wd_412 wd_413 wd_157 wd_410) rfl rfl rfl (by decide +kernel) ⟨Nat.le_of_ble_eq_true rfl, Nat.le_of_ble_eq_true rfl⟩) ⟨pR_blind, va_recv (q := (RM, TM, 11)) (q0 := 7) (ci := 4) hK hP rfl rfl, pR_pre (hP.sub (ws' := [(q19, .inr (4, [.int 1, .int 0, .ref nw22, .ref kp23, .int 0, .int (-1), .ref mk24, .ref co25, .int 0, .int 0, .ref se26]))]) [7] rfl) (hK.sub (tys' := []) [] rfl)⟩ rfl rfl hl.1 rfl (lv_room (Nat.le_of_ble_eq_true rfl)) dL_law_1365 ⟨Nat.le_of_ble_eq_true rfl, Nat.le_of_ble_eq_true rfl⟩) (fun r1023 hr1024 => ?_)
  obtain rfl : r1023 = 1 := hr1024
  refine lv_iload (pc := 1368) hx hb dL_law_1368 (lv_at hl 1 rfl) ?_
  refine lv_icmp_eq (pc := 1370) (tgt := 1375) hx hb dL_law_1370 rfl (fun h1025 => ?_) (fun h1025 => absurd h1025 (by decide))
  refine lv_iload (pc := 1375) hx hb dL_law_1375 (lv_at hl 1 rfl) ?_
  refine lv_if_ne (pc := 1377) (tgt := 1392) hx hb dL_law_1377 rfl (fun h1026 => ?_) (fun h1026 => absurd h1026 (by decide))
  refine lv_goto (pc := 1392) (tgt := 1763) hx hb dL_law_1392 rfl ?_
  exact law_tail hx hb hr hlocks hX hbl hbA hA2 hS (lv_sub hl (l' := [(4, .int 0), (0, .ref b)]) [2, 6] rfl) (Nat.le_of_ble_eq_true rfl) (Nat.le_of_ble_eq_true rfl)
