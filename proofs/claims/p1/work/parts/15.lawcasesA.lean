set_option maxHeartbeats 4000000 in
set_option maxRecDepth 100000 in
theorem lawcase_0 {p : Program} {l : Launch} {e : Env} {s : State} {m : MethodId} {below : List Frame} {meth : Method} {c : Code} {b : Nat} {xs : Nat → Int32} {A : Nat → Prop} {H : Heap} {locs : List Loc} {ls : Array Slot} {dC : Nat → ClassId} {dI : Nat → Nat → Nat} {q1 : Nat} {rt4 : Nat} {dr5 : Nat} {bs6 : Nat} {df7 : Nat} {ch8 : Nat} {pg9 : Nat} {cR14 : ClassId} {cB15 : ClassId} {dv10 : Nat} {do911 : Nat} {cF16 : ClassId} {fv17 : Nat → Int32} {cp12 : Nat} {cn13 : Nat} {q19 : Nat} {nw22 : Nat} {kp23 : Nat} {mk24 : Nat} {co25 : Nat} {se26 : Nat} {cN27 : ClassId} {cK28 : ClassId} {fk29 : Nat → Int32} {q31 : Nat} {cA32 : ClassId} (h : lawS p l s m meth c b xs dC dI A q1 rt4 dr5 bs6 df7 ch8 pg9 cR14 cB15 dv10 do911 cF16 fv17 cp12 cn13 q19 nw22 kp23 mk24 co25 se26 cN27 cK28 fk29 q31 cA32 H locs ls) : W p l e room_1 s m #[Value.ref b] below meth c H locs 18 52931 (lw_Z below #[Value.ref b] s) (F0 m 148 ls []) := by
  obtain ⟨hx, hb, hr, hml, hown, hts, hX, hbl, hbA, hlocks, hA, hA2, hP, hD, hK, hS, hl, hXE, hfl, hfk⟩ := h
  refine lv_aload_n (pc := 148) hx hb dL_law_148 rfl (lv_at hl 3 rfl) ?_
  refine lv_aload_n (pc := 149) hx hb dL_law_149 rfl (lv_at hl 4 rfl) ?_
  refine lv_iload (pc := 150) hx hb dL_law_150 (lv_at hl 0 rfl) ?_
  refine lv_iconst (pc := 152) (v := 1) hx hb dL_law_152 (by decide) ?_
  refine lv_iadd (pc := 153) hx hb dL_law_153 ?_
  refine lv_topi (fun z1001 hz1002 => ?_)
  obtain rfl : z1001 = 1 := hz1002.trans (by decide)
  refine va_sld (A := A) (pc := 154) hx hb hX hbl hbA hS (vp_in_lit 1 6 (by decide)) dL_law_154 ?_
  refine W.eq (g2 := F0 m 155 ls [.int (xs 1), .ref q1]) rfl ?_
  refine lv_aload_n (pc := 155) hx hb dL_law_155 rfl (lv_at hl 4 rfl) ?_
  refine lv_iload (pc := 156) hx hb dL_law_156 (lv_at hl 0 rfl) ?_
  refine lv_iconst (pc := 158) (v := 2) hx hb dL_law_158 (by decide) ?_
  refine lv_iadd (pc := 159) hx hb dL_law_159 ?_
  refine lv_topi (fun z1003 hz1004 => ?_)
  obtain rfl : z1003 = 2 := hz1004.trans (by decide)
  refine va_sld (A := A) (pc := 160) hx hb hX hbl hbA hS (vp_in_lit 2 6 (by decide)) dL_law_160 ?_
  refine W.eq (g2 := F0 m 161 ls [.int (xs 2), .int (xs 1), .ref q1]) rfl ?_
  refine lv_aload_n (pc := 161) hx hb dL_law_161 rfl (lv_at hl 1 rfl) ?_
  have hPc := hP.sub (ws' := [(q1, .inr (0, [.ref rt4, .ref dr5, .int 0, .int 0, .ref bs6, .ref df7, .ref ch8, .ref pg9, .int 0])), (rt4, .inl (cR14, 16, .inl (fun _ => 0))), (pg9, .inr (3, [.int 400, .int 0, .int 0, .int 0, .int 0, .int 0])), (q31, .inl (cA32, 1, .inr (.inl (fun _ => 0))))]) [0, 1, 2, 10] rfl
  have hDc := hD.sub (ws' := [(q1, .inr (0, [.ref rt4, .ref dr5, .int 0, .int 0, .ref bs6, .ref df7, .ref ch8, .ref pg9, .int 0])), (rt4, .inl (cR14, 16, .inl (fun _ => 0))), (pg9, .inr (3, [.int 400, .int 0, .int 0, .int 0, .int 0, .int 0])), (q31, .inl (cA32, 1, .inr (.inl (fun _ => 0))))]) [0, 1, 2, 10] (by decide) rfl
  have hKc := hK.sub (tys' := [(cR14, .int), (cA32, .long)]) [0, 5] rfl
  have hFc := va_free (wc := [(q1, .inr (0, [.ref rt4, .ref dr5, .int 0, .int 0, .ref bs6, .ref df7, .ref ch8, .ref pg9, .int 0])), (rt4, .inl (cR14, 16, .inl (fun _ => 0))), (pg9, .inr (3, [.int 400, .int 0, .int 0, .int 0, .int 0, .int 0])), (q31, .inl (cA32, 1, .inr (.inl (fun _ => 0))))]) hD hS hA [0, 1, 2, 10] rfl
  refine va_calli (pc := 162) (hxR (As := [.ref q1, .int (xs 1), .int (xs 2), .ref q31]) (rest := []) ⟨hx, hb, hml, hown, hts⟩ (l_person l dC dI H.size q1 rt4 dr5 bs6 df7 ch8 pg9 0 cR14 q31 cA32 (fun _ => 0) (xs 1) (xs 2)) 4 wd_403 wd_404 wd_405 wd_402 rfl rfl ⟨Nat.le_of_ble_eq_true rfl, Nat.le_of_ble_eq_true rfl⟩ (by decide +kernel) ⟨pW_blind, pW_pre hPc hKc hDc⟩ rfl rfl hl.1 rfl (lv_room (Nat.le_of_ble_eq_true rfl)) dL_law_162 ⟨Nat.le_of_ble_eq_true rfl, Nat.le_of_ble_eq_true rfl⟩) hS (fun q _ h => hFc q h) hFc (fun r1005 u1007 t H1 locs ht hvm hr1006 hB hz1 hk1 hS => ?_)
  obtain ⟨hP1, hK1, hD1⟩ := hB
  rw [ht] at hP1
  have hK1 := va_K.moved hvm.symm hK1
  obtain ⟨hP, hD⟩ := va_join (wr := [(bs6, .inl (cB15, 10, .inr (.inr (.inr (.inr (fun _ => none)))))), (df7, .inr (1, [.ref dv10, .ref do911, .int 0])), (dv10, .inl (cF16, 24, .inl fv17)), (ch8, .inr (2, [.ref cp12, .ref cn13, .int 0])), (q19, .inr (4, [.int 0, .int 0, .ref nw22, .ref kp23, .int 0, .int (-1), .ref mk24, .ref co25, .int 0, .int 0, .ref se26])), (nw22, .inl (cN27, 25240, .inl now0)), (kp23, .inl (cK28, 25240, .inl fk29))]) (w1 := [(q31, .inl (cA32, 1, .inr (.inl (vp_updL (fun _ => 0) (0 : Int32).toNatClampNeg u1007))))]) hP hD [0, 1, 2, 10] [3, 4, 5, 6, 7, 8, 9] rfl rfl (by decide) (by decide) hk1 hFc hP1 hD1
  generalize H1 = H at hP hS ⊢
  have hP : va_P (dC, dI) kCl [(bs6, .inl (cB15, 10, .inr (.inr (.inr (.inr (fun _ => none)))))), (df7, .inr (1, [.ref dv10, .ref do911, .int 0])), (dv10, .inl (cF16, 24, .inl fv17)), (ch8, .inr (2, [.ref cp12, .ref cn13, .int 0])), (q19, .inr (4, [.int 0, .int 0, .ref nw22, .ref kp23, .int 0, .int (-1), .ref mk24, .ref co25, .int 0, .int 0, .ref se26])), (nw22, .inl (cN27, 25240, .inl now0)), (kp23, .inl (cK28, 25240, .inl fk29)), (q31, .inl (cA32, 1, .inr (.inl (vp_updL (fun _ => 0) (0 : Int32).toNatClampNeg u1007))))] H := hP
  have hD : va_D A [(bs6, .inl (cB15, 10, .inr (.inr (.inr (.inr (fun _ => none)))))), (df7, .inr (1, [.ref dv10, .ref do911, .int 0])), (dv10, .inl (cF16, 24, .inl fv17)), (ch8, .inr (2, [.ref cp12, .ref cn13, .int 0])), (q19, .inr (4, [.int 0, .int 0, .ref nw22, .ref kp23, .int 0, .int (-1), .ref mk24, .ref co25, .int 0, .int 0, .ref se26])), (nw22, .inl (cN27, 25240, .inl now0)), (kp23, .inl (cK28, 25240, .inl fk29)), (q31, .inl (cA32, 1, .inr (.inl (vp_updL (fun _ => 0) (0 : Int32).toNatClampNeg u1007))))] := hD
  refine W.widen (k := 18) (n := 52931) (Nat.le_of_ble_eq_true rfl) (Nat.le_of_ble_eq_true rfl) ?_
  obtain ⟨rfl, rfl, h1009⟩ | ⟨rfl, rfl, h1009⟩ : (r1005 = 0 ∧ u1007 = 1 ∧ (¬ (xs 1) < 0 ∧ ¬ (16 : Int32) ≤ (xs 1) ∧ ¬ (xs 2) < 0 ∧ ¬ (7 : Int32) < (xs 2))) ∨ (r1005 = 0 ∧ u1007 = 0 ∧ ((xs 1) < 0 ∨ (16 : Int32) ≤ (xs 1) ∨ (xs 2) < 0 ∨ (7 : Int32) < (xs 2))) := hr1006
  · refine lv_istore (pc := 165) hx hb dL_law_165 hl (by decide) rfl (fun ls hl => ?_)
    have hl : lv_has ls 7 [(5, .int 0), (4, .int 0), (3, .ref q31), (2, .ref q19), (1, .ref q1), (0, .ref b)] := hl
    refine lv_aload_n (pc := 167) hx hb dL_law_167 rfl (lv_at hl 3 rfl) ?_
    refine lv_aload_n (pc := 168) hx hb dL_law_168 rfl (lv_at hl 5 rfl) ?_
    refine lv_iload (pc := 169) hx hb dL_law_169 (lv_at hl 1 rfl) ?_
    refine lv_iconst (pc := 171) (v := 1) hx hb dL_law_171 (by decide) ?_
    refine lv_iadd (pc := 172) hx hb dL_law_172 ?_
    refine lv_topi (fun z1010 hz1011 => ?_)
    obtain rfl : z1010 = 1 := hz1011.trans (by decide)
    refine va_sld (A := A) (pc := 173) hx hb hX hbl hbA hS (vp_in_lit 1 6 (by decide)) dL_law_173 ?_
    refine W.eq (g2 := F0 m 174 ls [.int (xs 1), .ref q19]) rfl ?_
    refine lv_aload_n (pc := 174) hx hb dL_law_174 rfl (lv_at hl 5 rfl) ?_
    refine lv_iload (pc := 175) hx hb dL_law_175 (lv_at hl 1 rfl) ?_
    refine lv_iconst (pc := 177) (v := 2) hx hb dL_law_177 (by decide) ?_
    refine lv_iadd (pc := 178) hx hb dL_law_178 ?_
    refine lv_topi (fun z1012 hz1013 => ?_)
    obtain rfl : z1012 = 2 := hz1013.trans (by decide)
    refine va_sld (A := A) (pc := 179) hx hb hX hbl hbA hS (vp_in_lit 2 6 (by decide)) dL_law_179 ?_
    refine W.eq (g2 := F0 m 180 ls [.int (xs 2), .int (xs 1), .ref q19]) rfl ?_
    have hPc := hP.sub (ws' := [(q19, .inr (4, [.int 0, .int 0, .ref nw22, .ref kp23, .int 0, .int (-1), .ref mk24, .ref co25, .int 0, .int 0, .ref se26])), (nw22, .inl (cN27, 25240, .inl now0)), (kp23, .inl (cK28, 25240, .inl fk29))]) [4, 5, 6] rfl
    have hDc := hD.sub (ws' := [(q19, .inr (4, [.int 0, .int 0, .ref nw22, .ref kp23, .int 0, .int (-1), .ref mk24, .ref co25, .int 0, .int 0, .ref se26])), (nw22, .inl (cN27, 25240, .inl now0)), (kp23, .inl (cK28, 25240, .inl fk29))]) [4, 5, 6] (by decide) rfl
    have hKc := hK.sub (tys' := [(cN27, .int), (cK28, .int)]) [3, 4] rfl
    have hFc := va_free (wc := [(q19, .inr (4, [.int 0, .int 0, .ref nw22, .ref kp23, .int 0, .int (-1), .ref mk24, .ref co25, .int 0, .int 0, .ref se26])), (nw22, .inl (cN27, 25240, .inl now0)), (kp23, .inl (cK28, 25240, .inl fk29))]) hD hS hA [4, 5, 6] rfl
    refine va_calli (pc := 180) (va_runV (As := [.int (xs 1), .int (xs 2)]) (rest := []) ⟨hx, hb, hml, hown, hts⟩ (m_person l dC dI H.size q19 nw22 kp23 mk24 co25 se26 0 0 cN27 cK28 fk29 (xs 1) (xs 2)) (cwV 2 hts (gV wd_407 wd_408 wd_409 wd_157 wd_406) rfl rfl rfl (by decide +kernel) ⟨Nat.le_of_ble_eq_true rfl, Nat.le_of_ble_eq_true rfl⟩) ⟨pW_blind, va_recv (q := (RM, TM, 11)) (q0 := 4) (ci := 4) hK hP rfl rfl, pW_pre hPc hKc hDc⟩ rfl rfl hl.1 rfl (lv_room (Nat.le_of_ble_eq_true rfl)) dL_law_180 ⟨Nat.le_of_ble_eq_true rfl, Nat.le_of_ble_eq_true rfl⟩) hS (fun q _ h => hFc q h) hFc (fun r1014 u1016 t H1 locs ht hvm hr1015 hB hz1 hk1 hS => ?_)
    obtain ⟨hP1, hK1, hD1⟩ := hB
    rw [ht] at hP1
    have hK1 := va_K.moved hvm.symm hK1
    obtain ⟨hP, hD⟩ := va_join (wr := [(bs6, .inl (cB15, 10, .inr (.inr (.inr (.inr (fun _ => none)))))), (df7, .inr (1, [.ref dv10, .ref do911, .int 0])), (dv10, .inl (cF16, 24, .inl fv17)), (ch8, .inr (2, [.ref cp12, .ref cn13, .int 0])), (q31, .inl (cA32, 1, .inr (.inl (vp_updL (fun _ => 0) (0 : Int32).toNatClampNeg 1))))]) (w1 := [(q19, .inr (4, [.int 0, .int u1016, .ref nw22, .ref kp23, .int 0, .int (-1), .ref mk24, .ref co25, .int 0, .int 0, .ref se26]))]) hP hD [4, 5, 6] [0, 1, 2, 3, 7] rfl rfl (by decide) (by decide) hk1 hFc hP1 hD1
    generalize H1 = H at hP hS ⊢
    have hP : va_P (dC, dI) kCl [(bs6, .inl (cB15, 10, .inr (.inr (.inr (.inr (fun _ => none)))))), (df7, .inr (1, [.ref dv10, .ref do911, .int 0])), (dv10, .inl (cF16, 24, .inl fv17)), (ch8, .inr (2, [.ref cp12, .ref cn13, .int 0])), (q31, .inl (cA32, 1, .inr (.inl (vp_updL (fun _ => 0) (0 : Int32).toNatClampNeg 1)))), (q19, .inr (4, [.int 0, .int u1016, .ref nw22, .ref kp23, .int 0, .int (-1), .ref mk24, .ref co25, .int 0, .int 0, .ref se26]))] H := hP
    have hD : va_D A [(bs6, .inl (cB15, 10, .inr (.inr (.inr (.inr (fun _ => none)))))), (df7, .inr (1, [.ref dv10, .ref do911, .int 0])), (dv10, .inl (cF16, 24, .inl fv17)), (ch8, .inr (2, [.ref cp12, .ref cn13, .int 0])), (q31, .inl (cA32, 1, .inr (.inl (vp_updL (fun _ => 0) (0 : Int32).toNatClampNeg 1)))), (q19, .inr (4, [.int 0, .int u1016, .ref nw22, .ref kp23, .int 0, .int (-1), .ref mk24, .ref co25, .int 0, .int 0, .ref se26]))] := hD
    refine W.widen (k := 18) (n := 52931) (Nat.le_of_ble_eq_true rfl) (Nat.le_of_ble_eq_true rfl) ?_
    obtain ⟨rfl, rfl, h1018⟩ | ⟨rfl, rfl, h1018⟩ : (r1014 = 1 ∧ u1016 = 0 ∧ (¬ (xs 1) < 0 ∧ ¬ (16 : Int32) ≤ (xs 1) ∧ ¬ (xs 2) < 0 ∧ ¬ (8 : Int32) ≤ (xs 2))) ∨ (r1014 = 0 ∧ u1016 = 7 ∧ ((xs 1) < 0 ∨ (16 : Int32) ≤ (xs 1) ∨ (xs 2) < 0 ∨ (8 : Int32) ≤ (xs 2))) := hr1015
    · refine lv_istore (pc := 183) hx hb dL_law_183 hl (by decide) rfl (fun ls hl => ?_)
      have hl : lv_has ls 7 [(6, .int 1), (5, .int 0), (4, .int 0), (3, .ref q31), (2, .ref q19), (1, .ref q1), (0, .ref b)] := hl
      refine lv_aload_n (pc := 185) hx hb dL_law_185 rfl (lv_at hl 4 rfl) ?_
      refine vp_callSi (pc := 186) (W.runV (As := []) (rest := []) ⟨hx, hb, hml, hown, hts⟩ (m_thrown l dC dI q19 nw22 kp23 mk24 co25 se26 0 0) (cwV 0 hts (gV wd_411 wd_412 wd_413 wd_157 wd_410) rfl rfl rfl (by decide +kernel) ⟨Nat.le_of_ble_eq_true rfl, Nat.le_of_ble_eq_true rfl⟩) ⟨pR_blind, va_recv (q := (RM, TM, 11)) (q0 := 5) (ci := 4) hK hP rfl rfl, pR_pre (hP.sub (ws' := [(q19, .inr (4, [.int 0, .int 0, .ref nw22, .ref kp23, .int 0, .int (-1), .ref mk24, .ref co25, .int 0, .int 0, .ref se26]))]) [5] rfl) (hK.sub (tys' := []) [] rfl)⟩ rfl rfl hl.1 rfl (lv_room (Nat.le_of_ble_eq_true rfl)) dL_law_186 ⟨Nat.le_of_ble_eq_true rfl, Nat.le_of_ble_eq_true rfl⟩) (fun r1019 hr1020 => ?_)
      obtain rfl : r1019 = 0 := hr1020
      refine lv_iload (pc := 189) hx hb dL_law_189 (lv_at hl 1 rfl) ?_
      refine lv_icmp_eq (pc := 191) (tgt := 196) hx hb dL_law_191 rfl (fun h1021 => ?_) (fun h1021 => absurd h1021 (by decide))
      refine lv_iload (pc := 196) hx hb dL_law_196 (lv_at hl 1 rfl) ?_
      refine lv_if_ne (pc := 198) (tgt := 220) hx hb dL_law_198 rfl (fun h1022 => absurd h1022 (by decide)) (fun h1022 => ?_)
      refine lv_aload_n (pc := 201) hx hb dL_law_201 rfl (lv_at hl 3 rfl) ?_
      refine lv_iconst (pc := 202) (v := 0) hx hb dL_law_202 (by decide) ?_
      refine va_lald (D := (dC, dI)) (cl := kCl) (pc := 203) hx hb hK hP 4 5 rfl rfl (vp_in_lit 0 1 (by decide)) dL_law_203 ?_
      refine W.eq (g2 := F0 m 204 ls [.long 1]) rfl ?_
      refine lv_iload (pc := 204) hx hb dL_law_204 (lv_at hl 0 rfl) ?_
      refine lv_if_eq (pc := 206) (tgt := 213) hx hb dL_law_206 rfl (fun h1023 => absurd h1023 (by decide)) (fun h1023 => ?_)
      refine lv_lconst (pc := 209) (v := 1) hx hb dL_law_209 (by decide) ?_
      refine lv_goto (pc := 210) (tgt := 214) hx hb dL_law_210 rfl ?_
      refine W.lcmp (pc := 214) hx hb dL_law_214 ?_
      refine lv_topi (fun z1024 hz1025 => ?_)
      obtain rfl : z1024 = 0 := hz1025.trans (by decide)
      refine lv_if_eq (pc := 215) (tgt := 220) hx hb dL_law_215 rfl (fun h1026 => ?_) (fun h1026 => absurd h1026 (by decide))
      refine lv_goto (pc := 220) (tgt := 1763) hx hb dL_law_220 rfl ?_
      exact law_tail hx hb hr hlocks hX hbl hbA hA2 hS (lv_sub hl (l' := [(4, .int 0), (0, .ref b)]) [2, 6] rfl) (Nat.le_of_ble_eq_true rfl) (Nat.le_of_ble_eq_true rfl)
    · refine lv_istore (pc := 183) hx hb dL_law_183 hl (by decide) rfl (fun ls hl => ?_)
      have hl : lv_has ls 7 [(6, .int 0), (5, .int 0), (4, .int 0), (3, .ref q31), (2, .ref q19), (1, .ref q1), (0, .ref b)] := hl
      refine lv_aload_n (pc := 185) hx hb dL_law_185 rfl (lv_at hl 4 rfl) ?_
      refine vp_callSi (pc := 186) (W.runV (As := []) (rest := []) ⟨hx, hb, hml, hown, hts⟩ (m_thrown l dC dI q19 nw22 kp23 mk24 co25 se26 0 7) (cwV 0 hts (gV wd_411 wd_412 wd_413 wd_157 wd_410) rfl rfl rfl (by decide +kernel) ⟨Nat.le_of_ble_eq_true rfl, Nat.le_of_ble_eq_true rfl⟩) ⟨pR_blind, va_recv (q := (RM, TM, 11)) (q0 := 5) (ci := 4) hK hP rfl rfl, pR_pre (hP.sub (ws' := [(q19, .inr (4, [.int 0, .int 7, .ref nw22, .ref kp23, .int 0, .int (-1), .ref mk24, .ref co25, .int 0, .int 0, .ref se26]))]) [5] rfl) (hK.sub (tys' := []) [] rfl)⟩ rfl rfl hl.1 rfl (lv_room (Nat.le_of_ble_eq_true rfl)) dL_law_186 ⟨Nat.le_of_ble_eq_true rfl, Nat.le_of_ble_eq_true rfl⟩) (fun r1027 hr1028 => ?_)
      obtain rfl : r1027 = 0 := hr1028
      refine lv_iload (pc := 189) hx hb dL_law_189 (lv_at hl 1 rfl) ?_
      refine lv_icmp_eq (pc := 191) (tgt := 196) hx hb dL_law_191 rfl (fun h1029 => ?_) (fun h1029 => absurd h1029 (by decide))
      refine lv_iload (pc := 196) hx hb dL_law_196 (lv_at hl 1 rfl) ?_
      refine lv_if_ne (pc := 198) (tgt := 220) hx hb dL_law_198 rfl (fun h1030 => absurd h1030 (by decide)) (fun h1030 => ?_)
      refine lv_aload_n (pc := 201) hx hb dL_law_201 rfl (lv_at hl 3 rfl) ?_
      refine lv_iconst (pc := 202) (v := 0) hx hb dL_law_202 (by decide) ?_
      refine va_lald (D := (dC, dI)) (cl := kCl) (pc := 203) hx hb hK hP 4 5 rfl rfl (vp_in_lit 0 1 (by decide)) dL_law_203 ?_
      refine W.eq (g2 := F0 m 204 ls [.long 1]) rfl ?_
      refine lv_iload (pc := 204) hx hb dL_law_204 (lv_at hl 0 rfl) ?_
      refine lv_if_eq (pc := 206) (tgt := 213) hx hb dL_law_206 rfl (fun h1031 => ?_) (fun h1031 => absurd h1031 (by decide))
      refine lv_lconst (pc := 213) (v := 0) hx hb dL_law_213 (by decide) ?_
      refine W.lcmp (pc := 214) hx hb dL_law_214 ?_
      refine lv_topi (fun z1032 hz1033 => ?_)
      obtain rfl : z1032 = 1 := hz1033.trans (by decide)
      refine lv_if_eq (pc := 215) (tgt := 220) hx hb dL_law_215 rfl (fun h1034 => absurd h1034 (by decide)) (fun h1034 => ?_)
      refine lv_iconst (pc := 218) (v := 0) hx hb dL_law_218 (by decide) ?_
      exact (per_10 h1009 h1018).elim
  · refine lv_istore (pc := 165) hx hb dL_law_165 hl (by decide) rfl (fun ls hl => ?_)
    have hl : lv_has ls 7 [(5, .int 0), (4, .int 0), (3, .ref q31), (2, .ref q19), (1, .ref q1), (0, .ref b)] := hl
    refine lv_aload_n (pc := 167) hx hb dL_law_167 rfl (lv_at hl 3 rfl) ?_
    refine lv_aload_n (pc := 168) hx hb dL_law_168 rfl (lv_at hl 5 rfl) ?_
    refine lv_iload (pc := 169) hx hb dL_law_169 (lv_at hl 1 rfl) ?_
    refine lv_iconst (pc := 171) (v := 1) hx hb dL_law_171 (by decide) ?_
    refine lv_iadd (pc := 172) hx hb dL_law_172 ?_
    refine lv_topi (fun z1035 hz1036 => ?_)
    obtain rfl : z1035 = 1 := hz1036.trans (by decide)
    refine va_sld (A := A) (pc := 173) hx hb hX hbl hbA hS (vp_in_lit 1 6 (by decide)) dL_law_173 ?_
    refine W.eq (g2 := F0 m 174 ls [.int (xs 1), .ref q19]) rfl ?_
    refine lv_aload_n (pc := 174) hx hb dL_law_174 rfl (lv_at hl 5 rfl) ?_
    refine lv_iload (pc := 175) hx hb dL_law_175 (lv_at hl 1 rfl) ?_
    refine lv_iconst (pc := 177) (v := 2) hx hb dL_law_177 (by decide) ?_
    refine lv_iadd (pc := 178) hx hb dL_law_178 ?_
    refine lv_topi (fun z1037 hz1038 => ?_)
    obtain rfl : z1037 = 2 := hz1038.trans (by decide)
    refine va_sld (A := A) (pc := 179) hx hb hX hbl hbA hS (vp_in_lit 2 6 (by decide)) dL_law_179 ?_
    refine W.eq (g2 := F0 m 180 ls [.int (xs 2), .int (xs 1), .ref q19]) rfl ?_
    have hPc := hP.sub (ws' := [(q19, .inr (4, [.int 0, .int 0, .ref nw22, .ref kp23, .int 0, .int (-1), .ref mk24, .ref co25, .int 0, .int 0, .ref se26])), (nw22, .inl (cN27, 25240, .inl now0)), (kp23, .inl (cK28, 25240, .inl fk29))]) [4, 5, 6] rfl
    have hDc := hD.sub (ws' := [(q19, .inr (4, [.int 0, .int 0, .ref nw22, .ref kp23, .int 0, .int (-1), .ref mk24, .ref co25, .int 0, .int 0, .ref se26])), (nw22, .inl (cN27, 25240, .inl now0)), (kp23, .inl (cK28, 25240, .inl fk29))]) [4, 5, 6] (by decide) rfl
    have hKc := hK.sub (tys' := [(cN27, .int), (cK28, .int)]) [3, 4] rfl
    have hFc := va_free (wc := [(q19, .inr (4, [.int 0, .int 0, .ref nw22, .ref kp23, .int 0, .int (-1), .ref mk24, .ref co25, .int 0, .int 0, .ref se26])), (nw22, .inl (cN27, 25240, .inl now0)), (kp23, .inl (cK28, 25240, .inl fk29))]) hD hS hA [4, 5, 6] rfl
    refine va_calli (pc := 180) (va_runV (As := [.int (xs 1), .int (xs 2)]) (rest := []) ⟨hx, hb, hml, hown, hts⟩ (m_person l dC dI H.size q19 nw22 kp23 mk24 co25 se26 0 0 cN27 cK28 fk29 (xs 1) (xs 2)) (cwV 2 hts (gV wd_407 wd_408 wd_409 wd_157 wd_406) rfl rfl rfl (by decide +kernel) ⟨Nat.le_of_ble_eq_true rfl, Nat.le_of_ble_eq_true rfl⟩) ⟨pW_blind, va_recv (q := (RM, TM, 11)) (q0 := 4) (ci := 4) hK hP rfl rfl, pW_pre hPc hKc hDc⟩ rfl rfl hl.1 rfl (lv_room (Nat.le_of_ble_eq_true rfl)) dL_law_180 ⟨Nat.le_of_ble_eq_true rfl, Nat.le_of_ble_eq_true rfl⟩) hS (fun q _ h => hFc q h) hFc (fun r1039 u1041 t H1 locs ht hvm hr1040 hB hz1 hk1 hS => ?_)
    obtain ⟨hP1, hK1, hD1⟩ := hB
    rw [ht] at hP1
    have hK1 := va_K.moved hvm.symm hK1
    obtain ⟨hP, hD⟩ := va_join (wr := [(bs6, .inl (cB15, 10, .inr (.inr (.inr (.inr (fun _ => none)))))), (df7, .inr (1, [.ref dv10, .ref do911, .int 0])), (dv10, .inl (cF16, 24, .inl fv17)), (ch8, .inr (2, [.ref cp12, .ref cn13, .int 0])), (q31, .inl (cA32, 1, .inr (.inl (vp_updL (fun _ => 0) (0 : Int32).toNatClampNeg 0))))]) (w1 := [(q19, .inr (4, [.int 0, .int u1041, .ref nw22, .ref kp23, .int 0, .int (-1), .ref mk24, .ref co25, .int 0, .int 0, .ref se26]))]) hP hD [4, 5, 6] [0, 1, 2, 3, 7] rfl rfl (by decide) (by decide) hk1 hFc hP1 hD1
    generalize H1 = H at hP hS ⊢
    have hP : va_P (dC, dI) kCl [(bs6, .inl (cB15, 10, .inr (.inr (.inr (.inr (fun _ => none)))))), (df7, .inr (1, [.ref dv10, .ref do911, .int 0])), (dv10, .inl (cF16, 24, .inl fv17)), (ch8, .inr (2, [.ref cp12, .ref cn13, .int 0])), (q31, .inl (cA32, 1, .inr (.inl (vp_updL (fun _ => 0) (0 : Int32).toNatClampNeg 0)))), (q19, .inr (4, [.int 0, .int u1041, .ref nw22, .ref kp23, .int 0, .int (-1), .ref mk24, .ref co25, .int 0, .int 0, .ref se26]))] H := hP
    have hD : va_D A [(bs6, .inl (cB15, 10, .inr (.inr (.inr (.inr (fun _ => none)))))), (df7, .inr (1, [.ref dv10, .ref do911, .int 0])), (dv10, .inl (cF16, 24, .inl fv17)), (ch8, .inr (2, [.ref cp12, .ref cn13, .int 0])), (q31, .inl (cA32, 1, .inr (.inl (vp_updL (fun _ => 0) (0 : Int32).toNatClampNeg 0)))), (q19, .inr (4, [.int 0, .int u1041, .ref nw22, .ref kp23, .int 0, .int (-1), .ref mk24, .ref co25, .int 0, .int 0, .ref se26]))] := hD
    refine W.widen (k := 18) (n := 52931) (Nat.le_of_ble_eq_true rfl) (Nat.le_of_ble_eq_true rfl) ?_
    obtain ⟨rfl, rfl, h1043⟩ | ⟨rfl, rfl, h1043⟩ : (r1039 = 1 ∧ u1041 = 0 ∧ (¬ (xs 1) < 0 ∧ ¬ (16 : Int32) ≤ (xs 1) ∧ ¬ (xs 2) < 0 ∧ ¬ (8 : Int32) ≤ (xs 2))) ∨ (r1039 = 0 ∧ u1041 = 7 ∧ ((xs 1) < 0 ∨ (16 : Int32) ≤ (xs 1) ∨ (xs 2) < 0 ∨ (8 : Int32) ≤ (xs 2))) := hr1040
    · refine lv_istore (pc := 183) hx hb dL_law_183 hl (by decide) rfl (fun ls hl => ?_)
      have hl : lv_has ls 7 [(6, .int 1), (5, .int 0), (4, .int 0), (3, .ref q31), (2, .ref q19), (1, .ref q1), (0, .ref b)] := hl
      refine lv_aload_n (pc := 185) hx hb dL_law_185 rfl (lv_at hl 4 rfl) ?_
      refine vp_callSi (pc := 186) (W.runV (As := []) (rest := []) ⟨hx, hb, hml, hown, hts⟩ (m_thrown l dC dI q19 nw22 kp23 mk24 co25 se26 0 0) (cwV 0 hts (gV wd_411 wd_412 wd_413 wd_157 wd_410) rfl rfl rfl (by decide +kernel) ⟨Nat.le_of_ble_eq_true rfl, Nat.le_of_ble_eq_true rfl⟩) ⟨pR_blind, va_recv (q := (RM, TM, 11)) (q0 := 5) (ci := 4) hK hP rfl rfl, pR_pre (hP.sub (ws' := [(q19, .inr (4, [.int 0, .int 0, .ref nw22, .ref kp23, .int 0, .int (-1), .ref mk24, .ref co25, .int 0, .int 0, .ref se26]))]) [5] rfl) (hK.sub (tys' := []) [] rfl)⟩ rfl rfl hl.1 rfl (lv_room (Nat.le_of_ble_eq_true rfl)) dL_law_186 ⟨Nat.le_of_ble_eq_true rfl, Nat.le_of_ble_eq_true rfl⟩) (fun r1044 hr1045 => ?_)
      obtain rfl : r1044 = 0 := hr1045
      refine lv_iload (pc := 189) hx hb dL_law_189 (lv_at hl 1 rfl) ?_
      refine lv_icmp_eq (pc := 191) (tgt := 196) hx hb dL_law_191 rfl (fun h1046 => ?_) (fun h1046 => absurd h1046 (by decide))
      refine lv_iload (pc := 196) hx hb dL_law_196 (lv_at hl 1 rfl) ?_
      refine lv_if_ne (pc := 198) (tgt := 220) hx hb dL_law_198 rfl (fun h1047 => absurd h1047 (by decide)) (fun h1047 => ?_)
      refine lv_aload_n (pc := 201) hx hb dL_law_201 rfl (lv_at hl 3 rfl) ?_
      refine lv_iconst (pc := 202) (v := 0) hx hb dL_law_202 (by decide) ?_
      refine va_lald (D := (dC, dI)) (cl := kCl) (pc := 203) hx hb hK hP 4 5 rfl rfl (vp_in_lit 0 1 (by decide)) dL_law_203 ?_
      refine W.eq (g2 := F0 m 204 ls [.long 0]) rfl ?_
      refine lv_iload (pc := 204) hx hb dL_law_204 (lv_at hl 0 rfl) ?_
      refine lv_if_eq (pc := 206) (tgt := 213) hx hb dL_law_206 rfl (fun h1048 => absurd h1048 (by decide)) (fun h1048 => ?_)
      refine lv_lconst (pc := 209) (v := 1) hx hb dL_law_209 (by decide) ?_
      refine lv_goto (pc := 210) (tgt := 214) hx hb dL_law_210 rfl ?_
      refine W.lcmp (pc := 214) hx hb dL_law_214 ?_
      refine lv_topi (fun z1049 hz1050 => ?_)
      obtain rfl : z1049 = (-1) := hz1050.trans (by decide)
      refine lv_if_eq (pc := 215) (tgt := 220) hx hb dL_law_215 rfl (fun h1051 => absurd h1051 (by decide)) (fun h1051 => ?_)
      refine lv_iconst (pc := 218) (v := 0) hx hb dL_law_218 (by decide) ?_
      exact (per_01 h1009 h1043).elim
    · refine lv_istore (pc := 183) hx hb dL_law_183 hl (by decide) rfl (fun ls hl => ?_)
      have hl : lv_has ls 7 [(6, .int 0), (5, .int 0), (4, .int 0), (3, .ref q31), (2, .ref q19), (1, .ref q1), (0, .ref b)] := hl
      refine lv_aload_n (pc := 185) hx hb dL_law_185 rfl (lv_at hl 4 rfl) ?_
      refine vp_callSi (pc := 186) (W.runV (As := []) (rest := []) ⟨hx, hb, hml, hown, hts⟩ (m_thrown l dC dI q19 nw22 kp23 mk24 co25 se26 0 7) (cwV 0 hts (gV wd_411 wd_412 wd_413 wd_157 wd_410) rfl rfl rfl (by decide +kernel) ⟨Nat.le_of_ble_eq_true rfl, Nat.le_of_ble_eq_true rfl⟩) ⟨pR_blind, va_recv (q := (RM, TM, 11)) (q0 := 5) (ci := 4) hK hP rfl rfl, pR_pre (hP.sub (ws' := [(q19, .inr (4, [.int 0, .int 7, .ref nw22, .ref kp23, .int 0, .int (-1), .ref mk24, .ref co25, .int 0, .int 0, .ref se26]))]) [5] rfl) (hK.sub (tys' := []) [] rfl)⟩ rfl rfl hl.1 rfl (lv_room (Nat.le_of_ble_eq_true rfl)) dL_law_186 ⟨Nat.le_of_ble_eq_true rfl, Nat.le_of_ble_eq_true rfl⟩) (fun r1052 hr1053 => ?_)
      obtain rfl : r1052 = 0 := hr1053
      refine lv_iload (pc := 189) hx hb dL_law_189 (lv_at hl 1 rfl) ?_
      refine lv_icmp_eq (pc := 191) (tgt := 196) hx hb dL_law_191 rfl (fun h1054 => ?_) (fun h1054 => absurd h1054 (by decide))
      refine lv_iload (pc := 196) hx hb dL_law_196 (lv_at hl 1 rfl) ?_
      refine lv_if_ne (pc := 198) (tgt := 220) hx hb dL_law_198 rfl (fun h1055 => absurd h1055 (by decide)) (fun h1055 => ?_)
      refine lv_aload_n (pc := 201) hx hb dL_law_201 rfl (lv_at hl 3 rfl) ?_
      refine lv_iconst (pc := 202) (v := 0) hx hb dL_law_202 (by decide) ?_
      refine va_lald (D := (dC, dI)) (cl := kCl) (pc := 203) hx hb hK hP 4 5 rfl rfl (vp_in_lit 0 1 (by decide)) dL_law_203 ?_
      refine W.eq (g2 := F0 m 204 ls [.long 0]) rfl ?_
      refine lv_iload (pc := 204) hx hb dL_law_204 (lv_at hl 0 rfl) ?_
      refine lv_if_eq (pc := 206) (tgt := 213) hx hb dL_law_206 rfl (fun h1056 => ?_) (fun h1056 => absurd h1056 (by decide))
      refine lv_lconst (pc := 213) (v := 0) hx hb dL_law_213 (by decide) ?_
      refine W.lcmp (pc := 214) hx hb dL_law_214 ?_
      refine lv_topi (fun z1057 hz1058 => ?_)
      obtain rfl : z1057 = 0 := hz1058.trans (by decide)
      refine lv_if_eq (pc := 215) (tgt := 220) hx hb dL_law_215 rfl (fun h1059 => ?_) (fun h1059 => absurd h1059 (by decide))
      refine lv_goto (pc := 220) (tgt := 1763) hx hb dL_law_220 rfl ?_
      exact law_tail hx hb hr hlocks hX hbl hbA hA2 hS (lv_sub hl (l' := [(4, .int 0), (0, .ref b)]) [2, 6] rfl) (Nat.le_of_ble_eq_true rfl) (Nat.le_of_ble_eq_true rfl)
set_option maxHeartbeats 4000000 in
set_option maxRecDepth 100000 in
theorem lawcase_1 {p : Program} {l : Launch} {e : Env} {s : State} {m : MethodId} {below : List Frame} {meth : Method} {c : Code} {b : Nat} {xs : Nat → Int32} {A : Nat → Prop} {H : Heap} {locs : List Loc} {ls : Array Slot} {dC : Nat → ClassId} {dI : Nat → Nat → Nat} {q1 : Nat} {rt4 : Nat} {dr5 : Nat} {bs6 : Nat} {df7 : Nat} {ch8 : Nat} {pg9 : Nat} {cR14 : ClassId} {cB15 : ClassId} {dv10 : Nat} {do911 : Nat} {cF16 : ClassId} {fv17 : Nat → Int32} {cp12 : Nat} {cn13 : Nat} {q19 : Nat} {nw22 : Nat} {kp23 : Nat} {mk24 : Nat} {co25 : Nat} {se26 : Nat} {cN27 : ClassId} {cK28 : ClassId} {fk29 : Nat → Int32} {q31 : Nat} {cA32 : ClassId} (h : lawS p l s m meth c b xs dC dI A q1 rt4 dr5 bs6 df7 ch8 pg9 cR14 cB15 dv10 do911 cF16 fv17 cp12 cn13 q19 nw22 kp23 mk24 co25 se26 cN27 cK28 fk29 q31 cA32 H locs ls) : W p l e room_1 s m #[Value.ref b] below meth c H locs 18 52931 (lw_Z below #[Value.ref b] s) (F0 m 223 ls []) := by
  obtain ⟨hx, hb, hr, hml, hown, hts, hX, hbl, hbA, hlocks, hA, hA2, hP, hD, hK, hS, hl, hXE, hfl, hfk⟩ := h
  refine lv_aload_n (pc := 223) hx hb dL_law_223 rfl (lv_at hl 3 rfl) ?_
  refine lv_aload_n (pc := 224) hx hb dL_law_224 rfl (lv_at hl 4 rfl) ?_
  refine lv_iload (pc := 225) hx hb dL_law_225 (lv_at hl 0 rfl) ?_
  refine lv_iconst (pc := 227) (v := 1) hx hb dL_law_227 (by decide) ?_
  refine lv_iadd (pc := 228) hx hb dL_law_228 ?_
  refine lv_topi (fun z1001 hz1002 => ?_)
  obtain rfl : z1001 = 1 := hz1002.trans (by decide)
  refine va_sld (A := A) (pc := 229) hx hb hX hbl hbA hS (vp_in_lit 1 6 (by decide)) dL_law_229 ?_
  refine W.eq (g2 := F0 m 230 ls [.int (xs 1), .ref q1]) rfl ?_
  refine lv_aload_n (pc := 230) hx hb dL_law_230 rfl (lv_at hl 1 rfl) ?_
  have hPc := hP.sub (ws' := [(q1, .inr (0, [.ref rt4, .ref dr5, .int 0, .int 0, .ref bs6, .ref df7, .ref ch8, .ref pg9, .int 0])), (rt4, .inl (cR14, 16, .inl (fun _ => 0))), (pg9, .inr (3, [.int 400, .int 0, .int 0, .int 0, .int 0, .int 0])), (q31, .inl (cA32, 1, .inr (.inl (fun _ => 0))))]) [0, 1, 2, 10] rfl
  have hDc := hD.sub (ws' := [(q1, .inr (0, [.ref rt4, .ref dr5, .int 0, .int 0, .ref bs6, .ref df7, .ref ch8, .ref pg9, .int 0])), (rt4, .inl (cR14, 16, .inl (fun _ => 0))), (pg9, .inr (3, [.int 400, .int 0, .int 0, .int 0, .int 0, .int 0])), (q31, .inl (cA32, 1, .inr (.inl (fun _ => 0))))]) [0, 1, 2, 10] (by decide) rfl
  have hKc := hK.sub (tys' := [(cR14, .int), (cA32, .long)]) [0, 5] rfl
  have hFc := va_free (wc := [(q1, .inr (0, [.ref rt4, .ref dr5, .int 0, .int 0, .ref bs6, .ref df7, .ref ch8, .ref pg9, .int 0])), (rt4, .inl (cR14, 16, .inl (fun _ => 0))), (pg9, .inr (3, [.int 400, .int 0, .int 0, .int 0, .int 0, .int 0])), (q31, .inl (cA32, 1, .inr (.inl (fun _ => 0))))]) hD hS hA [0, 1, 2, 10] rfl
  refine va_calli (pc := 231) (hxR (As := [.ref q1, .int (xs 1), .ref q31]) (rest := []) ⟨hx, hb, hml, hown, hts⟩ (l_drawing l dC dI H.size q1 rt4 dr5 bs6 df7 ch8 pg9 0 cR14 q31 cA32 (fun _ => 0) (xs 1)) 3 wd_415 wd_416 wd_405 wd_414 rfl rfl ⟨Nat.le_of_ble_eq_true rfl, Nat.le_of_ble_eq_true rfl⟩ (by decide +kernel) ⟨pW_blind, pW_pre hPc hKc hDc⟩ rfl rfl hl.1 rfl (lv_room (Nat.le_of_ble_eq_true rfl)) dL_law_231 ⟨Nat.le_of_ble_eq_true rfl, Nat.le_of_ble_eq_true rfl⟩) hS (fun q _ h => hFc q h) hFc (fun r1003 u t H1 locs ht hvm hr1004 hB hz1 hk1 hS => ?_)
  obtain ⟨hP1, hK1, hD1⟩ := hB
  rw [ht] at hP1
  have hK1 := va_K.moved hvm.symm hK1
  obtain ⟨hP, hD⟩ := va_join (wr := [(bs6, .inl (cB15, 10, .inr (.inr (.inr (.inr (fun _ => none)))))), (df7, .inr (1, [.ref dv10, .ref do911, .int 0])), (dv10, .inl (cF16, 24, .inl fv17)), (ch8, .inr (2, [.ref cp12, .ref cn13, .int 0])), (q19, .inr (4, [.int 0, .int 0, .ref nw22, .ref kp23, .int 0, .int (-1), .ref mk24, .ref co25, .int 0, .int 0, .ref se26])), (nw22, .inl (cN27, 25240, .inl now0)), (kp23, .inl (cK28, 25240, .inl fk29))]) (w1 := [(q31, .inl (cA32, 1, .inr (.inl (vp_updL (fun _ => 0) (0 : Int32).toNatClampNeg (-1)))))]) hP hD [0, 1, 2, 10] [3, 4, 5, 6, 7, 8, 9] rfl rfl (by decide) (by decide) hk1 hFc hP1 hD1
  generalize H1 = H at hP hS ⊢
  have hP : va_P (dC, dI) kCl [(bs6, .inl (cB15, 10, .inr (.inr (.inr (.inr (fun _ => none)))))), (df7, .inr (1, [.ref dv10, .ref do911, .int 0])), (dv10, .inl (cF16, 24, .inl fv17)), (ch8, .inr (2, [.ref cp12, .ref cn13, .int 0])), (q19, .inr (4, [.int 0, .int 0, .ref nw22, .ref kp23, .int 0, .int (-1), .ref mk24, .ref co25, .int 0, .int 0, .ref se26])), (nw22, .inl (cN27, 25240, .inl now0)), (kp23, .inl (cK28, 25240, .inl fk29)), (q31, .inl (cA32, 1, .inr (.inl (vp_updL (fun _ => 0) (0 : Int32).toNatClampNeg (-1)))))] H := hP
  have hD : va_D A [(bs6, .inl (cB15, 10, .inr (.inr (.inr (.inr (fun _ => none)))))), (df7, .inr (1, [.ref dv10, .ref do911, .int 0])), (dv10, .inl (cF16, 24, .inl fv17)), (ch8, .inr (2, [.ref cp12, .ref cn13, .int 0])), (q19, .inr (4, [.int 0, .int 0, .ref nw22, .ref kp23, .int 0, .int (-1), .ref mk24, .ref co25, .int 0, .int 0, .ref se26])), (nw22, .inl (cN27, 25240, .inl now0)), (kp23, .inl (cK28, 25240, .inl fk29)), (q31, .inl (cA32, 1, .inr (.inl (vp_updL (fun _ => 0) (0 : Int32).toNatClampNeg (-1)))))] := hD
  refine W.widen (k := 18) (n := 52931) (Nat.le_of_ble_eq_true rfl) (Nat.le_of_ble_eq_true rfl) ?_
  obtain rfl : r1003 = 0 := hr1004
  refine lv_istore (pc := 234) hx hb dL_law_234 hl (by decide) rfl (fun ls hl => ?_)
  have hl : lv_has ls 7 [(5, .int 0), (4, .int 0), (3, .ref q31), (2, .ref q19), (1, .ref q1), (0, .ref b)] := hl
  refine lv_aload_n (pc := 236) hx hb dL_law_236 rfl (lv_at hl 3 rfl) ?_
  refine lv_aload_n (pc := 237) hx hb dL_law_237 rfl (lv_at hl 5 rfl) ?_
  refine lv_iload (pc := 238) hx hb dL_law_238 (lv_at hl 1 rfl) ?_
  refine lv_iconst (pc := 240) (v := 1) hx hb dL_law_240 (by decide) ?_
  refine lv_iadd (pc := 241) hx hb dL_law_241 ?_
  refine lv_topi (fun z1006 hz1007 => ?_)
  obtain rfl : z1006 = 1 := hz1007.trans (by decide)
  refine va_sld (A := A) (pc := 242) hx hb hX hbl hbA hS (vp_in_lit 1 6 (by decide)) dL_law_242 ?_
  refine W.eq (g2 := F0 m 243 ls [.int (xs 1), .ref q19]) rfl ?_
  have hPc := hP.sub (ws' := [(q19, .inr (4, [.int 0, .int 0, .ref nw22, .ref kp23, .int 0, .int (-1), .ref mk24, .ref co25, .int 0, .int 0, .ref se26])), (nw22, .inl (cN27, 25240, .inl now0))]) [4, 5] rfl
  have hDc := hD.sub (ws' := [(q19, .inr (4, [.int 0, .int 0, .ref nw22, .ref kp23, .int 0, .int (-1), .ref mk24, .ref co25, .int 0, .int 0, .ref se26])), (nw22, .inl (cN27, 25240, .inl now0))]) [4, 5] (by decide) rfl
  have hKc := hK.sub (tys' := [(cN27, .int)]) [3] rfl
  have hFc := va_free (wc := [(q19, .inr (4, [.int 0, .int 0, .ref nw22, .ref kp23, .int 0, .int (-1), .ref mk24, .ref co25, .int 0, .int 0, .ref se26])), (nw22, .inl (cN27, 25240, .inl now0))]) hD hS hA [4, 5] rfl
  refine va_calli (pc := 243) (va_runV (As := [.int (xs 1)]) (rest := []) ⟨hx, hb, hml, hown, hts⟩ (m_drawing l dC dI H.size q19 nw22 kp23 mk24 co25 se26 0 0 cN27 (xs 1)) (cwV 1 hts (gV wd_418 wd_419 wd_420 wd_157 wd_417) rfl rfl rfl (by decide +kernel) ⟨Nat.le_of_ble_eq_true rfl, Nat.le_of_ble_eq_true rfl⟩) ⟨pW_blind, va_recv (q := (RM, TM, 11)) (q0 := 4) (ci := 4) hK hP rfl rfl, pW_pre hPc hKc hDc⟩ rfl rfl hl.1 rfl (lv_room (Nat.le_of_ble_eq_true rfl)) dL_law_243 ⟨Nat.le_of_ble_eq_true rfl, Nat.le_of_ble_eq_true rfl⟩) hS (fun q _ h => hFc q h) hFc (fun r1008 u t H1 locs ht hvm hr1009 hB hz1 hk1 hS => ?_)
  obtain ⟨hP1, hK1, hD1⟩ := hB
  rw [ht] at hP1
  have hK1 := va_K.moved hvm.symm hK1
  obtain ⟨hP, hD⟩ := va_join (wr := [(bs6, .inl (cB15, 10, .inr (.inr (.inr (.inr (fun _ => none)))))), (df7, .inr (1, [.ref dv10, .ref do911, .int 0])), (dv10, .inl (cF16, 24, .inl fv17)), (ch8, .inr (2, [.ref cp12, .ref cn13, .int 0])), (kp23, .inl (cK28, 25240, .inl fk29)), (q31, .inl (cA32, 1, .inr (.inl (vp_updL (fun _ => 0) (0 : Int32).toNatClampNeg (-1)))))]) (w1 := [(q19, .inr (4, [.int 0, .int 1, .ref nw22, .ref kp23, .int 0, .int (-1), .ref mk24, .ref co25, .int 0, .int 0, .ref se26]))]) hP hD [4, 5] [0, 1, 2, 3, 6, 7] rfl rfl (by decide) (by decide) hk1 hFc hP1 hD1
  generalize H1 = H at hP hS ⊢
  have hP : va_P (dC, dI) kCl [(bs6, .inl (cB15, 10, .inr (.inr (.inr (.inr (fun _ => none)))))), (df7, .inr (1, [.ref dv10, .ref do911, .int 0])), (dv10, .inl (cF16, 24, .inl fv17)), (ch8, .inr (2, [.ref cp12, .ref cn13, .int 0])), (kp23, .inl (cK28, 25240, .inl fk29)), (q31, .inl (cA32, 1, .inr (.inl (vp_updL (fun _ => 0) (0 : Int32).toNatClampNeg (-1))))), (q19, .inr (4, [.int 0, .int 1, .ref nw22, .ref kp23, .int 0, .int (-1), .ref mk24, .ref co25, .int 0, .int 0, .ref se26]))] H := hP
  have hD : va_D A [(bs6, .inl (cB15, 10, .inr (.inr (.inr (.inr (fun _ => none)))))), (df7, .inr (1, [.ref dv10, .ref do911, .int 0])), (dv10, .inl (cF16, 24, .inl fv17)), (ch8, .inr (2, [.ref cp12, .ref cn13, .int 0])), (kp23, .inl (cK28, 25240, .inl fk29)), (q31, .inl (cA32, 1, .inr (.inl (vp_updL (fun _ => 0) (0 : Int32).toNatClampNeg (-1))))), (q19, .inr (4, [.int 0, .int 1, .ref nw22, .ref kp23, .int 0, .int (-1), .ref mk24, .ref co25, .int 0, .int 0, .ref se26]))] := hD
  refine W.widen (k := 18) (n := 52931) (Nat.le_of_ble_eq_true rfl) (Nat.le_of_ble_eq_true rfl) ?_
  obtain rfl : r1008 = (-1) := hr1009
  refine lv_istore (pc := 246) hx hb dL_law_246 hl (by decide) rfl (fun ls hl => ?_)
  have hl : lv_has ls 7 [(6, .int (-1)), (5, .int 0), (4, .int 0), (3, .ref q31), (2, .ref q19), (1, .ref q1), (0, .ref b)] := hl
  refine lv_aload_n (pc := 248) hx hb dL_law_248 rfl (lv_at hl 4 rfl) ?_
  refine vp_callSi (pc := 249) (W.runV (As := []) (rest := []) ⟨hx, hb, hml, hown, hts⟩ (m_thrown l dC dI q19 nw22 kp23 mk24 co25 se26 0 1) (cwV 0 hts (gV wd_411 wd_412 wd_413 wd_157 wd_410) rfl rfl rfl (by decide +kernel) ⟨Nat.le_of_ble_eq_true rfl, Nat.le_of_ble_eq_true rfl⟩) ⟨pR_blind, va_recv (q := (RM, TM, 11)) (q0 := 6) (ci := 4) hK hP rfl rfl, pR_pre (hP.sub (ws' := [(q19, .inr (4, [.int 0, .int 1, .ref nw22, .ref kp23, .int 0, .int (-1), .ref mk24, .ref co25, .int 0, .int 0, .ref se26]))]) [6] rfl) (hK.sub (tys' := []) [] rfl)⟩ rfl rfl hl.1 rfl (lv_room (Nat.le_of_ble_eq_true rfl)) dL_law_249 ⟨Nat.le_of_ble_eq_true rfl, Nat.le_of_ble_eq_true rfl⟩) (fun r1011 hr1012 => ?_)
  obtain rfl : r1011 = 0 := hr1012
  refine lv_iload (pc := 252) hx hb dL_law_252 (lv_at hl 1 rfl) ?_
  refine lv_icmp_eq (pc := 254) (tgt := 259) hx hb dL_law_254 rfl (fun h1013 => ?_) (fun h1013 => absurd h1013 (by decide))
  refine lv_iload (pc := 259) hx hb dL_law_259 (lv_at hl 1 rfl) ?_
  refine lv_if_ne (pc := 261) (tgt := 276) hx hb dL_law_261 rfl (fun h1014 => absurd h1014 (by decide)) (fun h1014 => ?_)
  refine lv_aload_n (pc := 264) hx hb dL_law_264 rfl (lv_at hl 3 rfl) ?_
  refine lv_iconst (pc := 265) (v := 0) hx hb dL_law_265 (by decide) ?_
  refine va_lald (D := (dC, dI)) (cl := kCl) (pc := 266) hx hb hK hP 5 5 rfl rfl (vp_in_lit 0 1 (by decide)) dL_law_266 ?_
  refine W.eq (g2 := F0 m 267 ls [.long (-1)]) rfl ?_
  refine lv_iload (pc := 267) hx hb dL_law_267 (lv_at hl 0 rfl) ?_
  refine lv_i2l (pc := 269) (v := (-1)) hx hb dL_law_269 (by decide) ?_
  refine W.lcmp (pc := 270) hx hb dL_law_270 ?_
  refine lv_topi (fun z1015 hz1016 => ?_)
  obtain rfl : z1015 = 0 := hz1016.trans (by decide)
  refine lv_if_eq (pc := 271) (tgt := 276) hx hb dL_law_271 rfl (fun h1017 => ?_) (fun h1017 => absurd h1017 (by decide))
  refine lv_goto (pc := 276) (tgt := 1763) hx hb dL_law_276 rfl ?_
  exact law_tail hx hb hr hlocks hX hbl hbA hA2 hS (lv_sub hl (l' := [(4, .int 0), (0, .ref b)]) [2, 6] rfl) (Nat.le_of_ble_eq_true rfl) (Nat.le_of_ble_eq_true rfl)
set_option maxHeartbeats 4000000 in
set_option maxRecDepth 100000 in
theorem lawcase_2 {p : Program} {l : Launch} {e : Env} {s : State} {m : MethodId} {below : List Frame} {meth : Method} {c : Code} {b : Nat} {xs : Nat → Int32} {A : Nat → Prop} {H : Heap} {locs : List Loc} {ls : Array Slot} {dC : Nat → ClassId} {dI : Nat → Nat → Nat} {q1 : Nat} {rt4 : Nat} {dr5 : Nat} {bs6 : Nat} {df7 : Nat} {ch8 : Nat} {pg9 : Nat} {cR14 : ClassId} {cB15 : ClassId} {dv10 : Nat} {do911 : Nat} {cF16 : ClassId} {fv17 : Nat → Int32} {cp12 : Nat} {cn13 : Nat} {q19 : Nat} {nw22 : Nat} {kp23 : Nat} {mk24 : Nat} {co25 : Nat} {se26 : Nat} {cN27 : ClassId} {cK28 : ClassId} {fk29 : Nat → Int32} {q31 : Nat} {cA32 : ClassId} (h : lawS p l s m meth c b xs dC dI A q1 rt4 dr5 bs6 df7 ch8 pg9 cR14 cB15 dv10 do911 cF16 fv17 cp12 cn13 q19 nw22 kp23 mk24 co25 se26 cN27 cK28 fk29 q31 cA32 H locs ls) : W p l e room_1 s m #[Value.ref b] below meth c H locs 18 52931 (lw_Z below #[Value.ref b] s) (F0 m 279 ls []) := by
  obtain ⟨hx, hb, hr, hml, hown, hts, hX, hbl, hbA, hlocks, hA, hA2, hP, hD, hK, hS, hl, hXE, hfl, hfk⟩ := h
  refine lv_aload_n (pc := 279) hx hb dL_law_279 rfl (lv_at hl 3 rfl) ?_
  refine lv_aload_n (pc := 280) hx hb dL_law_280 rfl (lv_at hl 4 rfl) ?_
  refine lv_iload (pc := 281) hx hb dL_law_281 (lv_at hl 0 rfl) ?_
  refine lv_iconst (pc := 283) (v := 1) hx hb dL_law_283 (by decide) ?_
  refine lv_iadd (pc := 284) hx hb dL_law_284 ?_
  refine lv_topi (fun z1001 hz1002 => ?_)
  obtain rfl : z1001 = 1 := hz1002.trans (by decide)
  refine va_sld (A := A) (pc := 285) hx hb hX hbl hbA hS (vp_in_lit 1 6 (by decide)) dL_law_285 ?_
  refine W.eq (g2 := F0 m 286 ls [.int (xs 1), .ref q1]) rfl ?_
  refine lv_aload_n (pc := 286) hx hb dL_law_286 rfl (lv_at hl 4 rfl) ?_
  refine lv_iload (pc := 287) hx hb dL_law_287 (lv_at hl 0 rfl) ?_
  refine lv_iconst (pc := 289) (v := 2) hx hb dL_law_289 (by decide) ?_
  refine lv_iadd (pc := 290) hx hb dL_law_290 ?_
  refine lv_topi (fun z1003 hz1004 => ?_)
  obtain rfl : z1003 = 2 := hz1004.trans (by decide)
  refine va_sld (A := A) (pc := 291) hx hb hX hbl hbA hS (vp_in_lit 2 6 (by decide)) dL_law_291 ?_
  refine W.eq (g2 := F0 m 292 ls [.int (xs 2), .int (xs 1), .ref q1]) rfl ?_
  refine lv_aload_n (pc := 292) hx hb dL_law_292 rfl (lv_at hl 1 rfl) ?_
  have hPc := hP.sub (ws' := [(q1, .inr (0, [.ref rt4, .ref dr5, .int 0, .int 0, .ref bs6, .ref df7, .ref ch8, .ref pg9, .int 0])), (rt4, .inl (cR14, 16, .inl (fun _ => 0))), (pg9, .inr (3, [.int 400, .int 0, .int 0, .int 0, .int 0, .int 0])), (q31, .inl (cA32, 1, .inr (.inl (fun _ => 0))))]) [0, 1, 2, 10] rfl
  have hDc := hD.sub (ws' := [(q1, .inr (0, [.ref rt4, .ref dr5, .int 0, .int 0, .ref bs6, .ref df7, .ref ch8, .ref pg9, .int 0])), (rt4, .inl (cR14, 16, .inl (fun _ => 0))), (pg9, .inr (3, [.int 400, .int 0, .int 0, .int 0, .int 0, .int 0])), (q31, .inl (cA32, 1, .inr (.inl (fun _ => 0))))]) [0, 1, 2, 10] (by decide) rfl
  have hKc := hK.sub (tys' := [(cR14, .int), (cA32, .long)]) [0, 5] rfl
  have hFc := va_free (wc := [(q1, .inr (0, [.ref rt4, .ref dr5, .int 0, .int 0, .ref bs6, .ref df7, .ref ch8, .ref pg9, .int 0])), (rt4, .inl (cR14, 16, .inl (fun _ => 0))), (pg9, .inr (3, [.int 400, .int 0, .int 0, .int 0, .int 0, .int 0])), (q31, .inl (cA32, 1, .inr (.inl (fun _ => 0))))]) hD hS hA [0, 1, 2, 10] rfl
  refine va_calli (pc := 293) (hxR (As := [.ref q1, .int (xs 1), .int (xs 2), .ref q31]) (rest := []) ⟨hx, hb, hml, hown, hts⟩ (l_out l dC dI H.size q1 rt4 dr5 bs6 df7 ch8 pg9 0 cR14 q31 cA32 (fun _ => 0) (xs 1) (xs 2)) 4 wd_422 wd_423 wd_405 wd_421 rfl rfl ⟨Nat.le_of_ble_eq_true rfl, Nat.le_of_ble_eq_true rfl⟩ (by decide +kernel) ⟨pW_blind, pW_pre hPc hKc hDc⟩ rfl rfl hl.1 rfl (lv_room (Nat.le_of_ble_eq_true rfl)) dL_law_293 ⟨Nat.le_of_ble_eq_true rfl, Nat.le_of_ble_eq_true rfl⟩) hS (fun q _ h => hFc q h) hFc (fun r1005 u t H1 locs ht hvm hr1006 hB hz1 hk1 hS => ?_)
  obtain ⟨hP1, hK1, hD1⟩ := hB
  rw [ht] at hP1
  have hK1 := va_K.moved hvm.symm hK1
  obtain ⟨hP, hD⟩ := va_join (wr := [(bs6, .inl (cB15, 10, .inr (.inr (.inr (.inr (fun _ => none)))))), (df7, .inr (1, [.ref dv10, .ref do911, .int 0])), (dv10, .inl (cF16, 24, .inl fv17)), (ch8, .inr (2, [.ref cp12, .ref cn13, .int 0])), (q19, .inr (4, [.int 0, .int 0, .ref nw22, .ref kp23, .int 0, .int (-1), .ref mk24, .ref co25, .int 0, .int 0, .ref se26])), (nw22, .inl (cN27, 25240, .inl now0)), (kp23, .inl (cK28, 25240, .inl fk29))]) (w1 := [(q31, .inl (cA32, 1, .inr (.inl (vp_updL (fun _ => 0) (0 : Int32).toNatClampNeg 0))))]) hP hD [0, 1, 2, 10] [3, 4, 5, 6, 7, 8, 9] rfl rfl (by decide) (by decide) hk1 hFc hP1 hD1
  generalize H1 = H at hP hS ⊢
  have hP : va_P (dC, dI) kCl [(bs6, .inl (cB15, 10, .inr (.inr (.inr (.inr (fun _ => none)))))), (df7, .inr (1, [.ref dv10, .ref do911, .int 0])), (dv10, .inl (cF16, 24, .inl fv17)), (ch8, .inr (2, [.ref cp12, .ref cn13, .int 0])), (q19, .inr (4, [.int 0, .int 0, .ref nw22, .ref kp23, .int 0, .int (-1), .ref mk24, .ref co25, .int 0, .int 0, .ref se26])), (nw22, .inl (cN27, 25240, .inl now0)), (kp23, .inl (cK28, 25240, .inl fk29)), (q31, .inl (cA32, 1, .inr (.inl (vp_updL (fun _ => 0) (0 : Int32).toNatClampNeg 0))))] H := hP
  have hD : va_D A [(bs6, .inl (cB15, 10, .inr (.inr (.inr (.inr (fun _ => none)))))), (df7, .inr (1, [.ref dv10, .ref do911, .int 0])), (dv10, .inl (cF16, 24, .inl fv17)), (ch8, .inr (2, [.ref cp12, .ref cn13, .int 0])), (q19, .inr (4, [.int 0, .int 0, .ref nw22, .ref kp23, .int 0, .int (-1), .ref mk24, .ref co25, .int 0, .int 0, .ref se26])), (nw22, .inl (cN27, 25240, .inl now0)), (kp23, .inl (cK28, 25240, .inl fk29)), (q31, .inl (cA32, 1, .inr (.inl (vp_updL (fun _ => 0) (0 : Int32).toNatClampNeg 0))))] := hD
  refine W.widen (k := 18) (n := 52931) (Nat.le_of_ble_eq_true rfl) (Nat.le_of_ble_eq_true rfl) ?_
  obtain rfl : r1005 = 0 := hr1006
  refine lv_istore (pc := 296) hx hb dL_law_296 hl (by decide) rfl (fun ls hl => ?_)
  have hl : lv_has ls 7 [(5, .int 0), (4, .int 0), (3, .ref q31), (2, .ref q19), (1, .ref q1), (0, .ref b)] := hl
  refine lv_aload_n (pc := 298) hx hb dL_law_298 rfl (lv_at hl 3 rfl) ?_
  refine lv_aload_n (pc := 299) hx hb dL_law_299 rfl (lv_at hl 5 rfl) ?_
  refine lv_iload (pc := 300) hx hb dL_law_300 (lv_at hl 1 rfl) ?_
  refine lv_iconst (pc := 302) (v := 1) hx hb dL_law_302 (by decide) ?_
  refine lv_iadd (pc := 303) hx hb dL_law_303 ?_
  refine lv_topi (fun z1008 hz1009 => ?_)
  obtain rfl : z1008 = 1 := hz1009.trans (by decide)
  refine va_sld (A := A) (pc := 304) hx hb hX hbl hbA hS (vp_in_lit 1 6 (by decide)) dL_law_304 ?_
  refine W.eq (g2 := F0 m 305 ls [.int (xs 1), .ref q19]) rfl ?_
  refine lv_aload_n (pc := 305) hx hb dL_law_305 rfl (lv_at hl 5 rfl) ?_
  refine lv_iload (pc := 306) hx hb dL_law_306 (lv_at hl 1 rfl) ?_
  refine lv_iconst (pc := 308) (v := 2) hx hb dL_law_308 (by decide) ?_
  refine lv_iadd (pc := 309) hx hb dL_law_309 ?_
  refine lv_topi (fun z1010 hz1011 => ?_)
  obtain rfl : z1010 = 2 := hz1011.trans (by decide)
  refine va_sld (A := A) (pc := 310) hx hb hX hbl hbA hS (vp_in_lit 2 6 (by decide)) dL_law_310 ?_
  refine W.eq (g2 := F0 m 311 ls [.int (xs 2), .int (xs 1), .ref q19]) rfl ?_
  have hPc := hP.sub (ws' := [(q19, .inr (4, [.int 0, .int 0, .ref nw22, .ref kp23, .int 0, .int (-1), .ref mk24, .ref co25, .int 0, .int 0, .ref se26])), (nw22, .inl (cN27, 25240, .inl now0))]) [4, 5] rfl
  have hDc := hD.sub (ws' := [(q19, .inr (4, [.int 0, .int 0, .ref nw22, .ref kp23, .int 0, .int (-1), .ref mk24, .ref co25, .int 0, .int 0, .ref se26])), (nw22, .inl (cN27, 25240, .inl now0))]) [4, 5] (by decide) rfl
  have hKc := hK.sub (tys' := [(cN27, .int)]) [3] rfl
  have hFc := va_free (wc := [(q19, .inr (4, [.int 0, .int 0, .ref nw22, .ref kp23, .int 0, .int (-1), .ref mk24, .ref co25, .int 0, .int 0, .ref se26])), (nw22, .inl (cN27, 25240, .inl now0))]) hD hS hA [4, 5] rfl
  refine va_calli (pc := 311) (va_runV (As := [.int (xs 1), .int (xs 2)]) (rest := []) ⟨hx, hb, hml, hown, hts⟩ (m_out l dC dI H.size q19 nw22 kp23 mk24 co25 se26 0 0 cN27 (xs 1) (xs 2)) (cwV 2 hts (gV wd_425 wd_426 wd_427 wd_157 wd_424) rfl rfl rfl (by decide +kernel) ⟨Nat.le_of_ble_eq_true rfl, Nat.le_of_ble_eq_true rfl⟩) ⟨pW_blind, va_recv (q := (RM, TM, 11)) (q0 := 4) (ci := 4) hK hP rfl rfl, pW_pre hPc hKc hDc⟩ rfl rfl hl.1 rfl (lv_room (Nat.le_of_ble_eq_true rfl)) dL_law_311 ⟨Nat.le_of_ble_eq_true rfl, Nat.le_of_ble_eq_true rfl⟩) hS (fun q _ h => hFc q h) hFc (fun r1012 u t H1 locs ht hvm hr1013 hB hz1 hk1 hS => ?_)
  obtain ⟨hP1, hK1, hD1⟩ := hB
  rw [ht] at hP1
  have hK1 := va_K.moved hvm.symm hK1
  obtain ⟨hP, hD⟩ := va_join (wr := [(bs6, .inl (cB15, 10, .inr (.inr (.inr (.inr (fun _ => none)))))), (df7, .inr (1, [.ref dv10, .ref do911, .int 0])), (dv10, .inl (cF16, 24, .inl fv17)), (ch8, .inr (2, [.ref cp12, .ref cn13, .int 0])), (kp23, .inl (cK28, 25240, .inl fk29)), (q31, .inl (cA32, 1, .inr (.inl (vp_updL (fun _ => 0) (0 : Int32).toNatClampNeg 0))))]) (w1 := [(q19, .inr (4, [.int 0, .int 1, .ref nw22, .ref kp23, .int 0, .int (-1), .ref mk24, .ref co25, .int 0, .int 0, .ref se26]))]) hP hD [4, 5] [0, 1, 2, 3, 6, 7] rfl rfl (by decide) (by decide) hk1 hFc hP1 hD1
  generalize H1 = H at hP hS ⊢
  have hP : va_P (dC, dI) kCl [(bs6, .inl (cB15, 10, .inr (.inr (.inr (.inr (fun _ => none)))))), (df7, .inr (1, [.ref dv10, .ref do911, .int 0])), (dv10, .inl (cF16, 24, .inl fv17)), (ch8, .inr (2, [.ref cp12, .ref cn13, .int 0])), (kp23, .inl (cK28, 25240, .inl fk29)), (q31, .inl (cA32, 1, .inr (.inl (vp_updL (fun _ => 0) (0 : Int32).toNatClampNeg 0)))), (q19, .inr (4, [.int 0, .int 1, .ref nw22, .ref kp23, .int 0, .int (-1), .ref mk24, .ref co25, .int 0, .int 0, .ref se26]))] H := hP
  have hD : va_D A [(bs6, .inl (cB15, 10, .inr (.inr (.inr (.inr (fun _ => none)))))), (df7, .inr (1, [.ref dv10, .ref do911, .int 0])), (dv10, .inl (cF16, 24, .inl fv17)), (ch8, .inr (2, [.ref cp12, .ref cn13, .int 0])), (kp23, .inl (cK28, 25240, .inl fk29)), (q31, .inl (cA32, 1, .inr (.inl (vp_updL (fun _ => 0) (0 : Int32).toNatClampNeg 0)))), (q19, .inr (4, [.int 0, .int 1, .ref nw22, .ref kp23, .int 0, .int (-1), .ref mk24, .ref co25, .int 0, .int 0, .ref se26]))] := hD
  refine W.widen (k := 18) (n := 52931) (Nat.le_of_ble_eq_true rfl) (Nat.le_of_ble_eq_true rfl) ?_
  obtain rfl : r1012 = 0 := hr1013
  refine lv_istore (pc := 314) hx hb dL_law_314 hl (by decide) rfl (fun ls hl => ?_)
  have hl : lv_has ls 7 [(6, .int 0), (5, .int 0), (4, .int 0), (3, .ref q31), (2, .ref q19), (1, .ref q1), (0, .ref b)] := hl
  refine lv_aload_n (pc := 316) hx hb dL_law_316 rfl (lv_at hl 4 rfl) ?_
  refine vp_callSi (pc := 317) (W.runV (As := []) (rest := []) ⟨hx, hb, hml, hown, hts⟩ (m_thrown l dC dI q19 nw22 kp23 mk24 co25 se26 0 1) (cwV 0 hts (gV wd_411 wd_412 wd_413 wd_157 wd_410) rfl rfl rfl (by decide +kernel) ⟨Nat.le_of_ble_eq_true rfl, Nat.le_of_ble_eq_true rfl⟩) ⟨pR_blind, va_recv (q := (RM, TM, 11)) (q0 := 6) (ci := 4) hK hP rfl rfl, pR_pre (hP.sub (ws' := [(q19, .inr (4, [.int 0, .int 1, .ref nw22, .ref kp23, .int 0, .int (-1), .ref mk24, .ref co25, .int 0, .int 0, .ref se26]))]) [6] rfl) (hK.sub (tys' := []) [] rfl)⟩ rfl rfl hl.1 rfl (lv_room (Nat.le_of_ble_eq_true rfl)) dL_law_317 ⟨Nat.le_of_ble_eq_true rfl, Nat.le_of_ble_eq_true rfl⟩) (fun r1015 hr1016 => ?_)
  obtain rfl : r1015 = 0 := hr1016
  refine lv_iload (pc := 320) hx hb dL_law_320 (lv_at hl 1 rfl) ?_
  refine lv_icmp_eq (pc := 322) (tgt := 327) hx hb dL_law_322 rfl (fun h1017 => ?_) (fun h1017 => absurd h1017 (by decide))
  refine lv_iload (pc := 327) hx hb dL_law_327 (lv_at hl 1 rfl) ?_
  refine lv_if_ne (pc := 329) (tgt := 351) hx hb dL_law_329 rfl (fun h1018 => absurd h1018 (by decide)) (fun h1018 => ?_)
  refine lv_aload_n (pc := 332) hx hb dL_law_332 rfl (lv_at hl 3 rfl) ?_
  refine lv_iconst (pc := 333) (v := 0) hx hb dL_law_333 (by decide) ?_
  refine va_lald (D := (dC, dI)) (cl := kCl) (pc := 334) hx hb hK hP 5 5 rfl rfl (vp_in_lit 0 1 (by decide)) dL_law_334 ?_
  refine W.eq (g2 := F0 m 335 ls [.long 0]) rfl ?_
  refine lv_iload (pc := 335) hx hb dL_law_335 (lv_at hl 0 rfl) ?_
  refine lv_if_eq (pc := 337) (tgt := 344) hx hb dL_law_337 rfl (fun h1019 => ?_) (fun h1019 => absurd h1019 (by decide))
  refine lv_lconst (pc := 344) (v := 0) hx hb dL_law_344 (by decide) ?_
  refine W.lcmp (pc := 345) hx hb dL_law_345 ?_
  refine lv_topi (fun z1020 hz1021 => ?_)
  obtain rfl : z1020 = 0 := hz1021.trans (by decide)
  refine lv_if_eq (pc := 346) (tgt := 351) hx hb dL_law_346 rfl (fun h1022 => ?_) (fun h1022 => absurd h1022 (by decide))
  refine lv_goto (pc := 351) (tgt := 1763) hx hb dL_law_351 rfl ?_
  exact law_tail hx hb hr hlocks hX hbl hbA hA2 hS (lv_sub hl (l' := [(4, .int 0), (0, .ref b)]) [2, 6] rfl) (Nat.le_of_ble_eq_true rfl) (Nat.le_of_ble_eq_true rfl)
set_option maxHeartbeats 4000000 in
set_option maxRecDepth 100000 in
theorem lawcase_3 {p : Program} {l : Launch} {e : Env} {s : State} {m : MethodId} {below : List Frame} {meth : Method} {c : Code} {b : Nat} {xs : Nat → Int32} {A : Nat → Prop} {H : Heap} {locs : List Loc} {ls : Array Slot} {dC : Nat → ClassId} {dI : Nat → Nat → Nat} {q1 : Nat} {rt4 : Nat} {dr5 : Nat} {bs6 : Nat} {df7 : Nat} {ch8 : Nat} {pg9 : Nat} {cR14 : ClassId} {cB15 : ClassId} {dv10 : Nat} {do911 : Nat} {cF16 : ClassId} {fv17 : Nat → Int32} {cp12 : Nat} {cn13 : Nat} {q19 : Nat} {nw22 : Nat} {kp23 : Nat} {mk24 : Nat} {co25 : Nat} {se26 : Nat} {cN27 : ClassId} {cK28 : ClassId} {fk29 : Nat → Int32} {q31 : Nat} {cA32 : ClassId} (h : lawS p l s m meth c b xs dC dI A q1 rt4 dr5 bs6 df7 ch8 pg9 cR14 cB15 dv10 do911 cF16 fv17 cp12 cn13 q19 nw22 kp23 mk24 co25 se26 cN27 cK28 fk29 q31 cA32 H locs ls) : W p l e room_1 s m #[Value.ref b] below meth c H locs 18 52931 (lw_Z below #[Value.ref b] s) (F0 m 354 ls []) := by
  obtain ⟨hx, hb, hr, hml, hown, hts, hX, hbl, hbA, hlocks, hA, hA2, hP, hD, hK, hS, hl, hXE, hfl, hfk⟩ := h
  refine lv_aload_n (pc := 354) hx hb dL_law_354 rfl (lv_at hl 3 rfl) ?_
  refine lv_aload_n (pc := 355) hx hb dL_law_355 rfl (lv_at hl 4 rfl) ?_
  refine lv_iload (pc := 356) hx hb dL_law_356 (lv_at hl 0 rfl) ?_
  refine lv_iconst (pc := 358) (v := 1) hx hb dL_law_358 (by decide) ?_
  refine lv_iadd (pc := 359) hx hb dL_law_359 ?_
  refine lv_topi (fun z1001 hz1002 => ?_)
  obtain rfl : z1001 = 1 := hz1002.trans (by decide)
  refine va_sld (A := A) (pc := 360) hx hb hX hbl hbA hS (vp_in_lit 1 6 (by decide)) dL_law_360 ?_
  refine W.eq (g2 := F0 m 361 ls [.int (xs 1), .ref q1]) rfl ?_
  refine lv_aload_n (pc := 361) hx hb dL_law_361 rfl (lv_at hl 4 rfl) ?_
  refine lv_iload (pc := 362) hx hb dL_law_362 (lv_at hl 0 rfl) ?_
  refine lv_iconst (pc := 364) (v := 2) hx hb dL_law_364 (by decide) ?_
  refine lv_iadd (pc := 365) hx hb dL_law_365 ?_
  refine lv_topi (fun z1003 hz1004 => ?_)
  obtain rfl : z1003 = 2 := hz1004.trans (by decide)
  refine va_sld (A := A) (pc := 366) hx hb hX hbl hbA hS (vp_in_lit 2 6 (by decide)) dL_law_366 ?_
  refine W.eq (g2 := F0 m 367 ls [.int (xs 2), .int (xs 1), .ref q1]) rfl ?_
  refine lv_aload_n (pc := 367) hx hb dL_law_367 rfl (lv_at hl 1 rfl) ?_
  have hPc := hP.sub (ws' := [(q1, .inr (0, [.ref rt4, .ref dr5, .int 0, .int 0, .ref bs6, .ref df7, .ref ch8, .ref pg9, .int 0])), (rt4, .inl (cR14, 16, .inl (fun _ => 0))), (pg9, .inr (3, [.int 400, .int 0, .int 0, .int 0, .int 0, .int 0])), (q31, .inl (cA32, 1, .inr (.inl (fun _ => 0))))]) [0, 1, 2, 10] rfl
  have hDc := hD.sub (ws' := [(q1, .inr (0, [.ref rt4, .ref dr5, .int 0, .int 0, .ref bs6, .ref df7, .ref ch8, .ref pg9, .int 0])), (rt4, .inl (cR14, 16, .inl (fun _ => 0))), (pg9, .inr (3, [.int 400, .int 0, .int 0, .int 0, .int 0, .int 0])), (q31, .inl (cA32, 1, .inr (.inl (fun _ => 0))))]) [0, 1, 2, 10] (by decide) rfl
  have hKc := hK.sub (tys' := [(cR14, .int), (cA32, .long)]) [0, 5] rfl
  have hFc := va_free (wc := [(q1, .inr (0, [.ref rt4, .ref dr5, .int 0, .int 0, .ref bs6, .ref df7, .ref ch8, .ref pg9, .int 0])), (rt4, .inl (cR14, 16, .inl (fun _ => 0))), (pg9, .inr (3, [.int 400, .int 0, .int 0, .int 0, .int 0, .int 0])), (q31, .inl (cA32, 1, .inr (.inl (fun _ => 0))))]) hD hS hA [0, 1, 2, 10] rfl
  refine va_calli (pc := 368) (hxR (As := [.ref q1, .int (xs 1), .int (xs 2), .ref q31]) (rest := []) ⟨hx, hb, hml, hown, hts⟩ (l_undo l dC dI H.size q1 rt4 dr5 bs6 df7 ch8 pg9 0 cR14 q31 cA32 (fun _ => 0) (xs 1) (xs 2)) 4 wd_429 wd_430 wd_405 wd_428 rfl rfl ⟨Nat.le_of_ble_eq_true rfl, Nat.le_of_ble_eq_true rfl⟩ (by decide +kernel) ⟨pW_blind, pW_pre hPc hKc hDc⟩ rfl rfl hl.1 rfl (lv_room (Nat.le_of_ble_eq_true rfl)) dL_law_368 ⟨Nat.le_of_ble_eq_true rfl, Nat.le_of_ble_eq_true rfl⟩) hS (fun q _ h => hFc q h) hFc (fun r1005 u t H1 locs ht hvm hr1006 hB hz1 hk1 hS => ?_)
  obtain ⟨hP1, hK1, hD1⟩ := hB
  rw [ht] at hP1
  have hK1 := va_K.moved hvm.symm hK1
  obtain ⟨hP, hD⟩ := va_join (wr := [(bs6, .inl (cB15, 10, .inr (.inr (.inr (.inr (fun _ => none)))))), (df7, .inr (1, [.ref dv10, .ref do911, .int 0])), (dv10, .inl (cF16, 24, .inl fv17)), (ch8, .inr (2, [.ref cp12, .ref cn13, .int 0])), (q19, .inr (4, [.int 0, .int 0, .ref nw22, .ref kp23, .int 0, .int (-1), .ref mk24, .ref co25, .int 0, .int 0, .ref se26])), (nw22, .inl (cN27, 25240, .inl now0)), (kp23, .inl (cK28, 25240, .inl fk29))]) (w1 := [(q31, .inl (cA32, 1, .inr (.inl (vp_updL (fun _ => 0) (0 : Int32).toNatClampNeg 0))))]) hP hD [0, 1, 2, 10] [3, 4, 5, 6, 7, 8, 9] rfl rfl (by decide) (by decide) hk1 hFc hP1 hD1
  generalize H1 = H at hP hS ⊢
  have hP : va_P (dC, dI) kCl [(bs6, .inl (cB15, 10, .inr (.inr (.inr (.inr (fun _ => none)))))), (df7, .inr (1, [.ref dv10, .ref do911, .int 0])), (dv10, .inl (cF16, 24, .inl fv17)), (ch8, .inr (2, [.ref cp12, .ref cn13, .int 0])), (q19, .inr (4, [.int 0, .int 0, .ref nw22, .ref kp23, .int 0, .int (-1), .ref mk24, .ref co25, .int 0, .int 0, .ref se26])), (nw22, .inl (cN27, 25240, .inl now0)), (kp23, .inl (cK28, 25240, .inl fk29)), (q31, .inl (cA32, 1, .inr (.inl (vp_updL (fun _ => 0) (0 : Int32).toNatClampNeg 0))))] H := hP
  have hD : va_D A [(bs6, .inl (cB15, 10, .inr (.inr (.inr (.inr (fun _ => none)))))), (df7, .inr (1, [.ref dv10, .ref do911, .int 0])), (dv10, .inl (cF16, 24, .inl fv17)), (ch8, .inr (2, [.ref cp12, .ref cn13, .int 0])), (q19, .inr (4, [.int 0, .int 0, .ref nw22, .ref kp23, .int 0, .int (-1), .ref mk24, .ref co25, .int 0, .int 0, .ref se26])), (nw22, .inl (cN27, 25240, .inl now0)), (kp23, .inl (cK28, 25240, .inl fk29)), (q31, .inl (cA32, 1, .inr (.inl (vp_updL (fun _ => 0) (0 : Int32).toNatClampNeg 0))))] := hD
  refine W.widen (k := 18) (n := 52931) (Nat.le_of_ble_eq_true rfl) (Nat.le_of_ble_eq_true rfl) ?_
  obtain rfl : r1005 = 0 := hr1006
  refine lv_istore (pc := 371) hx hb dL_law_371 hl (by decide) rfl (fun ls hl => ?_)
  have hl : lv_has ls 7 [(5, .int 0), (4, .int 0), (3, .ref q31), (2, .ref q19), (1, .ref q1), (0, .ref b)] := hl
  refine lv_aload_n (pc := 373) hx hb dL_law_373 rfl (lv_at hl 3 rfl) ?_
  refine lv_aload_n (pc := 374) hx hb dL_law_374 rfl (lv_at hl 5 rfl) ?_
  refine lv_iload (pc := 375) hx hb dL_law_375 (lv_at hl 1 rfl) ?_
  refine lv_iconst (pc := 377) (v := 1) hx hb dL_law_377 (by decide) ?_
  refine lv_iadd (pc := 378) hx hb dL_law_378 ?_
  refine lv_topi (fun z1008 hz1009 => ?_)
  obtain rfl : z1008 = 1 := hz1009.trans (by decide)
  refine va_sld (A := A) (pc := 379) hx hb hX hbl hbA hS (vp_in_lit 1 6 (by decide)) dL_law_379 ?_
  refine W.eq (g2 := F0 m 380 ls [.int (xs 1), .ref q19]) rfl ?_
  refine lv_aload_n (pc := 380) hx hb dL_law_380 rfl (lv_at hl 5 rfl) ?_
  refine lv_iload (pc := 381) hx hb dL_law_381 (lv_at hl 1 rfl) ?_
  refine lv_iconst (pc := 383) (v := 2) hx hb dL_law_383 (by decide) ?_
  refine lv_iadd (pc := 384) hx hb dL_law_384 ?_
  refine lv_topi (fun z1010 hz1011 => ?_)
  obtain rfl : z1010 = 2 := hz1011.trans (by decide)
  refine va_sld (A := A) (pc := 385) hx hb hX hbl hbA hS (vp_in_lit 2 6 (by decide)) dL_law_385 ?_
  refine W.eq (g2 := F0 m 386 ls [.int (xs 2), .int (xs 1), .ref q19]) rfl ?_
  have hPc := hP.sub (ws' := [(q19, .inr (4, [.int 0, .int 0, .ref nw22, .ref kp23, .int 0, .int (-1), .ref mk24, .ref co25, .int 0, .int 0, .ref se26])), (nw22, .inl (cN27, 25240, .inl now0))]) [4, 5] rfl
  have hDc := hD.sub (ws' := [(q19, .inr (4, [.int 0, .int 0, .ref nw22, .ref kp23, .int 0, .int (-1), .ref mk24, .ref co25, .int 0, .int 0, .ref se26])), (nw22, .inl (cN27, 25240, .inl now0))]) [4, 5] (by decide) rfl
  have hKc := hK.sub (tys' := [(cN27, .int)]) [3] rfl
  have hFc := va_free (wc := [(q19, .inr (4, [.int 0, .int 0, .ref nw22, .ref kp23, .int 0, .int (-1), .ref mk24, .ref co25, .int 0, .int 0, .ref se26])), (nw22, .inl (cN27, 25240, .inl now0))]) hD hS hA [4, 5] rfl
  refine va_calli (pc := 386) (va_runV (As := [.int (xs 1), .int (xs 2)]) (rest := []) ⟨hx, hb, hml, hown, hts⟩ (m_undo l dC dI H.size q19 nw22 kp23 mk24 co25 se26 0 0 cN27 (xs 1) (xs 2)) (cwV 2 hts (gV wd_432 wd_433 wd_434 wd_157 wd_431) rfl rfl rfl (by decide +kernel) ⟨Nat.le_of_ble_eq_true rfl, Nat.le_of_ble_eq_true rfl⟩) ⟨pW_blind, va_recv (q := (RM, TM, 11)) (q0 := 4) (ci := 4) hK hP rfl rfl, pW_pre hPc hKc hDc⟩ rfl rfl hl.1 rfl (lv_room (Nat.le_of_ble_eq_true rfl)) dL_law_386 ⟨Nat.le_of_ble_eq_true rfl, Nat.le_of_ble_eq_true rfl⟩) hS (fun q _ h => hFc q h) hFc (fun r1012 u t H1 locs ht hvm hr1013 hB hz1 hk1 hS => ?_)
  obtain ⟨hP1, hK1, hD1⟩ := hB
  rw [ht] at hP1
  have hK1 := va_K.moved hvm.symm hK1
  obtain ⟨hP, hD⟩ := va_join (wr := [(bs6, .inl (cB15, 10, .inr (.inr (.inr (.inr (fun _ => none)))))), (df7, .inr (1, [.ref dv10, .ref do911, .int 0])), (dv10, .inl (cF16, 24, .inl fv17)), (ch8, .inr (2, [.ref cp12, .ref cn13, .int 0])), (kp23, .inl (cK28, 25240, .inl fk29)), (q31, .inl (cA32, 1, .inr (.inl (vp_updL (fun _ => 0) (0 : Int32).toNatClampNeg 0))))]) (w1 := [(q19, .inr (4, [.int 0, .int 1, .ref nw22, .ref kp23, .int 0, .int (-1), .ref mk24, .ref co25, .int 0, .int 0, .ref se26]))]) hP hD [4, 5] [0, 1, 2, 3, 6, 7] rfl rfl (by decide) (by decide) hk1 hFc hP1 hD1
  generalize H1 = H at hP hS ⊢
  have hP : va_P (dC, dI) kCl [(bs6, .inl (cB15, 10, .inr (.inr (.inr (.inr (fun _ => none)))))), (df7, .inr (1, [.ref dv10, .ref do911, .int 0])), (dv10, .inl (cF16, 24, .inl fv17)), (ch8, .inr (2, [.ref cp12, .ref cn13, .int 0])), (kp23, .inl (cK28, 25240, .inl fk29)), (q31, .inl (cA32, 1, .inr (.inl (vp_updL (fun _ => 0) (0 : Int32).toNatClampNeg 0)))), (q19, .inr (4, [.int 0, .int 1, .ref nw22, .ref kp23, .int 0, .int (-1), .ref mk24, .ref co25, .int 0, .int 0, .ref se26]))] H := hP
  have hD : va_D A [(bs6, .inl (cB15, 10, .inr (.inr (.inr (.inr (fun _ => none)))))), (df7, .inr (1, [.ref dv10, .ref do911, .int 0])), (dv10, .inl (cF16, 24, .inl fv17)), (ch8, .inr (2, [.ref cp12, .ref cn13, .int 0])), (kp23, .inl (cK28, 25240, .inl fk29)), (q31, .inl (cA32, 1, .inr (.inl (vp_updL (fun _ => 0) (0 : Int32).toNatClampNeg 0)))), (q19, .inr (4, [.int 0, .int 1, .ref nw22, .ref kp23, .int 0, .int (-1), .ref mk24, .ref co25, .int 0, .int 0, .ref se26]))] := hD
  refine W.widen (k := 18) (n := 52931) (Nat.le_of_ble_eq_true rfl) (Nat.le_of_ble_eq_true rfl) ?_
  obtain rfl : r1012 = 0 := hr1013
  refine lv_istore (pc := 389) hx hb dL_law_389 hl (by decide) rfl (fun ls hl => ?_)
  have hl : lv_has ls 7 [(6, .int 0), (5, .int 0), (4, .int 0), (3, .ref q31), (2, .ref q19), (1, .ref q1), (0, .ref b)] := hl
  refine lv_aload_n (pc := 391) hx hb dL_law_391 rfl (lv_at hl 4 rfl) ?_
  refine vp_callSi (pc := 392) (W.runV (As := []) (rest := []) ⟨hx, hb, hml, hown, hts⟩ (m_thrown l dC dI q19 nw22 kp23 mk24 co25 se26 0 1) (cwV 0 hts (gV wd_411 wd_412 wd_413 wd_157 wd_410) rfl rfl rfl (by decide +kernel) ⟨Nat.le_of_ble_eq_true rfl, Nat.le_of_ble_eq_true rfl⟩) ⟨pR_blind, va_recv (q := (RM, TM, 11)) (q0 := 6) (ci := 4) hK hP rfl rfl, pR_pre (hP.sub (ws' := [(q19, .inr (4, [.int 0, .int 1, .ref nw22, .ref kp23, .int 0, .int (-1), .ref mk24, .ref co25, .int 0, .int 0, .ref se26]))]) [6] rfl) (hK.sub (tys' := []) [] rfl)⟩ rfl rfl hl.1 rfl (lv_room (Nat.le_of_ble_eq_true rfl)) dL_law_392 ⟨Nat.le_of_ble_eq_true rfl, Nat.le_of_ble_eq_true rfl⟩) (fun r1015 hr1016 => ?_)
  obtain rfl : r1015 = 0 := hr1016
  refine lv_iload (pc := 395) hx hb dL_law_395 (lv_at hl 1 rfl) ?_
  refine lv_icmp_eq (pc := 397) (tgt := 402) hx hb dL_law_397 rfl (fun h1017 => ?_) (fun h1017 => absurd h1017 (by decide))
  refine lv_iload (pc := 402) hx hb dL_law_402 (lv_at hl 1 rfl) ?_
  refine lv_if_ne (pc := 404) (tgt := 426) hx hb dL_law_404 rfl (fun h1018 => absurd h1018 (by decide)) (fun h1018 => ?_)
  refine lv_aload_n (pc := 407) hx hb dL_law_407 rfl (lv_at hl 3 rfl) ?_
  refine lv_iconst (pc := 408) (v := 0) hx hb dL_law_408 (by decide) ?_
  refine va_lald (D := (dC, dI)) (cl := kCl) (pc := 409) hx hb hK hP 5 5 rfl rfl (vp_in_lit 0 1 (by decide)) dL_law_409 ?_
  refine W.eq (g2 := F0 m 410 ls [.long 0]) rfl ?_
  refine lv_iload (pc := 410) hx hb dL_law_410 (lv_at hl 0 rfl) ?_
  refine lv_if_eq (pc := 412) (tgt := 419) hx hb dL_law_412 rfl (fun h1019 => ?_) (fun h1019 => absurd h1019 (by decide))
  refine lv_lconst (pc := 419) (v := 0) hx hb dL_law_419 (by decide) ?_
  refine W.lcmp (pc := 420) hx hb dL_law_420 ?_
  refine lv_topi (fun z1020 hz1021 => ?_)
  obtain rfl : z1020 = 0 := hz1021.trans (by decide)
  refine lv_if_eq (pc := 421) (tgt := 426) hx hb dL_law_421 rfl (fun h1022 => ?_) (fun h1022 => absurd h1022 (by decide))
  refine lv_goto (pc := 426) (tgt := 1763) hx hb dL_law_426 rfl ?_
  exact law_tail hx hb hr hlocks hX hbl hbA hA2 hS (lv_sub hl (l' := [(4, .int 0), (0, .ref b)]) [2, 6] rfl) (Nat.le_of_ble_eq_true rfl) (Nat.le_of_ble_eq_true rfl)
set_option maxHeartbeats 4000000 in
set_option maxRecDepth 100000 in
theorem lawcase_4 {p : Program} {l : Launch} {e : Env} {s : State} {m : MethodId} {below : List Frame} {meth : Method} {c : Code} {b : Nat} {xs : Nat → Int32} {A : Nat → Prop} {H : Heap} {locs : List Loc} {ls : Array Slot} {dC : Nat → ClassId} {dI : Nat → Nat → Nat} {q1 : Nat} {rt4 : Nat} {dr5 : Nat} {bs6 : Nat} {df7 : Nat} {ch8 : Nat} {pg9 : Nat} {cR14 : ClassId} {cB15 : ClassId} {dv10 : Nat} {do911 : Nat} {cF16 : ClassId} {fv17 : Nat → Int32} {cp12 : Nat} {cn13 : Nat} {q19 : Nat} {nw22 : Nat} {kp23 : Nat} {mk24 : Nat} {co25 : Nat} {se26 : Nat} {cN27 : ClassId} {cK28 : ClassId} {fk29 : Nat → Int32} {q31 : Nat} {cA32 : ClassId} (h : lawS p l s m meth c b xs dC dI A q1 rt4 dr5 bs6 df7 ch8 pg9 cR14 cB15 dv10 do911 cF16 fv17 cp12 cn13 q19 nw22 kp23 mk24 co25 se26 cN27 cK28 fk29 q31 cA32 H locs ls) : W p l e room_1 s m #[Value.ref b] below meth c H locs 18 52931 (lw_Z below #[Value.ref b] s) (F0 m 429 ls []) := by
  obtain ⟨hx, hb, hr, hml, hown, hts, hX, hbl, hbA, hlocks, hA, hA2, hP, hD, hK, hS, hl, hXE, hfl, hfk⟩ := h
  refine lv_aload_n (pc := 429) hx hb dL_law_429 rfl (lv_at hl 3 rfl) ?_
  refine lv_aload_n (pc := 430) hx hb dL_law_430 rfl (lv_at hl 4 rfl) ?_
  refine lv_iload (pc := 431) hx hb dL_law_431 (lv_at hl 0 rfl) ?_
  refine lv_iconst (pc := 433) (v := 1) hx hb dL_law_433 (by decide) ?_
  refine lv_iadd (pc := 434) hx hb dL_law_434 ?_
  refine lv_topi (fun z1001 hz1002 => ?_)
  obtain rfl : z1001 = 1 := hz1002.trans (by decide)
  refine va_sld (A := A) (pc := 435) hx hb hX hbl hbA hS (vp_in_lit 1 6 (by decide)) dL_law_435 ?_
  refine W.eq (g2 := F0 m 436 ls [.int (xs 1), .ref q1]) rfl ?_
  refine lv_aload_n (pc := 436) hx hb dL_law_436 rfl (lv_at hl 4 rfl) ?_
  refine lv_iload (pc := 437) hx hb dL_law_437 (lv_at hl 0 rfl) ?_
  refine lv_iconst (pc := 439) (v := 2) hx hb dL_law_439 (by decide) ?_
  refine lv_iadd (pc := 440) hx hb dL_law_440 ?_
  refine lv_topi (fun z1003 hz1004 => ?_)
  obtain rfl : z1003 = 2 := hz1004.trans (by decide)
  refine va_sld (A := A) (pc := 441) hx hb hX hbl hbA hS (vp_in_lit 2 6 (by decide)) dL_law_441 ?_
  refine W.eq (g2 := F0 m 442 ls [.int (xs 2), .int (xs 1), .ref q1]) rfl ?_
  refine lv_aload_n (pc := 442) hx hb dL_law_442 rfl (lv_at hl 4 rfl) ?_
  refine lv_iload (pc := 443) hx hb dL_law_443 (lv_at hl 0 rfl) ?_
  refine lv_iconst (pc := 445) (v := 3) hx hb dL_law_445 (by decide) ?_
  refine lv_iadd (pc := 446) hx hb dL_law_446 ?_
  refine lv_topi (fun z1005 hz1006 => ?_)
  obtain rfl : z1005 = 3 := hz1006.trans (by decide)
  refine va_sld (A := A) (pc := 447) hx hb hX hbl hbA hS (vp_in_lit 3 6 (by decide)) dL_law_447 ?_
  refine W.eq (g2 := F0 m 448 ls [.int (xs 3), .int (xs 2), .int (xs 1), .ref q1]) rfl ?_
  refine lv_aload_n (pc := 448) hx hb dL_law_448 rfl (lv_at hl 4 rfl) ?_
  refine lv_iload (pc := 449) hx hb dL_law_449 (lv_at hl 0 rfl) ?_
  refine lv_iconst (pc := 451) (v := 4) hx hb dL_law_451 (by decide) ?_
  refine lv_iadd (pc := 452) hx hb dL_law_452 ?_
  refine lv_topi (fun z1007 hz1008 => ?_)
  obtain rfl : z1007 = 4 := hz1008.trans (by decide)
  refine va_sld (A := A) (pc := 453) hx hb hX hbl hbA hS (vp_in_lit 4 6 (by decide)) dL_law_453 ?_
  refine W.eq (g2 := F0 m 454 ls [.int (xs 4), .int (xs 3), .int (xs 2), .int (xs 1), .ref q1]) rfl ?_
  refine lv_aload_n (pc := 454) hx hb dL_law_454 rfl (lv_at hl 1 rfl) ?_
  have hPc := hP.sub (ws' := [(q1, .inr (0, [.ref rt4, .ref dr5, .int 0, .int 0, .ref bs6, .ref df7, .ref ch8, .ref pg9, .int 0])), (rt4, .inl (cR14, 16, .inl (fun _ => 0))), (pg9, .inr (3, [.int 400, .int 0, .int 0, .int 0, .int 0, .int 0])), (q31, .inl (cA32, 1, .inr (.inl (fun _ => 0))))]) [0, 1, 2, 10] rfl
  have hDc := hD.sub (ws' := [(q1, .inr (0, [.ref rt4, .ref dr5, .int 0, .int 0, .ref bs6, .ref df7, .ref ch8, .ref pg9, .int 0])), (rt4, .inl (cR14, 16, .inl (fun _ => 0))), (pg9, .inr (3, [.int 400, .int 0, .int 0, .int 0, .int 0, .int 0])), (q31, .inl (cA32, 1, .inr (.inl (fun _ => 0))))]) [0, 1, 2, 10] (by decide) rfl
  have hKc := hK.sub (tys' := [(cR14, .int), (cA32, .long)]) [0, 5] rfl
  have hFc := va_free (wc := [(q1, .inr (0, [.ref rt4, .ref dr5, .int 0, .int 0, .ref bs6, .ref df7, .ref ch8, .ref pg9, .int 0])), (rt4, .inl (cR14, 16, .inl (fun _ => 0))), (pg9, .inr (3, [.int 400, .int 0, .int 0, .int 0, .int 0, .int 0])), (q31, .inl (cA32, 1, .inr (.inl (fun _ => 0))))]) hD hS hA [0, 1, 2, 10] rfl
  refine va_calli (pc := 455) (hxR (As := [.ref q1, .int (xs 1), .int (xs 2), .int (xs 3), .int (xs 4), .ref q31]) (rest := []) ⟨hx, hb, hml, hown, hts⟩ (l_put l dC dI H.size q1 rt4 dr5 bs6 df7 ch8 pg9 0 cR14 q31 cA32 (fun _ => 0) (xs 1) (xs 2) (xs 3) (xs 4)) 6 wd_436 wd_437 wd_405 wd_435 rfl rfl ⟨Nat.le_of_ble_eq_true rfl, Nat.le_of_ble_eq_true rfl⟩ (by decide +kernel) ⟨pW_blind, pW_pre hPc hKc hDc⟩ rfl rfl hl.1 rfl (lv_room (Nat.le_of_ble_eq_true rfl)) dL_law_455 ⟨Nat.le_of_ble_eq_true rfl, Nat.le_of_ble_eq_true rfl⟩) hS (fun q _ h => hFc q h) hFc (fun r1009 u t H1 locs ht hvm hr1010 hB hz1 hk1 hS => ?_)
  obtain ⟨hP1, hK1, hD1⟩ := hB
  rw [ht] at hP1
  have hK1 := va_K.moved hvm.symm hK1
  obtain ⟨hP, hD⟩ := va_join (wr := [(bs6, .inl (cB15, 10, .inr (.inr (.inr (.inr (fun _ => none)))))), (df7, .inr (1, [.ref dv10, .ref do911, .int 0])), (dv10, .inl (cF16, 24, .inl fv17)), (ch8, .inr (2, [.ref cp12, .ref cn13, .int 0])), (q19, .inr (4, [.int 0, .int 0, .ref nw22, .ref kp23, .int 0, .int (-1), .ref mk24, .ref co25, .int 0, .int 0, .ref se26])), (nw22, .inl (cN27, 25240, .inl now0)), (kp23, .inl (cK28, 25240, .inl fk29))]) (w1 := [(q31, .inl (cA32, 1, .inr (.inl (vp_updL (fun _ => 0) (0 : Int32).toNatClampNeg 0))))]) hP hD [0, 1, 2, 10] [3, 4, 5, 6, 7, 8, 9] rfl rfl (by decide) (by decide) hk1 hFc hP1 hD1
  generalize H1 = H at hP hS ⊢
  have hP : va_P (dC, dI) kCl [(bs6, .inl (cB15, 10, .inr (.inr (.inr (.inr (fun _ => none)))))), (df7, .inr (1, [.ref dv10, .ref do911, .int 0])), (dv10, .inl (cF16, 24, .inl fv17)), (ch8, .inr (2, [.ref cp12, .ref cn13, .int 0])), (q19, .inr (4, [.int 0, .int 0, .ref nw22, .ref kp23, .int 0, .int (-1), .ref mk24, .ref co25, .int 0, .int 0, .ref se26])), (nw22, .inl (cN27, 25240, .inl now0)), (kp23, .inl (cK28, 25240, .inl fk29)), (q31, .inl (cA32, 1, .inr (.inl (vp_updL (fun _ => 0) (0 : Int32).toNatClampNeg 0))))] H := hP
  have hD : va_D A [(bs6, .inl (cB15, 10, .inr (.inr (.inr (.inr (fun _ => none)))))), (df7, .inr (1, [.ref dv10, .ref do911, .int 0])), (dv10, .inl (cF16, 24, .inl fv17)), (ch8, .inr (2, [.ref cp12, .ref cn13, .int 0])), (q19, .inr (4, [.int 0, .int 0, .ref nw22, .ref kp23, .int 0, .int (-1), .ref mk24, .ref co25, .int 0, .int 0, .ref se26])), (nw22, .inl (cN27, 25240, .inl now0)), (kp23, .inl (cK28, 25240, .inl fk29)), (q31, .inl (cA32, 1, .inr (.inl (vp_updL (fun _ => 0) (0 : Int32).toNatClampNeg 0))))] := hD
  refine W.widen (k := 18) (n := 52931) (Nat.le_of_ble_eq_true rfl) (Nat.le_of_ble_eq_true rfl) ?_
  obtain rfl : r1009 = 0 := hr1010
  refine lv_istore (pc := 458) hx hb dL_law_458 hl (by decide) rfl (fun ls hl => ?_)
  have hl : lv_has ls 7 [(5, .int 0), (4, .int 0), (3, .ref q31), (2, .ref q19), (1, .ref q1), (0, .ref b)] := hl
  refine lv_aload_n (pc := 460) hx hb dL_law_460 rfl (lv_at hl 3 rfl) ?_
  refine lv_aload_n (pc := 461) hx hb dL_law_461 rfl (lv_at hl 5 rfl) ?_
  refine lv_iload (pc := 462) hx hb dL_law_462 (lv_at hl 1 rfl) ?_
  refine lv_iconst (pc := 464) (v := 1) hx hb dL_law_464 (by decide) ?_
  refine lv_iadd (pc := 465) hx hb dL_law_465 ?_
  refine lv_topi (fun z1012 hz1013 => ?_)
  obtain rfl : z1012 = 1 := hz1013.trans (by decide)
  refine va_sld (A := A) (pc := 466) hx hb hX hbl hbA hS (vp_in_lit 1 6 (by decide)) dL_law_466 ?_
  refine W.eq (g2 := F0 m 467 ls [.int (xs 1), .ref q19]) rfl ?_
  refine lv_aload_n (pc := 467) hx hb dL_law_467 rfl (lv_at hl 5 rfl) ?_
  refine lv_iload (pc := 468) hx hb dL_law_468 (lv_at hl 1 rfl) ?_
  refine lv_iconst (pc := 470) (v := 2) hx hb dL_law_470 (by decide) ?_
  refine lv_iadd (pc := 471) hx hb dL_law_471 ?_
  refine lv_topi (fun z1014 hz1015 => ?_)
  obtain rfl : z1014 = 2 := hz1015.trans (by decide)
  refine va_sld (A := A) (pc := 472) hx hb hX hbl hbA hS (vp_in_lit 2 6 (by decide)) dL_law_472 ?_
  refine W.eq (g2 := F0 m 473 ls [.int (xs 2), .int (xs 1), .ref q19]) rfl ?_
  refine lv_aload_n (pc := 473) hx hb dL_law_473 rfl (lv_at hl 5 rfl) ?_
  refine lv_iload (pc := 474) hx hb dL_law_474 (lv_at hl 1 rfl) ?_
  refine lv_iconst (pc := 476) (v := 3) hx hb dL_law_476 (by decide) ?_
  refine lv_iadd (pc := 477) hx hb dL_law_477 ?_
  refine lv_topi (fun z1016 hz1017 => ?_)
  obtain rfl : z1016 = 3 := hz1017.trans (by decide)
  refine va_sld (A := A) (pc := 478) hx hb hX hbl hbA hS (vp_in_lit 3 6 (by decide)) dL_law_478 ?_
  refine W.eq (g2 := F0 m 479 ls [.int (xs 3), .int (xs 2), .int (xs 1), .ref q19]) rfl ?_
  refine lv_aload_n (pc := 479) hx hb dL_law_479 rfl (lv_at hl 5 rfl) ?_
  refine lv_iload (pc := 480) hx hb dL_law_480 (lv_at hl 1 rfl) ?_
  refine lv_iconst (pc := 482) (v := 4) hx hb dL_law_482 (by decide) ?_
  refine lv_iadd (pc := 483) hx hb dL_law_483 ?_
  refine lv_topi (fun z1018 hz1019 => ?_)
  obtain rfl : z1018 = 4 := hz1019.trans (by decide)
  refine va_sld (A := A) (pc := 484) hx hb hX hbl hbA hS (vp_in_lit 4 6 (by decide)) dL_law_484 ?_
  refine W.eq (g2 := F0 m 485 ls [.int (xs 4), .int (xs 3), .int (xs 2), .int (xs 1), .ref q19]) rfl ?_
  have hPc := hP.sub (ws' := [(q19, .inr (4, [.int 0, .int 0, .ref nw22, .ref kp23, .int 0, .int (-1), .ref mk24, .ref co25, .int 0, .int 0, .ref se26])), (nw22, .inl (cN27, 25240, .inl now0))]) [4, 5] rfl
  have hDc := hD.sub (ws' := [(q19, .inr (4, [.int 0, .int 0, .ref nw22, .ref kp23, .int 0, .int (-1), .ref mk24, .ref co25, .int 0, .int 0, .ref se26])), (nw22, .inl (cN27, 25240, .inl now0))]) [4, 5] (by decide) rfl
  have hKc := hK.sub (tys' := [(cN27, .int)]) [3] rfl
  have hFc := va_free (wc := [(q19, .inr (4, [.int 0, .int 0, .ref nw22, .ref kp23, .int 0, .int (-1), .ref mk24, .ref co25, .int 0, .int 0, .ref se26])), (nw22, .inl (cN27, 25240, .inl now0))]) hD hS hA [4, 5] rfl
  refine va_calli (pc := 485) (va_runV (As := [.int (xs 1), .int (xs 2), .int (xs 3), .int (xs 4)]) (rest := []) ⟨hx, hb, hml, hown, hts⟩ (m_put l dC dI H.size q19 nw22 kp23 mk24 co25 se26 0 0 cN27 (xs 1) (xs 2) (xs 3) (xs 4)) (cwV 4 hts (gV wd_439 wd_440 wd_441 wd_157 wd_438) rfl rfl rfl (by decide +kernel) ⟨Nat.le_of_ble_eq_true rfl, Nat.le_of_ble_eq_true rfl⟩) ⟨pW_blind, va_recv (q := (RM, TM, 11)) (q0 := 4) (ci := 4) hK hP rfl rfl, pW_pre hPc hKc hDc⟩ rfl rfl hl.1 rfl (lv_room (Nat.le_of_ble_eq_true rfl)) dL_law_485 ⟨Nat.le_of_ble_eq_true rfl, Nat.le_of_ble_eq_true rfl⟩) hS (fun q _ h => hFc q h) hFc (fun r1020 u t H1 locs ht hvm hr1021 hB hz1 hk1 hS => ?_)
  obtain ⟨hP1, hK1, hD1⟩ := hB
  rw [ht] at hP1
  have hK1 := va_K.moved hvm.symm hK1
  obtain ⟨hP, hD⟩ := va_join (wr := [(bs6, .inl (cB15, 10, .inr (.inr (.inr (.inr (fun _ => none)))))), (df7, .inr (1, [.ref dv10, .ref do911, .int 0])), (dv10, .inl (cF16, 24, .inl fv17)), (ch8, .inr (2, [.ref cp12, .ref cn13, .int 0])), (kp23, .inl (cK28, 25240, .inl fk29)), (q31, .inl (cA32, 1, .inr (.inl (vp_updL (fun _ => 0) (0 : Int32).toNatClampNeg 0))))]) (w1 := [(q19, .inr (4, [.int 0, .int 1, .ref nw22, .ref kp23, .int 0, .int (-1), .ref mk24, .ref co25, .int 0, .int 0, .ref se26]))]) hP hD [4, 5] [0, 1, 2, 3, 6, 7] rfl rfl (by decide) (by decide) hk1 hFc hP1 hD1
  generalize H1 = H at hP hS ⊢
  have hP : va_P (dC, dI) kCl [(bs6, .inl (cB15, 10, .inr (.inr (.inr (.inr (fun _ => none)))))), (df7, .inr (1, [.ref dv10, .ref do911, .int 0])), (dv10, .inl (cF16, 24, .inl fv17)), (ch8, .inr (2, [.ref cp12, .ref cn13, .int 0])), (kp23, .inl (cK28, 25240, .inl fk29)), (q31, .inl (cA32, 1, .inr (.inl (vp_updL (fun _ => 0) (0 : Int32).toNatClampNeg 0)))), (q19, .inr (4, [.int 0, .int 1, .ref nw22, .ref kp23, .int 0, .int (-1), .ref mk24, .ref co25, .int 0, .int 0, .ref se26]))] H := hP
  have hD : va_D A [(bs6, .inl (cB15, 10, .inr (.inr (.inr (.inr (fun _ => none)))))), (df7, .inr (1, [.ref dv10, .ref do911, .int 0])), (dv10, .inl (cF16, 24, .inl fv17)), (ch8, .inr (2, [.ref cp12, .ref cn13, .int 0])), (kp23, .inl (cK28, 25240, .inl fk29)), (q31, .inl (cA32, 1, .inr (.inl (vp_updL (fun _ => 0) (0 : Int32).toNatClampNeg 0)))), (q19, .inr (4, [.int 0, .int 1, .ref nw22, .ref kp23, .int 0, .int (-1), .ref mk24, .ref co25, .int 0, .int 0, .ref se26]))] := hD
  refine W.widen (k := 18) (n := 52931) (Nat.le_of_ble_eq_true rfl) (Nat.le_of_ble_eq_true rfl) ?_
  obtain rfl : r1020 = 0 := hr1021
  refine lv_istore (pc := 488) hx hb dL_law_488 hl (by decide) rfl (fun ls hl => ?_)
  have hl : lv_has ls 7 [(6, .int 0), (5, .int 0), (4, .int 0), (3, .ref q31), (2, .ref q19), (1, .ref q1), (0, .ref b)] := hl
  refine lv_aload_n (pc := 490) hx hb dL_law_490 rfl (lv_at hl 4 rfl) ?_
  refine vp_callSi (pc := 491) (W.runV (As := []) (rest := []) ⟨hx, hb, hml, hown, hts⟩ (m_thrown l dC dI q19 nw22 kp23 mk24 co25 se26 0 1) (cwV 0 hts (gV wd_411 wd_412 wd_413 wd_157 wd_410) rfl rfl rfl (by decide +kernel) ⟨Nat.le_of_ble_eq_true rfl, Nat.le_of_ble_eq_true rfl⟩) ⟨pR_blind, va_recv (q := (RM, TM, 11)) (q0 := 6) (ci := 4) hK hP rfl rfl, pR_pre (hP.sub (ws' := [(q19, .inr (4, [.int 0, .int 1, .ref nw22, .ref kp23, .int 0, .int (-1), .ref mk24, .ref co25, .int 0, .int 0, .ref se26]))]) [6] rfl) (hK.sub (tys' := []) [] rfl)⟩ rfl rfl hl.1 rfl (lv_room (Nat.le_of_ble_eq_true rfl)) dL_law_491 ⟨Nat.le_of_ble_eq_true rfl, Nat.le_of_ble_eq_true rfl⟩) (fun r1023 hr1024 => ?_)
  obtain rfl : r1023 = 0 := hr1024
  refine lv_iload (pc := 494) hx hb dL_law_494 (lv_at hl 1 rfl) ?_
  refine lv_icmp_eq (pc := 496) (tgt := 501) hx hb dL_law_496 rfl (fun h1025 => ?_) (fun h1025 => absurd h1025 (by decide))
  refine lv_iload (pc := 501) hx hb dL_law_501 (lv_at hl 1 rfl) ?_
  refine lv_if_ne (pc := 503) (tgt := 525) hx hb dL_law_503 rfl (fun h1026 => absurd h1026 (by decide)) (fun h1026 => ?_)
  refine lv_aload_n (pc := 506) hx hb dL_law_506 rfl (lv_at hl 3 rfl) ?_
  refine lv_iconst (pc := 507) (v := 0) hx hb dL_law_507 (by decide) ?_
  refine va_lald (D := (dC, dI)) (cl := kCl) (pc := 508) hx hb hK hP 5 5 rfl rfl (vp_in_lit 0 1 (by decide)) dL_law_508 ?_
  refine W.eq (g2 := F0 m 509 ls [.long 0]) rfl ?_
  refine lv_iload (pc := 509) hx hb dL_law_509 (lv_at hl 0 rfl) ?_
  refine lv_if_eq (pc := 511) (tgt := 518) hx hb dL_law_511 rfl (fun h1027 => ?_) (fun h1027 => absurd h1027 (by decide))
  refine lv_lconst (pc := 518) (v := 0) hx hb dL_law_518 (by decide) ?_
  refine W.lcmp (pc := 519) hx hb dL_law_519 ?_
  refine lv_topi (fun z1028 hz1029 => ?_)
  obtain rfl : z1028 = 0 := hz1029.trans (by decide)
  refine lv_if_eq (pc := 520) (tgt := 525) hx hb dL_law_520 rfl (fun h1030 => ?_) (fun h1030 => absurd h1030 (by decide))
  refine lv_goto (pc := 525) (tgt := 1763) hx hb dL_law_525 rfl ?_
  exact law_tail hx hb hr hlocks hX hbl hbA hA2 hS (lv_sub hl (l' := [(4, .int 0), (0, .ref b)]) [2, 6] rfl) (Nat.le_of_ble_eq_true rfl) (Nat.le_of_ble_eq_true rfl)
set_option maxHeartbeats 4000000 in
set_option maxRecDepth 100000 in
theorem lawcase_5 {p : Program} {l : Launch} {e : Env} {s : State} {m : MethodId} {below : List Frame} {meth : Method} {c : Code} {b : Nat} {xs : Nat → Int32} {A : Nat → Prop} {H : Heap} {locs : List Loc} {ls : Array Slot} {dC : Nat → ClassId} {dI : Nat → Nat → Nat} {q1 : Nat} {rt4 : Nat} {dr5 : Nat} {bs6 : Nat} {df7 : Nat} {ch8 : Nat} {pg9 : Nat} {cR14 : ClassId} {cB15 : ClassId} {dv10 : Nat} {do911 : Nat} {cF16 : ClassId} {fv17 : Nat → Int32} {cp12 : Nat} {cn13 : Nat} {q19 : Nat} {nw22 : Nat} {kp23 : Nat} {mk24 : Nat} {co25 : Nat} {se26 : Nat} {cN27 : ClassId} {cK28 : ClassId} {fk29 : Nat → Int32} {q31 : Nat} {cA32 : ClassId} (h : lawS p l s m meth c b xs dC dI A q1 rt4 dr5 bs6 df7 ch8 pg9 cR14 cB15 dv10 do911 cF16 fv17 cp12 cn13 q19 nw22 kp23 mk24 co25 se26 cN27 cK28 fk29 q31 cA32 H locs ls) : W p l e room_1 s m #[Value.ref b] below meth c H locs 18 52931 (lw_Z below #[Value.ref b] s) (F0 m 528 ls []) := by
  obtain ⟨hx, hb, hr, hml, hown, hts, hX, hbl, hbA, hlocks, hA, hA2, hP, hD, hK, hS, hl, hXE, hfl, hfk⟩ := h
  refine lv_aload_n (pc := 528) hx hb dL_law_528 rfl (lv_at hl 3 rfl) ?_
  refine lv_aload_n (pc := 529) hx hb dL_law_529 rfl (lv_at hl 4 rfl) ?_
  refine lv_iload (pc := 530) hx hb dL_law_530 (lv_at hl 0 rfl) ?_
  refine lv_iconst (pc := 532) (v := 1) hx hb dL_law_532 (by decide) ?_
  refine lv_iadd (pc := 533) hx hb dL_law_533 ?_
  refine lv_topi (fun z1001 hz1002 => ?_)
  obtain rfl : z1001 = 1 := hz1002.trans (by decide)
  refine va_sld (A := A) (pc := 534) hx hb hX hbl hbA hS (vp_in_lit 1 6 (by decide)) dL_law_534 ?_
  refine W.eq (g2 := F0 m 535 ls [.int (xs 1), .ref q1]) rfl ?_
  refine lv_aload_n (pc := 535) hx hb dL_law_535 rfl (lv_at hl 4 rfl) ?_
  refine lv_iload (pc := 536) hx hb dL_law_536 (lv_at hl 0 rfl) ?_
  refine lv_iconst (pc := 538) (v := 2) hx hb dL_law_538 (by decide) ?_
  refine lv_iadd (pc := 539) hx hb dL_law_539 ?_
  refine lv_topi (fun z1003 hz1004 => ?_)
  obtain rfl : z1003 = 2 := hz1004.trans (by decide)
  refine va_sld (A := A) (pc := 540) hx hb hX hbl hbA hS (vp_in_lit 2 6 (by decide)) dL_law_540 ?_
  refine W.eq (g2 := F0 m 541 ls [.int (xs 2), .int (xs 1), .ref q1]) rfl ?_
  refine lv_aload_n (pc := 541) hx hb dL_law_541 rfl (lv_at hl 4 rfl) ?_
  refine lv_iload (pc := 542) hx hb dL_law_542 (lv_at hl 0 rfl) ?_
  refine lv_iconst (pc := 544) (v := 3) hx hb dL_law_544 (by decide) ?_
  refine lv_iadd (pc := 545) hx hb dL_law_545 ?_
  refine lv_topi (fun z1005 hz1006 => ?_)
  obtain rfl : z1005 = 3 := hz1006.trans (by decide)
  refine va_sld (A := A) (pc := 546) hx hb hX hbl hbA hS (vp_in_lit 3 6 (by decide)) dL_law_546 ?_
  refine W.eq (g2 := F0 m 547 ls [.int (xs 3), .int (xs 2), .int (xs 1), .ref q1]) rfl ?_
  refine lv_aload_n (pc := 547) hx hb dL_law_547 rfl (lv_at hl 1 rfl) ?_
  have hPc := hP.sub (ws' := [(q1, .inr (0, [.ref rt4, .ref dr5, .int 0, .int 0, .ref bs6, .ref df7, .ref ch8, .ref pg9, .int 0])), (rt4, .inl (cR14, 16, .inl (fun _ => 0))), (pg9, .inr (3, [.int 400, .int 0, .int 0, .int 0, .int 0, .int 0])), (q31, .inl (cA32, 1, .inr (.inl (fun _ => 0))))]) [0, 1, 2, 10] rfl
  have hDc := hD.sub (ws' := [(q1, .inr (0, [.ref rt4, .ref dr5, .int 0, .int 0, .ref bs6, .ref df7, .ref ch8, .ref pg9, .int 0])), (rt4, .inl (cR14, 16, .inl (fun _ => 0))), (pg9, .inr (3, [.int 400, .int 0, .int 0, .int 0, .int 0, .int 0])), (q31, .inl (cA32, 1, .inr (.inl (fun _ => 0))))]) [0, 1, 2, 10] (by decide) rfl
  have hKc := hK.sub (tys' := [(cR14, .int), (cA32, .long)]) [0, 5] rfl
  have hFc := va_free (wc := [(q1, .inr (0, [.ref rt4, .ref dr5, .int 0, .int 0, .ref bs6, .ref df7, .ref ch8, .ref pg9, .int 0])), (rt4, .inl (cR14, 16, .inl (fun _ => 0))), (pg9, .inr (3, [.int 400, .int 0, .int 0, .int 0, .int 0, .int 0])), (q31, .inl (cA32, 1, .inr (.inl (fun _ => 0))))]) hD hS hA [0, 1, 2, 10] rfl
  refine va_calli (pc := 548) (hxR (As := [.ref q1, .int (xs 1), .int (xs 2), .int (xs 3), .ref q31]) (rest := []) ⟨hx, hb, hml, hown, hts⟩ (l_resize l dC dI H.size q1 rt4 dr5 bs6 df7 ch8 pg9 0 cR14 q31 cA32 (fun _ => 0) (xs 1) (xs 2) (xs 3)) 5 wd_443 wd_444 wd_405 wd_442 rfl rfl ⟨Nat.le_of_ble_eq_true rfl, Nat.le_of_ble_eq_true rfl⟩ (by decide +kernel) ⟨pW_blind, pW_pre hPc hKc hDc⟩ rfl rfl hl.1 rfl (lv_room (Nat.le_of_ble_eq_true rfl)) dL_law_548 ⟨Nat.le_of_ble_eq_true rfl, Nat.le_of_ble_eq_true rfl⟩) hS (fun q _ h => hFc q h) hFc (fun r1007 u t H1 locs ht hvm hr1008 hB hz1 hk1 hS => ?_)
  obtain ⟨hP1, hK1, hD1⟩ := hB
  rw [ht] at hP1
  have hK1 := va_K.moved hvm.symm hK1
  obtain ⟨hP, hD⟩ := va_join (wr := [(bs6, .inl (cB15, 10, .inr (.inr (.inr (.inr (fun _ => none)))))), (df7, .inr (1, [.ref dv10, .ref do911, .int 0])), (dv10, .inl (cF16, 24, .inl fv17)), (ch8, .inr (2, [.ref cp12, .ref cn13, .int 0])), (q19, .inr (4, [.int 0, .int 0, .ref nw22, .ref kp23, .int 0, .int (-1), .ref mk24, .ref co25, .int 0, .int 0, .ref se26])), (nw22, .inl (cN27, 25240, .inl now0)), (kp23, .inl (cK28, 25240, .inl fk29))]) (w1 := [(q31, .inl (cA32, 1, .inr (.inl (vp_updL (fun _ => 0) (0 : Int32).toNatClampNeg 0))))]) hP hD [0, 1, 2, 10] [3, 4, 5, 6, 7, 8, 9] rfl rfl (by decide) (by decide) hk1 hFc hP1 hD1
  generalize H1 = H at hP hS ⊢
  have hP : va_P (dC, dI) kCl [(bs6, .inl (cB15, 10, .inr (.inr (.inr (.inr (fun _ => none)))))), (df7, .inr (1, [.ref dv10, .ref do911, .int 0])), (dv10, .inl (cF16, 24, .inl fv17)), (ch8, .inr (2, [.ref cp12, .ref cn13, .int 0])), (q19, .inr (4, [.int 0, .int 0, .ref nw22, .ref kp23, .int 0, .int (-1), .ref mk24, .ref co25, .int 0, .int 0, .ref se26])), (nw22, .inl (cN27, 25240, .inl now0)), (kp23, .inl (cK28, 25240, .inl fk29)), (q31, .inl (cA32, 1, .inr (.inl (vp_updL (fun _ => 0) (0 : Int32).toNatClampNeg 0))))] H := hP
  have hD : va_D A [(bs6, .inl (cB15, 10, .inr (.inr (.inr (.inr (fun _ => none)))))), (df7, .inr (1, [.ref dv10, .ref do911, .int 0])), (dv10, .inl (cF16, 24, .inl fv17)), (ch8, .inr (2, [.ref cp12, .ref cn13, .int 0])), (q19, .inr (4, [.int 0, .int 0, .ref nw22, .ref kp23, .int 0, .int (-1), .ref mk24, .ref co25, .int 0, .int 0, .ref se26])), (nw22, .inl (cN27, 25240, .inl now0)), (kp23, .inl (cK28, 25240, .inl fk29)), (q31, .inl (cA32, 1, .inr (.inl (vp_updL (fun _ => 0) (0 : Int32).toNatClampNeg 0))))] := hD
  refine W.widen (k := 18) (n := 52931) (Nat.le_of_ble_eq_true rfl) (Nat.le_of_ble_eq_true rfl) ?_
  obtain rfl : r1007 = 0 := hr1008
  refine lv_istore (pc := 551) hx hb dL_law_551 hl (by decide) rfl (fun ls hl => ?_)
  have hl : lv_has ls 7 [(5, .int 0), (4, .int 0), (3, .ref q31), (2, .ref q19), (1, .ref q1), (0, .ref b)] := hl
  refine lv_aload_n (pc := 553) hx hb dL_law_553 rfl (lv_at hl 3 rfl) ?_
  refine lv_aload_n (pc := 554) hx hb dL_law_554 rfl (lv_at hl 5 rfl) ?_
  refine lv_iload (pc := 555) hx hb dL_law_555 (lv_at hl 1 rfl) ?_
  refine lv_iconst (pc := 557) (v := 1) hx hb dL_law_557 (by decide) ?_
  refine lv_iadd (pc := 558) hx hb dL_law_558 ?_
  refine lv_topi (fun z1010 hz1011 => ?_)
  obtain rfl : z1010 = 1 := hz1011.trans (by decide)
  refine va_sld (A := A) (pc := 559) hx hb hX hbl hbA hS (vp_in_lit 1 6 (by decide)) dL_law_559 ?_
  refine W.eq (g2 := F0 m 560 ls [.int (xs 1), .ref q19]) rfl ?_
  refine lv_aload_n (pc := 560) hx hb dL_law_560 rfl (lv_at hl 5 rfl) ?_
  refine lv_iload (pc := 561) hx hb dL_law_561 (lv_at hl 1 rfl) ?_
  refine lv_iconst (pc := 563) (v := 2) hx hb dL_law_563 (by decide) ?_
  refine lv_iadd (pc := 564) hx hb dL_law_564 ?_
  refine lv_topi (fun z1012 hz1013 => ?_)
  obtain rfl : z1012 = 2 := hz1013.trans (by decide)
  refine va_sld (A := A) (pc := 565) hx hb hX hbl hbA hS (vp_in_lit 2 6 (by decide)) dL_law_565 ?_
  refine W.eq (g2 := F0 m 566 ls [.int (xs 2), .int (xs 1), .ref q19]) rfl ?_
  refine lv_aload_n (pc := 566) hx hb dL_law_566 rfl (lv_at hl 5 rfl) ?_
  refine lv_iload (pc := 567) hx hb dL_law_567 (lv_at hl 1 rfl) ?_
  refine lv_iconst (pc := 569) (v := 3) hx hb dL_law_569 (by decide) ?_
  refine lv_iadd (pc := 570) hx hb dL_law_570 ?_
  refine lv_topi (fun z1014 hz1015 => ?_)
  obtain rfl : z1014 = 3 := hz1015.trans (by decide)
  refine va_sld (A := A) (pc := 571) hx hb hX hbl hbA hS (vp_in_lit 3 6 (by decide)) dL_law_571 ?_
  refine W.eq (g2 := F0 m 572 ls [.int (xs 3), .int (xs 2), .int (xs 1), .ref q19]) rfl ?_
  have hPc := hP.sub (ws' := [(q19, .inr (4, [.int 0, .int 0, .ref nw22, .ref kp23, .int 0, .int (-1), .ref mk24, .ref co25, .int 0, .int 0, .ref se26])), (nw22, .inl (cN27, 25240, .inl now0))]) [4, 5] rfl
  have hDc := hD.sub (ws' := [(q19, .inr (4, [.int 0, .int 0, .ref nw22, .ref kp23, .int 0, .int (-1), .ref mk24, .ref co25, .int 0, .int 0, .ref se26])), (nw22, .inl (cN27, 25240, .inl now0))]) [4, 5] (by decide) rfl
  have hKc := hK.sub (tys' := [(cN27, .int)]) [3] rfl
  have hFc := va_free (wc := [(q19, .inr (4, [.int 0, .int 0, .ref nw22, .ref kp23, .int 0, .int (-1), .ref mk24, .ref co25, .int 0, .int 0, .ref se26])), (nw22, .inl (cN27, 25240, .inl now0))]) hD hS hA [4, 5] rfl
  refine va_calli (pc := 572) (va_runV (As := [.int (xs 1), .int (xs 2), .int (xs 3)]) (rest := []) ⟨hx, hb, hml, hown, hts⟩ (m_resize l dC dI H.size q19 nw22 kp23 mk24 co25 se26 0 0 cN27 (xs 1) (xs 2) (xs 3)) (cwV 3 hts (gV wd_446 wd_447 wd_448 wd_157 wd_445) rfl rfl rfl (by decide +kernel) ⟨Nat.le_of_ble_eq_true rfl, Nat.le_of_ble_eq_true rfl⟩) ⟨pW_blind, va_recv (q := (RM, TM, 11)) (q0 := 4) (ci := 4) hK hP rfl rfl, pW_pre hPc hKc hDc⟩ rfl rfl hl.1 rfl (lv_room (Nat.le_of_ble_eq_true rfl)) dL_law_572 ⟨Nat.le_of_ble_eq_true rfl, Nat.le_of_ble_eq_true rfl⟩) hS (fun q _ h => hFc q h) hFc (fun r1016 u t H1 locs ht hvm hr1017 hB hz1 hk1 hS => ?_)
  obtain ⟨hP1, hK1, hD1⟩ := hB
  rw [ht] at hP1
  have hK1 := va_K.moved hvm.symm hK1
  obtain ⟨hP, hD⟩ := va_join (wr := [(bs6, .inl (cB15, 10, .inr (.inr (.inr (.inr (fun _ => none)))))), (df7, .inr (1, [.ref dv10, .ref do911, .int 0])), (dv10, .inl (cF16, 24, .inl fv17)), (ch8, .inr (2, [.ref cp12, .ref cn13, .int 0])), (kp23, .inl (cK28, 25240, .inl fk29)), (q31, .inl (cA32, 1, .inr (.inl (vp_updL (fun _ => 0) (0 : Int32).toNatClampNeg 0))))]) (w1 := [(q19, .inr (4, [.int 0, .int 1, .ref nw22, .ref kp23, .int 0, .int (-1), .ref mk24, .ref co25, .int 0, .int 0, .ref se26]))]) hP hD [4, 5] [0, 1, 2, 3, 6, 7] rfl rfl (by decide) (by decide) hk1 hFc hP1 hD1
  generalize H1 = H at hP hS ⊢
  have hP : va_P (dC, dI) kCl [(bs6, .inl (cB15, 10, .inr (.inr (.inr (.inr (fun _ => none)))))), (df7, .inr (1, [.ref dv10, .ref do911, .int 0])), (dv10, .inl (cF16, 24, .inl fv17)), (ch8, .inr (2, [.ref cp12, .ref cn13, .int 0])), (kp23, .inl (cK28, 25240, .inl fk29)), (q31, .inl (cA32, 1, .inr (.inl (vp_updL (fun _ => 0) (0 : Int32).toNatClampNeg 0)))), (q19, .inr (4, [.int 0, .int 1, .ref nw22, .ref kp23, .int 0, .int (-1), .ref mk24, .ref co25, .int 0, .int 0, .ref se26]))] H := hP
  have hD : va_D A [(bs6, .inl (cB15, 10, .inr (.inr (.inr (.inr (fun _ => none)))))), (df7, .inr (1, [.ref dv10, .ref do911, .int 0])), (dv10, .inl (cF16, 24, .inl fv17)), (ch8, .inr (2, [.ref cp12, .ref cn13, .int 0])), (kp23, .inl (cK28, 25240, .inl fk29)), (q31, .inl (cA32, 1, .inr (.inl (vp_updL (fun _ => 0) (0 : Int32).toNatClampNeg 0)))), (q19, .inr (4, [.int 0, .int 1, .ref nw22, .ref kp23, .int 0, .int (-1), .ref mk24, .ref co25, .int 0, .int 0, .ref se26]))] := hD
  refine W.widen (k := 18) (n := 52931) (Nat.le_of_ble_eq_true rfl) (Nat.le_of_ble_eq_true rfl) ?_
  obtain rfl : r1016 = 0 := hr1017
  refine lv_istore (pc := 575) hx hb dL_law_575 hl (by decide) rfl (fun ls hl => ?_)
  have hl : lv_has ls 7 [(6, .int 0), (5, .int 0), (4, .int 0), (3, .ref q31), (2, .ref q19), (1, .ref q1), (0, .ref b)] := hl
  refine lv_aload_n (pc := 577) hx hb dL_law_577 rfl (lv_at hl 4 rfl) ?_
  refine vp_callSi (pc := 578) (W.runV (As := []) (rest := []) ⟨hx, hb, hml, hown, hts⟩ (m_thrown l dC dI q19 nw22 kp23 mk24 co25 se26 0 1) (cwV 0 hts (gV wd_411 wd_412 wd_413 wd_157 wd_410) rfl rfl rfl (by decide +kernel) ⟨Nat.le_of_ble_eq_true rfl, Nat.le_of_ble_eq_true rfl⟩) ⟨pR_blind, va_recv (q := (RM, TM, 11)) (q0 := 6) (ci := 4) hK hP rfl rfl, pR_pre (hP.sub (ws' := [(q19, .inr (4, [.int 0, .int 1, .ref nw22, .ref kp23, .int 0, .int (-1), .ref mk24, .ref co25, .int 0, .int 0, .ref se26]))]) [6] rfl) (hK.sub (tys' := []) [] rfl)⟩ rfl rfl hl.1 rfl (lv_room (Nat.le_of_ble_eq_true rfl)) dL_law_578 ⟨Nat.le_of_ble_eq_true rfl, Nat.le_of_ble_eq_true rfl⟩) (fun r1019 hr1020 => ?_)
  obtain rfl : r1019 = 0 := hr1020
  refine lv_iload (pc := 581) hx hb dL_law_581 (lv_at hl 1 rfl) ?_
  refine lv_icmp_eq (pc := 583) (tgt := 588) hx hb dL_law_583 rfl (fun h1021 => ?_) (fun h1021 => absurd h1021 (by decide))
  refine lv_iload (pc := 588) hx hb dL_law_588 (lv_at hl 1 rfl) ?_
  refine lv_if_ne (pc := 590) (tgt := 612) hx hb dL_law_590 rfl (fun h1022 => absurd h1022 (by decide)) (fun h1022 => ?_)
  refine lv_aload_n (pc := 593) hx hb dL_law_593 rfl (lv_at hl 3 rfl) ?_
  refine lv_iconst (pc := 594) (v := 0) hx hb dL_law_594 (by decide) ?_
  refine va_lald (D := (dC, dI)) (cl := kCl) (pc := 595) hx hb hK hP 5 5 rfl rfl (vp_in_lit 0 1 (by decide)) dL_law_595 ?_
  refine W.eq (g2 := F0 m 596 ls [.long 0]) rfl ?_
  refine lv_iload (pc := 596) hx hb dL_law_596 (lv_at hl 0 rfl) ?_
  refine lv_if_eq (pc := 598) (tgt := 605) hx hb dL_law_598 rfl (fun h1023 => ?_) (fun h1023 => absurd h1023 (by decide))
  refine lv_lconst (pc := 605) (v := 0) hx hb dL_law_605 (by decide) ?_
  refine W.lcmp (pc := 606) hx hb dL_law_606 ?_
  refine lv_topi (fun z1024 hz1025 => ?_)
  obtain rfl : z1024 = 0 := hz1025.trans (by decide)
  refine lv_if_eq (pc := 607) (tgt := 612) hx hb dL_law_607 rfl (fun h1026 => ?_) (fun h1026 => absurd h1026 (by decide))
  refine lv_goto (pc := 612) (tgt := 1763) hx hb dL_law_612 rfl ?_
  exact law_tail hx hb hr hlocks hX hbl hbA hA2 hS (lv_sub hl (l' := [(4, .int 0), (0, .ref b)]) [2, 6] rfl) (Nat.le_of_ble_eq_true rfl) (Nat.le_of_ble_eq_true rfl)
set_option maxHeartbeats 4000000 in
set_option maxRecDepth 100000 in
theorem lawcase_6 {p : Program} {l : Launch} {e : Env} {s : State} {m : MethodId} {below : List Frame} {meth : Method} {c : Code} {b : Nat} {xs : Nat → Int32} {A : Nat → Prop} {H : Heap} {locs : List Loc} {ls : Array Slot} {dC : Nat → ClassId} {dI : Nat → Nat → Nat} {q1 : Nat} {rt4 : Nat} {dr5 : Nat} {bs6 : Nat} {df7 : Nat} {ch8 : Nat} {pg9 : Nat} {cR14 : ClassId} {cB15 : ClassId} {dv10 : Nat} {do911 : Nat} {cF16 : ClassId} {fv17 : Nat → Int32} {cp12 : Nat} {cn13 : Nat} {q19 : Nat} {nw22 : Nat} {kp23 : Nat} {mk24 : Nat} {co25 : Nat} {se26 : Nat} {cN27 : ClassId} {cK28 : ClassId} {fk29 : Nat → Int32} {q31 : Nat} {cA32 : ClassId} (h : lawS p l s m meth c b xs dC dI A q1 rt4 dr5 bs6 df7 ch8 pg9 cR14 cB15 dv10 do911 cF16 fv17 cp12 cn13 q19 nw22 kp23 mk24 co25 se26 cN27 cK28 fk29 q31 cA32 H locs ls) : W p l e room_1 s m #[Value.ref b] below meth c H locs 18 52931 (lw_Z below #[Value.ref b] s) (F0 m 615 ls []) := by
  obtain ⟨hx, hb, hr, hml, hown, hts, hX, hbl, hbA, hlocks, hA, hA2, hP, hD, hK, hS, hl, hXE, hfl, hfk⟩ := h
  refine lv_aload_n (pc := 615) hx hb dL_law_615 rfl (lv_at hl 3 rfl) ?_
  refine lv_aload_n (pc := 616) hx hb dL_law_616 rfl (lv_at hl 4 rfl) ?_
  refine lv_iload (pc := 617) hx hb dL_law_617 (lv_at hl 0 rfl) ?_
  refine lv_iconst (pc := 619) (v := 1) hx hb dL_law_619 (by decide) ?_
  refine lv_iadd (pc := 620) hx hb dL_law_620 ?_
  refine lv_topi (fun z1001 hz1002 => ?_)
  obtain rfl : z1001 = 1 := hz1002.trans (by decide)
  refine va_sld (A := A) (pc := 621) hx hb hX hbl hbA hS (vp_in_lit 1 6 (by decide)) dL_law_621 ?_
  refine W.eq (g2 := F0 m 622 ls [.int (xs 1), .ref q1]) rfl ?_
  refine lv_aload_n (pc := 622) hx hb dL_law_622 rfl (lv_at hl 4 rfl) ?_
  refine lv_iload (pc := 623) hx hb dL_law_623 (lv_at hl 0 rfl) ?_
  refine lv_iconst (pc := 625) (v := 2) hx hb dL_law_625 (by decide) ?_
  refine lv_iadd (pc := 626) hx hb dL_law_626 ?_
  refine lv_topi (fun z1003 hz1004 => ?_)
  obtain rfl : z1003 = 2 := hz1004.trans (by decide)
  refine va_sld (A := A) (pc := 627) hx hb hX hbl hbA hS (vp_in_lit 2 6 (by decide)) dL_law_627 ?_
  refine W.eq (g2 := F0 m 628 ls [.int (xs 2), .int (xs 1), .ref q1]) rfl ?_
  refine lv_aload_n (pc := 628) hx hb dL_law_628 rfl (lv_at hl 4 rfl) ?_
  refine lv_iload (pc := 629) hx hb dL_law_629 (lv_at hl 0 rfl) ?_
  refine lv_iconst (pc := 631) (v := 3) hx hb dL_law_631 (by decide) ?_
  refine lv_iadd (pc := 632) hx hb dL_law_632 ?_
  refine lv_topi (fun z1005 hz1006 => ?_)
  obtain rfl : z1005 = 3 := hz1006.trans (by decide)
  refine va_sld (A := A) (pc := 633) hx hb hX hbl hbA hS (vp_in_lit 3 6 (by decide)) dL_law_633 ?_
  refine W.eq (g2 := F0 m 634 ls [.int (xs 3), .int (xs 2), .int (xs 1), .ref q1]) rfl ?_
  refine lv_aload_n (pc := 634) hx hb dL_law_634 rfl (lv_at hl 4 rfl) ?_
  refine lv_iload (pc := 635) hx hb dL_law_635 (lv_at hl 0 rfl) ?_
  refine lv_iconst (pc := 637) (v := 4) hx hb dL_law_637 (by decide) ?_
  refine lv_iadd (pc := 638) hx hb dL_law_638 ?_
  refine lv_topi (fun z1007 hz1008 => ?_)
  obtain rfl : z1007 = 4 := hz1008.trans (by decide)
  refine va_sld (A := A) (pc := 639) hx hb hX hbl hbA hS (vp_in_lit 4 6 (by decide)) dL_law_639 ?_
  refine W.eq (g2 := F0 m 640 ls [.int (xs 4), .int (xs 3), .int (xs 2), .int (xs 1), .ref q1]) rfl ?_
  refine lv_aload_n (pc := 640) hx hb dL_law_640 rfl (lv_at hl 4 rfl) ?_
  refine lv_iload (pc := 641) hx hb dL_law_641 (lv_at hl 0 rfl) ?_
  refine lv_iconst (pc := 643) (v := 5) hx hb dL_law_643 (by decide) ?_
  refine lv_iadd (pc := 644) hx hb dL_law_644 ?_
  refine lv_topi (fun z1009 hz1010 => ?_)
  obtain rfl : z1009 = 5 := hz1010.trans (by decide)
  refine va_sld (A := A) (pc := 645) hx hb hX hbl hbA hS (vp_in_lit 5 6 (by decide)) dL_law_645 ?_
  refine W.eq (g2 := F0 m 646 ls [.int (xs 5), .int (xs 4), .int (xs 3), .int (xs 2), .int (xs 1), .ref q1]) rfl ?_
  refine lv_aload_n (pc := 646) hx hb dL_law_646 rfl (lv_at hl 1 rfl) ?_
  have hPc := hP.sub (ws' := [(q1, .inr (0, [.ref rt4, .ref dr5, .int 0, .int 0, .ref bs6, .ref df7, .ref ch8, .ref pg9, .int 0])), (rt4, .inl (cR14, 16, .inl (fun _ => 0))), (pg9, .inr (3, [.int 400, .int 0, .int 0, .int 0, .int 0, .int 0])), (q31, .inl (cA32, 1, .inr (.inl (fun _ => 0))))]) [0, 1, 2, 10] rfl
  have hDc := hD.sub (ws' := [(q1, .inr (0, [.ref rt4, .ref dr5, .int 0, .int 0, .ref bs6, .ref df7, .ref ch8, .ref pg9, .int 0])), (rt4, .inl (cR14, 16, .inl (fun _ => 0))), (pg9, .inr (3, [.int 400, .int 0, .int 0, .int 0, .int 0, .int 0])), (q31, .inl (cA32, 1, .inr (.inl (fun _ => 0))))]) [0, 1, 2, 10] (by decide) rfl
  have hKc := hK.sub (tys' := [(cR14, .int), (cA32, .long)]) [0, 5] rfl
  have hFc := va_free (wc := [(q1, .inr (0, [.ref rt4, .ref dr5, .int 0, .int 0, .ref bs6, .ref df7, .ref ch8, .ref pg9, .int 0])), (rt4, .inl (cR14, 16, .inl (fun _ => 0))), (pg9, .inr (3, [.int 400, .int 0, .int 0, .int 0, .int 0, .int 0])), (q31, .inl (cA32, 1, .inr (.inl (fun _ => 0))))]) hD hS hA [0, 1, 2, 10] rfl
  refine va_calli (pc := 647) (hxR (As := [.ref q1, .int (xs 1), .int (xs 2), .int (xs 3), .int (xs 4), .int (xs 5), .ref q31]) (rest := []) ⟨hx, hb, hml, hown, hts⟩ (l_ref l dC dI H.size q1 rt4 dr5 bs6 df7 ch8 pg9 0 cR14 q31 cA32 (fun _ => 0) (xs 1) (xs 2) (xs 3) (xs 4) (xs 5)) 7 wd_450 wd_451 wd_405 wd_449 rfl rfl ⟨Nat.le_of_ble_eq_true rfl, Nat.le_of_ble_eq_true rfl⟩ (by decide +kernel) ⟨pW_blind, pW_pre hPc hKc hDc⟩ rfl rfl hl.1 rfl (lv_room (Nat.le_of_ble_eq_true rfl)) dL_law_647 ⟨Nat.le_of_ble_eq_true rfl, Nat.le_of_ble_eq_true rfl⟩) hS (fun q _ h => hFc q h) hFc (fun r1011 u t H1 locs ht hvm hr1012 hB hz1 hk1 hS => ?_)
  obtain ⟨hP1, hK1, hD1⟩ := hB
  rw [ht] at hP1
  have hK1 := va_K.moved hvm.symm hK1
  obtain ⟨hP, hD⟩ := va_join (wr := [(bs6, .inl (cB15, 10, .inr (.inr (.inr (.inr (fun _ => none)))))), (df7, .inr (1, [.ref dv10, .ref do911, .int 0])), (dv10, .inl (cF16, 24, .inl fv17)), (ch8, .inr (2, [.ref cp12, .ref cn13, .int 0])), (q19, .inr (4, [.int 0, .int 0, .ref nw22, .ref kp23, .int 0, .int (-1), .ref mk24, .ref co25, .int 0, .int 0, .ref se26])), (nw22, .inl (cN27, 25240, .inl now0)), (kp23, .inl (cK28, 25240, .inl fk29))]) (w1 := [(q31, .inl (cA32, 1, .inr (.inl (vp_updL (fun _ => 0) (0 : Int32).toNatClampNeg 0))))]) hP hD [0, 1, 2, 10] [3, 4, 5, 6, 7, 8, 9] rfl rfl (by decide) (by decide) hk1 hFc hP1 hD1
  generalize H1 = H at hP hS ⊢
  have hP : va_P (dC, dI) kCl [(bs6, .inl (cB15, 10, .inr (.inr (.inr (.inr (fun _ => none)))))), (df7, .inr (1, [.ref dv10, .ref do911, .int 0])), (dv10, .inl (cF16, 24, .inl fv17)), (ch8, .inr (2, [.ref cp12, .ref cn13, .int 0])), (q19, .inr (4, [.int 0, .int 0, .ref nw22, .ref kp23, .int 0, .int (-1), .ref mk24, .ref co25, .int 0, .int 0, .ref se26])), (nw22, .inl (cN27, 25240, .inl now0)), (kp23, .inl (cK28, 25240, .inl fk29)), (q31, .inl (cA32, 1, .inr (.inl (vp_updL (fun _ => 0) (0 : Int32).toNatClampNeg 0))))] H := hP
  have hD : va_D A [(bs6, .inl (cB15, 10, .inr (.inr (.inr (.inr (fun _ => none)))))), (df7, .inr (1, [.ref dv10, .ref do911, .int 0])), (dv10, .inl (cF16, 24, .inl fv17)), (ch8, .inr (2, [.ref cp12, .ref cn13, .int 0])), (q19, .inr (4, [.int 0, .int 0, .ref nw22, .ref kp23, .int 0, .int (-1), .ref mk24, .ref co25, .int 0, .int 0, .ref se26])), (nw22, .inl (cN27, 25240, .inl now0)), (kp23, .inl (cK28, 25240, .inl fk29)), (q31, .inl (cA32, 1, .inr (.inl (vp_updL (fun _ => 0) (0 : Int32).toNatClampNeg 0))))] := hD
  refine W.widen (k := 18) (n := 52931) (Nat.le_of_ble_eq_true rfl) (Nat.le_of_ble_eq_true rfl) ?_
  obtain rfl : r1011 = 0 := hr1012
  refine lv_istore (pc := 650) hx hb dL_law_650 hl (by decide) rfl (fun ls hl => ?_)
  have hl : lv_has ls 7 [(5, .int 0), (4, .int 0), (3, .ref q31), (2, .ref q19), (1, .ref q1), (0, .ref b)] := hl
  refine lv_aload_n (pc := 652) hx hb dL_law_652 rfl (lv_at hl 3 rfl) ?_
  refine lv_aload_n (pc := 653) hx hb dL_law_653 rfl (lv_at hl 5 rfl) ?_
  refine lv_iload (pc := 654) hx hb dL_law_654 (lv_at hl 1 rfl) ?_
  refine lv_iconst (pc := 656) (v := 1) hx hb dL_law_656 (by decide) ?_
  refine lv_iadd (pc := 657) hx hb dL_law_657 ?_
  refine lv_topi (fun z1014 hz1015 => ?_)
  obtain rfl : z1014 = 1 := hz1015.trans (by decide)
  refine va_sld (A := A) (pc := 658) hx hb hX hbl hbA hS (vp_in_lit 1 6 (by decide)) dL_law_658 ?_
  refine W.eq (g2 := F0 m 659 ls [.int (xs 1), .ref q19]) rfl ?_
  refine lv_aload_n (pc := 659) hx hb dL_law_659 rfl (lv_at hl 5 rfl) ?_
  refine lv_iload (pc := 660) hx hb dL_law_660 (lv_at hl 1 rfl) ?_
  refine lv_iconst (pc := 662) (v := 2) hx hb dL_law_662 (by decide) ?_
  refine lv_iadd (pc := 663) hx hb dL_law_663 ?_
  refine lv_topi (fun z1016 hz1017 => ?_)
  obtain rfl : z1016 = 2 := hz1017.trans (by decide)
  refine va_sld (A := A) (pc := 664) hx hb hX hbl hbA hS (vp_in_lit 2 6 (by decide)) dL_law_664 ?_
  refine W.eq (g2 := F0 m 665 ls [.int (xs 2), .int (xs 1), .ref q19]) rfl ?_
  refine lv_aload_n (pc := 665) hx hb dL_law_665 rfl (lv_at hl 5 rfl) ?_
  refine lv_iload (pc := 666) hx hb dL_law_666 (lv_at hl 1 rfl) ?_
  refine lv_iconst (pc := 668) (v := 3) hx hb dL_law_668 (by decide) ?_
  refine lv_iadd (pc := 669) hx hb dL_law_669 ?_
  refine lv_topi (fun z1018 hz1019 => ?_)
  obtain rfl : z1018 = 3 := hz1019.trans (by decide)
  refine va_sld (A := A) (pc := 670) hx hb hX hbl hbA hS (vp_in_lit 3 6 (by decide)) dL_law_670 ?_
  refine W.eq (g2 := F0 m 671 ls [.int (xs 3), .int (xs 2), .int (xs 1), .ref q19]) rfl ?_
  refine lv_aload_n (pc := 671) hx hb dL_law_671 rfl (lv_at hl 5 rfl) ?_
  refine lv_iload (pc := 672) hx hb dL_law_672 (lv_at hl 1 rfl) ?_
  refine lv_iconst (pc := 674) (v := 4) hx hb dL_law_674 (by decide) ?_
  refine lv_iadd (pc := 675) hx hb dL_law_675 ?_
  refine lv_topi (fun z1020 hz1021 => ?_)
  obtain rfl : z1020 = 4 := hz1021.trans (by decide)
  refine va_sld (A := A) (pc := 676) hx hb hX hbl hbA hS (vp_in_lit 4 6 (by decide)) dL_law_676 ?_
  refine W.eq (g2 := F0 m 677 ls [.int (xs 4), .int (xs 3), .int (xs 2), .int (xs 1), .ref q19]) rfl ?_
  refine lv_aload_n (pc := 677) hx hb dL_law_677 rfl (lv_at hl 5 rfl) ?_
  refine lv_iload (pc := 678) hx hb dL_law_678 (lv_at hl 1 rfl) ?_
  refine lv_iconst (pc := 680) (v := 5) hx hb dL_law_680 (by decide) ?_
  refine lv_iadd (pc := 681) hx hb dL_law_681 ?_
  refine lv_topi (fun z1022 hz1023 => ?_)
  obtain rfl : z1022 = 5 := hz1023.trans (by decide)
  refine va_sld (A := A) (pc := 682) hx hb hX hbl hbA hS (vp_in_lit 5 6 (by decide)) dL_law_682 ?_
  refine W.eq (g2 := F0 m 683 ls [.int (xs 5), .int (xs 4), .int (xs 3), .int (xs 2), .int (xs 1), .ref q19]) rfl ?_
  have hPc := hP.sub (ws' := [(q19, .inr (4, [.int 0, .int 0, .ref nw22, .ref kp23, .int 0, .int (-1), .ref mk24, .ref co25, .int 0, .int 0, .ref se26])), (nw22, .inl (cN27, 25240, .inl now0))]) [4, 5] rfl
  have hDc := hD.sub (ws' := [(q19, .inr (4, [.int 0, .int 0, .ref nw22, .ref kp23, .int 0, .int (-1), .ref mk24, .ref co25, .int 0, .int 0, .ref se26])), (nw22, .inl (cN27, 25240, .inl now0))]) [4, 5] (by decide) rfl
  have hKc := hK.sub (tys' := [(cN27, .int)]) [3] rfl
  have hFc := va_free (wc := [(q19, .inr (4, [.int 0, .int 0, .ref nw22, .ref kp23, .int 0, .int (-1), .ref mk24, .ref co25, .int 0, .int 0, .ref se26])), (nw22, .inl (cN27, 25240, .inl now0))]) hD hS hA [4, 5] rfl
  refine va_calli (pc := 683) (va_runV (As := [.int (xs 1), .int (xs 2), .int (xs 3), .int (xs 4), .int (xs 5)]) (rest := []) ⟨hx, hb, hml, hown, hts⟩ (m_ref l dC dI H.size q19 nw22 kp23 mk24 co25 se26 0 0 cN27 (xs 1) (xs 2) (xs 3) (xs 4) (xs 5)) (cwV 5 hts (gV wd_453 wd_454 wd_455 wd_157 wd_452) rfl rfl rfl (by decide +kernel) ⟨Nat.le_of_ble_eq_true rfl, Nat.le_of_ble_eq_true rfl⟩) ⟨pW_blind, va_recv (q := (RM, TM, 11)) (q0 := 4) (ci := 4) hK hP rfl rfl, pW_pre hPc hKc hDc⟩ rfl rfl hl.1 rfl (lv_room (Nat.le_of_ble_eq_true rfl)) dL_law_683 ⟨Nat.le_of_ble_eq_true rfl, Nat.le_of_ble_eq_true rfl⟩) hS (fun q _ h => hFc q h) hFc (fun r1024 u t H1 locs ht hvm hr1025 hB hz1 hk1 hS => ?_)
  obtain ⟨hP1, hK1, hD1⟩ := hB
  rw [ht] at hP1
  have hK1 := va_K.moved hvm.symm hK1
  obtain ⟨hP, hD⟩ := va_join (wr := [(bs6, .inl (cB15, 10, .inr (.inr (.inr (.inr (fun _ => none)))))), (df7, .inr (1, [.ref dv10, .ref do911, .int 0])), (dv10, .inl (cF16, 24, .inl fv17)), (ch8, .inr (2, [.ref cp12, .ref cn13, .int 0])), (kp23, .inl (cK28, 25240, .inl fk29)), (q31, .inl (cA32, 1, .inr (.inl (vp_updL (fun _ => 0) (0 : Int32).toNatClampNeg 0))))]) (w1 := [(q19, .inr (4, [.int 0, .int 1, .ref nw22, .ref kp23, .int 0, .int (-1), .ref mk24, .ref co25, .int 0, .int 0, .ref se26]))]) hP hD [4, 5] [0, 1, 2, 3, 6, 7] rfl rfl (by decide) (by decide) hk1 hFc hP1 hD1
  generalize H1 = H at hP hS ⊢
  have hP : va_P (dC, dI) kCl [(bs6, .inl (cB15, 10, .inr (.inr (.inr (.inr (fun _ => none)))))), (df7, .inr (1, [.ref dv10, .ref do911, .int 0])), (dv10, .inl (cF16, 24, .inl fv17)), (ch8, .inr (2, [.ref cp12, .ref cn13, .int 0])), (kp23, .inl (cK28, 25240, .inl fk29)), (q31, .inl (cA32, 1, .inr (.inl (vp_updL (fun _ => 0) (0 : Int32).toNatClampNeg 0)))), (q19, .inr (4, [.int 0, .int 1, .ref nw22, .ref kp23, .int 0, .int (-1), .ref mk24, .ref co25, .int 0, .int 0, .ref se26]))] H := hP
  have hD : va_D A [(bs6, .inl (cB15, 10, .inr (.inr (.inr (.inr (fun _ => none)))))), (df7, .inr (1, [.ref dv10, .ref do911, .int 0])), (dv10, .inl (cF16, 24, .inl fv17)), (ch8, .inr (2, [.ref cp12, .ref cn13, .int 0])), (kp23, .inl (cK28, 25240, .inl fk29)), (q31, .inl (cA32, 1, .inr (.inl (vp_updL (fun _ => 0) (0 : Int32).toNatClampNeg 0)))), (q19, .inr (4, [.int 0, .int 1, .ref nw22, .ref kp23, .int 0, .int (-1), .ref mk24, .ref co25, .int 0, .int 0, .ref se26]))] := hD
  refine W.widen (k := 18) (n := 52931) (Nat.le_of_ble_eq_true rfl) (Nat.le_of_ble_eq_true rfl) ?_
  obtain rfl : r1024 = 0 := hr1025
  refine lv_istore (pc := 686) hx hb dL_law_686 hl (by decide) rfl (fun ls hl => ?_)
  have hl : lv_has ls 7 [(6, .int 0), (5, .int 0), (4, .int 0), (3, .ref q31), (2, .ref q19), (1, .ref q1), (0, .ref b)] := hl
  refine lv_aload_n (pc := 688) hx hb dL_law_688 rfl (lv_at hl 4 rfl) ?_
  refine vp_callSi (pc := 689) (W.runV (As := []) (rest := []) ⟨hx, hb, hml, hown, hts⟩ (m_thrown l dC dI q19 nw22 kp23 mk24 co25 se26 0 1) (cwV 0 hts (gV wd_411 wd_412 wd_413 wd_157 wd_410) rfl rfl rfl (by decide +kernel) ⟨Nat.le_of_ble_eq_true rfl, Nat.le_of_ble_eq_true rfl⟩) ⟨pR_blind, va_recv (q := (RM, TM, 11)) (q0 := 6) (ci := 4) hK hP rfl rfl, pR_pre (hP.sub (ws' := [(q19, .inr (4, [.int 0, .int 1, .ref nw22, .ref kp23, .int 0, .int (-1), .ref mk24, .ref co25, .int 0, .int 0, .ref se26]))]) [6] rfl) (hK.sub (tys' := []) [] rfl)⟩ rfl rfl hl.1 rfl (lv_room (Nat.le_of_ble_eq_true rfl)) dL_law_689 ⟨Nat.le_of_ble_eq_true rfl, Nat.le_of_ble_eq_true rfl⟩) (fun r1027 hr1028 => ?_)
  obtain rfl : r1027 = 0 := hr1028
  refine lv_iload (pc := 692) hx hb dL_law_692 (lv_at hl 1 rfl) ?_
  refine lv_icmp_eq (pc := 694) (tgt := 699) hx hb dL_law_694 rfl (fun h1029 => ?_) (fun h1029 => absurd h1029 (by decide))
  refine lv_iload (pc := 699) hx hb dL_law_699 (lv_at hl 1 rfl) ?_
  refine lv_if_ne (pc := 701) (tgt := 723) hx hb dL_law_701 rfl (fun h1030 => absurd h1030 (by decide)) (fun h1030 => ?_)
  refine lv_aload_n (pc := 704) hx hb dL_law_704 rfl (lv_at hl 3 rfl) ?_
  refine lv_iconst (pc := 705) (v := 0) hx hb dL_law_705 (by decide) ?_
  refine va_lald (D := (dC, dI)) (cl := kCl) (pc := 706) hx hb hK hP 5 5 rfl rfl (vp_in_lit 0 1 (by decide)) dL_law_706 ?_
  refine W.eq (g2 := F0 m 707 ls [.long 0]) rfl ?_
  refine lv_iload (pc := 707) hx hb dL_law_707 (lv_at hl 0 rfl) ?_
  refine lv_if_eq (pc := 709) (tgt := 716) hx hb dL_law_709 rfl (fun h1031 => ?_) (fun h1031 => absurd h1031 (by decide))
  refine lv_lconst (pc := 716) (v := 0) hx hb dL_law_716 (by decide) ?_
  refine W.lcmp (pc := 717) hx hb dL_law_717 ?_
  refine lv_topi (fun z1032 hz1033 => ?_)
  obtain rfl : z1032 = 0 := hz1033.trans (by decide)
  refine lv_if_eq (pc := 718) (tgt := 723) hx hb dL_law_718 rfl (fun h1034 => ?_) (fun h1034 => absurd h1034 (by decide))
  refine lv_goto (pc := 723) (tgt := 1763) hx hb dL_law_723 rfl ?_
  exact law_tail hx hb hr hlocks hX hbl hbA hA2 hS (lv_sub hl (l' := [(4, .int 0), (0, .ref b)]) [2, 6] rfl) (Nat.le_of_ble_eq_true rfl) (Nat.le_of_ble_eq_true rfl)
set_option maxHeartbeats 4000000 in
set_option maxRecDepth 100000 in
theorem lawcase_7 {p : Program} {l : Launch} {e : Env} {s : State} {m : MethodId} {below : List Frame} {meth : Method} {c : Code} {b : Nat} {xs : Nat → Int32} {A : Nat → Prop} {H : Heap} {locs : List Loc} {ls : Array Slot} {dC : Nat → ClassId} {dI : Nat → Nat → Nat} {q1 : Nat} {rt4 : Nat} {dr5 : Nat} {bs6 : Nat} {df7 : Nat} {ch8 : Nat} {pg9 : Nat} {cR14 : ClassId} {cB15 : ClassId} {dv10 : Nat} {do911 : Nat} {cF16 : ClassId} {fv17 : Nat → Int32} {cp12 : Nat} {cn13 : Nat} {q19 : Nat} {nw22 : Nat} {kp23 : Nat} {mk24 : Nat} {co25 : Nat} {se26 : Nat} {cN27 : ClassId} {cK28 : ClassId} {fk29 : Nat → Int32} {q31 : Nat} {cA32 : ClassId} (h : lawS p l s m meth c b xs dC dI A q1 rt4 dr5 bs6 df7 ch8 pg9 cR14 cB15 dv10 do911 cF16 fv17 cp12 cn13 q19 nw22 kp23 mk24 co25 se26 cN27 cK28 fk29 q31 cA32 H locs ls) : W p l e room_1 s m #[Value.ref b] below meth c H locs 18 52931 (lw_Z below #[Value.ref b] s) (F0 m 726 ls []) := by
  obtain ⟨hx, hb, hr, hml, hown, hts, hX, hbl, hbA, hlocks, hA, hA2, hP, hD, hK, hS, hl, hXE, hfl, hfk⟩ := h
  refine lv_aload_n (pc := 726) hx hb dL_law_726 rfl (lv_at hl 3 rfl) ?_
  refine lv_aload_n (pc := 727) hx hb dL_law_727 rfl (lv_at hl 4 rfl) ?_
  refine lv_iload (pc := 728) hx hb dL_law_728 (lv_at hl 0 rfl) ?_
  refine lv_iconst (pc := 730) (v := 1) hx hb dL_law_730 (by decide) ?_
  refine lv_iadd (pc := 731) hx hb dL_law_731 ?_
  refine lv_topi (fun z1001 hz1002 => ?_)
  obtain rfl : z1001 = 1 := hz1002.trans (by decide)
  refine va_sld (A := A) (pc := 732) hx hb hX hbl hbA hS (vp_in_lit 1 6 (by decide)) dL_law_732 ?_
  refine W.eq (g2 := F0 m 733 ls [.int (xs 1), .ref q1]) rfl ?_
  refine lv_aload_n (pc := 733) hx hb dL_law_733 rfl (lv_at hl 4 rfl) ?_
  refine lv_iload (pc := 734) hx hb dL_law_734 (lv_at hl 0 rfl) ?_
  refine lv_iconst (pc := 736) (v := 2) hx hb dL_law_736 (by decide) ?_
  refine lv_iadd (pc := 737) hx hb dL_law_737 ?_
  refine lv_topi (fun z1003 hz1004 => ?_)
  obtain rfl : z1003 = 2 := hz1004.trans (by decide)
  refine va_sld (A := A) (pc := 738) hx hb hX hbl hbA hS (vp_in_lit 2 6 (by decide)) dL_law_738 ?_
  refine W.eq (g2 := F0 m 739 ls [.int (xs 2), .int (xs 1), .ref q1]) rfl ?_
  refine lv_aload_n (pc := 739) hx hb dL_law_739 rfl (lv_at hl 4 rfl) ?_
  refine lv_iload (pc := 740) hx hb dL_law_740 (lv_at hl 0 rfl) ?_
  refine lv_iconst (pc := 742) (v := 3) hx hb dL_law_742 (by decide) ?_
  refine lv_iadd (pc := 743) hx hb dL_law_743 ?_
  refine lv_topi (fun z1005 hz1006 => ?_)
  obtain rfl : z1005 = 3 := hz1006.trans (by decide)
  refine va_sld (A := A) (pc := 744) hx hb hX hbl hbA hS (vp_in_lit 3 6 (by decide)) dL_law_744 ?_
  refine W.eq (g2 := F0 m 745 ls [.int (xs 3), .int (xs 2), .int (xs 1), .ref q1]) rfl ?_
  refine lv_aload_n (pc := 745) hx hb dL_law_745 rfl (lv_at hl 1 rfl) ?_
  have hPc := hP.sub (ws' := [(q1, .inr (0, [.ref rt4, .ref dr5, .int 0, .int 0, .ref bs6, .ref df7, .ref ch8, .ref pg9, .int 0])), (rt4, .inl (cR14, 16, .inl (fun _ => 0))), (pg9, .inr (3, [.int 400, .int 0, .int 0, .int 0, .int 0, .int 0])), (q31, .inl (cA32, 1, .inr (.inl (fun _ => 0))))]) [0, 1, 2, 10] rfl
  have hDc := hD.sub (ws' := [(q1, .inr (0, [.ref rt4, .ref dr5, .int 0, .int 0, .ref bs6, .ref df7, .ref ch8, .ref pg9, .int 0])), (rt4, .inl (cR14, 16, .inl (fun _ => 0))), (pg9, .inr (3, [.int 400, .int 0, .int 0, .int 0, .int 0, .int 0])), (q31, .inl (cA32, 1, .inr (.inl (fun _ => 0))))]) [0, 1, 2, 10] (by decide) rfl
  have hKc := hK.sub (tys' := [(cR14, .int), (cA32, .long)]) [0, 5] rfl
  have hFc := va_free (wc := [(q1, .inr (0, [.ref rt4, .ref dr5, .int 0, .int 0, .ref bs6, .ref df7, .ref ch8, .ref pg9, .int 0])), (rt4, .inl (cR14, 16, .inl (fun _ => 0))), (pg9, .inr (3, [.int 400, .int 0, .int 0, .int 0, .int 0, .int 0])), (q31, .inl (cA32, 1, .inr (.inl (fun _ => 0))))]) hD hS hA [0, 1, 2, 10] rfl
  refine va_calli (pc := 746) (hxR (As := [.ref q1, .int (xs 1), .int (xs 2), .int (xs 3), .ref q31]) (rest := []) ⟨hx, hb, hml, hown, hts⟩ (l_drop l dC dI H.size q1 rt4 dr5 bs6 df7 ch8 pg9 0 cR14 q31 cA32 (fun _ => 0) (xs 1) (xs 2) (xs 3)) 5 wd_457 wd_458 wd_405 wd_456 rfl rfl ⟨Nat.le_of_ble_eq_true rfl, Nat.le_of_ble_eq_true rfl⟩ (by decide +kernel) ⟨pW_blind, pW_pre hPc hKc hDc⟩ rfl rfl hl.1 rfl (lv_room (Nat.le_of_ble_eq_true rfl)) dL_law_746 ⟨Nat.le_of_ble_eq_true rfl, Nat.le_of_ble_eq_true rfl⟩) hS (fun q _ h => hFc q h) hFc (fun r1007 u t H1 locs ht hvm hr1008 hB hz1 hk1 hS => ?_)
  obtain ⟨hP1, hK1, hD1⟩ := hB
  rw [ht] at hP1
  have hK1 := va_K.moved hvm.symm hK1
  obtain ⟨hP, hD⟩ := va_join (wr := [(bs6, .inl (cB15, 10, .inr (.inr (.inr (.inr (fun _ => none)))))), (df7, .inr (1, [.ref dv10, .ref do911, .int 0])), (dv10, .inl (cF16, 24, .inl fv17)), (ch8, .inr (2, [.ref cp12, .ref cn13, .int 0])), (q19, .inr (4, [.int 0, .int 0, .ref nw22, .ref kp23, .int 0, .int (-1), .ref mk24, .ref co25, .int 0, .int 0, .ref se26])), (nw22, .inl (cN27, 25240, .inl now0)), (kp23, .inl (cK28, 25240, .inl fk29))]) (w1 := [(q31, .inl (cA32, 1, .inr (.inl (vp_updL (fun _ => 0) (0 : Int32).toNatClampNeg 0))))]) hP hD [0, 1, 2, 10] [3, 4, 5, 6, 7, 8, 9] rfl rfl (by decide) (by decide) hk1 hFc hP1 hD1
  generalize H1 = H at hP hS ⊢
  have hP : va_P (dC, dI) kCl [(bs6, .inl (cB15, 10, .inr (.inr (.inr (.inr (fun _ => none)))))), (df7, .inr (1, [.ref dv10, .ref do911, .int 0])), (dv10, .inl (cF16, 24, .inl fv17)), (ch8, .inr (2, [.ref cp12, .ref cn13, .int 0])), (q19, .inr (4, [.int 0, .int 0, .ref nw22, .ref kp23, .int 0, .int (-1), .ref mk24, .ref co25, .int 0, .int 0, .ref se26])), (nw22, .inl (cN27, 25240, .inl now0)), (kp23, .inl (cK28, 25240, .inl fk29)), (q31, .inl (cA32, 1, .inr (.inl (vp_updL (fun _ => 0) (0 : Int32).toNatClampNeg 0))))] H := hP
  have hD : va_D A [(bs6, .inl (cB15, 10, .inr (.inr (.inr (.inr (fun _ => none)))))), (df7, .inr (1, [.ref dv10, .ref do911, .int 0])), (dv10, .inl (cF16, 24, .inl fv17)), (ch8, .inr (2, [.ref cp12, .ref cn13, .int 0])), (q19, .inr (4, [.int 0, .int 0, .ref nw22, .ref kp23, .int 0, .int (-1), .ref mk24, .ref co25, .int 0, .int 0, .ref se26])), (nw22, .inl (cN27, 25240, .inl now0)), (kp23, .inl (cK28, 25240, .inl fk29)), (q31, .inl (cA32, 1, .inr (.inl (vp_updL (fun _ => 0) (0 : Int32).toNatClampNeg 0))))] := hD
  refine W.widen (k := 18) (n := 52931) (Nat.le_of_ble_eq_true rfl) (Nat.le_of_ble_eq_true rfl) ?_
  obtain rfl : r1007 = 0 := hr1008
  refine lv_istore (pc := 749) hx hb dL_law_749 hl (by decide) rfl (fun ls hl => ?_)
  have hl : lv_has ls 7 [(5, .int 0), (4, .int 0), (3, .ref q31), (2, .ref q19), (1, .ref q1), (0, .ref b)] := hl
  refine lv_aload_n (pc := 751) hx hb dL_law_751 rfl (lv_at hl 3 rfl) ?_
  refine lv_aload_n (pc := 752) hx hb dL_law_752 rfl (lv_at hl 5 rfl) ?_
  refine lv_iload (pc := 753) hx hb dL_law_753 (lv_at hl 1 rfl) ?_
  refine lv_iconst (pc := 755) (v := 1) hx hb dL_law_755 (by decide) ?_
  refine lv_iadd (pc := 756) hx hb dL_law_756 ?_
  refine lv_topi (fun z1010 hz1011 => ?_)
  obtain rfl : z1010 = 1 := hz1011.trans (by decide)
  refine va_sld (A := A) (pc := 757) hx hb hX hbl hbA hS (vp_in_lit 1 6 (by decide)) dL_law_757 ?_
  refine W.eq (g2 := F0 m 758 ls [.int (xs 1), .ref q19]) rfl ?_
  refine lv_aload_n (pc := 758) hx hb dL_law_758 rfl (lv_at hl 5 rfl) ?_
  refine lv_iload (pc := 759) hx hb dL_law_759 (lv_at hl 1 rfl) ?_
  refine lv_iconst (pc := 761) (v := 2) hx hb dL_law_761 (by decide) ?_
  refine lv_iadd (pc := 762) hx hb dL_law_762 ?_
  refine lv_topi (fun z1012 hz1013 => ?_)
  obtain rfl : z1012 = 2 := hz1013.trans (by decide)
  refine va_sld (A := A) (pc := 763) hx hb hX hbl hbA hS (vp_in_lit 2 6 (by decide)) dL_law_763 ?_
  refine W.eq (g2 := F0 m 764 ls [.int (xs 2), .int (xs 1), .ref q19]) rfl ?_
  refine lv_aload_n (pc := 764) hx hb dL_law_764 rfl (lv_at hl 5 rfl) ?_
  refine lv_iload (pc := 765) hx hb dL_law_765 (lv_at hl 1 rfl) ?_
  refine lv_iconst (pc := 767) (v := 3) hx hb dL_law_767 (by decide) ?_
  refine lv_iadd (pc := 768) hx hb dL_law_768 ?_
  refine lv_topi (fun z1014 hz1015 => ?_)
  obtain rfl : z1014 = 3 := hz1015.trans (by decide)
  refine va_sld (A := A) (pc := 769) hx hb hX hbl hbA hS (vp_in_lit 3 6 (by decide)) dL_law_769 ?_
  refine W.eq (g2 := F0 m 770 ls [.int (xs 3), .int (xs 2), .int (xs 1), .ref q19]) rfl ?_
  have hPc := hP.sub (ws' := [(q19, .inr (4, [.int 0, .int 0, .ref nw22, .ref kp23, .int 0, .int (-1), .ref mk24, .ref co25, .int 0, .int 0, .ref se26])), (nw22, .inl (cN27, 25240, .inl now0))]) [4, 5] rfl
  have hDc := hD.sub (ws' := [(q19, .inr (4, [.int 0, .int 0, .ref nw22, .ref kp23, .int 0, .int (-1), .ref mk24, .ref co25, .int 0, .int 0, .ref se26])), (nw22, .inl (cN27, 25240, .inl now0))]) [4, 5] (by decide) rfl
  have hKc := hK.sub (tys' := [(cN27, .int)]) [3] rfl
  have hFc := va_free (wc := [(q19, .inr (4, [.int 0, .int 0, .ref nw22, .ref kp23, .int 0, .int (-1), .ref mk24, .ref co25, .int 0, .int 0, .ref se26])), (nw22, .inl (cN27, 25240, .inl now0))]) hD hS hA [4, 5] rfl
  refine va_calli (pc := 770) (va_runV (As := [.int (xs 1), .int (xs 2), .int (xs 3)]) (rest := []) ⟨hx, hb, hml, hown, hts⟩ (m_drop l dC dI H.size q19 nw22 kp23 mk24 co25 se26 0 0 cN27 (xs 1) (xs 2) (xs 3)) (cwV 3 hts (gV wd_460 wd_461 wd_462 wd_157 wd_459) rfl rfl rfl (by decide +kernel) ⟨Nat.le_of_ble_eq_true rfl, Nat.le_of_ble_eq_true rfl⟩) ⟨pW_blind, va_recv (q := (RM, TM, 11)) (q0 := 4) (ci := 4) hK hP rfl rfl, pW_pre hPc hKc hDc⟩ rfl rfl hl.1 rfl (lv_room (Nat.le_of_ble_eq_true rfl)) dL_law_770 ⟨Nat.le_of_ble_eq_true rfl, Nat.le_of_ble_eq_true rfl⟩) hS (fun q _ h => hFc q h) hFc (fun r1016 u t H1 locs ht hvm hr1017 hB hz1 hk1 hS => ?_)
  obtain ⟨hP1, hK1, hD1⟩ := hB
  rw [ht] at hP1
  have hK1 := va_K.moved hvm.symm hK1
  obtain ⟨hP, hD⟩ := va_join (wr := [(bs6, .inl (cB15, 10, .inr (.inr (.inr (.inr (fun _ => none)))))), (df7, .inr (1, [.ref dv10, .ref do911, .int 0])), (dv10, .inl (cF16, 24, .inl fv17)), (ch8, .inr (2, [.ref cp12, .ref cn13, .int 0])), (kp23, .inl (cK28, 25240, .inl fk29)), (q31, .inl (cA32, 1, .inr (.inl (vp_updL (fun _ => 0) (0 : Int32).toNatClampNeg 0))))]) (w1 := [(q19, .inr (4, [.int 0, .int 1, .ref nw22, .ref kp23, .int 0, .int (-1), .ref mk24, .ref co25, .int 0, .int 0, .ref se26]))]) hP hD [4, 5] [0, 1, 2, 3, 6, 7] rfl rfl (by decide) (by decide) hk1 hFc hP1 hD1
  generalize H1 = H at hP hS ⊢
  have hP : va_P (dC, dI) kCl [(bs6, .inl (cB15, 10, .inr (.inr (.inr (.inr (fun _ => none)))))), (df7, .inr (1, [.ref dv10, .ref do911, .int 0])), (dv10, .inl (cF16, 24, .inl fv17)), (ch8, .inr (2, [.ref cp12, .ref cn13, .int 0])), (kp23, .inl (cK28, 25240, .inl fk29)), (q31, .inl (cA32, 1, .inr (.inl (vp_updL (fun _ => 0) (0 : Int32).toNatClampNeg 0)))), (q19, .inr (4, [.int 0, .int 1, .ref nw22, .ref kp23, .int 0, .int (-1), .ref mk24, .ref co25, .int 0, .int 0, .ref se26]))] H := hP
  have hD : va_D A [(bs6, .inl (cB15, 10, .inr (.inr (.inr (.inr (fun _ => none)))))), (df7, .inr (1, [.ref dv10, .ref do911, .int 0])), (dv10, .inl (cF16, 24, .inl fv17)), (ch8, .inr (2, [.ref cp12, .ref cn13, .int 0])), (kp23, .inl (cK28, 25240, .inl fk29)), (q31, .inl (cA32, 1, .inr (.inl (vp_updL (fun _ => 0) (0 : Int32).toNatClampNeg 0)))), (q19, .inr (4, [.int 0, .int 1, .ref nw22, .ref kp23, .int 0, .int (-1), .ref mk24, .ref co25, .int 0, .int 0, .ref se26]))] := hD
  refine W.widen (k := 18) (n := 52931) (Nat.le_of_ble_eq_true rfl) (Nat.le_of_ble_eq_true rfl) ?_
  obtain rfl : r1016 = 0 := hr1017
  refine lv_istore (pc := 773) hx hb dL_law_773 hl (by decide) rfl (fun ls hl => ?_)
  have hl : lv_has ls 7 [(6, .int 0), (5, .int 0), (4, .int 0), (3, .ref q31), (2, .ref q19), (1, .ref q1), (0, .ref b)] := hl
  refine lv_aload_n (pc := 775) hx hb dL_law_775 rfl (lv_at hl 4 rfl) ?_
  refine vp_callSi (pc := 776) (W.runV (As := []) (rest := []) ⟨hx, hb, hml, hown, hts⟩ (m_thrown l dC dI q19 nw22 kp23 mk24 co25 se26 0 1) (cwV 0 hts (gV wd_411 wd_412 wd_413 wd_157 wd_410) rfl rfl rfl (by decide +kernel) ⟨Nat.le_of_ble_eq_true rfl, Nat.le_of_ble_eq_true rfl⟩) ⟨pR_blind, va_recv (q := (RM, TM, 11)) (q0 := 6) (ci := 4) hK hP rfl rfl, pR_pre (hP.sub (ws' := [(q19, .inr (4, [.int 0, .int 1, .ref nw22, .ref kp23, .int 0, .int (-1), .ref mk24, .ref co25, .int 0, .int 0, .ref se26]))]) [6] rfl) (hK.sub (tys' := []) [] rfl)⟩ rfl rfl hl.1 rfl (lv_room (Nat.le_of_ble_eq_true rfl)) dL_law_776 ⟨Nat.le_of_ble_eq_true rfl, Nat.le_of_ble_eq_true rfl⟩) (fun r1019 hr1020 => ?_)
  obtain rfl : r1019 = 0 := hr1020
  refine lv_iload (pc := 779) hx hb dL_law_779 (lv_at hl 1 rfl) ?_
  refine lv_icmp_eq (pc := 781) (tgt := 786) hx hb dL_law_781 rfl (fun h1021 => ?_) (fun h1021 => absurd h1021 (by decide))
  refine lv_iload (pc := 786) hx hb dL_law_786 (lv_at hl 1 rfl) ?_
  refine lv_if_ne (pc := 788) (tgt := 810) hx hb dL_law_788 rfl (fun h1022 => absurd h1022 (by decide)) (fun h1022 => ?_)
  refine lv_aload_n (pc := 791) hx hb dL_law_791 rfl (lv_at hl 3 rfl) ?_
  refine lv_iconst (pc := 792) (v := 0) hx hb dL_law_792 (by decide) ?_
  refine va_lald (D := (dC, dI)) (cl := kCl) (pc := 793) hx hb hK hP 5 5 rfl rfl (vp_in_lit 0 1 (by decide)) dL_law_793 ?_
  refine W.eq (g2 := F0 m 794 ls [.long 0]) rfl ?_
  refine lv_iload (pc := 794) hx hb dL_law_794 (lv_at hl 0 rfl) ?_
  refine lv_if_eq (pc := 796) (tgt := 803) hx hb dL_law_796 rfl (fun h1023 => ?_) (fun h1023 => absurd h1023 (by decide))
  refine lv_lconst (pc := 803) (v := 0) hx hb dL_law_803 (by decide) ?_
  refine W.lcmp (pc := 804) hx hb dL_law_804 ?_
  refine lv_topi (fun z1024 hz1025 => ?_)
  obtain rfl : z1024 = 0 := hz1025.trans (by decide)
  refine lv_if_eq (pc := 805) (tgt := 810) hx hb dL_law_805 rfl (fun h1026 => ?_) (fun h1026 => absurd h1026 (by decide))
  refine lv_goto (pc := 810) (tgt := 1763) hx hb dL_law_810 rfl ?_
  exact law_tail hx hb hr hlocks hX hbl hbA hA2 hS (lv_sub hl (l' := [(4, .int 0), (0, .ref b)]) [2, 6] rfl) (Nat.le_of_ble_eq_true rfl) (Nat.le_of_ble_eq_true rfl)
