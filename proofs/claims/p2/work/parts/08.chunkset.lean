abbrev cK_addOne : ByteArray := prog_3_method_5_code
abbrev yK_addOne : MethodName := ⟨"DrawingVault$ChunkSet", "addOne", "(JI)V"⟩
theorem dK_addOne_0 : decode cK_addOne 0 = .ok (.iconst 0, 1) := by decide +kernel
theorem dK_addOne_1 : decode cK_addOne 1 = .ok (.istore 4, 2) := by decide +kernel
theorem dK_addOne_3 : decode cK_addOne 3 = .ok (.iload 4, 2) := by decide +kernel
theorem dK_addOne_5 : decode cK_addOne 5 = .ok (.aload_n 0, 1) := by decide +kernel
theorem dK_addOne_6 : decode cK_addOne 6 = .ok (.getfield 19, 3) := by decide +kernel
theorem dK_addOne_9 : decode cK_addOne 9 = .ok (.if_icmp .ge 33, 3) := by decide +kernel
theorem dK_addOne_12 : decode cK_addOne 12 = .ok (.aload_n 0, 1) := by decide +kernel
theorem dK_addOne_13 : decode cK_addOne 13 = .ok (.getfield 9, 3) := by decide +kernel
theorem dK_addOne_16 : decode cK_addOne 16 = .ok (.iload 4, 2) := by decide +kernel
theorem dK_addOne_18 : decode cK_addOne 18 = .ok (.laload, 1) := by decide +kernel
theorem dK_addOne_19 : decode cK_addOne 19 = .ok (.lload_n 1, 1) := by decide +kernel
theorem dK_addOne_20 : decode cK_addOne 20 = .ok (.lcmp, 1) := by decide +kernel
theorem dK_addOne_21 : decode cK_addOne 21 = .ok (.ifCond .ne 15, 3) := by decide +kernel
theorem dK_addOne_24 : decode cK_addOne 24 = .ok (.aload_n 0, 1) := by decide +kernel
theorem dK_addOne_25 : decode cK_addOne 25 = .ok (.getfield 15, 3) := by decide +kernel
theorem dK_addOne_28 : decode cK_addOne 28 = .ok (.iload 4, 2) := by decide +kernel
theorem dK_addOne_30 : decode cK_addOne 30 = .ok (.baload, 1) := by decide +kernel
theorem dK_addOne_31 : decode cK_addOne 31 = .ok (.iload_n 3, 1) := by decide +kernel
theorem dK_addOne_32 : decode cK_addOne 32 = .ok (.if_icmp .ne 4, 3) := by decide +kernel
theorem dK_addOne_35 : decode cK_addOne 35 = .ok (.return_, 1) := by decide +kernel
theorem dK_addOne_36 : decode cK_addOne 36 = .ok (.iinc 4 1, 3) := by decide +kernel
theorem dK_addOne_39 : decode cK_addOne 39 = .ok (.goto (-36), 3) := by decide +kernel
theorem dK_addOne_42 : decode cK_addOne 42 = .ok (.aload_n 0, 1) := by decide +kernel
theorem dK_addOne_43 : decode cK_addOne 43 = .ok (.getfield 19, 3) := by decide +kernel
theorem dK_addOne_46 : decode cK_addOne 46 = .ok (.sipush 992, 3) := by decide +kernel
theorem dK_addOne_49 : decode cK_addOne 49 = .ok (.if_icmp .ge 34, 3) := by decide +kernel
theorem dK_addOne_52 : decode cK_addOne 52 = .ok (.aload_n 0, 1) := by decide +kernel
theorem dK_addOne_53 : decode cK_addOne 53 = .ok (.getfield 9, 3) := by decide +kernel
theorem dK_addOne_56 : decode cK_addOne 56 = .ok (.aload_n 0, 1) := by decide +kernel
theorem dK_addOne_57 : decode cK_addOne 57 = .ok (.getfield 19, 3) := by decide +kernel
theorem dK_addOne_60 : decode cK_addOne 60 = .ok (.lload_n 1, 1) := by decide +kernel
theorem dK_addOne_61 : decode cK_addOne 61 = .ok (.lastore, 1) := by decide +kernel
theorem dK_addOne_62 : decode cK_addOne 62 = .ok (.aload_n 0, 1) := by decide +kernel
theorem dK_addOne_63 : decode cK_addOne 63 = .ok (.getfield 15, 3) := by decide +kernel
theorem dK_addOne_66 : decode cK_addOne 66 = .ok (.aload_n 0, 1) := by decide +kernel
theorem dK_addOne_67 : decode cK_addOne 67 = .ok (.getfield 19, 3) := by decide +kernel
theorem dK_addOne_70 : decode cK_addOne 70 = .ok (.iload_n 3, 1) := by decide +kernel
theorem dK_addOne_71 : decode cK_addOne 71 = .ok (.i2b, 1) := by decide +kernel
theorem dK_addOne_72 : decode cK_addOne 72 = .ok (.bastore, 1) := by decide +kernel
theorem dK_addOne_73 : decode cK_addOne 73 = .ok (.aload_n 0, 1) := by decide +kernel
theorem dK_addOne_74 : decode cK_addOne 74 = .ok (.dup, 1) := by decide +kernel
theorem dK_addOne_75 : decode cK_addOne 75 = .ok (.getfield 19, 3) := by decide +kernel
theorem dK_addOne_78 : decode cK_addOne 78 = .ok (.iconst 1, 1) := by decide +kernel
theorem dK_addOne_79 : decode cK_addOne 79 = .ok (.iadd, 1) := by decide +kernel
theorem dK_addOne_80 : decode cK_addOne 80 = .ok (.putfield 19, 3) := by decide +kernel
theorem dK_addOne_83 : decode cK_addOne 83 = .ok (.return_, 1) := by decide +kernel
abbrev cD_hasRevision : ByteArray := prog_5_method_2_code
abbrev yD_hasRevision : MethodName := ⟨"DrawingVault$Drawing", "hasRevision", "(I)Z"⟩
theorem dD_hasRevision_0 : decode cD_hasRevision 0 = .ok (.iload_n 1, 1) := by decide +kernel
theorem dD_hasRevision_1 : decode cD_hasRevision 1 = .ok (.ifCond .lt 15, 3) := by decide +kernel
theorem dD_hasRevision_4 : decode cD_hasRevision 4 = .ok (.iload_n 1, 1) := by decide +kernel
theorem dD_hasRevision_5 : decode cD_hasRevision 5 = .ok (.aload_n 0, 1) := by decide +kernel
theorem dD_hasRevision_6 : decode cD_hasRevision 6 = .ok (.getfield 31, 3) := by decide +kernel
theorem dD_hasRevision_9 : decode cD_hasRevision 9 = .ok (.if_icmp .ge 7, 3) := by decide +kernel
theorem dD_hasRevision_12 : decode cD_hasRevision 12 = .ok (.iconst 1, 1) := by decide +kernel
theorem dD_hasRevision_13 : decode cD_hasRevision 13 = .ok (.goto 4, 3) := by decide +kernel
theorem dD_hasRevision_16 : decode cD_hasRevision 16 = .ok (.iconst 0, 1) := by decide +kernel
theorem dD_hasRevision_17 : decode cD_hasRevision 17 = .ok (.ireturn, 1) := by decide +kernel
abbrev cD_newest : ByteArray := prog_5_method_3_code
abbrev yD_newest : MethodName := ⟨"DrawingVault$Drawing", "newest", "()I"⟩
theorem dD_newest_0 : decode cD_newest 0 = .ok (.aload_n 0, 1) := by decide +kernel
theorem dD_newest_1 : decode cD_newest 1 = .ok (.getfield 31, 3) := by decide +kernel
theorem dD_newest_4 : decode cD_newest 4 = .ok (.iconst 1, 1) := by decide +kernel
theorem dD_newest_5 : decode cD_newest 5 = .ok (.isub, 1) := by decide +kernel
theorem dD_newest_6 : decode cD_newest 6 = .ok (.ireturn, 1) := by decide +kernel
abbrev cB_takes : ByteArray := prog_2_method_3_code
abbrev yB_takes : MethodName := ⟨"DrawingVault$Baseline", "takes", "(II)Z"⟩
theorem dB_takes_0 : decode cB_takes 0 = .ok (.aload_n 0, 1) := by decide +kernel
theorem dB_takes_1 : decode cB_takes 1 = .ok (.getfield 9, 3) := by decide +kernel
theorem dB_takes_4 : decode cB_takes 4 = .ok (.iload_n 1, 1) := by decide +kernel
theorem dB_takes_5 : decode cB_takes 5 = .ok (.iaload, 1) := by decide +kernel
theorem dB_takes_6 : decode cB_takes 6 = .ok (.iconst (-1), 1) := by decide +kernel
theorem dB_takes_7 : decode cB_takes 7 = .ok (.if_icmp .ne 30, 3) := by decide +kernel
theorem dB_takes_10 : decode cB_takes 10 = .ok (.aload_n 0, 1) := by decide +kernel
theorem dB_takes_11 : decode cB_takes 11 = .ok (.getfield 9, 3) := by decide +kernel
theorem dB_takes_14 : decode cB_takes 14 = .ok (.iload_n 1, 1) := by decide +kernel
theorem dB_takes_15 : decode cB_takes 15 = .ok (.iload_n 2, 1) := by decide +kernel
theorem dB_takes_16 : decode cB_takes 16 = .ok (.iastore, 1) := by decide +kernel
theorem dB_takes_17 : decode cB_takes 17 = .ok (.aload_n 0, 1) := by decide +kernel
theorem dB_takes_18 : decode cB_takes 18 = .ok (.getfield 15, 3) := by decide +kernel
theorem dB_takes_21 : decode cB_takes 21 = .ok (.aload_n 0, 1) := by decide +kernel
theorem dB_takes_22 : decode cB_takes 22 = .ok (.getfield 24, 3) := by decide +kernel
theorem dB_takes_25 : decode cB_takes 25 = .ok (.iload_n 1, 1) := by decide +kernel
theorem dB_takes_26 : decode cB_takes 26 = .ok (.iastore, 1) := by decide +kernel
theorem dB_takes_27 : decode cB_takes 27 = .ok (.aload_n 0, 1) := by decide +kernel
theorem dB_takes_28 : decode cB_takes 28 = .ok (.dup, 1) := by decide +kernel
theorem dB_takes_29 : decode cB_takes 29 = .ok (.getfield 24, 3) := by decide +kernel
theorem dB_takes_32 : decode cB_takes 32 = .ok (.iconst 1, 1) := by decide +kernel
theorem dB_takes_33 : decode cB_takes 33 = .ok (.iadd, 1) := by decide +kernel
theorem dB_takes_34 : decode cB_takes 34 = .ok (.putfield 24, 3) := by decide +kernel
theorem dB_takes_37 : decode cB_takes 37 = .ok (.aload_n 0, 1) := by decide +kernel
theorem dB_takes_38 : decode cB_takes 38 = .ok (.getfield 9, 3) := by decide +kernel
theorem dB_takes_41 : decode cB_takes 41 = .ok (.iload_n 1, 1) := by decide +kernel
theorem dB_takes_42 : decode cB_takes 42 = .ok (.iaload, 1) := by decide +kernel
theorem dB_takes_43 : decode cB_takes 43 = .ok (.iload_n 2, 1) := by decide +kernel
theorem dB_takes_44 : decode cB_takes 44 = .ok (.if_icmp .ne 7, 3) := by decide +kernel
theorem dB_takes_47 : decode cB_takes 47 = .ok (.iconst 1, 1) := by decide +kernel
theorem dB_takes_48 : decode cB_takes 48 = .ok (.goto 4, 3) := by decide +kernel
theorem dB_takes_51 : decode cB_takes 51 = .ok (.iconst 0, 1) := by decide +kernel
theorem dB_takes_52 : decode cB_takes 52 = .ok (.ireturn, 1) := by decide +kernel
theorem wd_114 : (.fieldLink "DrawingVault$Drawing" 31 "DrawingVault$Drawing" "revisionCount" "I" : Cond) ∈ aw := aw_in (tb_2 (List.mem_of_getElem? (i := 160) rfl)) rfl

set_option maxHeartbeats 4000000 in
set_option maxRecDepth 100000 in
theorem gk_addOne1 (l : Launch) (dC : Nat → ClassId) (dI : Nat → Nat → Nat) (sz : Nat) (ch : Nat) (cp : Nat) (cn : Nat) (sn : Nat) (cP : ClassId) (cL : ClassId) (fp : Nat → Int64) (fl : Nat → Int32) (pi : Int64) (le : Int32) (hs9 : sn < 992) (hex : ∃ k, k < sn ∧ fp k = pi ∧ fl k = le) : Met l yK_addOne (.code yK_addOne cK_addOne 5 none :: aw) ({ frames := 0, cells := 0, slots := 0, locals := 0 }) (pW (dC, dI) sz [(ch, .inr (2, [.ref cp, .ref cn, .int (nI sn)])), (cp, .inl (cP, 992, .inr (.inl fp))), (cn, .inl (cL, 992, .inl fl))] [(cP, .long), (cL, .byte)] [.ref ch, .long pi, .int le]) (va_Qv (fun (_ : Unit) => True) (fun _ t => wW (dC, dI) (va_A [(ch, .inr (2, [.ref cp, .ref cn, .int (nI sn)])), (cp, .inl (cP, 992, .inr (.inl fp))), (cn, .inl (cL, 992, .inl fl))] sz) [(ch, .inr (2, [.ref cp, .ref cn, .int (nI sn)])), (cp, .inl (cP, 992, .inr (.inl fp))), (cn, .inl (cL, 992, .inl fl))] [(cP, .long), (cL, .byte)] t) (va_A [(ch, .inr (2, [.ref cp, .ref cn, .int (nI sn)])), (cp, .inl (cP, 992, .inr (.inl fp))), (cn, .inl (cL, 992, .inl fl))] sz)) 0 0 (va_A [(ch, .inr (2, [.ref cp, .ref cn, .int (nI sn)])), (cp, .inl (cP, 992, .inr (.inl fp))), (cn, .inl (cL, 992, .inl fl))] sz) := by
  refine Met.ofW (cc := cK_addOne) (maxL := 5) (ret := none) (by decide) rfl ?_
  intro p e s m args below meth c s₁ B hml hv
  obtain ⟨rfl, hv⟩ := hv
  have hx := B.exec
  have hb := B.bytes
  have hr := B.returns
  have hts : ∀ w ∈ aw, w.before _ s = true := fun w h => atoms_spec (ws := (.code yK_addOne cK_addOne 5 none :: aw)) B.pre w (List.mem_cons_of_mem _ h)
  have hown : s.vm.findClass RK = some m.cls := findClass_of_methodNamed B.named
  have hlocks := B.notSynchronized
  obtain ⟨hsz, hP, hK, hD0, hG⟩ := hv
  subst hsz
  have hD := hD0.self (sz := s.heap.size)
  generalize hAe : va_A [(ch, .inr (2, [.ref cp, .ref cn, .int (nI sn)])), (cp, .inl (cP, 992, .inr (.inl fp))), (cn, .inl (cL, 992, .inl fl))] s.heap.size = A at hD ⊢
  have hA : ∀ q : Nat, s.heap.size ≤ q → A q := fun q h => by rw [← hAe]; exact Or.inr h
  obtain ⟨H, hH⟩ : ∃ H, H = s.heap := ⟨_, rfl⟩
  have hS : va_S A s.heap H [] := by rw [hH]; exact va_S.rf
  rw [← hH] at hP ⊢
  have hP : va_P (dC, dI) kCl [(ch, .inr (2, [.ref cp, .ref cn, .int (nI sn)])), (cp, .inl (cP, 992, .inr (.inl fp))), (cn, .inl (cL, 992, .inl fl))] H := hP
  have hl := lv_entry ([.ref ch, .long pi, .int le]) (n := 5) (Nat.le_of_ble_eq_true rfl)
  rw [lg_entry_eq]
  generalize (lg_sl ([.ref ch, .long pi, .int le]) ++ List.replicate (5 - (lg_sl ([.ref ch, .long pi, .int le])).length) Slot.unset).toArray = ls at hl ⊢
  have hl : lv_has ls 5 [(0, .ref ch), (1, .long pi), (3, .int le)] := hl
  refine lv_iconst (pc := 0) (v := 0) hx hb dK_addOne_0 (by decide) ?_
  refine lv_istore (pc := 1) hx hb dK_addOne_1 hl (by decide) rfl (fun ls hl => ?_)
  have hl : lv_has ls 5 [(4, .int 0), (0, .ref ch), (1, .long pi), (3, .int le)] := hl
  refine lpM (σ := (Nat) × (Heap) × (List Loc) × (Array Slot)) (fun z => W p l e _ s m _ below meth c z.2.1 z.2.2.1 0 0 _ (F0 m 3 z.2.2.2 [])) (fun z => va_P (dC, dI) kCl [(ch, .inr (2, [.ref cp, .ref cn, .int (nI sn)])), (cp, .inl (cP, 992, .inr (.inl fp))), (cn, .inl (cL, 992, .inl fl))] z.2.1 ∧ va_D A [(ch, .inr (2, [.ref cp, .ref cn, .int (nI sn)])), (cp, .inl (cP, 992, .inr (.inl fp))), (cn, .inl (cL, 992, .inl fl))] ∧ va_S A s.heap z.2.1 z.2.2.1 ∧ lv_has z.2.2.2 5 [(4, .int (nI z.1)), (0, .ref ch), (1, .long pi), (3, .int le)] ∧ (z.1 ≤ sn) ∧ (∀ k, k < z.1 → ¬ (fp k = pi ∧ fl k = le))) (fun z => sn - z.1) ?_ (0, H, _, ls) ⟨hP, hD, hS, hl, Nat.zero_le _, lt_0⟩
  rintro ⟨i, H, locs, ls⟩ ⟨hP, hD, hS, hl, hi, hno⟩ ih
  try dsimp only at hP hD hS hl hi hno ih ⊢
  have hP : va_P (dC, dI) kCl [(ch, .inr (2, [.ref cp, .ref cn, .int (nI sn)])), (cp, .inl (cP, 992, .inr (.inl fp))), (cn, .inl (cL, 992, .inl fl))] H := hP
  have hD : va_D A [(ch, .inr (2, [.ref cp, .ref cn, .int (nI sn)])), (cp, .inl (cP, 992, .inr (.inl fp))), (cn, .inl (cL, 992, .inl fl))] := hD
  have hl : lv_has ls 5 [(4, .int (nI i)), (0, .ref ch), (1, .long pi), (3, .int le)] := hl
  have hi : i ≤ sn := hi
  have hno : ∀ k, k < i → ¬ (fp k = pi ∧ fl k = le) := hno
  refine lv_iload (pc := 3) hx hb dK_addOne_3 (lv_at hl 0 rfl) ?_
  refine lv_aload_n (pc := 5) hx hb dK_addOne_5 rfl (lv_at hl 1 rfl) ?_
  refine va_get (D := (dC, dI)) (cl := kCl) (C := RK) (T := TK) (N := 3) (pc := 6) hx hb hts inK hown hK hP 0 rfl rfl 2 (by decide) (hts _ wd_105) (fun _ h9 => h9) rfl dK_addOne_6 ?_
  refine lv_icmp_ge (pc := 9) (tgt := 42) hx hb dK_addOne_9 rfl (fun h1 => ?_) (fun h1 => ?_)
  · exact (hex.elim (fun k hk => hno k (Nat.lt_of_lt_of_le hk.1 (nle_of h1 (by omega) (by omega))) hk.2)).elim
  · refine lv_aload_n (pc := 12) hx hb dK_addOne_12 rfl (lv_at hl 1 rfl) ?_
    refine va_get (D := (dC, dI)) (cl := kCl) (C := RK) (T := TK) (N := 3) (pc := 13) hx hb hts inK hown hK hP 0 rfl rfl 0 (by decide) (hts _ wd_102) (fun _ h9 => h9) rfl dK_addOne_13 ?_
    refine lv_iload (pc := 16) hx hb dK_addOne_16 (lv_at hl 0 rfl) ?_
    refine va_lald (D := (dC, dI)) (cl := kCl) (pc := 18) hx hb hK hP 1 0 rfl rfl (vp_in_nI (show i < 992 by have := nlt_of h1 (by omega); omega) (by decide)) dK_addOne_18 ?_
    refine W.eq (g2 := F0 m 19 ls [.long (fp ((nI i) : Int32).toNatClampNeg)]) rfl ?_
    refine lv_topl (fun z2 hz3 => ?_)
    obtain rfl : z2 = fp i := hz3.trans (by rw [nI_clamp (by omega)])
    refine lv_lload_n (pc := 19) hx hb dK_addOne_19 rfl (lv_at hl 2 rfl) ?_
    refine W.lcmp (pc := 20) hx hb dK_addOne_20 ?_
    refine lv_if_ne (pc := 21) (tgt := 36) hx hb dK_addOne_21 rfl (fun h4 => ?_) (fun h4 => ?_)
    · refine lv_iinc (pc := 36) (v := (nI (i + 1))) hx hb dK_addOne_36 hl (k := 0) rfl (nI_1 _) (by decide) rfl (fun ls hl => ?_)
      have hl : lv_has ls 5 [(4, .int (nI (i + 1))), (0, .ref ch), (1, .long pi), (3, .int le)] := hl
      refine lv_goto (pc := 39) (tgt := 3) hx hb dK_addOne_39 rfl ?_
      have hl := lv_sub hl (l' := [(4, .int (nI (i + 1))), (0, .ref ch), (1, .long pi), (3, .int le)]) [0, 1, 2, 3] rfl
      exact ih (i + 1, H, _, ls) ⟨hP, hD, hS, hl, (nlt_of h1 (by omega)), (lt_s hno (fun q => h4 (cmp_0.mpr q.1)))⟩ (by have := nlt_of h1 (by omega); omega)
    · refine lv_aload_n (pc := 24) hx hb dK_addOne_24 rfl (lv_at hl 1 rfl) ?_
      refine va_get (D := (dC, dI)) (cl := kCl) (C := RK) (T := TK) (N := 3) (pc := 25) hx hb hts inK hown hK hP 0 rfl rfl 1 (by decide) (hts _ wd_104) (fun _ h9 => h9) rfl dK_addOne_25 ?_
      refine lv_iload (pc := 28) hx hb dK_addOne_28 (lv_at hl 0 rfl) ?_
      refine va_bald (D := (dC, dI)) (cl := kCl) (pc := 30) hx hb hK hP 2 1 rfl rfl (vp_in_nI (show i < 992 by have := nlt_of h1 (by omega); omega) (by decide)) dK_addOne_30 ?_
      refine W.eq (g2 := F0 m 31 ls [.int (fl ((nI i) : Int32).toNatClampNeg)]) rfl ?_
      refine lv_topi (fun z5 hz6 => ?_)
      obtain rfl : z5 = fl i := hz6.trans (by rw [nI_clamp (by omega)])
      refine lv_iload_n (pc := 31) hx hb dK_addOne_31 rfl (lv_at hl 3 rfl) ?_
      refine lv_icmp_ne (pc := 32) (tgt := 36) hx hb dK_addOne_32 rfl (fun h7 => ?_) (fun h7 => ?_)
      · refine lv_iinc (pc := 36) (v := (nI (i + 1))) hx hb dK_addOne_36 hl (k := 0) rfl (nI_1 _) (by decide) rfl (fun ls hl => ?_)
        have hl : lv_has ls 5 [(4, .int (nI (i + 1))), (0, .ref ch), (1, .long pi), (3, .int le)] := hl
        refine lv_goto (pc := 39) (tgt := 3) hx hb dK_addOne_39 rfl ?_
        have hl := lv_sub hl (l' := [(4, .int (nI (i + 1))), (0, .ref ch), (1, .long pi), (3, .int le)]) [0, 1, 2, 3] rfl
        exact ih (i + 1, H, _, ls) ⟨hP, hD, hS, hl, (nlt_of h1 (by omega)), (lt_s hno (fun q => h7 q.2))⟩ (by have := nlt_of h1 (by omega); omega)
      · have hP9 := hP.sub (ws' := [(ch, .inr (2, [.ref cp, .ref cn, .int (nI sn)])), (cp, .inl (cP, 992, .inr (.inl fp))), (cn, .inl (cL, 992, .inl fl))]) [0, 1, 2] rfl
        have hD9 := hD.sub (ws' := [(ch, .inr (2, [.ref cp, .ref cn, .int (nI sn)])), (cp, .inl (cP, 992, .inr (.inl fp))), (cn, .inl (cL, 992, .inl fl))]) [0, 1, 2] (by decide) rfl
        have hK9 := hK.sub (tys' := [(cP, .long), (cL, .byte)]) [0, 1] rfl
        exact W.vret (pc := 35) hx hb hr (fun t ht hW => ⟨⟨(), rfl, trivial, by rw [ht]; exact hP9, va_K.moved hW.alike hK9, hD9⟩, hS.F ht⟩) hS.2.2 dK_addOne_35
set_option maxHeartbeats 4000000 in
set_option maxRecDepth 100000 in
theorem gk_addOne0 (l : Launch) (dC : Nat → ClassId) (dI : Nat → Nat → Nat) (sz : Nat) (ch : Nat) (cp : Nat) (cn : Nat) (sn : Nat) (cP : ClassId) (cL : ClassId) (fp : Nat → Int64) (fl : Nat → Int32) (pi : Int64) (le : Int32) (hs9 : sn < 992) (hex : ¬ (∃ k, k < sn ∧ fp k = pi ∧ fl k = le)) : Met l yK_addOne (.code yK_addOne cK_addOne 5 none :: aw) ({ frames := 0, cells := 0, slots := 0, locals := 0 }) (pW (dC, dI) sz [(ch, .inr (2, [.ref cp, .ref cn, .int (nI sn)])), (cp, .inl (cP, 992, .inr (.inl fp))), (cn, .inl (cL, 992, .inl fl))] [(cP, .long), (cL, .byte)] [.ref ch, .long pi, .int le]) (va_Qv (fun (_ : Unit) => True) (fun _ t => wW (dC, dI) (va_A [(ch, .inr (2, [.ref cp, .ref cn, .int (nI sn)])), (cp, .inl (cP, 992, .inr (.inl fp))), (cn, .inl (cL, 992, .inl fl))] sz) [(ch, .inr (2, [.ref cp, .ref cn, .int (nI (sn + 1))])), (cp, .inl (cP, 992, .inr (.inl (vp_updL fp ((nI sn) : Int32).toNatClampNeg pi)))), (cn, .inl (cL, 992, .inl (upd fl ((nI sn) : Int32).toNatClampNeg (vp_nar .byte (le).toInt8.toInt32))))] [(cP, .long), (cL, .byte)] t) (va_A [(ch, .inr (2, [.ref cp, .ref cn, .int (nI sn)])), (cp, .inl (cP, 992, .inr (.inl fp))), (cn, .inl (cL, 992, .inl fl))] sz)) 0 0 (va_A [(ch, .inr (2, [.ref cp, .ref cn, .int (nI sn)])), (cp, .inl (cP, 992, .inr (.inl fp))), (cn, .inl (cL, 992, .inl fl))] sz) := by
  refine Met.ofW (cc := cK_addOne) (maxL := 5) (ret := none) (by decide) rfl ?_
  intro p e s m args below meth c s₁ B hml hv
  obtain ⟨rfl, hv⟩ := hv
  have hx := B.exec
  have hb := B.bytes
  have hr := B.returns
  have hts : ∀ w ∈ aw, w.before _ s = true := fun w h => atoms_spec (ws := (.code yK_addOne cK_addOne 5 none :: aw)) B.pre w (List.mem_cons_of_mem _ h)
  have hown : s.vm.findClass RK = some m.cls := findClass_of_methodNamed B.named
  have hlocks := B.notSynchronized
  obtain ⟨hsz, hP, hK, hD0, hG⟩ := hv
  subst hsz
  have hD := hD0.self (sz := s.heap.size)
  generalize hAe : va_A [(ch, .inr (2, [.ref cp, .ref cn, .int (nI sn)])), (cp, .inl (cP, 992, .inr (.inl fp))), (cn, .inl (cL, 992, .inl fl))] s.heap.size = A at hD ⊢
  have hA : ∀ q : Nat, s.heap.size ≤ q → A q := fun q h => by rw [← hAe]; exact Or.inr h
  obtain ⟨H, hH⟩ : ∃ H, H = s.heap := ⟨_, rfl⟩
  have hS : va_S A s.heap H [] := by rw [hH]; exact va_S.rf
  rw [← hH] at hP ⊢
  have hP : va_P (dC, dI) kCl [(ch, .inr (2, [.ref cp, .ref cn, .int (nI sn)])), (cp, .inl (cP, 992, .inr (.inl fp))), (cn, .inl (cL, 992, .inl fl))] H := hP
  have hl := lv_entry ([.ref ch, .long pi, .int le]) (n := 5) (Nat.le_of_ble_eq_true rfl)
  rw [lg_entry_eq]
  generalize (lg_sl ([.ref ch, .long pi, .int le]) ++ List.replicate (5 - (lg_sl ([.ref ch, .long pi, .int le])).length) Slot.unset).toArray = ls at hl ⊢
  have hl : lv_has ls 5 [(0, .ref ch), (1, .long pi), (3, .int le)] := hl
  refine lv_iconst (pc := 0) (v := 0) hx hb dK_addOne_0 (by decide) ?_
  refine lv_istore (pc := 1) hx hb dK_addOne_1 hl (by decide) rfl (fun ls hl => ?_)
  have hl : lv_has ls 5 [(4, .int 0), (0, .ref ch), (1, .long pi), (3, .int le)] := hl
  refine lpM (σ := (Nat) × (Heap) × (List Loc) × (Array Slot)) (fun z => W p l e _ s m _ below meth c z.2.1 z.2.2.1 0 0 _ (F0 m 3 z.2.2.2 [])) (fun z => va_P (dC, dI) kCl [(ch, .inr (2, [.ref cp, .ref cn, .int (nI sn)])), (cp, .inl (cP, 992, .inr (.inl fp))), (cn, .inl (cL, 992, .inl fl))] z.2.1 ∧ va_D A [(ch, .inr (2, [.ref cp, .ref cn, .int (nI sn)])), (cp, .inl (cP, 992, .inr (.inl fp))), (cn, .inl (cL, 992, .inl fl))] ∧ va_S A s.heap z.2.1 z.2.2.1 ∧ lv_has z.2.2.2 5 [(4, .int (nI z.1)), (0, .ref ch), (1, .long pi), (3, .int le)] ∧ (z.1 ≤ sn) ∧ (∀ k, k < z.1 → ¬ (fp k = pi ∧ fl k = le))) (fun z => sn - z.1) ?_ (0, H, _, ls) ⟨hP, hD, hS, hl, Nat.zero_le _, lt_0⟩
  rintro ⟨i, H, locs, ls⟩ ⟨hP, hD, hS, hl, hi, hno⟩ ih
  try dsimp only at hP hD hS hl hi hno ih ⊢
  have hP : va_P (dC, dI) kCl [(ch, .inr (2, [.ref cp, .ref cn, .int (nI sn)])), (cp, .inl (cP, 992, .inr (.inl fp))), (cn, .inl (cL, 992, .inl fl))] H := hP
  have hD : va_D A [(ch, .inr (2, [.ref cp, .ref cn, .int (nI sn)])), (cp, .inl (cP, 992, .inr (.inl fp))), (cn, .inl (cL, 992, .inl fl))] := hD
  have hl : lv_has ls 5 [(4, .int (nI i)), (0, .ref ch), (1, .long pi), (3, .int le)] := hl
  have hi : i ≤ sn := hi
  have hno : ∀ k, k < i → ¬ (fp k = pi ∧ fl k = le) := hno
  refine lv_iload (pc := 3) hx hb dK_addOne_3 (lv_at hl 0 rfl) ?_
  refine lv_aload_n (pc := 5) hx hb dK_addOne_5 rfl (lv_at hl 1 rfl) ?_
  refine va_get (D := (dC, dI)) (cl := kCl) (C := RK) (T := TK) (N := 3) (pc := 6) hx hb hts inK hown hK hP 0 rfl rfl 2 (by decide) (hts _ wd_105) (fun _ h9 => h9) rfl dK_addOne_6 ?_
  refine lv_icmp_ge (pc := 9) (tgt := 42) hx hb dK_addOne_9 rfl (fun h1 => ?_) (fun h1 => ?_)
  · refine lv_aload_n (pc := 42) hx hb dK_addOne_42 rfl (lv_at hl 1 rfl) ?_
    refine va_get (D := (dC, dI)) (cl := kCl) (C := RK) (T := TK) (N := 3) (pc := 43) hx hb hts inK hown hK hP 0 rfl rfl 2 (by decide) (hts _ wd_105) (fun _ h9 => h9) rfl dK_addOne_43 ?_
    refine lv_sipush (pc := 46) (v := 992) hx hb dK_addOne_46 (by decide) ?_
    refine lv_icmp_ge (pc := 49) (tgt := 83) hx hb dK_addOne_49 rfl (fun h2 => absurd h2 (nI_ge (a := sn) (b := 992) hs9 (by decide))) (fun h2 => ?_)
    refine lv_aload_n (pc := 52) hx hb dK_addOne_52 rfl (lv_at hl 1 rfl) ?_
    refine va_get (D := (dC, dI)) (cl := kCl) (C := RK) (T := TK) (N := 3) (pc := 53) hx hb hts inK hown hK hP 0 rfl rfl 0 (by decide) (hts _ wd_102) (fun _ h9 => h9) rfl dK_addOne_53 ?_
    refine lv_aload_n (pc := 56) hx hb dK_addOne_56 rfl (lv_at hl 1 rfl) ?_
    refine va_get (D := (dC, dI)) (cl := kCl) (C := RK) (T := TK) (N := 3) (pc := 57) hx hb hts inK hown hK hP 0 rfl rfl 2 (by decide) (hts _ wd_105) (fun _ h9 => h9) rfl dK_addOne_57 ?_
    refine lv_lload_n (pc := 60) hx hb dK_addOne_60 rfl (lv_at hl 2 rfl) ?_
    refine va_last (D := (dC, dI)) (cl := kCl) (pc := 61) hx hb hK hP hD hS 1 0 rfl rfl (vp_in_nI hs9 (by decide)) dK_addOne_61 (fun H locs hP hD hS => ?_)
    have hP : va_P (dC, dI) kCl [(ch, .inr (2, [.ref cp, .ref cn, .int (nI sn)])), (cp, .inl (cP, 992, .inr (.inl (vp_updL fp ((nI sn) : Int32).toNatClampNeg pi)))), (cn, .inl (cL, 992, .inl fl))] H := hP
    have hD : va_D A [(ch, .inr (2, [.ref cp, .ref cn, .int (nI sn)])), (cp, .inl (cP, 992, .inr (.inl (vp_updL fp ((nI sn) : Int32).toNatClampNeg pi)))), (cn, .inl (cL, 992, .inl fl))] := hD
    refine lv_aload_n (pc := 62) hx hb dK_addOne_62 rfl (lv_at hl 1 rfl) ?_
    refine va_get (D := (dC, dI)) (cl := kCl) (C := RK) (T := TK) (N := 3) (pc := 63) hx hb hts inK hown hK hP 0 rfl rfl 1 (by decide) (hts _ wd_104) (fun _ h9 => h9) rfl dK_addOne_63 ?_
    refine lv_aload_n (pc := 66) hx hb dK_addOne_66 rfl (lv_at hl 1 rfl) ?_
    refine va_get (D := (dC, dI)) (cl := kCl) (C := RK) (T := TK) (N := 3) (pc := 67) hx hb hts inK hown hK hP 0 rfl rfl 2 (by decide) (hts _ wd_105) (fun _ h9 => h9) rfl dK_addOne_67 ?_
    refine lv_iload_n (pc := 70) hx hb dK_addOne_70 rfl (lv_at hl 3 rfl) ?_
    refine lv_i2b (pc := 71) hx hb dK_addOne_71 rfl ?_
    refine va_bast (D := (dC, dI)) (cl := kCl) (pc := 72) hx hb hK hP hD hS 2 1 rfl rfl (vp_in_nI hs9 (by decide)) dK_addOne_72 (fun H locs hP hD hS => ?_)
    have hP : va_P (dC, dI) kCl [(ch, .inr (2, [.ref cp, .ref cn, .int (nI sn)])), (cp, .inl (cP, 992, .inr (.inl (vp_updL fp ((nI sn) : Int32).toNatClampNeg pi)))), (cn, .inl (cL, 992, .inl (upd fl ((nI sn) : Int32).toNatClampNeg (vp_nar .byte (le).toInt8.toInt32))))] H := hP
    have hD : va_D A [(ch, .inr (2, [.ref cp, .ref cn, .int (nI sn)])), (cp, .inl (cP, 992, .inr (.inl (vp_updL fp ((nI sn) : Int32).toNatClampNeg pi)))), (cn, .inl (cL, 992, .inl (upd fl ((nI sn) : Int32).toNatClampNeg (vp_nar .byte (le).toInt8.toInt32))))] := hD
    refine lv_aload_n (pc := 73) hx hb dK_addOne_73 rfl (lv_at hl 1 rfl) ?_
    refine lv_dup (pc := 74) hx hb dK_addOne_74 rfl ?_
    refine va_get (D := (dC, dI)) (cl := kCl) (C := RK) (T := TK) (N := 3) (pc := 75) hx hb hts inK hown hK hP 0 rfl rfl 2 (by decide) (hts _ wd_105) (fun _ h9 => h9) rfl dK_addOne_75 ?_
    refine lv_iconst (pc := 78) (v := 1) hx hb dK_addOne_78 (by decide) ?_
    refine lv_iadd (pc := 79) hx hb dK_addOne_79 ?_
    refine lv_topi (fun z3 hz4 => ?_)
    obtain rfl : z3 = (nI (sn + 1)) := hz4.trans (nI_add _ 1)
    refine va_put (D := (dC, dI)) (cl := kCl) (ci := 2) (v := .int (nI (sn + 1))) (ty := .int) (C := RK) (T := TK) (N := 3) (pc := 80) hx hb hts inK tyK tyK_ok nmK hown hK hP hD hS 0 rfl rfl 2 (by decide) (hts _ wd_105) (fun _ h9 => h9) rfl (by decide +kernel) rfl rfl (Nat.le_of_ble_eq_true rfl) dK_addOne_80 (fun H locs hP hD hS => ?_)
    have hP : va_P (dC, dI) kCl [(ch, .inr (2, [.ref cp, .ref cn, .int (nI (sn + 1))])), (cp, .inl (cP, 992, .inr (.inl (vp_updL fp ((nI sn) : Int32).toNatClampNeg pi)))), (cn, .inl (cL, 992, .inl (upd fl ((nI sn) : Int32).toNatClampNeg (vp_nar .byte (le).toInt8.toInt32))))] H := hP
    have hD : va_D A [(ch, .inr (2, [.ref cp, .ref cn, .int (nI (sn + 1))])), (cp, .inl (cP, 992, .inr (.inl (vp_updL fp ((nI sn) : Int32).toNatClampNeg pi)))), (cn, .inl (cL, 992, .inl (upd fl ((nI sn) : Int32).toNatClampNeg (vp_nar .byte (le).toInt8.toInt32))))] := hD
    have hP9 := hP.sub (ws' := [(ch, .inr (2, [.ref cp, .ref cn, .int (nI (sn + 1))])), (cp, .inl (cP, 992, .inr (.inl (vp_updL fp ((nI sn) : Int32).toNatClampNeg pi)))), (cn, .inl (cL, 992, .inl (upd fl ((nI sn) : Int32).toNatClampNeg (vp_nar .byte (le).toInt8.toInt32))))]) [0, 1, 2] rfl
    have hD9 := hD.sub (ws' := [(ch, .inr (2, [.ref cp, .ref cn, .int (nI (sn + 1))])), (cp, .inl (cP, 992, .inr (.inl (vp_updL fp ((nI sn) : Int32).toNatClampNeg pi)))), (cn, .inl (cL, 992, .inl (upd fl ((nI sn) : Int32).toNatClampNeg (vp_nar .byte (le).toInt8.toInt32))))]) [0, 1, 2] (by decide) rfl
    have hK9 := hK.sub (tys' := [(cP, .long), (cL, .byte)]) [0, 1] rfl
    exact W.vret (pc := 83) hx hb hr (fun t ht hW => ⟨⟨(), rfl, trivial, by rw [ht]; exact hP9, va_K.moved hW.alike hK9, hD9⟩, hS.F ht⟩) hS.2.2 dK_addOne_83
  · refine lv_aload_n (pc := 12) hx hb dK_addOne_12 rfl (lv_at hl 1 rfl) ?_
    refine va_get (D := (dC, dI)) (cl := kCl) (C := RK) (T := TK) (N := 3) (pc := 13) hx hb hts inK hown hK hP 0 rfl rfl 0 (by decide) (hts _ wd_102) (fun _ h9 => h9) rfl dK_addOne_13 ?_
    refine lv_iload (pc := 16) hx hb dK_addOne_16 (lv_at hl 0 rfl) ?_
    refine va_lald (D := (dC, dI)) (cl := kCl) (pc := 18) hx hb hK hP 1 0 rfl rfl (vp_in_nI (show i < 992 by have := nlt_of h1 (by omega); omega) (by decide)) dK_addOne_18 ?_
    refine W.eq (g2 := F0 m 19 ls [.long (fp ((nI i) : Int32).toNatClampNeg)]) rfl ?_
    refine lv_topl (fun z5 hz6 => ?_)
    obtain rfl : z5 = fp i := hz6.trans (by rw [nI_clamp (by omega)])
    refine lv_lload_n (pc := 19) hx hb dK_addOne_19 rfl (lv_at hl 2 rfl) ?_
    refine W.lcmp (pc := 20) hx hb dK_addOne_20 ?_
    refine lv_if_ne (pc := 21) (tgt := 36) hx hb dK_addOne_21 rfl (fun h7 => ?_) (fun h7 => ?_)
    · refine lv_iinc (pc := 36) (v := (nI (i + 1))) hx hb dK_addOne_36 hl (k := 0) rfl (nI_1 _) (by decide) rfl (fun ls hl => ?_)
      have hl : lv_has ls 5 [(4, .int (nI (i + 1))), (0, .ref ch), (1, .long pi), (3, .int le)] := hl
      refine lv_goto (pc := 39) (tgt := 3) hx hb dK_addOne_39 rfl ?_
      have hl := lv_sub hl (l' := [(4, .int (nI (i + 1))), (0, .ref ch), (1, .long pi), (3, .int le)]) [0, 1, 2, 3] rfl
      exact ih (i + 1, H, _, ls) ⟨hP, hD, hS, hl, (nlt_of h1 (by omega)), (lt_s hno (fun q => h7 (cmp_0.mpr q.1)))⟩ (by have := nlt_of h1 (by omega); omega)
    · refine lv_aload_n (pc := 24) hx hb dK_addOne_24 rfl (lv_at hl 1 rfl) ?_
      refine va_get (D := (dC, dI)) (cl := kCl) (C := RK) (T := TK) (N := 3) (pc := 25) hx hb hts inK hown hK hP 0 rfl rfl 1 (by decide) (hts _ wd_104) (fun _ h9 => h9) rfl dK_addOne_25 ?_
      refine lv_iload (pc := 28) hx hb dK_addOne_28 (lv_at hl 0 rfl) ?_
      refine va_bald (D := (dC, dI)) (cl := kCl) (pc := 30) hx hb hK hP 2 1 rfl rfl (vp_in_nI (show i < 992 by have := nlt_of h1 (by omega); omega) (by decide)) dK_addOne_30 ?_
      refine W.eq (g2 := F0 m 31 ls [.int (fl ((nI i) : Int32).toNatClampNeg)]) rfl ?_
      refine lv_topi (fun z8 hz9 => ?_)
      obtain rfl : z8 = fl i := hz9.trans (by rw [nI_clamp (by omega)])
      refine lv_iload_n (pc := 31) hx hb dK_addOne_31 rfl (lv_at hl 3 rfl) ?_
      refine lv_icmp_ne (pc := 32) (tgt := 36) hx hb dK_addOne_32 rfl (fun h10 => ?_) (fun h10 => ?_)
      · refine lv_iinc (pc := 36) (v := (nI (i + 1))) hx hb dK_addOne_36 hl (k := 0) rfl (nI_1 _) (by decide) rfl (fun ls hl => ?_)
        have hl : lv_has ls 5 [(4, .int (nI (i + 1))), (0, .ref ch), (1, .long pi), (3, .int le)] := hl
        refine lv_goto (pc := 39) (tgt := 3) hx hb dK_addOne_39 rfl ?_
        have hl := lv_sub hl (l' := [(4, .int (nI (i + 1))), (0, .ref ch), (1, .long pi), (3, .int le)]) [0, 1, 2, 3] rfl
        exact ih (i + 1, H, _, ls) ⟨hP, hD, hS, hl, (nlt_of h1 (by omega)), (lt_s hno (fun q => h10 q.2))⟩ (by have := nlt_of h1 (by omega); omega)
      · exact absurd ⟨i, nlt_of h1 (by omega), cmp_0.mp h7, h10⟩ hex
set_option maxHeartbeats 4000000 in
set_option maxRecDepth 100000 in
theorem gd_hasRevision (l : Launch) (dC : Nat → ClassId) (dI : Nat → Nat → Nat) (dw : Nat) (ra : Nat) (cc9 : Nat) (cw : Nat) (rc : Int32) (ho : Int32) (vv : Int32) : Met l yD_hasRevision (.code yD_hasRevision cD_hasRevision 2 (some .boolean) :: aw) ({ frames := 0, cells := 0, slots := 0, locals := 0 }) (pR (dC, dI) [(dw, .inr (6, [.ref ra, .int rc, .int ho, .ref cc9, .ref cw]))] [] [.ref dw, .int vv]) (vp_Si (fun r => (r = 1 ∧ (¬ vv < 0 ∧ ¬ rc ≤ vv)) ∨ (r = 0 ∧ (vv < 0 ∨ rc ≤ vv)))) 0 0 (fun _ => False) := by
  refine Met.ofW (cc := cD_hasRevision) (maxL := 2) (ret := (some .boolean)) (by decide) rfl ?_
  intro p e s m args below meth c s₁ B hml hv
  obtain ⟨rfl, hv⟩ := hv
  have hx := B.exec
  have hb := B.bytes
  have hr := B.returns
  have hts : ∀ w ∈ aw, w.before _ s = true := fun w h => atoms_spec (ws := (.code yD_hasRevision cD_hasRevision 2 (some .boolean) :: aw)) B.pre w (List.mem_cons_of_mem _ h)
  have hown : s.vm.findClass RD = some m.cls := findClass_of_methodNamed B.named
  have hlocks := B.notSynchronized
  obtain ⟨hP, hK, hG⟩ := hv
  obtain ⟨H, hH⟩ : ∃ H, H = s.heap := ⟨_, rfl⟩
  rw [← hH] at hP ⊢
  have hl := lv_entry ([.ref dw, .int vv]) (n := 2) (Nat.le_of_ble_eq_true rfl)
  rw [lg_entry_eq]
  generalize (lg_sl ([.ref dw, .int vv]) ++ List.replicate (2 - (lg_sl ([.ref dw, .int vv])).length) Slot.unset).toArray = ls at hl ⊢
  have hl : lv_has ls 2 [(0, .ref dw), (1, .int vv)] := hl
  refine lv_iload_n (pc := 0) hx hb dD_hasRevision_0 rfl (lv_at hl 1 rfl) ?_
  refine lv_if_lt (pc := 1) (tgt := 16) hx hb dD_hasRevision_1 rfl (fun h1 => ?_) (fun h1 => ?_)
  · refine lv_iconst (pc := 16) (v := 0) hx hb dD_hasRevision_16 (by decide) ?_
    exact W.zret (pc := 17) hx hb hr rfl (fun t ht hW => ⟨_, rfl, (Or.inr ⟨rfl, by first | assumption | exact ⟨by assumption, by assumption⟩ | exact Or.inl (by assumption) | exact Or.inr (by assumption) | exact Or.inr (Or.inl (by assumption)) | exact Or.inr (Or.inr (by assumption)) | simp_all⟩), ht.trans hH⟩) (fun q h => nomatch h) dD_hasRevision_17
  · refine lv_iload_n (pc := 4) hx hb dD_hasRevision_4 rfl (lv_at hl 1 rfl) ?_
    refine lv_aload_n (pc := 5) hx hb dD_hasRevision_5 rfl (lv_at hl 0 rfl) ?_
    refine va_get (D := (dC, dI)) (cl := kCl) (C := RD) (T := TD) (N := 5) (pc := 6) hx hb hts inD hown hK hP 0 rfl rfl 1 (by decide) (hts _ wd_114) (fun _ h9 => h9) rfl dD_hasRevision_6 ?_
    refine lv_icmp_ge (pc := 9) (tgt := 16) hx hb dD_hasRevision_9 rfl (fun h2 => ?_) (fun h2 => ?_)
    · refine lv_iconst (pc := 16) (v := 0) hx hb dD_hasRevision_16 (by decide) ?_
      exact W.zret (pc := 17) hx hb hr rfl (fun t ht hW => ⟨_, rfl, (Or.inr ⟨rfl, by first | assumption | exact ⟨by assumption, by assumption⟩ | exact Or.inl (by assumption) | exact Or.inr (by assumption) | exact Or.inr (Or.inl (by assumption)) | exact Or.inr (Or.inr (by assumption)) | simp_all⟩), ht.trans hH⟩) (fun q h => nomatch h) dD_hasRevision_17
    · refine lv_iconst (pc := 12) (v := 1) hx hb dD_hasRevision_12 (by decide) ?_
      refine lv_goto (pc := 13) (tgt := 17) hx hb dD_hasRevision_13 rfl ?_
      exact W.zret (pc := 17) hx hb hr rfl (fun t ht hW => ⟨_, rfl, (Or.inl ⟨rfl, by first | assumption | exact ⟨by assumption, by assumption⟩ | exact Or.inl (by assumption) | exact Or.inr (by assumption) | exact Or.inr (Or.inl (by assumption)) | exact Or.inr (Or.inr (by assumption)) | simp_all⟩), ht.trans hH⟩) (fun q h => nomatch h) dD_hasRevision_17
set_option maxHeartbeats 4000000 in
set_option maxRecDepth 100000 in
theorem gd_newest (l : Launch) (dC : Nat → ClassId) (dI : Nat → Nat → Nat) (dw : Nat) (ra : Nat) (cc9 : Nat) (cw : Nat) (rc : Int32) (ho : Int32) : Met l yD_newest (.code yD_newest cD_newest 1 (some .int) :: aw) ({ frames := 0, cells := 0, slots := 0, locals := 0 }) (pR (dC, dI) [(dw, .inr (6, [.ref ra, .int rc, .int ho, .ref cc9, .ref cw]))] [] [.ref dw]) (vp_Si (fun r => r = (rc - 1))) 0 0 (fun _ => False) := by
  refine Met.ofW (cc := cD_newest) (maxL := 1) (ret := (some .int)) (by decide) rfl ?_
  intro p e s m args below meth c s₁ B hml hv
  obtain ⟨rfl, hv⟩ := hv
  have hx := B.exec
  have hb := B.bytes
  have hr := B.returns
  have hts : ∀ w ∈ aw, w.before _ s = true := fun w h => atoms_spec (ws := (.code yD_newest cD_newest 1 (some .int) :: aw)) B.pre w (List.mem_cons_of_mem _ h)
  have hown : s.vm.findClass RD = some m.cls := findClass_of_methodNamed B.named
  have hlocks := B.notSynchronized
  obtain ⟨hP, hK, hG⟩ := hv
  obtain ⟨H, hH⟩ : ∃ H, H = s.heap := ⟨_, rfl⟩
  rw [← hH] at hP ⊢
  have hl := lv_entry ([.ref dw]) (n := 1) (Nat.le_of_ble_eq_true rfl)
  rw [lg_entry_eq]
  generalize (lg_sl ([.ref dw]) ++ List.replicate (1 - (lg_sl ([.ref dw])).length) Slot.unset).toArray = ls at hl ⊢
  have hl : lv_has ls 1 [(0, .ref dw)] := hl
  refine lv_aload_n (pc := 0) hx hb dD_newest_0 rfl (lv_at hl 0 rfl) ?_
  refine va_get (D := (dC, dI)) (cl := kCl) (C := RD) (T := TD) (N := 5) (pc := 1) hx hb hts inD hown hK hP 0 rfl rfl 1 (by decide) (hts _ wd_114) (fun _ h9 => h9) rfl dD_newest_1 ?_
  refine lv_iconst (pc := 4) (v := 1) hx hb dD_newest_4 (by decide) ?_
  refine lv_isub (pc := 5) hx hb dD_newest_5 ?_
  exact W.iret (pc := 6) hx hb hr (fun t ht hW => ⟨_, rfl, rfl, ht.trans hH⟩) (fun q h => nomatch h) dD_newest_6
set_option maxHeartbeats 4000000 in
set_option maxRecDepth 100000 in
theorem gb_takes0 (l : Launch) (dC : Nat → ClassId) (dI : Nat → Nat → Nat) (sz : Nat) (df : Nat) (dv : Nat) (do9 : Nat) (sn : Nat) (cF : ClassId) (cO : ClassId) (fv : Nat → Int32) (fo : Nat → Int32) (dd : Int32) (vv : Int32) (hd24 : vp_in dd 24) (hs24 : sn < 24) (hfr : fv (dd : Int32).toNatClampNeg = (-1)) : Met l yB_takes (.code yB_takes cB_takes 3 (some .boolean) :: aw) ({ frames := 0, cells := 0, slots := 0, locals := 0 }) (pW (dC, dI) sz [(df, .inr (1, [.ref dv, .ref do9, .int (nI sn)])), (dv, .inl (cF, 24, .inl fv)), (do9, .inl (cO, 24, .inl fo))] [(cF, .int), (cO, .int)] [.ref df, .int dd, .int vv]) (va_Qi (fun r (_ : Unit) => r = 1) (fun _ t => wW (dC, dI) (va_A [(df, .inr (1, [.ref dv, .ref do9, .int (nI sn)])), (dv, .inl (cF, 24, .inl fv)), (do9, .inl (cO, 24, .inl fo))] sz) [(df, .inr (1, [.ref dv, .ref do9, .int (nI (sn + 1))])), (dv, .inl (cF, 24, .inl (upd fv (dd : Int32).toNatClampNeg vv))), (do9, .inl (cO, 24, .inl (upd fo ((nI sn) : Int32).toNatClampNeg dd)))] [(cF, .int), (cO, .int)] t) (va_A [(df, .inr (1, [.ref dv, .ref do9, .int (nI sn)])), (dv, .inl (cF, 24, .inl fv)), (do9, .inl (cO, 24, .inl fo))] sz)) 0 0 (va_A [(df, .inr (1, [.ref dv, .ref do9, .int (nI sn)])), (dv, .inl (cF, 24, .inl fv)), (do9, .inl (cO, 24, .inl fo))] sz) := by
  refine Met.ofW (cc := cB_takes) (maxL := 3) (ret := (some .boolean)) (by decide) rfl ?_
  intro p e s m args below meth c s₁ B hml hv
  obtain ⟨rfl, hv⟩ := hv
  have hx := B.exec
  have hb := B.bytes
  have hr := B.returns
  have hts : ∀ w ∈ aw, w.before _ s = true := fun w h => atoms_spec (ws := (.code yB_takes cB_takes 3 (some .boolean) :: aw)) B.pre w (List.mem_cons_of_mem _ h)
  have hown : s.vm.findClass RB = some m.cls := findClass_of_methodNamed B.named
  have hlocks := B.notSynchronized
  obtain ⟨hsz, hP, hK, hD0, hG⟩ := hv
  subst hsz
  have hD := hD0.self (sz := s.heap.size)
  generalize hAe : va_A [(df, .inr (1, [.ref dv, .ref do9, .int (nI sn)])), (dv, .inl (cF, 24, .inl fv)), (do9, .inl (cO, 24, .inl fo))] s.heap.size = A at hD ⊢
  have hA : ∀ q : Nat, s.heap.size ≤ q → A q := fun q h => by rw [← hAe]; exact Or.inr h
  obtain ⟨H, hH⟩ : ∃ H, H = s.heap := ⟨_, rfl⟩
  have hS : va_S A s.heap H [] := by rw [hH]; exact va_S.rf
  rw [← hH] at hP ⊢
  have hP : va_P (dC, dI) kCl [(df, .inr (1, [.ref dv, .ref do9, .int (nI sn)])), (dv, .inl (cF, 24, .inl fv)), (do9, .inl (cO, 24, .inl fo))] H := hP
  have hl := lv_entry ([.ref df, .int dd, .int vv]) (n := 3) (Nat.le_of_ble_eq_true rfl)
  rw [lg_entry_eq]
  generalize (lg_sl ([.ref df, .int dd, .int vv]) ++ List.replicate (3 - (lg_sl ([.ref df, .int dd, .int vv])).length) Slot.unset).toArray = ls at hl ⊢
  have hl : lv_has ls 3 [(0, .ref df), (1, .int dd), (2, .int vv)] := hl
  refine lv_aload_n (pc := 0) hx hb dB_takes_0 rfl (lv_at hl 0 rfl) ?_
  refine va_get (D := (dC, dI)) (cl := kCl) (C := RB) (T := TB) (N := 3) (pc := 1) hx hb hts inB hown hK hP 0 rfl rfl 0 (by decide) (hts _ wd_94) (fun _ h9 => h9) rfl dB_takes_1 ?_
  refine lv_iload_n (pc := 4) hx hb dB_takes_4 rfl (lv_at hl 1 rfl) ?_
  refine va_iald (D := (dC, dI)) (cl := kCl) (pc := 5) hx hb hK hP 1 0 rfl rfl (hd24) dB_takes_5 ?_
  refine W.eq (g2 := F0 m 6 ls [.int (fv (dd : Int32).toNatClampNeg)]) rfl ?_
  refine lv_topi (fun z1 hz2 => ?_)
  obtain rfl : z1 = (-1) := hz2.trans hfr
  refine lv_iconst (pc := 6) (v := (-1)) hx hb dB_takes_6 (by decide) ?_
  refine lv_icmp_ne (pc := 7) (tgt := 37) hx hb dB_takes_7 rfl (fun h3 => absurd h3 (by decide)) (fun h3 => ?_)
  refine lv_aload_n (pc := 10) hx hb dB_takes_10 rfl (lv_at hl 0 rfl) ?_
  refine va_get (D := (dC, dI)) (cl := kCl) (C := RB) (T := TB) (N := 3) (pc := 11) hx hb hts inB hown hK hP 0 rfl rfl 0 (by decide) (hts _ wd_94) (fun _ h9 => h9) rfl dB_takes_11 ?_
  refine lv_iload_n (pc := 14) hx hb dB_takes_14 rfl (lv_at hl 1 rfl) ?_
  refine lv_iload_n (pc := 15) hx hb dB_takes_15 rfl (lv_at hl 2 rfl) ?_
  refine va_iast (D := (dC, dI)) (cl := kCl) (pc := 16) hx hb hK hP hD hS 1 0 rfl rfl (hd24) dB_takes_16 (fun H locs hP hD hS => ?_)
  have hP : va_P (dC, dI) kCl [(df, .inr (1, [.ref dv, .ref do9, .int (nI sn)])), (dv, .inl (cF, 24, .inl (upd fv (dd : Int32).toNatClampNeg vv))), (do9, .inl (cO, 24, .inl fo))] H := hP
  have hD : va_D A [(df, .inr (1, [.ref dv, .ref do9, .int (nI sn)])), (dv, .inl (cF, 24, .inl (upd fv (dd : Int32).toNatClampNeg vv))), (do9, .inl (cO, 24, .inl fo))] := hD
  refine lv_aload_n (pc := 17) hx hb dB_takes_17 rfl (lv_at hl 0 rfl) ?_
  refine va_get (D := (dC, dI)) (cl := kCl) (C := RB) (T := TB) (N := 3) (pc := 18) hx hb hts inB hown hK hP 0 rfl rfl 1 (by decide) (hts _ wd_99) (fun _ h9 => h9) rfl dB_takes_18 ?_
  refine lv_aload_n (pc := 21) hx hb dB_takes_21 rfl (lv_at hl 0 rfl) ?_
  refine va_get (D := (dC, dI)) (cl := kCl) (C := RB) (T := TB) (N := 3) (pc := 22) hx hb hts inB hown hK hP 0 rfl rfl 2 (by decide) (hts _ wd_93) (fun _ h9 => h9) rfl dB_takes_22 ?_
  refine lv_iload_n (pc := 25) hx hb dB_takes_25 rfl (lv_at hl 1 rfl) ?_
  refine va_iast (D := (dC, dI)) (cl := kCl) (pc := 26) hx hb hK hP hD hS 2 1 rfl rfl (vp_in_nI hs24 (by decide)) dB_takes_26 (fun H locs hP hD hS => ?_)
  have hP : va_P (dC, dI) kCl [(df, .inr (1, [.ref dv, .ref do9, .int (nI sn)])), (dv, .inl (cF, 24, .inl (upd fv (dd : Int32).toNatClampNeg vv))), (do9, .inl (cO, 24, .inl (upd fo ((nI sn) : Int32).toNatClampNeg dd)))] H := hP
  have hD : va_D A [(df, .inr (1, [.ref dv, .ref do9, .int (nI sn)])), (dv, .inl (cF, 24, .inl (upd fv (dd : Int32).toNatClampNeg vv))), (do9, .inl (cO, 24, .inl (upd fo ((nI sn) : Int32).toNatClampNeg dd)))] := hD
  refine lv_aload_n (pc := 27) hx hb dB_takes_27 rfl (lv_at hl 0 rfl) ?_
  refine lv_dup (pc := 28) hx hb dB_takes_28 rfl ?_
  refine va_get (D := (dC, dI)) (cl := kCl) (C := RB) (T := TB) (N := 3) (pc := 29) hx hb hts inB hown hK hP 0 rfl rfl 2 (by decide) (hts _ wd_93) (fun _ h9 => h9) rfl dB_takes_29 ?_
  refine lv_iconst (pc := 32) (v := 1) hx hb dB_takes_32 (by decide) ?_
  refine lv_iadd (pc := 33) hx hb dB_takes_33 ?_
  refine lv_topi (fun z4 hz5 => ?_)
  obtain rfl : z4 = (nI (sn + 1)) := hz5.trans (nI_add _ 1)
  refine va_put (D := (dC, dI)) (cl := kCl) (ci := 1) (v := .int (nI (sn + 1))) (ty := .int) (C := RB) (T := TB) (N := 3) (pc := 34) hx hb hts inB tyB tyB_ok nmB hown hK hP hD hS 0 rfl rfl 2 (by decide) (hts _ wd_93) (fun _ h9 => h9) rfl (by decide +kernel) rfl rfl (Nat.le_of_ble_eq_true rfl) dB_takes_34 (fun H locs hP hD hS => ?_)
  have hP : va_P (dC, dI) kCl [(df, .inr (1, [.ref dv, .ref do9, .int (nI (sn + 1))])), (dv, .inl (cF, 24, .inl (upd fv (dd : Int32).toNatClampNeg vv))), (do9, .inl (cO, 24, .inl (upd fo ((nI sn) : Int32).toNatClampNeg dd)))] H := hP
  have hD : va_D A [(df, .inr (1, [.ref dv, .ref do9, .int (nI (sn + 1))])), (dv, .inl (cF, 24, .inl (upd fv (dd : Int32).toNatClampNeg vv))), (do9, .inl (cO, 24, .inl (upd fo ((nI sn) : Int32).toNatClampNeg dd)))] := hD
  refine lv_aload_n (pc := 37) hx hb dB_takes_37 rfl (lv_at hl 0 rfl) ?_
  refine va_get (D := (dC, dI)) (cl := kCl) (C := RB) (T := TB) (N := 3) (pc := 38) hx hb hts inB hown hK hP 0 rfl rfl 0 (by decide) (hts _ wd_94) (fun _ h9 => h9) rfl dB_takes_38 ?_
  refine lv_iload_n (pc := 41) hx hb dB_takes_41 rfl (lv_at hl 1 rfl) ?_
  refine va_iald (D := (dC, dI)) (cl := kCl) (pc := 42) hx hb hK hP 1 0 rfl rfl (hd24) dB_takes_42 ?_
  refine W.eq (g2 := F0 m 43 ls [.int ((upd fv (dd : Int32).toNatClampNeg vv) (dd : Int32).toNatClampNeg)]) rfl ?_
  refine lv_topi (fun z6 hz7 => ?_)
  obtain rfl : vv = z6 := (hz7.trans pk_us).symm
  refine lv_iload_n (pc := 43) hx hb dB_takes_43 rfl (lv_at hl 2 rfl) ?_
  refine lv_icmp_ne (pc := 44) (tgt := 51) hx hb dB_takes_44 rfl (fun h8 => absurd rfl h8) (fun h8 => ?_)
  refine lv_iconst (pc := 47) (v := 1) hx hb dB_takes_47 (by decide) ?_
  refine lv_goto (pc := 48) (tgt := 52) hx hb dB_takes_48 rfl ?_
  have hP9 := hP.sub (ws' := [(df, .inr (1, [.ref dv, .ref do9, .int (nI (sn + 1))])), (dv, .inl (cF, 24, .inl (upd fv (dd : Int32).toNatClampNeg vv))), (do9, .inl (cO, 24, .inl (upd fo ((nI sn) : Int32).toNatClampNeg dd)))]) [0, 1, 2] rfl
  have hD9 := hD.sub (ws' := [(df, .inr (1, [.ref dv, .ref do9, .int (nI (sn + 1))])), (dv, .inl (cF, 24, .inl (upd fv (dd : Int32).toNatClampNeg vv))), (do9, .inl (cO, 24, .inl (upd fo ((nI sn) : Int32).toNatClampNeg dd)))]) [0, 1, 2] (by decide) rfl
  have hK9 := hK.sub (tys' := [(cF, .int), (cO, .int)]) [0, 1] rfl
  exact W.zret (pc := 52) hx hb hr rfl (fun t ht hW => ⟨⟨_, (), rfl, rfl, by rw [ht]; exact hP9, va_K.moved hW.alike hK9, hD9⟩, hS.F ht⟩) hS.2.2 dB_takes_52
set_option maxHeartbeats 4000000 in
set_option maxRecDepth 100000 in
theorem gb_takes1 (l : Launch) (dC : Nat → ClassId) (dI : Nat → Nat → Nat) (sz : Nat) (df : Nat) (dv : Nat) (do9 : Nat) (sn : Nat) (cF : ClassId) (cO : ClassId) (fv : Nat → Int32) (fo : Nat → Int32) (dd : Int32) (vv : Int32) (hd24 : vp_in dd 24) (hfr : ¬ fv (dd : Int32).toNatClampNeg = (-1)) : Met l yB_takes (.code yB_takes cB_takes 3 (some .boolean) :: aw) ({ frames := 0, cells := 0, slots := 0, locals := 0 }) (pW (dC, dI) sz [(df, .inr (1, [.ref dv, .ref do9, .int (nI sn)])), (dv, .inl (cF, 24, .inl fv)), (do9, .inl (cO, 24, .inl fo))] [(cF, .int), (cO, .int)] [.ref df, .int dd, .int vv]) (va_Qi (fun r (_ : Unit) => (r = 1 ∧ (fv (dd : Int32).toNatClampNeg = vv)) ∨ (r = 0 ∧ (¬ fv (dd : Int32).toNatClampNeg = vv))) (fun _ t => wW (dC, dI) (va_A [(df, .inr (1, [.ref dv, .ref do9, .int (nI sn)])), (dv, .inl (cF, 24, .inl fv)), (do9, .inl (cO, 24, .inl fo))] sz) [(df, .inr (1, [.ref dv, .ref do9, .int (nI sn)])), (dv, .inl (cF, 24, .inl fv)), (do9, .inl (cO, 24, .inl fo))] [(cF, .int), (cO, .int)] t) (va_A [(df, .inr (1, [.ref dv, .ref do9, .int (nI sn)])), (dv, .inl (cF, 24, .inl fv)), (do9, .inl (cO, 24, .inl fo))] sz)) 0 0 (va_A [(df, .inr (1, [.ref dv, .ref do9, .int (nI sn)])), (dv, .inl (cF, 24, .inl fv)), (do9, .inl (cO, 24, .inl fo))] sz) := by
  refine Met.ofW (cc := cB_takes) (maxL := 3) (ret := (some .boolean)) (by decide) rfl ?_
  intro p e s m args below meth c s₁ B hml hv
  obtain ⟨rfl, hv⟩ := hv
  have hx := B.exec
  have hb := B.bytes
  have hr := B.returns
  have hts : ∀ w ∈ aw, w.before _ s = true := fun w h => atoms_spec (ws := (.code yB_takes cB_takes 3 (some .boolean) :: aw)) B.pre w (List.mem_cons_of_mem _ h)
  have hown : s.vm.findClass RB = some m.cls := findClass_of_methodNamed B.named
  have hlocks := B.notSynchronized
  obtain ⟨hsz, hP, hK, hD0, hG⟩ := hv
  subst hsz
  have hD := hD0.self (sz := s.heap.size)
  generalize hAe : va_A [(df, .inr (1, [.ref dv, .ref do9, .int (nI sn)])), (dv, .inl (cF, 24, .inl fv)), (do9, .inl (cO, 24, .inl fo))] s.heap.size = A at hD ⊢
  have hA : ∀ q : Nat, s.heap.size ≤ q → A q := fun q h => by rw [← hAe]; exact Or.inr h
  obtain ⟨H, hH⟩ : ∃ H, H = s.heap := ⟨_, rfl⟩
  have hS : va_S A s.heap H [] := by rw [hH]; exact va_S.rf
  rw [← hH] at hP ⊢
  have hP : va_P (dC, dI) kCl [(df, .inr (1, [.ref dv, .ref do9, .int (nI sn)])), (dv, .inl (cF, 24, .inl fv)), (do9, .inl (cO, 24, .inl fo))] H := hP
  have hl := lv_entry ([.ref df, .int dd, .int vv]) (n := 3) (Nat.le_of_ble_eq_true rfl)
  rw [lg_entry_eq]
  generalize (lg_sl ([.ref df, .int dd, .int vv]) ++ List.replicate (3 - (lg_sl ([.ref df, .int dd, .int vv])).length) Slot.unset).toArray = ls at hl ⊢
  have hl : lv_has ls 3 [(0, .ref df), (1, .int dd), (2, .int vv)] := hl
  refine lv_aload_n (pc := 0) hx hb dB_takes_0 rfl (lv_at hl 0 rfl) ?_
  refine va_get (D := (dC, dI)) (cl := kCl) (C := RB) (T := TB) (N := 3) (pc := 1) hx hb hts inB hown hK hP 0 rfl rfl 0 (by decide) (hts _ wd_94) (fun _ h9 => h9) rfl dB_takes_1 ?_
  refine lv_iload_n (pc := 4) hx hb dB_takes_4 rfl (lv_at hl 1 rfl) ?_
  refine va_iald (D := (dC, dI)) (cl := kCl) (pc := 5) hx hb hK hP 1 0 rfl rfl (hd24) dB_takes_5 ?_
  refine W.eq (g2 := F0 m 6 ls [.int (fv (dd : Int32).toNatClampNeg)]) rfl ?_
  refine lv_iconst (pc := 6) (v := (-1)) hx hb dB_takes_6 (by decide) ?_
  refine lv_icmp_ne (pc := 7) (tgt := 37) hx hb dB_takes_7 rfl (fun h1 => ?_) (fun h1 => absurd h1 hfr)
  refine lv_aload_n (pc := 37) hx hb dB_takes_37 rfl (lv_at hl 0 rfl) ?_
  refine va_get (D := (dC, dI)) (cl := kCl) (C := RB) (T := TB) (N := 3) (pc := 38) hx hb hts inB hown hK hP 0 rfl rfl 0 (by decide) (hts _ wd_94) (fun _ h9 => h9) rfl dB_takes_38 ?_
  refine lv_iload_n (pc := 41) hx hb dB_takes_41 rfl (lv_at hl 1 rfl) ?_
  refine va_iald (D := (dC, dI)) (cl := kCl) (pc := 42) hx hb hK hP 1 0 rfl rfl (hd24) dB_takes_42 ?_
  refine W.eq (g2 := F0 m 43 ls [.int (fv (dd : Int32).toNatClampNeg)]) rfl ?_
  refine lv_iload_n (pc := 43) hx hb dB_takes_43 rfl (lv_at hl 2 rfl) ?_
  refine lv_icmp_ne (pc := 44) (tgt := 51) hx hb dB_takes_44 rfl (fun h2 => ?_) (fun h2 => ?_)
  · refine lv_iconst (pc := 51) (v := 0) hx hb dB_takes_51 (by decide) ?_
    have hP9 := hP.sub (ws' := [(df, .inr (1, [.ref dv, .ref do9, .int (nI sn)])), (dv, .inl (cF, 24, .inl fv)), (do9, .inl (cO, 24, .inl fo))]) [0, 1, 2] rfl
    have hD9 := hD.sub (ws' := [(df, .inr (1, [.ref dv, .ref do9, .int (nI sn)])), (dv, .inl (cF, 24, .inl fv)), (do9, .inl (cO, 24, .inl fo))]) [0, 1, 2] (by decide) rfl
    have hK9 := hK.sub (tys' := [(cF, .int), (cO, .int)]) [0, 1] rfl
    exact W.zret (pc := 52) hx hb hr rfl (fun t ht hW => ⟨⟨_, (), rfl, (Or.inr ⟨rfl, by first | assumption | exact ⟨by assumption, by assumption⟩ | exact Or.inl (by assumption) | exact Or.inr (by assumption) | exact Or.inr (Or.inl (by assumption)) | exact Or.inr (Or.inr (by assumption)) | simp_all⟩), by rw [ht]; exact hP9, va_K.moved hW.alike hK9, hD9⟩, hS.F ht⟩) hS.2.2 dB_takes_52
  · refine lv_iconst (pc := 47) (v := 1) hx hb dB_takes_47 (by decide) ?_
    refine lv_goto (pc := 48) (tgt := 52) hx hb dB_takes_48 rfl ?_
    have hP9 := hP.sub (ws' := [(df, .inr (1, [.ref dv, .ref do9, .int (nI sn)])), (dv, .inl (cF, 24, .inl fv)), (do9, .inl (cO, 24, .inl fo))]) [0, 1, 2] rfl
    have hD9 := hD.sub (ws' := [(df, .inr (1, [.ref dv, .ref do9, .int (nI sn)])), (dv, .inl (cF, 24, .inl fv)), (do9, .inl (cO, 24, .inl fo))]) [0, 1, 2] (by decide) rfl
    have hK9 := hK.sub (tys' := [(cF, .int), (cO, .int)]) [0, 1] rfl
    exact W.zret (pc := 52) hx hb hr rfl (fun t ht hW => ⟨⟨_, (), rfl, (Or.inl ⟨rfl, by first | assumption | exact ⟨by assumption, by assumption⟩ | exact Or.inl (by assumption) | exact Or.inr (by assumption) | exact Or.inr (Or.inl (by assumption)) | exact Or.inr (Or.inr (by assumption)) | simp_all⟩), by rw [ht]; exact hP9, va_K.moved hW.alike hK9, hD9⟩, hS.F ht⟩) hS.2.2 dB_takes_52
