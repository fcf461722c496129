theorem dL_law_188 : decode cL_law 188 = .ok (.aload_n 1, 1) := by decide +kernel
theorem dL_law_189 : decode cL_law 189 = .ok (.aload_n 0, 1) := by decide +kernel
theorem dL_law_190 : decode cL_law 190 = .ok (.iload 4, 2) := by decide +kernel
theorem dL_law_192 : decode cL_law 192 = .ok (.iconst 1, 1) := by decide +kernel
theorem dL_law_193 : decode cL_law 193 = .ok (.iadd, 1) := by decide +kernel
theorem dL_law_194 : decode cL_law 194 = .ok (.iaload, 1) := by decide +kernel
theorem dL_law_195 : decode cL_law 195 = .ok (.aload_n 3, 1) := by decide +kernel
theorem dL_law_196 : decode cL_law 196 = .ok (.invokestatic 85, 3) := by decide +kernel
theorem dL_law_199 : decode cL_law 199 = .ok (.istore 5, 2) := by decide +kernel
theorem dL_law_201 : decode cL_law 201 = .ok (.aload_n 2, 1) := by decide +kernel
theorem dL_law_202 : decode cL_law 202 = .ok (.aload_n 0, 1) := by decide +kernel
theorem dL_law_203 : decode cL_law 203 = .ok (.iload 4, 2) := by decide +kernel
theorem dL_law_205 : decode cL_law 205 = .ok (.iconst 1, 1) := by decide +kernel
theorem dL_law_206 : decode cL_law 206 = .ok (.iadd, 1) := by decide +kernel
theorem dL_law_207 : decode cL_law 207 = .ok (.iaload, 1) := by decide +kernel
theorem dL_law_208 : decode cL_law 208 = .ok (.invokevirtual 88, 3) := by decide +kernel
theorem dL_law_211 : decode cL_law 211 = .ok (.istore 6, 2) := by decide +kernel
theorem dL_law_213 : decode cL_law 213 = .ok (.goto 1004, 3) := by decide +kernel
theorem dL_law_540 : decode cL_law 540 = .ok (.aload_n 1, 1) := by decide +kernel
theorem dL_law_541 : decode cL_law 541 = .ok (.aload_n 0, 1) := by decide +kernel
theorem dL_law_542 : decode cL_law 542 = .ok (.iload 4, 2) := by decide +kernel
theorem dL_law_544 : decode cL_law 544 = .ok (.iconst 1, 1) := by decide +kernel
theorem dL_law_545 : decode cL_law 545 = .ok (.iadd, 1) := by decide +kernel
theorem dL_law_546 : decode cL_law 546 = .ok (.iaload, 1) := by decide +kernel
theorem dL_law_547 : decode cL_law 547 = .ok (.aload_n 0, 1) := by decide +kernel
theorem dL_law_548 : decode cL_law 548 = .ok (.iload 4, 2) := by decide +kernel
theorem dL_law_550 : decode cL_law 550 = .ok (.iconst 2, 1) := by decide +kernel
theorem dL_law_551 : decode cL_law 551 = .ok (.iadd, 1) := by decide +kernel
theorem dL_law_552 : decode cL_law 552 = .ok (.iaload, 1) := by decide +kernel
theorem dL_law_553 : decode cL_law 553 = .ok (.aload_n 3, 1) := by decide +kernel
theorem dL_law_554 : decode cL_law 554 = .ok (.invokestatic 110, 3) := by decide +kernel
theorem dL_law_557 : decode cL_law 557 = .ok (.istore 5, 2) := by decide +kernel
theorem dL_law_559 : decode cL_law 559 = .ok (.aload_n 2, 1) := by decide +kernel
theorem dL_law_560 : decode cL_law 560 = .ok (.aload_n 0, 1) := by decide +kernel
theorem dL_law_561 : decode cL_law 561 = .ok (.iload 4, 2) := by decide +kernel
theorem dL_law_563 : decode cL_law 563 = .ok (.iconst 1, 1) := by decide +kernel
theorem dL_law_564 : decode cL_law 564 = .ok (.iadd, 1) := by decide +kernel
theorem dL_law_565 : decode cL_law 565 = .ok (.iaload, 1) := by decide +kernel
theorem dL_law_566 : decode cL_law 566 = .ok (.aload_n 0, 1) := by decide +kernel
theorem dL_law_567 : decode cL_law 567 = .ok (.iload 4, 2) := by decide +kernel
theorem dL_law_569 : decode cL_law 569 = .ok (.iconst 2, 1) := by decide +kernel
theorem dL_law_570 : decode cL_law 570 = .ok (.iadd, 1) := by decide +kernel
theorem dL_law_571 : decode cL_law 571 = .ok (.iaload, 1) := by decide +kernel
theorem dL_law_572 : decode cL_law 572 = .ok (.invokevirtual 112, 3) := by decide +kernel
theorem dL_law_575 : decode cL_law 575 = .ok (.istore 6, 2) := by decide +kernel
theorem dL_law_577 : decode cL_law 577 = .ok (.goto 640, 3) := by decide +kernel
theorem dL_law_736 : decode cL_law 736 = .ok (.aload_n 1, 1) := by decide +kernel
theorem dL_law_737 : decode cL_law 737 = .ok (.aload_n 0, 1) := by decide +kernel
theorem dL_law_738 : decode cL_law 738 = .ok (.iload 4, 2) := by decide +kernel
theorem dL_law_740 : decode cL_law 740 = .ok (.iconst 1, 1) := by decide +kernel
theorem dL_law_741 : decode cL_law 741 = .ok (.iadd, 1) := by decide +kernel
theorem dL_law_742 : decode cL_law 742 = .ok (.iaload, 1) := by decide +kernel
theorem dL_law_743 : decode cL_law 743 = .ok (.aload_n 0, 1) := by decide +kernel
theorem dL_law_744 : decode cL_law 744 = .ok (.iload 4, 2) := by decide +kernel
theorem dL_law_746 : decode cL_law 746 = .ok (.iconst 2, 1) := by decide +kernel
theorem dL_law_747 : decode cL_law 747 = .ok (.iadd, 1) := by decide +kernel
theorem dL_law_748 : decode cL_law 748 = .ok (.iaload, 1) := by decide +kernel
theorem dL_law_749 : decode cL_law 749 = .ok (.aload_n 3, 1) := by decide +kernel
theorem dL_law_750 : decode cL_law 750 = .ok (.invokestatic 122, 3) := by decide +kernel
theorem dL_law_753 : decode cL_law 753 = .ok (.istore 5, 2) := by decide +kernel
theorem dL_law_755 : decode cL_law 755 = .ok (.aload_n 2, 1) := by decide +kernel
theorem dL_law_756 : decode cL_law 756 = .ok (.aload_n 0, 1) := by decide +kernel
theorem dL_law_757 : decode cL_law 757 = .ok (.iload 4, 2) := by decide +kernel
theorem dL_law_759 : decode cL_law 759 = .ok (.iconst 1, 1) := by decide +kernel
theorem dL_law_760 : decode cL_law 760 = .ok (.iadd, 1) := by decide +kernel
theorem dL_law_761 : decode cL_law 761 = .ok (.iaload, 1) := by decide +kernel
theorem dL_law_762 : decode cL_law 762 = .ok (.aload_n 0, 1) := by decide +kernel
theorem dL_law_763 : decode cL_law 763 = .ok (.iload 4, 2) := by decide +kernel
theorem dL_law_765 : decode cL_law 765 = .ok (.iconst 2, 1) := by decide +kernel
theorem dL_law_766 : decode cL_law 766 = .ok (.iadd, 1) := by decide +kernel
theorem dL_law_767 : decode cL_law 767 = .ok (.iaload, 1) := by decide +kernel
theorem dL_law_768 : decode cL_law 768 = .ok (.invokevirtual 124, 3) := by decide +kernel
theorem dL_law_771 : decode cL_law 771 = .ok (.istore 6, 2) := by decide +kernel
theorem dL_law_773 : decode cL_law 773 = .ok (.goto 444, 3) := by decide +kernel
theorem wd_782 : (.codeWith ⟨"DrawingVaultLaw", "drawing", "(LDrawingVault;I[J)I"⟩ method_4_code 4 (Option.some .int) [(0, 9, 12, 13)] : Cond) ∈ aw := aw_in (tb_2 (List.mem_of_getElem? (i := 111) rfl)) rfl
theorem wd_783 : (.methodLink "DrawingVaultLaw" 85 ⟨"DrawingVaultLaw", "drawing", "(LDrawingVault;I[J)I"⟩ : Cond) ∈ aw := aw_in (tb_2 (List.mem_of_getElem? (i := 109) rfl)) rfl
theorem wd_784 : (.static ⟨"DrawingVaultLaw", "drawing", "(LDrawingVault;I[J)I"⟩ : Cond) ∈ aw := aw_in (tb_2 (List.mem_of_getElem? (i := 110) rfl)) rfl
theorem wd_785 : (.code ⟨"DrawingVaultModel", "drawing", "(I)I"⟩ prog_9_method_33_code 4 (Option.some .int) : Cond) ∈ aw := aw_in (tb_4 (List.mem_of_getElem? (i := 147) rfl)) rfl
theorem wd_786 : (.methodLink "DrawingVaultLaw" 88 ⟨"DrawingVaultModel", "drawing", "(I)I"⟩ : Cond) ∈ aw := aw_in (tb_4 (List.mem_of_getElem? (i := 144) rfl)) rfl
theorem wd_787 : (.instanceMethod ⟨"DrawingVaultModel", "drawing", "(I)I"⟩ : Cond) ∈ aw := aw_in (tb_4 (List.mem_of_getElem? (i := 145) rfl)) rfl
theorem wd_788 : (.selects "DrawingVaultModel" ⟨"DrawingVaultModel", "drawing", "(I)I"⟩ ⟨"DrawingVaultModel", "drawing", "(I)I"⟩ : Cond) ∈ aw := aw_in (tb_4 (List.mem_of_getElem? (i := 146) rfl)) rfl
theorem wd_789 : (.codeWith ⟨"DrawingVaultLaw", "checkIn", "(LDrawingVault;II[J)I"⟩ method_11_code 5 (Option.some .int) [(0, 10, 13, 13)] : Cond) ∈ aw := aw_in (tb_3 (List.mem_of_getElem? (i := 67) rfl)) rfl
theorem wd_790 : (.methodLink "DrawingVaultLaw" 110 ⟨"DrawingVaultLaw", "checkIn", "(LDrawingVault;II[J)I"⟩ : Cond) ∈ aw := aw_in (tb_3 (List.mem_of_getElem? (i := 65) rfl)) rfl
theorem wd_791 : (.static ⟨"DrawingVaultLaw", "checkIn", "(LDrawingVault;II[J)I"⟩ : Cond) ∈ aw := aw_in (tb_3 (List.mem_of_getElem? (i := 66) rfl)) rfl
theorem wd_792 : (.code ⟨"DrawingVaultModel", "checkIn", "(II)I"⟩ prog_9_method_48_code 7 (Option.some .int) : Cond) ∈ aw := aw_in (tb_4 (List.mem_of_getElem? (i := 198) rfl)) rfl
theorem wd_793 : (.methodLink "DrawingVaultLaw" 112 ⟨"DrawingVaultModel", "checkIn", "(II)I"⟩ : Cond) ∈ aw := aw_in (tb_4 (List.mem_of_getElem? (i := 195) rfl)) rfl
theorem wd_794 : (.instanceMethod ⟨"DrawingVaultModel", "checkIn", "(II)I"⟩ : Cond) ∈ aw := aw_in (tb_4 (List.mem_of_getElem? (i := 196) rfl)) rfl
theorem wd_795 : (.selects "DrawingVaultModel" ⟨"DrawingVaultModel", "checkIn", "(II)I"⟩ ⟨"DrawingVaultModel", "checkIn", "(II)I"⟩ : Cond) ∈ aw := aw_in (tb_4 (List.mem_of_getElem? (i := 197) rfl)) rfl
theorem wd_796 : (.codeWith ⟨"DrawingVaultLaw", "baseline", "(LDrawingVault;II[J)I"⟩ method_15_code 5 (Option.some .int) [(0, 10, 13, 13)] : Cond) ∈ aw := aw_in (tb_3 (List.mem_of_getElem? (i := 160) rfl)) rfl
theorem wd_797 : (.methodLink "DrawingVaultLaw" 122 ⟨"DrawingVaultLaw", "baseline", "(LDrawingVault;II[J)I"⟩ : Cond) ∈ aw := aw_in (tb_3 (List.mem_of_getElem? (i := 158) rfl)) rfl
theorem wd_798 : (.static ⟨"DrawingVaultLaw", "baseline", "(LDrawingVault;II[J)I"⟩ : Cond) ∈ aw := aw_in (tb_3 (List.mem_of_getElem? (i := 159) rfl)) rfl
theorem wd_799 : (.code ⟨"DrawingVaultModel", "baseline", "(II)I"⟩ prog_9_method_57_code 8 (Option.some .int) : Cond) ∈ aw := aw_in (tb_5 (List.mem_of_getElem? (i := 34) rfl)) rfl
theorem wd_800 : (.methodLink "DrawingVaultLaw" 124 ⟨"DrawingVaultModel", "baseline", "(II)I"⟩ : Cond) ∈ aw := aw_in (tb_5 (List.mem_of_getElem? (i := 31) rfl)) rfl
theorem wd_801 : (.instanceMethod ⟨"DrawingVaultModel", "baseline", "(II)I"⟩ : Cond) ∈ aw := aw_in (tb_5 (List.mem_of_getElem? (i := 32) rfl)) rfl
theorem wd_802 : (.selects "DrawingVaultModel" ⟨"DrawingVaultModel", "baseline", "(II)I"⟩ ⟨"DrawingVaultModel", "baseline", "(II)I"⟩ : Cond) ∈ aw := aw_in (tb_5 (List.mem_of_getElem? (i := 33) rfl)) rfl
def LC_1 (n : Nat) (σ : hT) (v1 v2 v3 v4 v5 : Int32) (nw : Nat) : Option (Int32 × hT) := Option.bind (L_drawing n σ v1 nw) fun ⟨y1, σ2⟩ => Option.bind (M_drawing n σ2 v1) fun ⟨y7, σ8⟩ => some (1, σ8)
def LC_8 (n : Nat) (σ : hT) (v1 v2 v3 v4 v5 : Int32) (nw : Nat) : Option (Int32 × hT) := Option.bind (L_checkIn n σ v1 v2 nw) fun ⟨y1, σ2⟩ => Option.bind (M_checkIn n σ2 v1 v2) fun ⟨y7, σ8⟩ => some (1, σ8)
def LC_12 (n : Nat) (σ : hT) (v1 v2 v3 v4 v5 : Int32) (nw : Nat) : Option (Int32 × hT) := Option.bind (L_baseline n σ v1 v2 nw) fun ⟨y1, σ2⟩ => Option.bind (M_baseline n σ2 v1 v2) fun ⟨y7, σ8⟩ => some (1, σ8)
set_option maxHeartbeats 4000000 in
set_option maxRecDepth 100000 in
theorem lawc_1 {p : Program} {l : Launch} {e : Env} {s : State} {m : MethodId} {below : List Frame} {meth : Method} {c : Code} {b L : Nat} {xs : Nat → Int32} {A : Nat → Prop} {H : Heap} {locs : List Loc} {ls : Array Slot} {dC : Nat → ClassId} {dI : Nat → Nat → Nat} {Q : State → Prop} {kc ks : Nat} (hfl : l.stackTraces = false) (C : lawH p s m meth c b L xs A) (ad : Nat → Nat → Nat) (ca : Nat → Nat → ClassId) (dom : List (Nat × Nat)) (σ : hT) (i : Int32) (n : Nat) (v1 v2 v3 v4 v5 : Int32) (nw : Nat) (hfr6 : ∀ r ∈ row6 nw, r ∉ dom) (hfr7 : ∀ r ∈ row7 (12 * nw), r ∉ dom)
    (hv1 : vp_in (i + 1) L) (hv2 : vp_in (i + 2) L) (hv3 : vp_in (i + 3) L) (hv4 : vp_in (i + 4) L) (hv5 : vp_in (i + 5) L) (e1 : xs (i + 1).toNatClampNeg = v1) (e2 : xs (i + 2).toNatClampNeg = v2) (e3 : xs (i + 3).toNatClampNeg = v3) (e4 : xs (i + 4).toNatClampNeg = v4) (e5 : xs (i + 5).toNatClampNeg = v5)
    (hmV : (0, 0) ∈ dom) (hmM : (4, 0) ∈ dom) (hmO : (24, 0) ∈ dom) (hN : dom.Nodup) (hC : clo dom σ.2.2) (hP : va_P (dC, dI) kCl (w9 ad ca dom σ) H) (hD : va_D A (w9 ad ca dom σ)) (hK : hkt (dC, dI) ca dom s) (hS : va_S A s.heap H locs) (hl : lv_has ls 7 [(4, .int i), (3, .ref (ad 24 0)), (2, .ref (ad 4 0)), (1, .ref (ad 0 0)), (0, .ref b)]) (hkc : kc + 16 ≤ 601024) (hks : ks + 101 ≤ 7293033) (σ' : hT) (hf : LC_1 n σ v1 v2 v3 v4 v5 nw = some (1, σ'))
    (kk : ∀ (ad' : Nat → Nat → Nat) (ca' : Nat → Nat → ClassId) (dom' : List (Nat × Nat)) (H' : Heap) (locs' : List Loc) (ls' : Array Slot), (∃ y σ1, L_drawing n σ v1 nw = some (y, σ1) ∧ dom' = dmL y (xL σ1 24 0 0) dom (row6 nw ++ row7 (12 * nw))) → dom'.Nodup → clo dom' σ'.2.2 → va_P (dC, dI) kCl (w9 ad' ca' dom' σ') H' → va_D A (w9 ad' ca' dom' σ') → hkt (dC, dI) ca' dom' s → va_S A s.heap H' locs' → lv_has ls' 7 [(4, .int i), (3, .ref (ad' 24 0)), (2, .ref (ad' 4 0)), (1, .ref (ad' 0 0)), (0, .ref b)] → W p l e room_1 s m #[Value.ref b] below meth c H' locs' (kc + 16) (ks + 101) Q (F0 m 1217 ls' [])) :
    W p l e room_1 s m #[Value.ref b] below meth c H locs kc ks Q (F0 m 188 ls []) := by
  obtain ⟨hx, hb, hr, hml, hown, hts, hX, hbl, hbA, hlocks, hA, hA2, hG, hE0⟩ := C
  unfold LC_1 at hf
  refine lv_aload_n (pc := 188) hx hb dL_law_188 rfl (lv_at hl 3 rfl) ?_
  refine lv_aload_n (pc := 189) hx hb dL_law_189 rfl (lv_at hl 4 rfl) ?_
  refine lv_iload (pc := 190) hx hb dL_law_190 (lv_at hl 0 rfl) ?_
  refine lv_iconst (pc := 192) (v := 1) hx hb dL_law_192 (by decide) ?_
  refine lv_iadd (pc := 193) hx hb dL_law_193 ?_
  refine va_sld (A := A) (pc := 194) hx hb hX hbl hbA hS hv1 dL_law_194 ?_
  refine W.eq (g2 := F0 m 195 ls [.int v1, .ref (ad 0 0)]) (by rw [e1]) ?_
  refine lv_aload_n (pc := 195) hx hb dL_law_195 rfl (lv_at hl 1 rfl) ?_
  obtain ⟨⟨y1, σ2⟩, hy1, hf⟩ := ob hf
  have hE := xE.mono hE0 (fun q z => hA2 q (w9_xA hD z))
  have hSA : ∀ q : Nat, q < s.heap.size → A q → xS ad dom q := fun q h z => absurd (hA2 q z) (Nat.not_le.mpr h)
  have hFc := w9_free hD hS hA
  refine va_calli (pc := 196) (hxR (As := [.ref (ad 0 0), .int v1, .ref (ad 24 0)]) (rest := []) ⟨hx, hb, hml, hown, hts⟩ (t_L_drawing l dC dI ad ca dom H.size n σ v1 nw hmV hmO hfr6 hfr7 hN hC hfl y1 σ2 hy1) 3 wd_783 wd_784 wd_777 wd_782 rfl rfl ⟨Nat.le_of_ble_eq_true rfl, Nat.le_of_ble_eq_true rfl⟩ (by decide +kernel) ⟨hX_blind, hX_pre hP hK hD hG hE hS hSA⟩ rfl rfl hl.1 rfl (lv_room (Nat.le_of_ble_eq_true rfl)) dL_law_196 ⟨show kc + 0 + 15 ≤ 601024 by omega, show ks + 0 + 95 ≤ 7293033 by omega⟩) hS (fun q _ h => hFc q h) hFc (fun r9 u t H1 locs ht hvm hr9 hB hz1 hk1 hS => ?_)
  have hCo := hC
  obtain ⟨ad1, ca1⟩ := u
  obtain ⟨ha1, hP, hD, hKn, hC, hN1⟩ := hB
  dsimp only at ha1 hP hD hKn
  rw [ht] at hP
  replace hD := hD.weaken (fun _ _ _ h => hFc _ h)
  have hK1 := hkt.moved hvm.symm hKn
  generalize H1 = H at hP hS ⊢
  refine W.widen (k := (kc + 15)) (n := (ks + 95)) (by omega) (by omega) ?_
  obtain ⟨dom1, hd1⟩ : ∃ d, d = dmL y1 (xL σ2 24 0 0) dom (row6 nw ++ row7 (12 * nw)) := ⟨_, rfl⟩
  rw [← hd1] at hP hD hK1 hC hN1
  have hdm1 : ∀ r, r ∈ dom → r ∈ dom1 := fun r h => by rw [hd1]; exact dmL_m h
  have hag1 : ∀ κ j, (κ, j) ∈ dom → ad1 κ j = ad κ j := ha1
  have hdo1 : ∀ r, r ∈ dom → r ∈ dom1 := hdm1
  have hm3x := hmO
  have hm3 : (24, 0) ∈ dom1 := hdm1 _ hm3x
  have hm4x := hmM
  have hm4 : (4, 0) ∈ dom1 := hdm1 _ hm4x
  have hm5x := hmV
  have hm5 : (0, 0) ∈ dom1 := hdm1 _ hm5x
  have hl : lv_has ls 7 [(4, .int i), (3, .ref (ad1 24 0)), (2, .ref (ad1 4 0)), (1, .ref (ad1 0 0)), (0, .ref b)] := by simp only [ha1 24 0 hm3x, ha1 4 0 hm4x, ha1 0 0 hm5x]; exact hl
  refine W.eq (g2 := F0 m 199 ls [.int y1]) (by first | rfl | simp only [hr9, ha1 24 0 hm3x, ha1 4 0 hm4x, ha1 0 0 hm5x]) ?_
  refine lv_istore (pc := 199) hx hb dL_law_199 hl (by decide) rfl (fun ls hl => ?_)
  have hl : lv_has ls 7 [(5, .int y1), (4, .int i), (3, .ref (ad1 24 0)), (2, .ref (ad1 4 0)), (1, .ref (ad1 0 0)), (0, .ref b)] := hl
  refine lv_aload_n (pc := 201) hx hb dL_law_201 rfl (lv_at hl 3 rfl) ?_
  refine lv_aload_n (pc := 202) hx hb dL_law_202 rfl (lv_at hl 5 rfl) ?_
  refine lv_iload (pc := 203) hx hb dL_law_203 (lv_at hl 1 rfl) ?_
  refine lv_iconst (pc := 205) (v := 1) hx hb dL_law_205 (by decide) ?_
  refine lv_iadd (pc := 206) hx hb dL_law_206 ?_
  refine va_sld (A := A) (pc := 207) hx hb hX hbl hbA hS hv1 dL_law_207 ?_
  refine W.eq (g2 := F0 m 208 ls [.int v1, .ref (ad1 4 0)]) (by rw [e1]) ?_
  obtain ⟨q6, hq6, eq6⟩ := at_4 (ad := ad1) (ca := ca1) (σ := σ2) hm4
  obtain ⟨⟨y7, σ8⟩, hy7, hf⟩ := ob hf
  have hFc := w9_free hD hS hA
  refine va_calli (pc := 208) (va_runV (As := [.int v1]) (rest := []) ⟨hx, hb, hml, hown, hts⟩ (t_M_drawing l dC dI ad1 ca1 dom1 H.size n σ2 v1 hm4 hN1 hC y7 σ8 hy7) (cwV 1 hts (gV wd_786 wd_787 wd_788 wd_50 wd_785) rfl rfl rfl (by decide +kernel) ⟨Nat.le_of_ble_eq_true rfl, Nat.le_of_ble_eq_true rfl⟩) ⟨hW_blind, va_recv (q := (RM, TM, 11)) (q0 := q6) (ci := 4) hK1.1 hP rfl eq6, hW_pre hP hK1 hD hG⟩ rfl rfl hl.1 rfl (lv_room (Nat.le_of_ble_eq_true rfl)) dL_law_208 ⟨show kc + 15 + 0 ≤ 601024 by omega, show ks + 95 + 0 ≤ 7293033 by omega⟩) hS (fun q _ h => hFc q h) hFc (fun r9 u t H1 locs ht hvm hr9 hB hz1 hk1 hS => ?_)
  obtain ⟨hP, hD, hC⟩ := hB
  rw [ht] at hP
  replace hD := hD.weaken (fun _ _ _ h => hFc _ h)
  generalize H1 = H at hP hS ⊢
  refine W.eq (g2 := F0 m 211 ls [.int y7]) (by rw [hr9]) ?_
  refine lv_istore (pc := 211) hx hb dL_law_211 hl (by decide) rfl (fun ls hl => ?_)
  have hl : lv_has ls 7 [(6, .int y7), (5, .int y1), (4, .int i), (3, .ref (ad1 24 0)), (2, .ref (ad1 4 0)), (1, .ref (ad1 0 0)), (0, .ref b)] := hl
  refine lv_goto (pc := 213) (tgt := 1217) hx hb dL_law_213 rfl ?_
  obtain ⟨-, h9⟩ := Prod.mk.inj (Option.some.inj hf)
  subst h9
  have hl := lv_sub hl (l' := [(4, .int i), (3, .ref (ad1 24 0)), (2, .ref (ad1 4 0)), (1, .ref (ad1 0 0)), (0, .ref b)]) [2, 3, 4, 5, 6] rfl
  refine W.widen (k := kc + 16) (n := ks + 101) (by omega) (by omega) ?_
  exact kk ad1 ca1 dom1 H _ ls ⟨_, _, hy1, hd1⟩ hN1 hC hP hD hK1 hS hl
set_option maxHeartbeats 4000000 in
set_option maxRecDepth 100000 in
theorem lawc_8 {p : Program} {l : Launch} {e : Env} {s : State} {m : MethodId} {below : List Frame} {meth : Method} {c : Code} {b L : Nat} {xs : Nat → Int32} {A : Nat → Prop} {H : Heap} {locs : List Loc} {ls : Array Slot} {dC : Nat → ClassId} {dI : Nat → Nat → Nat} {Q : State → Prop} {kc ks : Nat} (hfl : l.stackTraces = false) (C : lawH p s m meth c b L xs A) (ad : Nat → Nat → Nat) (ca : Nat → Nat → ClassId) (dom : List (Nat × Nat)) (σ : hT) (i : Int32) (n : Nat) (v1 v2 v3 v4 v5 : Int32) (nw : Nat) (hfr7 : ∀ r ∈ row7 nw, r ∉ dom)
    (hv1 : vp_in (i + 1) L) (hv2 : vp_in (i + 2) L) (hv3 : vp_in (i + 3) L) (hv4 : vp_in (i + 4) L) (hv5 : vp_in (i + 5) L) (e1 : xs (i + 1).toNatClampNeg = v1) (e2 : xs (i + 2).toNatClampNeg = v2) (e3 : xs (i + 3).toNatClampNeg = v3) (e4 : xs (i + 4).toNatClampNeg = v4) (e5 : xs (i + 5).toNatClampNeg = v5)
    (hmV : (0, 0) ∈ dom) (hmM : (4, 0) ∈ dom) (hmO : (24, 0) ∈ dom) (hN : dom.Nodup) (hC : clo dom σ.2.2) (hP : va_P (dC, dI) kCl (w9 ad ca dom σ) H) (hD : va_D A (w9 ad ca dom σ)) (hK : hkt (dC, dI) ca dom s) (hS : va_S A s.heap H locs) (hl : lv_has ls 7 [(4, .int i), (3, .ref (ad 24 0)), (2, .ref (ad 4 0)), (1, .ref (ad 0 0)), (0, .ref b)]) (hkc : kc + 16 ≤ 601024) (hks : ks + 101 ≤ 7293033) (σ' : hT) (hf : LC_8 n σ v1 v2 v3 v4 v5 nw = some (1, σ'))
    (kk : ∀ (ad' : Nat → Nat → Nat) (ca' : Nat → Nat → ClassId) (dom' : List (Nat × Nat)) (H' : Heap) (locs' : List Loc) (ls' : Array Slot), (∃ y σ1, L_checkIn n σ v1 v2 nw = some (y, σ1) ∧ dom' = dmL y (xL σ1 24 0 0) dom (row7 nw)) → dom'.Nodup → clo dom' σ'.2.2 → va_P (dC, dI) kCl (w9 ad' ca' dom' σ') H' → va_D A (w9 ad' ca' dom' σ') → hkt (dC, dI) ca' dom' s → va_S A s.heap H' locs' → lv_has ls' 7 [(4, .int i), (3, .ref (ad' 24 0)), (2, .ref (ad' 4 0)), (1, .ref (ad' 0 0)), (0, .ref b)] → W p l e room_1 s m #[Value.ref b] below meth c H' locs' (kc + 16) (ks + 101) Q (F0 m 1217 ls' [])) :
    W p l e room_1 s m #[Value.ref b] below meth c H locs kc ks Q (F0 m 540 ls []) := by
  obtain ⟨hx, hb, hr, hml, hown, hts, hX, hbl, hbA, hlocks, hA, hA2, hG, hE0⟩ := C
  unfold LC_8 at hf
  refine lv_aload_n (pc := 540) hx hb dL_law_540 rfl (lv_at hl 3 rfl) ?_
  refine lv_aload_n (pc := 541) hx hb dL_law_541 rfl (lv_at hl 4 rfl) ?_
  refine lv_iload (pc := 542) hx hb dL_law_542 (lv_at hl 0 rfl) ?_
  refine lv_iconst (pc := 544) (v := 1) hx hb dL_law_544 (by decide) ?_
  refine lv_iadd (pc := 545) hx hb dL_law_545 ?_
  refine va_sld (A := A) (pc := 546) hx hb hX hbl hbA hS hv1 dL_law_546 ?_
  refine W.eq (g2 := F0 m 547 ls [.int v1, .ref (ad 0 0)]) (by rw [e1]) ?_
  refine lv_aload_n (pc := 547) hx hb dL_law_547 rfl (lv_at hl 4 rfl) ?_
  refine lv_iload (pc := 548) hx hb dL_law_548 (lv_at hl 0 rfl) ?_
  refine lv_iconst (pc := 550) (v := 2) hx hb dL_law_550 (by decide) ?_
  refine lv_iadd (pc := 551) hx hb dL_law_551 ?_
  refine va_sld (A := A) (pc := 552) hx hb hX hbl hbA hS hv2 dL_law_552 ?_
  refine W.eq (g2 := F0 m 553 ls [.int v2, .int v1, .ref (ad 0 0)]) (by rw [e2]) ?_
  refine lv_aload_n (pc := 553) hx hb dL_law_553 rfl (lv_at hl 1 rfl) ?_
  obtain ⟨⟨y1, σ2⟩, hy1, hf⟩ := ob hf
  have hE := xE.mono hE0 (fun q z => hA2 q (w9_xA hD z))
  have hSA : ∀ q : Nat, q < s.heap.size → A q → xS ad dom q := fun q h z => absurd (hA2 q z) (Nat.not_le.mpr h)
  have hFc := w9_free hD hS hA
  refine va_calli (pc := 554) (hxR (As := [.ref (ad 0 0), .int v1, .int v2, .ref (ad 24 0)]) (rest := []) ⟨hx, hb, hml, hown, hts⟩ (t_L_checkIn l dC dI ad ca dom H.size n σ v1 v2 nw hmV hmO hfr7 hN hC hfl y1 σ2 hy1) 4 wd_790 wd_791 wd_777 wd_789 rfl rfl ⟨Nat.le_of_ble_eq_true rfl, Nat.le_of_ble_eq_true rfl⟩ (by decide +kernel) ⟨hX_blind, hX_pre hP hK hD hG hE hS hSA⟩ rfl rfl hl.1 rfl (lv_room (Nat.le_of_ble_eq_true rfl)) dL_law_554 ⟨show kc + 0 + 5 ≤ 601024 by omega, show ks + 0 + 28 ≤ 7293033 by omega⟩) hS (fun q _ h => hFc q h) hFc (fun r9 u t H1 locs ht hvm hr9 hB hz1 hk1 hS => ?_)
  have hCo := hC
  obtain ⟨ad1, ca1⟩ := u
  obtain ⟨ha1, hP, hD, hKn, hC, hN1⟩ := hB
  dsimp only at ha1 hP hD hKn
  rw [ht] at hP
  replace hD := hD.weaken (fun _ _ _ h => hFc _ h)
  have hK1 := hkt.moved hvm.symm hKn
  generalize H1 = H at hP hS ⊢
  refine W.widen (k := (kc + 5)) (n := (ks + 28)) (by omega) (by omega) ?_
  obtain ⟨dom1, hd1⟩ : ∃ d, d = dmL y1 (xL σ2 24 0 0) dom (row7 nw) := ⟨_, rfl⟩
  rw [← hd1] at hP hD hK1 hC hN1
  have hdm1 : ∀ r, r ∈ dom → r ∈ dom1 := fun r h => by rw [hd1]; exact dmL_m h
  have hag1 : ∀ κ j, (κ, j) ∈ dom → ad1 κ j = ad κ j := ha1
  have hdo1 : ∀ r, r ∈ dom → r ∈ dom1 := hdm1
  have hm3x := hmO
  have hm3 : (24, 0) ∈ dom1 := hdm1 _ hm3x
  have hm4x := hmM
  have hm4 : (4, 0) ∈ dom1 := hdm1 _ hm4x
  have hm5x := hmV
  have hm5 : (0, 0) ∈ dom1 := hdm1 _ hm5x
  have hl : lv_has ls 7 [(4, .int i), (3, .ref (ad1 24 0)), (2, .ref (ad1 4 0)), (1, .ref (ad1 0 0)), (0, .ref b)] := by simp only [ha1 24 0 hm3x, ha1 4 0 hm4x, ha1 0 0 hm5x]; exact hl
  refine W.eq (g2 := F0 m 557 ls [.int y1]) (by first | rfl | simp only [hr9, ha1 24 0 hm3x, ha1 4 0 hm4x, ha1 0 0 hm5x]) ?_
  refine lv_istore (pc := 557) hx hb dL_law_557 hl (by decide) rfl (fun ls hl => ?_)
  have hl : lv_has ls 7 [(5, .int y1), (4, .int i), (3, .ref (ad1 24 0)), (2, .ref (ad1 4 0)), (1, .ref (ad1 0 0)), (0, .ref b)] := hl
  refine lv_aload_n (pc := 559) hx hb dL_law_559 rfl (lv_at hl 3 rfl) ?_
  refine lv_aload_n (pc := 560) hx hb dL_law_560 rfl (lv_at hl 5 rfl) ?_
  refine lv_iload (pc := 561) hx hb dL_law_561 (lv_at hl 1 rfl) ?_
  refine lv_iconst (pc := 563) (v := 1) hx hb dL_law_563 (by decide) ?_
  refine lv_iadd (pc := 564) hx hb dL_law_564 ?_
  refine va_sld (A := A) (pc := 565) hx hb hX hbl hbA hS hv1 dL_law_565 ?_
  refine W.eq (g2 := F0 m 566 ls [.int v1, .ref (ad1 4 0)]) (by rw [e1]) ?_
  refine lv_aload_n (pc := 566) hx hb dL_law_566 rfl (lv_at hl 5 rfl) ?_
  refine lv_iload (pc := 567) hx hb dL_law_567 (lv_at hl 1 rfl) ?_
  refine lv_iconst (pc := 569) (v := 2) hx hb dL_law_569 (by decide) ?_
  refine lv_iadd (pc := 570) hx hb dL_law_570 ?_
  refine va_sld (A := A) (pc := 571) hx hb hX hbl hbA hS hv2 dL_law_571 ?_
  refine W.eq (g2 := F0 m 572 ls [.int v2, .int v1, .ref (ad1 4 0)]) (by rw [e2]) ?_
  obtain ⟨q6, hq6, eq6⟩ := at_4 (ad := ad1) (ca := ca1) (σ := σ2) hm4
  obtain ⟨⟨y7, σ8⟩, hy7, hf⟩ := ob hf
  have hFc := w9_free hD hS hA
  refine va_calli (pc := 572) (va_runV (As := [.int v1, .int v2]) (rest := []) ⟨hx, hb, hml, hown, hts⟩ (t_M_checkIn l dC dI ad1 ca1 dom1 H.size n σ2 v1 v2 hm4 hN1 hC y7 σ8 hy7) (cwV 2 hts (gV wd_793 wd_794 wd_795 wd_50 wd_792) rfl rfl rfl (by decide +kernel) ⟨Nat.le_of_ble_eq_true rfl, Nat.le_of_ble_eq_true rfl⟩) ⟨hW_blind, va_recv (q := (RM, TM, 11)) (q0 := q6) (ci := 4) hK1.1 hP rfl eq6, hW_pre hP hK1 hD hG⟩ rfl rfl hl.1 rfl (lv_room (Nat.le_of_ble_eq_true rfl)) dL_law_572 ⟨show kc + 5 + 0 ≤ 601024 by omega, show ks + 28 + 0 ≤ 7293033 by omega⟩) hS (fun q _ h => hFc q h) hFc (fun r9 u t H1 locs ht hvm hr9 hB hz1 hk1 hS => ?_)
  obtain ⟨hP, hD, hC⟩ := hB
  rw [ht] at hP
  replace hD := hD.weaken (fun _ _ _ h => hFc _ h)
  generalize H1 = H at hP hS ⊢
  refine W.eq (g2 := F0 m 575 ls [.int y7]) (by rw [hr9]) ?_
  refine lv_istore (pc := 575) hx hb dL_law_575 hl (by decide) rfl (fun ls hl => ?_)
  have hl : lv_has ls 7 [(6, .int y7), (5, .int y1), (4, .int i), (3, .ref (ad1 24 0)), (2, .ref (ad1 4 0)), (1, .ref (ad1 0 0)), (0, .ref b)] := hl
  refine lv_goto (pc := 577) (tgt := 1217) hx hb dL_law_577 rfl ?_
  obtain ⟨-, h9⟩ := Prod.mk.inj (Option.some.inj hf)
  subst h9
  have hl := lv_sub hl (l' := [(4, .int i), (3, .ref (ad1 24 0)), (2, .ref (ad1 4 0)), (1, .ref (ad1 0 0)), (0, .ref b)]) [2, 3, 4, 5, 6] rfl
  refine W.widen (k := kc + 16) (n := ks + 101) (by omega) (by omega) ?_
  exact kk ad1 ca1 dom1 H _ ls ⟨_, _, hy1, hd1⟩ hN1 hC hP hD hK1 hS hl
set_option maxHeartbeats 4000000 in
set_option maxRecDepth 100000 in
theorem lawc_12 {p : Program} {l : Launch} {e : Env} {s : State} {m : MethodId} {below : List Frame} {meth : Method} {c : Code} {b L : Nat} {xs : Nat → Int32} {A : Nat → Prop} {H : Heap} {locs : List Loc} {ls : Array Slot} {dC : Nat → ClassId} {dI : Nat → Nat → Nat} {Q : State → Prop} {kc ks : Nat} (hfl : l.stackTraces = false) (C : lawH p s m meth c b L xs A) (ad : Nat → Nat → Nat) (ca : Nat → Nat → ClassId) (dom : List (Nat × Nat)) (σ : hT) (i : Int32) (n : Nat) (v1 v2 v3 v4 v5 : Int32) (nw : Nat) (hfr1 : ∀ r ∈ row1 nw, r ∉ dom)
    (hv1 : vp_in (i + 1) L) (hv2 : vp_in (i + 2) L) (hv3 : vp_in (i + 3) L) (hv4 : vp_in (i + 4) L) (hv5 : vp_in (i + 5) L) (e1 : xs (i + 1).toNatClampNeg = v1) (e2 : xs (i + 2).toNatClampNeg = v2) (e3 : xs (i + 3).toNatClampNeg = v3) (e4 : xs (i + 4).toNatClampNeg = v4) (e5 : xs (i + 5).toNatClampNeg = v5)
    (hmV : (0, 0) ∈ dom) (hmM : (4, 0) ∈ dom) (hmO : (24, 0) ∈ dom) (hN : dom.Nodup) (hC : clo dom σ.2.2) (hP : va_P (dC, dI) kCl (w9 ad ca dom σ) H) (hD : va_D A (w9 ad ca dom σ)) (hK : hkt (dC, dI) ca dom s) (hS : va_S A s.heap H locs) (hl : lv_has ls 7 [(4, .int i), (3, .ref (ad 24 0)), (2, .ref (ad 4 0)), (1, .ref (ad 0 0)), (0, .ref b)]) (hkc : kc + 16 ≤ 601024) (hks : ks + 101 ≤ 7293033) (σ' : hT) (hf : LC_12 n σ v1 v2 v3 v4 v5 nw = some (1, σ'))
    (kk : ∀ (ad' : Nat → Nat → Nat) (ca' : Nat → Nat → ClassId) (dom' : List (Nat × Nat)) (H' : Heap) (locs' : List Loc) (ls' : Array Slot), (∃ y σ1, L_baseline n σ v1 v2 nw = some (y, σ1) ∧ dom' = dmL y (xL σ1 24 0 0) dom (row1 nw)) → dom'.Nodup → clo dom' σ'.2.2 → va_P (dC, dI) kCl (w9 ad' ca' dom' σ') H' → va_D A (w9 ad' ca' dom' σ') → hkt (dC, dI) ca' dom' s → va_S A s.heap H' locs' → lv_has ls' 7 [(4, .int i), (3, .ref (ad' 24 0)), (2, .ref (ad' 4 0)), (1, .ref (ad' 0 0)), (0, .ref b)] → W p l e room_1 s m #[Value.ref b] below meth c H' locs' (kc + 16) (ks + 101) Q (F0 m 1217 ls' [])) :
    W p l e room_1 s m #[Value.ref b] below meth c H locs kc ks Q (F0 m 736 ls []) := by
  obtain ⟨hx, hb, hr, hml, hown, hts, hX, hbl, hbA, hlocks, hA, hA2, hG, hE0⟩ := C
  unfold LC_12 at hf
  refine lv_aload_n (pc := 736) hx hb dL_law_736 rfl (lv_at hl 3 rfl) ?_
  refine lv_aload_n (pc := 737) hx hb dL_law_737 rfl (lv_at hl 4 rfl) ?_
  refine lv_iload (pc := 738) hx hb dL_law_738 (lv_at hl 0 rfl) ?_
  refine lv_iconst (pc := 740) (v := 1) hx hb dL_law_740 (by decide) ?_
  refine lv_iadd (pc := 741) hx hb dL_law_741 ?_
  refine va_sld (A := A) (pc := 742) hx hb hX hbl hbA hS hv1 dL_law_742 ?_
  refine W.eq (g2 := F0 m 743 ls [.int v1, .ref (ad 0 0)]) (by rw [e1]) ?_
  refine lv_aload_n (pc := 743) hx hb dL_law_743 rfl (lv_at hl 4 rfl) ?_
  refine lv_iload (pc := 744) hx hb dL_law_744 (lv_at hl 0 rfl) ?_
  refine lv_iconst (pc := 746) (v := 2) hx hb dL_law_746 (by decide) ?_
  refine lv_iadd (pc := 747) hx hb dL_law_747 ?_
  refine va_sld (A := A) (pc := 748) hx hb hX hbl hbA hS hv2 dL_law_748 ?_
  refine W.eq (g2 := F0 m 749 ls [.int v2, .int v1, .ref (ad 0 0)]) (by rw [e2]) ?_
  refine lv_aload_n (pc := 749) hx hb dL_law_749 rfl (lv_at hl 1 rfl) ?_
  obtain ⟨⟨y1, σ2⟩, hy1, hf⟩ := ob hf
  have hE := xE.mono hE0 (fun q z => hA2 q (w9_xA hD z))
  have hSA : ∀ q : Nat, q < s.heap.size → A q → xS ad dom q := fun q h z => absurd (hA2 q z) (Nat.not_le.mpr h)
  have hFc := w9_free hD hS hA
  refine va_calli (pc := 750) (hxR (As := [.ref (ad 0 0), .int v1, .int v2, .ref (ad 24 0)]) (rest := []) ⟨hx, hb, hml, hown, hts⟩ (t_L_baseline l dC dI ad ca dom H.size n σ v1 v2 nw hmV hmO hfr1 hN hC hfl y1 σ2 hy1) 4 wd_797 wd_798 wd_777 wd_796 rfl rfl ⟨Nat.le_of_ble_eq_true rfl, Nat.le_of_ble_eq_true rfl⟩ (by decide +kernel) ⟨hX_blind, hX_pre hP hK hD hG hE hS hSA⟩ rfl rfl hl.1 rfl (lv_room (Nat.le_of_ble_eq_true rfl)) dL_law_750 ⟨show kc + 0 + 3 ≤ 601024 by omega, show ks + 0 + 51 ≤ 7293033 by omega⟩) hS (fun q _ h => hFc q h) hFc (fun r9 u t H1 locs ht hvm hr9 hB hz1 hk1 hS => ?_)
  have hCo := hC
  obtain ⟨ad1, ca1⟩ := u
  obtain ⟨ha1, hP, hD, hKn, hC, hN1⟩ := hB
  dsimp only at ha1 hP hD hKn
  rw [ht] at hP
  replace hD := hD.weaken (fun _ _ _ h => hFc _ h)
  have hK1 := hkt.moved hvm.symm hKn
  generalize H1 = H at hP hS ⊢
  refine W.widen (k := (kc + 3)) (n := (ks + 51)) (by omega) (by omega) ?_
  obtain ⟨dom1, hd1⟩ : ∃ d, d = dmL y1 (xL σ2 24 0 0) dom (row1 nw) := ⟨_, rfl⟩
  rw [← hd1] at hP hD hK1 hC hN1
  have hdm1 : ∀ r, r ∈ dom → r ∈ dom1 := fun r h => by rw [hd1]; exact dmL_m h
  have hag1 : ∀ κ j, (κ, j) ∈ dom → ad1 κ j = ad κ j := ha1
  have hdo1 : ∀ r, r ∈ dom → r ∈ dom1 := hdm1
  have hm3x := hmO
  have hm3 : (24, 0) ∈ dom1 := hdm1 _ hm3x
  have hm4x := hmM
  have hm4 : (4, 0) ∈ dom1 := hdm1 _ hm4x
  have hm5x := hmV
  have hm5 : (0, 0) ∈ dom1 := hdm1 _ hm5x
  have hl : lv_has ls 7 [(4, .int i), (3, .ref (ad1 24 0)), (2, .ref (ad1 4 0)), (1, .ref (ad1 0 0)), (0, .ref b)] := by simp only [ha1 24 0 hm3x, ha1 4 0 hm4x, ha1 0 0 hm5x]; exact hl
  refine W.eq (g2 := F0 m 753 ls [.int y1]) (by first | rfl | simp only [hr9, ha1 24 0 hm3x, ha1 4 0 hm4x, ha1 0 0 hm5x]) ?_
  refine lv_istore (pc := 753) hx hb dL_law_753 hl (by decide) rfl (fun ls hl => ?_)
  have hl : lv_has ls 7 [(5, .int y1), (4, .int i), (3, .ref (ad1 24 0)), (2, .ref (ad1 4 0)), (1, .ref (ad1 0 0)), (0, .ref b)] := hl
  refine lv_aload_n (pc := 755) hx hb dL_law_755 rfl (lv_at hl 3 rfl) ?_
  refine lv_aload_n (pc := 756) hx hb dL_law_756 rfl (lv_at hl 5 rfl) ?_
  refine lv_iload (pc := 757) hx hb dL_law_757 (lv_at hl 1 rfl) ?_
  refine lv_iconst (pc := 759) (v := 1) hx hb dL_law_759 (by decide) ?_
  refine lv_iadd (pc := 760) hx hb dL_law_760 ?_
  refine va_sld (A := A) (pc := 761) hx hb hX hbl hbA hS hv1 dL_law_761 ?_
  refine W.eq (g2 := F0 m 762 ls [.int v1, .ref (ad1 4 0)]) (by rw [e1]) ?_
  refine lv_aload_n (pc := 762) hx hb dL_law_762 rfl (lv_at hl 5 rfl) ?_
  refine lv_iload (pc := 763) hx hb dL_law_763 (lv_at hl 1 rfl) ?_
  refine lv_iconst (pc := 765) (v := 2) hx hb dL_law_765 (by decide) ?_
  refine lv_iadd (pc := 766) hx hb dL_law_766 ?_
  refine va_sld (A := A) (pc := 767) hx hb hX hbl hbA hS hv2 dL_law_767 ?_
  refine W.eq (g2 := F0 m 768 ls [.int v2, .int v1, .ref (ad1 4 0)]) (by rw [e2]) ?_
  obtain ⟨q6, hq6, eq6⟩ := at_4 (ad := ad1) (ca := ca1) (σ := σ2) hm4
  obtain ⟨⟨y7, σ8⟩, hy7, hf⟩ := ob hf
  have hFc := w9_free hD hS hA
  refine va_calli (pc := 768) (va_runV (As := [.int v1, .int v2]) (rest := []) ⟨hx, hb, hml, hown, hts⟩ (t_M_baseline l dC dI ad1 ca1 dom1 H.size n σ2 v1 v2 hm4 hN1 hC y7 σ8 hy7) (cwV 2 hts (gV wd_800 wd_801 wd_802 wd_50 wd_799) rfl rfl rfl (by decide +kernel) ⟨Nat.le_of_ble_eq_true rfl, Nat.le_of_ble_eq_true rfl⟩) ⟨hW_blind, va_recv (q := (RM, TM, 11)) (q0 := q6) (ci := 4) hK1.1 hP rfl eq6, hW_pre hP hK1 hD hG⟩ rfl rfl hl.1 rfl (lv_room (Nat.le_of_ble_eq_true rfl)) dL_law_768 ⟨show kc + 3 + 0 ≤ 601024 by omega, show ks + 51 + 0 ≤ 7293033 by omega⟩) hS (fun q _ h => hFc q h) hFc (fun r9 u t H1 locs ht hvm hr9 hB hz1 hk1 hS => ?_)
  obtain ⟨hP, hD, hC⟩ := hB
  rw [ht] at hP
  replace hD := hD.weaken (fun _ _ _ h => hFc _ h)
  generalize H1 = H at hP hS ⊢
  refine W.eq (g2 := F0 m 771 ls [.int y7]) (by rw [hr9]) ?_
  refine lv_istore (pc := 771) hx hb dL_law_771 hl (by decide) rfl (fun ls hl => ?_)
  have hl : lv_has ls 7 [(6, .int y7), (5, .int y1), (4, .int i), (3, .ref (ad1 24 0)), (2, .ref (ad1 4 0)), (1, .ref (ad1 0 0)), (0, .ref b)] := hl
  refine lv_goto (pc := 773) (tgt := 1217) hx hb dL_law_773 rfl ?_
  obtain ⟨-, h9⟩ := Prod.mk.inj (Option.some.inj hf)
  subst h9
  have hl := lv_sub hl (l' := [(4, .int i), (3, .ref (ad1 24 0)), (2, .ref (ad1 4 0)), (1, .ref (ad1 0 0)), (0, .ref b)]) [2, 3, 4, 5, 6] rfl
  refine W.widen (k := kc + 16) (n := ks + 101) (by omega) (by omega) ?_
  exact kk ad1 ca1 dom1 H _ ls ⟨_, _, hy1, hd1⟩ hN1 hC hP hD hK1 hS hl
