abbrev cA_fillI : ByteArray := prog_17_method_103_code
abbrev yA_fillI : MethodName := ⟨"java/util/Arrays", "fill", "([II)V"⟩
theorem dA_fillI_0 : decode cA_fillI 0 = .ok (.iconst 0, 1) := by decide +kernel
theorem dA_fillI_1 : decode cA_fillI 1 = .ok (.istore_n 2, 1) := by decide +kernel
theorem dA_fillI_2 : decode cA_fillI 2 = .ok (.aload_n 0, 1) := by decide +kernel
theorem dA_fillI_3 : decode cA_fillI 3 = .ok (.arraylength, 1) := by decide +kernel
theorem dA_fillI_4 : decode cA_fillI 4 = .ok (.istore_n 3, 1) := by decide +kernel
theorem dA_fillI_5 : decode cA_fillI 5 = .ok (.iload_n 2, 1) := by decide +kernel
theorem dA_fillI_6 : decode cA_fillI 6 = .ok (.iload_n 3, 1) := by decide +kernel
theorem dA_fillI_7 : decode cA_fillI 7 = .ok (.if_icmp .ge 13, 3) := by decide +kernel
theorem dA_fillI_10 : decode cA_fillI 10 = .ok (.aload_n 0, 1) := by decide +kernel
theorem dA_fillI_11 : decode cA_fillI 11 = .ok (.iload_n 2, 1) := by decide +kernel
theorem dA_fillI_12 : decode cA_fillI 12 = .ok (.iload_n 1, 1) := by decide +kernel
theorem dA_fillI_13 : decode cA_fillI 13 = .ok (.iastore, 1) := by decide +kernel
theorem dA_fillI_14 : decode cA_fillI 14 = .ok (.iinc 2 1, 3) := by decide +kernel
theorem dA_fillI_17 : decode cA_fillI 17 = .ok (.goto (-12), 3) := by decide +kernel
theorem dA_fillI_20 : decode cA_fillI 20 = .ok (.return_, 1) := by decide +kernel
abbrev cA_fillJ : ByteArray := prog_17_method_101_code
abbrev yA_fillJ : MethodName := ⟨"java/util/Arrays", "fill", "([JJ)V"⟩
theorem dA_fillJ_0 : decode cA_fillJ 0 = .ok (.iconst 0, 1) := by decide +kernel
theorem dA_fillJ_1 : decode cA_fillJ 1 = .ok (.istore_n 3, 1) := by decide +kernel
theorem dA_fillJ_2 : decode cA_fillJ 2 = .ok (.aload_n 0, 1) := by decide +kernel
theorem dA_fillJ_3 : decode cA_fillJ 3 = .ok (.arraylength, 1) := by decide +kernel
theorem dA_fillJ_4 : decode cA_fillJ 4 = .ok (.istore 4, 2) := by decide +kernel
theorem dA_fillJ_6 : decode cA_fillJ 6 = .ok (.iload_n 3, 1) := by decide +kernel
theorem dA_fillJ_7 : decode cA_fillJ 7 = .ok (.iload 4, 2) := by decide +kernel
theorem dA_fillJ_9 : decode cA_fillJ 9 = .ok (.if_icmp .ge 13, 3) := by decide +kernel
theorem dA_fillJ_12 : decode cA_fillJ 12 = .ok (.aload_n 0, 1) := by decide +kernel
theorem dA_fillJ_13 : decode cA_fillJ 13 = .ok (.iload_n 3, 1) := by decide +kernel
theorem dA_fillJ_14 : decode cA_fillJ 14 = .ok (.lload_n 1, 1) := by decide +kernel
theorem dA_fillJ_15 : decode cA_fillJ 15 = .ok (.lastore, 1) := by decide +kernel
theorem dA_fillJ_16 : decode cA_fillJ 16 = .ok (.iinc 3 1, 3) := by decide +kernel
theorem dA_fillJ_19 : decode cA_fillJ 19 = .ok (.goto (-13), 3) := by decide +kernel
theorem dA_fillJ_22 : decode cA_fillJ 22 = .ok (.return_, 1) := by decide +kernel
abbrev cC_clear : ByteArray := prog_4_method_3_code
abbrev yC_clear : MethodName := ⟨"DrawingVault$Content", "clear", "()V"⟩
theorem dC_clear_0 : decode cC_clear 0 = .ok (.aload_n 0, 1) := by decide +kernel
theorem dC_clear_1 : decode cC_clear 1 = .ok (.getfield 9, 3) := by decide +kernel
theorem dC_clear_4 : decode cC_clear 4 = .ok (.lconst 0, 1) := by decide +kernel
theorem dC_clear_5 : decode cC_clear 5 = .ok (.invokestatic 35, 3) := by decide +kernel
theorem dC_clear_8 : decode cC_clear 8 = .ok (.aload_n 0, 1) := by decide +kernel
theorem dC_clear_9 : decode cC_clear 9 = .ok (.iconst 0, 1) := by decide +kernel
theorem dC_clear_10 : decode cC_clear 10 = .ok (.putfield 28, 3) := by decide +kernel
theorem dC_clear_13 : decode cC_clear 13 = .ok (.aload_n 0, 1) := by decide +kernel
theorem dC_clear_14 : decode cC_clear 14 = .ok (.iconst 0, 1) := by decide +kernel
theorem dC_clear_15 : decode cC_clear 15 = .ok (.putfield 32, 3) := by decide +kernel
theorem dC_clear_18 : decode cC_clear 18 = .ok (.return_, 1) := by decide +kernel
abbrev cD_endLoan : ByteArray := prog_5_method_8_code
abbrev yD_endLoan : MethodName := ⟨"DrawingVault$Drawing", "endLoan", "()V"⟩
theorem dD_endLoan_0 : decode cD_endLoan 0 = .ok (.aload_n 0, 1) := by decide +kernel
theorem dD_endLoan_1 : decode cD_endLoan 1 = .ok (.iconst (-1), 1) := by decide +kernel
theorem dD_endLoan_2 : decode cD_endLoan 2 = .ok (.putfield 17, 3) := by decide +kernel
theorem dD_endLoan_5 : decode cD_endLoan 5 = .ok (.aload_n 0, 1) := by decide +kernel
theorem dD_endLoan_6 : decode cD_endLoan 6 = .ok (.getfield 24, 3) := by decide +kernel
theorem dD_endLoan_9 : decode cD_endLoan 9 = .ok (.invokevirtual 58, 3) := by decide +kernel
theorem dD_endLoan_12 : decode cD_endLoan 12 = .ok (.return_, 1) := by decide +kernel
abbrev cB_clear : ByteArray := prog_2_method_2_code
abbrev yB_clear : MethodName := ⟨"DrawingVault$Baseline", "clear", "()V"⟩
theorem dB_clear_0 : decode cB_clear 0 = .ok (.aload_n 0, 1) := by decide +kernel
theorem dB_clear_1 : decode cB_clear 1 = .ok (.getfield 9, 3) := by decide +kernel
theorem dB_clear_4 : decode cB_clear 4 = .ok (.iconst (-1), 1) := by decide +kernel
theorem dB_clear_5 : decode cB_clear 5 = .ok (.invokestatic 18, 3) := by decide +kernel
theorem dB_clear_8 : decode cB_clear 8 = .ok (.aload_n 0, 1) := by decide +kernel
theorem dB_clear_9 : decode cB_clear 9 = .ok (.iconst 0, 1) := by decide +kernel
theorem dB_clear_10 : decode cB_clear 10 = .ok (.putfield 24, 3) := by decide +kernel
theorem dB_clear_13 : decode cB_clear 13 = .ok (.return_, 1) := by decide +kernel
abbrev cV_baselineRefusal : ByteArray := prog_1_method_38_code
abbrev yV_baselineRefusal : MethodName := ⟨"DrawingVault", "baselineRefusal", "(II)I"⟩
theorem dV_baselineRefusal_0 : decode cV_baselineRefusal 0 = .ok (.aload_n 0, 1) := by decide +kernel
theorem dV_baselineRefusal_1 : decode cV_baselineRefusal 1 = .ok (.iload_n 2, 1) := by decide +kernel
theorem dV_baselineRefusal_2 : decode cV_baselineRefusal 2 = .ok (.invokevirtual 74, 3) := by decide +kernel
theorem dV_baselineRefusal_5 : decode cV_baselineRefusal 5 = .ok (.astore_n 3, 1) := by decide +kernel
theorem dV_baselineRefusal_6 : decode cV_baselineRefusal 6 = .ok (.aload_n 0, 1) := by decide +kernel
theorem dV_baselineRefusal_7 : decode cV_baselineRefusal 7 = .ok (.getfield 26, 3) := by decide +kernel
theorem dV_baselineRefusal_10 : decode cV_baselineRefusal 10 = .ok (.invokevirtual 304, 3) := by decide +kernel
theorem dV_baselineRefusal_13 : decode cV_baselineRefusal 13 = .ok (.aload_n 0, 1) := by decide +kernel
theorem dV_baselineRefusal_14 : decode cV_baselineRefusal 14 = .ok (.iload_n 1, 1) := by decide +kernel
theorem dV_baselineRefusal_15 : decode cV_baselineRefusal 15 = .ok (.invokevirtual 209, 3) := by decide +kernel
theorem dV_baselineRefusal_18 : decode cV_baselineRefusal 18 = .ok (.ifnull 5, 3) := by decide +kernel
theorem dV_baselineRefusal_21 : decode cV_baselineRefusal 21 = .ok (.iconst 2, 1) := by decide +kernel
theorem dV_baselineRefusal_22 : decode cV_baselineRefusal 22 = .ok (.ireturn, 1) := by decide +kernel
theorem dV_baselineRefusal_23 : decode cV_baselineRefusal 23 = .ok (.aload_n 3, 1) := by decide +kernel
theorem dV_baselineRefusal_24 : decode cV_baselineRefusal 24 = .ok (.ifnonnull 6, 3) := by decide +kernel
theorem dV_baselineRefusal_27 : decode cV_baselineRefusal 27 = .ok (.bipush 7, 2) := by decide +kernel
theorem dV_baselineRefusal_29 : decode cV_baselineRefusal 29 = .ok (.ireturn, 1) := by decide +kernel
theorem dV_baselineRefusal_30 : decode cV_baselineRefusal 30 = .ok (.aload_n 0, 1) := by decide +kernel
theorem dV_baselineRefusal_31 : decode cV_baselineRefusal 31 = .ok (.iload_n 2, 1) := by decide +kernel
theorem dV_baselineRefusal_32 : decode cV_baselineRefusal 32 = .ok (.aload_n 3, 1) := by decide +kernel
theorem dV_baselineRefusal_33 : decode cV_baselineRefusal 33 = .ok (.invokevirtual 200, 3) := by decide +kernel
theorem dV_baselineRefusal_36 : decode cV_baselineRefusal 36 = .ok (.invokevirtual 307, 3) := by decide +kernel
theorem dV_baselineRefusal_39 : decode cV_baselineRefusal 39 = .ok (.istore 4, 2) := by decide +kernel
theorem dV_baselineRefusal_41 : decode cV_baselineRefusal 41 = .ok (.iload 4, 2) := by decide +kernel
theorem dV_baselineRefusal_43 : decode cV_baselineRefusal 43 = .ok (.ifCond .eq 6, 3) := by decide +kernel
theorem dV_baselineRefusal_46 : decode cV_baselineRefusal 46 = .ok (.iload 4, 2) := by decide +kernel
theorem dV_baselineRefusal_48 : decode cV_baselineRefusal 48 = .ok (.ireturn, 1) := by decide +kernel
theorem dV_baselineRefusal_49 : decode cV_baselineRefusal 49 = .ok (.iload_n 1, 1) := by decide +kernel
theorem dV_baselineRefusal_50 : decode cV_baselineRefusal 50 = .ok (.ifCond .lt 13, 3) := by decide +kernel
theorem dV_baselineRefusal_53 : decode cV_baselineRefusal 53 = .ok (.iload_n 1, 1) := by decide +kernel
theorem dV_baselineRefusal_54 : decode cV_baselineRefusal 54 = .ok (.bipush 10, 2) := by decide +kernel
theorem dV_baselineRefusal_56 : decode cV_baselineRefusal 56 = .ok (.if_icmp .ge 7, 3) := by decide +kernel
theorem dV_baselineRefusal_59 : decode cV_baselineRefusal 59 = .ok (.iconst 0, 1) := by decide +kernel
theorem dV_baselineRefusal_60 : decode cV_baselineRefusal 60 = .ok (.goto 5, 3) := by decide +kernel
theorem dV_baselineRefusal_63 : decode cV_baselineRefusal 63 = .ok (.bipush 7, 2) := by decide +kernel
theorem dV_baselineRefusal_65 : decode cV_baselineRefusal 65 = .ok (.ireturn, 1) := by decide +kernel
theorem wd_459 : (.code ⟨"java/util/Arrays", "fill", "([JJ)V"⟩ prog_17_method_101_code 5 (Option.none : Option Jvm.ClassFile.FieldType) : Cond) ∈ aw := aw_in (tb_3 (List.mem_of_getElem? (i := 2) rfl)) rfl
theorem wd_460 : (.methodLink "DrawingVault$Content" 35 ⟨"java/util/Arrays", "fill", "([JJ)V"⟩ : Cond) ∈ aw := aw_in (tb_3 (List.mem_of_getElem? (i := 0) rfl)) rfl
theorem wd_461 : (.static ⟨"java/util/Arrays", "fill", "([JJ)V"⟩ : Cond) ∈ aw := aw_in (tb_3 (List.mem_of_getElem? (i := 1) rfl)) rfl
theorem wd_462 : (.initialized "java/util/Arrays" : Cond) ∈ aw := aw_in (tb_1 (List.mem_of_getElem? (i := 3) rfl)) rfl
theorem wd_463 : (.code ⟨"DrawingVault$Content", "clear", "()V"⟩ prog_4_method_3_code 1 (Option.none : Option Jvm.ClassFile.FieldType) : Cond) ∈ aw := aw_in (tb_2 (List.mem_of_getElem? (i := 239) rfl)) rfl
theorem wd_464 : (.methodLink "DrawingVault$Drawing" 58 ⟨"DrawingVault$Content", "clear", "()V"⟩ : Cond) ∈ aw := aw_in (tb_2 (List.mem_of_getElem? (i := 236) rfl)) rfl
theorem wd_465 : (.instanceMethod ⟨"DrawingVault$Content", "clear", "()V"⟩ : Cond) ∈ aw := aw_in (tb_2 (List.mem_of_getElem? (i := 237) rfl)) rfl
theorem wd_466 : (.selects "DrawingVault$Content" ⟨"DrawingVault$Content", "clear", "()V"⟩ ⟨"DrawingVault$Content", "clear", "()V"⟩ : Cond) ∈ aw := aw_in (tb_2 (List.mem_of_getElem? (i := 238) rfl)) rfl
theorem wd_467 : (.code ⟨"java/util/Arrays", "fill", "([II)V"⟩ prog_17_method_103_code 4 (Option.none : Option Jvm.ClassFile.FieldType) : Cond) ∈ aw := aw_in (tb_1 (List.mem_of_getElem? (i := 36) rfl)) rfl
theorem wd_468 : (.methodLink "DrawingVault$Baseline" 18 ⟨"java/util/Arrays", "fill", "([II)V"⟩ : Cond) ∈ aw := aw_in (tb_1 (List.mem_of_getElem? (i := 34) rfl)) rfl
theorem wd_469 : (.static ⟨"java/util/Arrays", "fill", "([II)V"⟩ : Cond) ∈ aw := aw_in (tb_1 (List.mem_of_getElem? (i := 35) rfl)) rfl
theorem wd_470 : (.code ⟨"DrawingVault$Baseline", "clear", "()V"⟩ prog_2_method_2_code 1 (Option.none : Option Jvm.ClassFile.FieldType) : Cond) ∈ aw := aw_in (tb_3 (List.mem_of_getElem? (i := 172) rfl)) rfl
theorem wd_471 : (.methodLink "DrawingVault" 304 ⟨"DrawingVault$Baseline", "clear", "()V"⟩ : Cond) ∈ aw := aw_in (tb_3 (List.mem_of_getElem? (i := 169) rfl)) rfl
theorem wd_472 : (.instanceMethod ⟨"DrawingVault$Baseline", "clear", "()V"⟩ : Cond) ∈ aw := aw_in (tb_3 (List.mem_of_getElem? (i := 170) rfl)) rfl
theorem wd_473 : (.selects "DrawingVault$Baseline" ⟨"DrawingVault$Baseline", "clear", "()V"⟩ ⟨"DrawingVault$Baseline", "clear", "()V"⟩ : Cond) ∈ aw := aw_in (tb_3 (List.mem_of_getElem? (i := 171) rfl)) rfl
theorem wd_474 : (.code ⟨"DrawingVault", "baselineAt", "(I)LDrawingVault$Baseline;"⟩ prog_1_method_46_code 2 (Option.some (.object "DrawingVault$Baseline")) : Cond) ∈ aw := aw_in (tb_3 (List.mem_of_getElem? (i := 176) rfl)) rfl
theorem wd_475 : (.methodLink "DrawingVault" 209 ⟨"DrawingVault", "baselineAt", "(I)LDrawingVault$Baseline;"⟩ : Cond) ∈ aw := aw_in (tb_3 (List.mem_of_getElem? (i := 173) rfl)) rfl
theorem wd_476 : (.instanceMethod ⟨"DrawingVault", "baselineAt", "(I)LDrawingVault$Baseline;"⟩ : Cond) ∈ aw := aw_in (tb_3 (List.mem_of_getElem? (i := 175) rfl)) rfl
theorem wd_477 : (.selects "DrawingVault" ⟨"DrawingVault", "baselineAt", "(I)LDrawingVault$Baseline;"⟩ ⟨"DrawingVault", "baselineAt", "(I)LDrawingVault$Baseline;"⟩ : Cond) ∈ aw := aw_in (tb_s (q := (⟨"DrawingVault", "baselineAt", "(I)LDrawingVault$Baseline;"⟩, _)) (List.mem_append_right _ (List.mem_append_right _ (List.mem_append_left _ (List.mem_of_getElem? (i := 0) rfl))))) rfl
theorem wd_478 : (.code ⟨"DrawingVault", "fillDraft", "(II)I"⟩ prog_1_method_39_code 7 (Option.some .int) : Cond) ∈ aw := aw_in (tb_3 (List.mem_of_getElem? (i := 180) rfl)) rfl
theorem wd_479 : (.methodLink "DrawingVault" 307 ⟨"DrawingVault", "fillDraft", "(II)I"⟩ : Cond) ∈ aw := aw_in (tb_3 (List.mem_of_getElem? (i := 177) rfl)) rfl
theorem wd_480 : (.instanceMethod ⟨"DrawingVault", "fillDraft", "(II)I"⟩ : Cond) ∈ aw := aw_in (tb_3 (List.mem_of_getElem? (i := 179) rfl)) rfl
theorem wd_481 : (.selects "DrawingVault" ⟨"DrawingVault", "fillDraft", "(II)I"⟩ ⟨"DrawingVault", "fillDraft", "(II)I"⟩ : Cond) ∈ aw := aw_in (tb_s (q := (⟨"DrawingVault", "fillDraft", "(II)I"⟩, _)) (List.mem_append_right _ (List.mem_append_right _ (List.mem_append_left _ (List.mem_of_getElem? (i := 1) rfl))))) rfl

def A_fillI_L5 (n : Nat) (kx7 : hT → Int32 → Nat → Int32 → Option (Unit × hT)) : Nat → hT → Int32 → Nat → Int32 → Option (Unit × hT)
  | 0, _, _, _, _ => none
  | k + 1, σ2, p3, j4, p6 => if 24 ≤ p3 then kx7 (σ2) p3 j4 p6 else if in9 p3 24 then lt9 (sI σ2 11 j4 (p3).toNatClampNeg p6) fun σ10 => A_fillI_L5 n kx7 k (σ10) (p3 + 1) j4 p6 else none
def A_fillI (n : Nat) (σ : hT) (j0 : Nat) (a1 : Int32) : Option (Unit × hT) := lt9 (α := hT → Int32 → Nat → Int32 → Option (Unit × hT)) (fun (σ2 : hT) (p3 : Int32) (j4 : Nat) (p6 : Int32) => some ((), σ2)) fun kx7 => A_fillI_L5 n kx7 n (σ) 0 j0 a1
set_option maxHeartbeats 4000000 in
set_option maxRecDepth 100000 in
theorem t_A_fillI (l : Launch) (dC : Nat → ClassId) (dI : Nat → Nat → Nat) (ad : Nat → Nat → Nat) (ca : Nat → Nat → ClassId) (dom : List (Nat × Nat)) (sz : Nat) (n : Nat) (σ : hT) (j0 : Nat) (a1 : Int32) (hm0 : (11, j0) ∈ dom) (hN : dom.Nodup) (hC : clo dom σ.2.2) (ρ : Unit) (σ' : hT) (hf : A_fillI n σ j0 a1 = some (ρ, σ')) : Met l yA_fillI (.code yA_fillI cA_fillI 4 none :: aw) ({ frames := 0, cells := 0, slots := 0, locals := 0 }) (hW (dC, dI) sz ad ca dom σ [.ref (ad 11 j0), .int a1]) (va_Qv (fun (_ : Unit) => True) (fun _ t => hB (dC, dI) (va_A (w9 ad ca dom σ) sz) ad ca dom σ' t) (va_A (w9 ad ca dom σ) sz)) 0 0 (va_A (w9 ad ca dom σ) sz) := by
  refine Met.ofW (cc := cA_fillI) (maxL := 4) (ret := none) (by decide) rfl ?_
  intro p e s m args below meth c s₁ B hml hv
  obtain ⟨rfl, hv⟩ := hv
  have hx := B.exec
  have hb := B.bytes
  have hr := B.returns
  have hts : ∀ w ∈ aw, w.before _ s = true := fun w h => atoms_spec (ws := (.code yA_fillI cA_fillI 4 none :: aw)) B.pre w (List.mem_cons_of_mem _ h)
  have hown : s.vm.findClass RA = some m.cls := findClass_of_methodNamed B.named
  have hlocks := B.notSynchronized
  obtain ⟨hsz, hP, hK, hD0, hG⟩ := hv
  subst hsz
  have hD := hD0.self (sz := s.heap.size)
  generalize hAe : va_A (w9 ad ca dom σ) s.heap.size = A at hD ⊢
  have hA : ∀ q : Nat, s.heap.size ≤ q → A q := fun q h => by rw [← hAe]; exact Or.inr h
  obtain ⟨H, hH⟩ : ∃ H, H = s.heap := ⟨_, rfl⟩
  have hS : va_S A s.heap H [] := by rw [hH]; exact va_S.rf
  rw [← hH] at hP ⊢
  unfold A_fillI at hf
  have hl := lv_entry ([.ref (ad 11 j0), .int a1]) (n := 4) (Nat.le_of_ble_eq_true rfl)
  rw [lg_entry_eq]
  generalize (lg_sl ([.ref (ad 11 j0), .int a1]) ++ List.replicate (4 - (lg_sl ([.ref (ad 11 j0), .int a1])).length) Slot.unset).toArray = ls at hl ⊢
  have hl : lv_has ls 4 [(0, .ref (ad 11 j0)), (1, .int a1)] := hl
  refine lv_iconst (pc := 0) (v := 0) hx hb dA_fillI_0 (by decide) ?_
  refine lv_istore_n (pc := 1) hx hb dA_fillI_1 rfl hl (by decide) rfl (fun ls hl => ?_)
  have hl : lv_has ls 4 [(2, .int 0), (0, .ref (ad 11 j0)), (1, .int a1)] := hl
  refine lv_aload_n (pc := 2) hx hb dA_fillI_2 rfl (lv_at hl 1 rfl) ?_
  obtain ⟨q1, hq1, eq1⟩ := at_11 (ad := ad) (ca := ca) (σ := σ) hm0
  refine va_alen (D := (dC, dI)) (cl := kCl) (pc := 3) (v := 24) hx hb (hK.2 11 j0 .int hm0 rfl) hP q1 0 eq1 rfl rfl dA_fillI_3 ?_
  refine lv_istore_n (pc := 4) hx hb dA_fillI_4 rfl hl (by decide) rfl (fun ls hl => ?_)
  have hl : lv_has ls 4 [(3, .int 24), (2, .int 0), (0, .ref (ad 11 j0)), (1, .int a1)] := hl
  obtain ⟨kx7, hkx7, hf⟩ := lt_9 hf
  refine lpF (τ := (hT) × (Int32) × (Nat) × (Int32) × (Heap) × (List Loc) × (Array Slot)) (fun pc z => W p l e _ s m _ below meth c z.2.2.2.2.1 z.2.2.2.2.2.1 0 0 _ (F0 m pc z.2.2.2.2.2.2 [])) 5 20 (fun z => va_P (dC, dI) kCl (w9 ad ca dom z.1) z.2.2.2.2.1 ∧ va_D A (w9 ad ca dom z.1) ∧ va_S A s.heap z.2.2.2.2.1 z.2.2.2.2.2.1 ∧ clo dom z.1.2.2 ∧ lv_has z.2.2.2.2.2.2 4 [(3, .int 24), (2, .int z.2.1), (0, .ref (ad 11 z.2.2.1)), (1, .int z.2.2.2.1)] ∧ (11, z.2.2.1) ∈ dom) (fun k z => A_fillI_L5 n kx7 k z.1 z.2.1 z.2.2.1 z.2.2.2.1) (fun z => kx7 z.1 z.2.1 z.2.2.1 z.2.2.2.1) _ (fun z => rfl) ?_ ?_ n (σ, 0, j0, a1, H, _, ls) ⟨hP, hD, hS, hC, hl, hm0⟩ hf
  · rintro k ⟨σ2, p3, j4, p6, H, locs, ls⟩ ⟨hP, hD, hS, hC, hl, hm5⟩ hf ih8 hXkx7
    dsimp only at hP hD hS hC hl hm5 hf ih8 hXkx7 ⊢
    unfold A_fillI_L5 at hf
    have hl : lv_has ls 4 [(3, .int 24), (2, .int p3), (0, .ref (ad 11 j4)), (1, .int p6)] := hl
    refine lv_iload_n (pc := 5) hx hb dA_fillI_5 rfl (lv_at hl 1 rfl) ?_
    refine lv_iload_n (pc := 6) hx hb dA_fillI_6 rfl (lv_at hl 0 rfl) ?_
    refine lv_icmp_ge (pc := 7) (tgt := 20) hx hb dA_fillI_7 rfl (fun h9 => ?_) (fun h9 => ?_)
    · replace hf := ite_t h9 hf
      have hl := lv_sub hl (l' := [(3, .int 24), (2, .int p3), (0, .ref (ad 11 j4)), (1, .int p6)]) [0, 1, 2, 3] rfl
      exact hXkx7 (σ2, p3, j4, p6, H, _, ls) ⟨hP, hD, hS, hC, hl, hm5⟩ hf
    · replace hf := ite_f h9 hf
      refine lv_aload_n (pc := 10) hx hb dA_fillI_10 rfl (lv_at hl 2 rfl) ?_
      refine lv_iload_n (pc := 11) hx hb dA_fillI_11 rfl (lv_at hl 1 rfl) ?_
      refine lv_iload_n (pc := 12) hx hb dA_fillI_12 rfl (lv_at hl 3 rfl) ?_
      obtain ⟨hv11, hf⟩ := ite_s hf
      obtain ⟨q12, hq12, eq12⟩ := at_11 (ad := ad) (ca := ca) (σ := σ2) hm5
      refine va_iast (D := (dC, dI)) (cl := kCl) (pc := 13) hx hb (hK.2 11 j4 .int hm5 rfl) hP hD hS q12 0 eq12 rfl (hv11) dA_fillI_13 (fun H locs hP hD hS => ?_)
      obtain ⟨σ10, hσ10, hf⟩ := lt_9 hf
      obtain ⟨hP, hD⟩ := w9_rI 11 rfl hN hq12 hσ10 (pr_11) hP hD
      have hC : clo dom σ10.2.2 := by rw [hσ10]; exact hC
      refine lv_iinc (pc := 14) (v := (p3 + 1)) hx hb dA_fillI_14 hl (k := 1) rfl (by rfl) (by decide) rfl (fun ls hl => ?_)
      have hl : lv_has ls 4 [(2, .int (p3 + 1)), (3, .int 24), (0, .ref (ad 11 j4)), (1, .int p6)] := hl
      refine lv_goto (pc := 17) (tgt := 5) hx hb dA_fillI_17 rfl ?_
      have hl := lv_sub hl (l' := [(3, .int 24), (2, .int (p3 + 1)), (0, .ref (ad 11 j4)), (1, .int p6)]) [1, 0, 2, 3] rfl
      exact ih8 (σ10, (p3 + 1), j4, p6, H, _, ls) ⟨hP, hD, hS, hC, hl, hm5⟩ hf
  · rintro ⟨σ2, p3, j4, p6, H, locs, ls⟩ ⟨hP, hD, hS, hC, hl, hm5⟩ hf
    dsimp only at hP hD hS hC hl hm5 hf ⊢
    rw [hkx7] at hf
    have hl : lv_has ls 4 [(3, .int 24), (2, .int p3), (0, .ref (ad 11 j4)), (1, .int p6)] := hl
    obtain ⟨h8, h9⟩ := Prod.mk.inj (Option.some.inj hf)
    subst h9
    exact W.vret (pc := 20) hx hb hr (fun t ht hW => ⟨⟨(), rfl, trivial, by rw [ht]; exact hP, hD, hC⟩, hS.F ht⟩) hS.2.2 dA_fillI_20
def A_fillJ_L6 (n : Nat) (kx7 : hT → Int32 → Nat → Int64 → Option (Unit × hT)) : Nat → hT → Int32 → Nat → Int64 → Option (Unit × hT)
  | 0, _, _, _, _ => none
  | k + 1, σ2, p3, j4, p6 => if 8 ≤ p3 then kx7 (σ2) p3 j4 p6 else if in9 p3 8 then lt9 (sL σ2 20 j4 (p3).toNatClampNeg p6) fun σ10 => A_fillJ_L6 n kx7 k (σ10) (p3 + 1) j4 p6 else none
def A_fillJ (n : Nat) (σ : hT) (j0 : Nat) (a1 : Int64) : Option (Unit × hT) := lt9 (α := hT → Int32 → Nat → Int64 → Option (Unit × hT)) (fun (σ2 : hT) (p3 : Int32) (j4 : Nat) (p6 : Int64) => some ((), σ2)) fun kx7 => A_fillJ_L6 n kx7 n (σ) 0 j0 a1
set_option maxHeartbeats 4000000 in
set_option maxRecDepth 100000 in
theorem t_A_fillJ (l : Launch) (dC : Nat → ClassId) (dI : Nat → Nat → Nat) (ad : Nat → Nat → Nat) (ca : Nat → Nat → ClassId) (dom : List (Nat × Nat)) (sz : Nat) (n : Nat) (σ : hT) (j0 : Nat) (a1 : Int64) (hm0 : (20, j0) ∈ dom) (hN : dom.Nodup) (hC : clo dom σ.2.2) (ρ : Unit) (σ' : hT) (hf : A_fillJ n σ j0 a1 = some (ρ, σ')) : Met l yA_fillJ (.code yA_fillJ cA_fillJ 5 none :: aw) ({ frames := 0, cells := 0, slots := 0, locals := 0 }) (hW (dC, dI) sz ad ca dom σ [.ref (ad 20 j0), .long a1]) (va_Qv (fun (_ : Unit) => True) (fun _ t => hB (dC, dI) (va_A (w9 ad ca dom σ) sz) ad ca dom σ' t) (va_A (w9 ad ca dom σ) sz)) 0 0 (va_A (w9 ad ca dom σ) sz) := by
  refine Met.ofW (cc := cA_fillJ) (maxL := 5) (ret := none) (by decide) rfl ?_
  intro p e s m args below meth c s₁ B hml hv
  obtain ⟨rfl, hv⟩ := hv
  have hx := B.exec
  have hb := B.bytes
  have hr := B.returns
  have hts : ∀ w ∈ aw, w.before _ s = true := fun w h => atoms_spec (ws := (.code yA_fillJ cA_fillJ 5 none :: aw)) B.pre w (List.mem_cons_of_mem _ h)
  have hown : s.vm.findClass RA = some m.cls := findClass_of_methodNamed B.named
  have hlocks := B.notSynchronized
  obtain ⟨hsz, hP, hK, hD0, hG⟩ := hv
  subst hsz
  have hD := hD0.self (sz := s.heap.size)
  generalize hAe : va_A (w9 ad ca dom σ) s.heap.size = A at hD ⊢
  have hA : ∀ q : Nat, s.heap.size ≤ q → A q := fun q h => by rw [← hAe]; exact Or.inr h
  obtain ⟨H, hH⟩ : ∃ H, H = s.heap := ⟨_, rfl⟩
  have hS : va_S A s.heap H [] := by rw [hH]; exact va_S.rf
  rw [← hH] at hP ⊢
  unfold A_fillJ at hf
  have hl := lv_entry ([.ref (ad 20 j0), .long a1]) (n := 5) (Nat.le_of_ble_eq_true rfl)
  rw [lg_entry_eq]
  generalize (lg_sl ([.ref (ad 20 j0), .long a1]) ++ List.replicate (5 - (lg_sl ([.ref (ad 20 j0), .long a1])).length) Slot.unset).toArray = ls at hl ⊢
  have hl : lv_has ls 5 [(0, .ref (ad 20 j0)), (1, .long a1)] := hl
  refine lv_iconst (pc := 0) (v := 0) hx hb dA_fillJ_0 (by decide) ?_
  refine lv_istore_n (pc := 1) hx hb dA_fillJ_1 rfl hl (by decide) rfl (fun ls hl => ?_)
  have hl : lv_has ls 5 [(3, .int 0), (0, .ref (ad 20 j0)), (1, .long a1)] := hl
  refine lv_aload_n (pc := 2) hx hb dA_fillJ_2 rfl (lv_at hl 1 rfl) ?_
  obtain ⟨q1, hq1, eq1⟩ := at_20 (ad := ad) (ca := ca) (σ := σ) hm0
  refine va_alen (D := (dC, dI)) (cl := kCl) (pc := 3) (v := 8) hx hb (hK.2 20 j0 .long hm0 rfl) hP q1 0 eq1 rfl rfl dA_fillJ_3 ?_
  refine lv_istore (pc := 4) hx hb dA_fillJ_4 hl (by decide) rfl (fun ls hl => ?_)
  have hl : lv_has ls 5 [(4, .int 8), (3, .int 0), (0, .ref (ad 20 j0)), (1, .long a1)] := hl
  obtain ⟨kx7, hkx7, hf⟩ := lt_9 hf
  refine lpF (τ := (hT) × (Int32) × (Nat) × (Int64) × (Heap) × (List Loc) × (Array Slot)) (fun pc z => W p l e _ s m _ below meth c z.2.2.2.2.1 z.2.2.2.2.2.1 0 0 _ (F0 m pc z.2.2.2.2.2.2 [])) 6 22 (fun z => va_P (dC, dI) kCl (w9 ad ca dom z.1) z.2.2.2.2.1 ∧ va_D A (w9 ad ca dom z.1) ∧ va_S A s.heap z.2.2.2.2.1 z.2.2.2.2.2.1 ∧ clo dom z.1.2.2 ∧ lv_has z.2.2.2.2.2.2 5 [(4, .int 8), (3, .int z.2.1), (0, .ref (ad 20 z.2.2.1)), (1, .long z.2.2.2.1)] ∧ (20, z.2.2.1) ∈ dom) (fun k z => A_fillJ_L6 n kx7 k z.1 z.2.1 z.2.2.1 z.2.2.2.1) (fun z => kx7 z.1 z.2.1 z.2.2.1 z.2.2.2.1) _ (fun z => rfl) ?_ ?_ n (σ, 0, j0, a1, H, _, ls) ⟨hP, hD, hS, hC, hl, hm0⟩ hf
  · rintro k ⟨σ2, p3, j4, p6, H, locs, ls⟩ ⟨hP, hD, hS, hC, hl, hm5⟩ hf ih8 hXkx7
    dsimp only at hP hD hS hC hl hm5 hf ih8 hXkx7 ⊢
    unfold A_fillJ_L6 at hf
    have hl : lv_has ls 5 [(4, .int 8), (3, .int p3), (0, .ref (ad 20 j4)), (1, .long p6)] := hl
    refine lv_iload_n (pc := 6) hx hb dA_fillJ_6 rfl (lv_at hl 1 rfl) ?_
    refine lv_iload (pc := 7) hx hb dA_fillJ_7 (lv_at hl 0 rfl) ?_
    refine lv_icmp_ge (pc := 9) (tgt := 22) hx hb dA_fillJ_9 rfl (fun h9 => ?_) (fun h9 => ?_)
    · replace hf := ite_t h9 hf
      have hl := lv_sub hl (l' := [(4, .int 8), (3, .int p3), (0, .ref (ad 20 j4)), (1, .long p6)]) [0, 1, 2, 3] rfl
      exact hXkx7 (σ2, p3, j4, p6, H, _, ls) ⟨hP, hD, hS, hC, hl, hm5⟩ hf
    · replace hf := ite_f h9 hf
      refine lv_aload_n (pc := 12) hx hb dA_fillJ_12 rfl (lv_at hl 2 rfl) ?_
      refine lv_iload_n (pc := 13) hx hb dA_fillJ_13 rfl (lv_at hl 1 rfl) ?_
      refine lv_lload_n (pc := 14) hx hb dA_fillJ_14 rfl (lv_at hl 3 rfl) ?_
      obtain ⟨hv11, hf⟩ := ite_s hf
      obtain ⟨q12, hq12, eq12⟩ := at_20 (ad := ad) (ca := ca) (σ := σ2) hm5
      refine va_last (D := (dC, dI)) (cl := kCl) (pc := 15) hx hb (hK.2 20 j4 .long hm5 rfl) hP hD hS q12 0 eq12 rfl (hv11) dA_fillJ_15 (fun H locs hP hD hS => ?_)
      obtain ⟨σ10, hσ10, hf⟩ := lt_9 hf
      obtain ⟨hP, hD⟩ := w9_rL 20 rfl hN hq12 hσ10 (pr_20) hP hD
      have hC : clo dom σ10.2.2 := by rw [hσ10]; exact hC
      refine lv_iinc (pc := 16) (v := (p3 + 1)) hx hb dA_fillJ_16 hl (k := 1) rfl (by rfl) (by decide) rfl (fun ls hl => ?_)
      have hl : lv_has ls 5 [(3, .int (p3 + 1)), (4, .int 8), (0, .ref (ad 20 j4)), (1, .long p6)] := hl
      refine lv_goto (pc := 19) (tgt := 6) hx hb dA_fillJ_19 rfl ?_
      have hl := lv_sub hl (l' := [(4, .int 8), (3, .int (p3 + 1)), (0, .ref (ad 20 j4)), (1, .long p6)]) [1, 0, 2, 3] rfl
      exact ih8 (σ10, (p3 + 1), j4, p6, H, _, ls) ⟨hP, hD, hS, hC, hl, hm5⟩ hf
  · rintro ⟨σ2, p3, j4, p6, H, locs, ls⟩ ⟨hP, hD, hS, hC, hl, hm5⟩ hf
    dsimp only at hP hD hS hC hl hm5 hf ⊢
    rw [hkx7] at hf
    have hl : lv_has ls 5 [(4, .int 8), (3, .int p3), (0, .ref (ad 20 j4)), (1, .long p6)] := hl
    obtain ⟨h8, h9⟩ := Prod.mk.inj (Option.some.inj hf)
    subst h9
    exact W.vret (pc := 22) hx hb hr (fun t ht hW => ⟨⟨(), rfl, trivial, by rw [ht]; exact hP, hD, hC⟩, hS.F ht⟩) hS.2.2 dA_fillJ_22
def C_clear (n : Nat) (σ : hT) (j0 : Nat) : Option (Unit × hT) := Option.bind (A_fillJ n σ j0 0) fun ⟨y2, σ3⟩ => lt9 (sI σ3 601 j0 0 0) fun σ4 => lt9 (sI σ4 604 j0 0 0) fun σ6 => some ((), σ6)
set_option maxHeartbeats 4000000 in
set_option maxRecDepth 100000 in
theorem t_C_clear (l : Launch) (dC : Nat → ClassId) (dI : Nat → Nat → Nat) (ad : Nat → Nat → Nat) (ca : Nat → Nat → ClassId) (dom : List (Nat × Nat)) (sz : Nat) (n : Nat) (σ : hT) (j0 : Nat) (hm0 : (5, j0) ∈ dom) (hN : dom.Nodup) (hC : clo dom σ.2.2) (ρ : Unit) (σ' : hT) (hf : C_clear n σ j0 = some (ρ, σ')) : Met l yC_clear (.code yC_clear cC_clear 1 none :: aw) ({ frames := 1, cells := 0, slots := 0, locals := 24 }) (hW (dC, dI) sz ad ca dom σ [.ref (ad 5 j0)]) (va_Qv (fun (_ : Unit) => True) (fun _ t => hB (dC, dI) (va_A (w9 ad ca dom σ) sz) ad ca dom σ' t) (va_A (w9 ad ca dom σ) sz)) 0 0 (va_A (w9 ad ca dom σ) sz) := by
  refine Met.ofW (cc := cC_clear) (maxL := 1) (ret := none) (by decide) rfl ?_
  intro p e s m args below meth c s₁ B hml hv
  obtain ⟨rfl, hv⟩ := hv
  have hx := B.exec
  have hb := B.bytes
  have hr := B.returns
  have hts : ∀ w ∈ aw, w.before _ s = true := fun w h => atoms_spec (ws := (.code yC_clear cC_clear 1 none :: aw)) B.pre w (List.mem_cons_of_mem _ h)
  have hown : s.vm.findClass RC = some m.cls := findClass_of_methodNamed B.named
  have hlocks := B.notSynchronized
  obtain ⟨hsz, hP, hK, hD0, hG⟩ := hv
  subst hsz
  have hD := hD0.self (sz := s.heap.size)
  generalize hAe : va_A (w9 ad ca dom σ) s.heap.size = A at hD ⊢
  have hA : ∀ q : Nat, s.heap.size ≤ q → A q := fun q h => by rw [← hAe]; exact Or.inr h
  obtain ⟨H, hH⟩ : ∃ H, H = s.heap := ⟨_, rfl⟩
  have hS : va_S A s.heap H [] := by rw [hH]; exact va_S.rf
  rw [← hH] at hP ⊢
  unfold C_clear at hf
  have hl := lv_entry ([.ref (ad 5 j0)]) (n := 1) (Nat.le_of_ble_eq_true rfl)
  rw [lg_entry_eq]
  generalize (lg_sl ([.ref (ad 5 j0)]) ++ List.replicate (1 - (lg_sl ([.ref (ad 5 j0)])).length) Slot.unset).toArray = ls at hl ⊢
  have hl : lv_has ls 1 [(0, .ref (ad 5 j0))] := hl
  refine lv_aload_n (pc := 0) hx hb dC_clear_0 rfl (lv_at hl 0 rfl) ?_
  obtain ⟨q1, hq1, eq1⟩ := at_5 (ad := ad) (ca := ca) (σ := σ) hm0
  refine va_get (D := (dC, dI)) (cl := kCl) (C := RC) (T := TC) (N := 5) (pc := 1) hx hb hts inC hown hK.1 hP q1 eq1 rfl 0 (by decide) (hts _ wd_224) (fun _ h9 => h9) rfl dC_clear_1 ?_
  refine lv_lconst (pc := 4) (v := 0) hx hb dC_clear_4 (by decide) ?_
  obtain ⟨⟨y2, σ3⟩, hy2, hf⟩ := ob hf
  have hFc := w9_free hD hS hA
  refine va_callv (pc := 5) (va_runS (As := [.ref (ad 20 j0), .long 0]) (rest := []) ⟨hx, hb, hml, hown, hts⟩ (t_A_fillJ l dC dI ad ca dom H.size n σ j0 0 (cm_5_0 hC hm0) hN hC y2 σ3 hy2) (va_cwS 2 hts (gSU wd_460 wd_461 wd_462 wd_459) rfl rfl rfl (by decide +kernel) ⟨Nat.le_of_ble_eq_true rfl, Nat.le_of_ble_eq_true rfl⟩) ⟨hW_blind, hW_pre hP hK hD hG⟩ rfl rfl hl.1 rfl (lv_room (Nat.le_of_ble_eq_true rfl)) dC_clear_5 ⟨Nat.le_of_ble_eq_true rfl, Nat.le_of_ble_eq_true rfl⟩) hS (fun q _ h => hFc q h) hFc (fun u t H1 locs ht hvm hr9 hB hz1 hk1 hS => ?_)
  obtain ⟨hP, hD, hC⟩ := hB
  rw [ht] at hP
  replace hD := hD.weaken (fun _ _ _ h => hFc _ h)
  generalize H1 = H at hP hS ⊢
  refine lv_aload_n (pc := 8) hx hb dC_clear_8 rfl (lv_at hl 0 rfl) ?_
  refine lv_iconst (pc := 9) (v := 0) hx hb dC_clear_9 (by decide) ?_
  obtain ⟨q5, hq5, eq5⟩ := at_5 (ad := ad) (ca := ca) (σ := σ3) hm0
  refine va_put (D := (dC, dI)) (cl := kCl) (ci := 5) (v := .int 0) (ty := .int) (C := RC) (T := TC) (N := 5) (pc := 10) hx hb hts inC tyC tyC_ok nmC hown hK.1 hP hD hS q5 eq5 rfl 1 (by decide) (hts _ wd_223) (fun _ h9 => h9) rfl (by decide +kernel) (rfl) (rfl) (Nat.le_of_ble_eq_true rfl) dC_clear_10 (fun H locs hP hD hS => ?_)
  obtain ⟨σ4, hσ4, hf⟩ := lt_9 hf
  obtain ⟨hP, hD⟩ := w9_rI 601 rfl hN hq5 hσ4 (pu_601) hP hD
  have hC : clo dom σ4.2.2 := by rw [hσ4]; exact hC
  refine lv_aload_n (pc := 13) hx hb dC_clear_13 rfl (lv_at hl 0 rfl) ?_
  refine lv_iconst (pc := 14) (v := 0) hx hb dC_clear_14 (by decide) ?_
  obtain ⟨q7, hq7, eq7⟩ := at_5 (ad := ad) (ca := ca) (σ := σ4) hm0
  refine va_put (D := (dC, dI)) (cl := kCl) (ci := 5) (v := .int 0) (ty := .int) (C := RC) (T := TC) (N := 5) (pc := 15) hx hb hts inC tyC tyC_ok nmC hown hK.1 hP hD hS q7 eq7 rfl 4 (by decide) (hts _ wd_246) (fun _ h9 => h9) rfl (by decide +kernel) (rfl) (rfl) (Nat.le_of_ble_eq_true rfl) dC_clear_15 (fun H locs hP hD hS => ?_)
  obtain ⟨σ6, hσ6, hf⟩ := lt_9 hf
  obtain ⟨hP, hD⟩ := w9_rI 604 rfl hN hq7 hσ6 (pu_604) hP hD
  have hC : clo dom σ6.2.2 := by rw [hσ6]; exact hC
  obtain ⟨h8, h9⟩ := Prod.mk.inj (Option.some.inj hf)
  subst h9
  exact W.vret (pc := 18) hx hb hr (fun t ht hW => ⟨⟨(), rfl, trivial, by rw [ht]; exact hP, hD, hC⟩, hS.F ht⟩) hS.2.2 dC_clear_18
def D_endLoan (n : Nat) (σ : hT) (j0 : Nat) : Option (Unit × hT) := lt9 (sI σ 702 j0 0 (-1)) fun σ1 => Option.bind (C_clear n σ1 (3 * j0)) fun ⟨y5, σ6⟩ => some ((), σ6)
set_option maxHeartbeats 4000000 in
set_option maxRecDepth 100000 in
theorem t_D_endLoan (l : Launch) (dC : Nat → ClassId) (dI : Nat → Nat → Nat) (ad : Nat → Nat → Nat) (ca : Nat → Nat → ClassId) (dom : List (Nat × Nat)) (sz : Nat) (n : Nat) (σ : hT) (j0 : Nat) (hm0 : (6, j0) ∈ dom) (hN : dom.Nodup) (hC : clo dom σ.2.2) (ρ : Unit) (σ' : hT) (hf : D_endLoan n σ j0 = some (ρ, σ')) : Met l yD_endLoan (.code yD_endLoan cD_endLoan 1 none :: aw) ({ frames := 2, cells := 0, slots := 0, locals := 44 }) (hW (dC, dI) sz ad ca dom σ [.ref (ad 6 j0)]) (va_Qv (fun (_ : Unit) => True) (fun _ t => hB (dC, dI) (va_A (w9 ad ca dom σ) sz) ad ca dom σ' t) (va_A (w9 ad ca dom σ) sz)) 0 0 (va_A (w9 ad ca dom σ) sz) := by
  refine Met.ofW (cc := cD_endLoan) (maxL := 1) (ret := none) (by decide) rfl ?_
  intro p e s m args below meth c s₁ B hml hv
  obtain ⟨rfl, hv⟩ := hv
  have hx := B.exec
  have hb := B.bytes
  have hr := B.returns
  have hts : ∀ w ∈ aw, w.before _ s = true := fun w h => atoms_spec (ws := (.code yD_endLoan cD_endLoan 1 none :: aw)) B.pre w (List.mem_cons_of_mem _ h)
  have hown : s.vm.findClass RD = some m.cls := findClass_of_methodNamed B.named
  have hlocks := B.notSynchronized
  obtain ⟨hsz, hP, hK, hD0, hG⟩ := hv
  subst hsz
  have hD := hD0.self (sz := s.heap.size)
  generalize hAe : va_A (w9 ad ca dom σ) s.heap.size = A at hD ⊢
  have hA : ∀ q : Nat, s.heap.size ≤ q → A q := fun q h => by rw [← hAe]; exact Or.inr h
  obtain ⟨H, hH⟩ : ∃ H, H = s.heap := ⟨_, rfl⟩
  have hS : va_S A s.heap H [] := by rw [hH]; exact va_S.rf
  rw [← hH] at hP ⊢
  unfold D_endLoan at hf
  have hl := lv_entry ([.ref (ad 6 j0)]) (n := 1) (Nat.le_of_ble_eq_true rfl)
  rw [lg_entry_eq]
  generalize (lg_sl ([.ref (ad 6 j0)]) ++ List.replicate (1 - (lg_sl ([.ref (ad 6 j0)])).length) Slot.unset).toArray = ls at hl ⊢
  have hl : lv_has ls 1 [(0, .ref (ad 6 j0))] := hl
  refine lv_aload_n (pc := 0) hx hb dD_endLoan_0 rfl (lv_at hl 0 rfl) ?_
  refine lv_iconst (pc := 1) (v := (-1)) hx hb dD_endLoan_1 (by decide) ?_
  obtain ⟨q2, hq2, eq2⟩ := at_6 (ad := ad) (ca := ca) (σ := σ) hm0
  refine va_put (D := (dC, dI)) (cl := kCl) (ci := 6) (v := .int (-1)) (ty := .int) (C := RD) (T := TD) (N := 5) (pc := 2) hx hb hts inD tyD tyD_ok nmD hown hK.1 hP hD hS q2 eq2 rfl 2 (by decide) (hts _ wd_304) (fun _ h9 => h9) rfl (by decide +kernel) (rfl) (rfl) (Nat.le_of_ble_eq_true rfl) dD_endLoan_2 (fun H locs hP hD hS => ?_)
  obtain ⟨σ1, hσ1, hf⟩ := lt_9 hf
  obtain ⟨hP, hD⟩ := w9_rI 702 rfl hN hq2 hσ1 (pu_702) hP hD
  have hC : clo dom σ1.2.2 := by rw [hσ1]; exact hC
  refine lv_aload_n (pc := 5) hx hb dD_endLoan_5 rfl (lv_at hl 0 rfl) ?_
  obtain ⟨q3, hq3, eq3⟩ := at_6 (ad := ad) (ca := ca) (σ := σ1) hm0
  refine va_get (D := (dC, dI)) (cl := kCl) (C := RD) (T := TD) (N := 5) (pc := 6) hx hb hts inD hown hK.1 hP q3 eq3 rfl 3 (by decide) (hts _ wd_305) (fun _ h9 => h9) rfl dD_endLoan_6 ?_
  obtain ⟨q4, hq4, eq4⟩ := at_5 (ad := ad) (ca := ca) (σ := σ1) (cm_6_3 hC hm0)
  obtain ⟨⟨y5, σ6⟩, hy5, hf⟩ := ob hf
  have hFc := w9_free hD hS hA
  refine va_callv (pc := 9) (va_runV (As := []) (rest := []) ⟨hx, hb, hml, hown, hts⟩ (t_C_clear l dC dI ad ca dom H.size n σ1 (3 * j0) (cm_6_3 hC hm0) hN hC y5 σ6 hy5) (cwV 0 hts (gV wd_464 wd_465 wd_466 wd_228 wd_463) rfl rfl rfl (by decide +kernel) ⟨Nat.le_of_ble_eq_true rfl, Nat.le_of_ble_eq_true rfl⟩) ⟨hW_blind, va_recv (q := (RC, TC, 5)) (q0 := q4) (ci := 5) hK.1 hP rfl eq4, hW_pre hP hK hD hG⟩ rfl rfl hl.1 rfl (lv_room (Nat.le_of_ble_eq_true rfl)) dD_endLoan_9 ⟨Nat.le_of_ble_eq_true rfl, Nat.le_of_ble_eq_true rfl⟩) hS (fun q _ h => hFc q h) hFc (fun u t H1 locs ht hvm hr9 hB hz1 hk1 hS => ?_)
  obtain ⟨hP, hD, hC⟩ := hB
  rw [ht] at hP
  replace hD := hD.weaken (fun _ _ _ h => hFc _ h)
  generalize H1 = H at hP hS ⊢
  obtain ⟨h8, h9⟩ := Prod.mk.inj (Option.some.inj hf)
  subst h9
  exact W.vret (pc := 12) hx hb hr (fun t ht hW => ⟨⟨(), rfl, trivial, by rw [ht]; exact hP, hD, hC⟩, hS.F ht⟩) hS.2.2 dD_endLoan_12
def B_clear (n : Nat) (σ : hT) (j0 : Nat) : Option (Unit × hT) := Option.bind (A_fillI n σ j0 (-1)) fun ⟨y2, σ3⟩ => lt9 (sI σ3 202 j0 0 0) fun σ4 => some ((), σ4)
set_option maxHeartbeats 4000000 in
set_option maxRecDepth 100000 in
theorem t_B_clear (l : Launch) (dC : Nat → ClassId) (dI : Nat → Nat → Nat) (ad : Nat → Nat → Nat) (ca : Nat → Nat → ClassId) (dom : List (Nat × Nat)) (sz : Nat) (n : Nat) (σ : hT) (j0 : Nat) (hm0 : (1, j0) ∈ dom) (hN : dom.Nodup) (hC : clo dom σ.2.2) (ρ : Unit) (σ' : hT) (hf : B_clear n σ j0 = some (ρ, σ')) : Met l yB_clear (.code yB_clear cB_clear 1 none :: aw) ({ frames := 1, cells := 0, slots := 0, locals := 23 }) (hW (dC, dI) sz ad ca dom σ [.ref (ad 1 j0)]) (va_Qv (fun (_ : Unit) => True) (fun _ t => hB (dC, dI) (va_A (w9 ad ca dom σ) sz) ad ca dom σ' t) (va_A (w9 ad ca dom σ) sz)) 0 0 (va_A (w9 ad ca dom σ) sz) := by
  refine Met.ofW (cc := cB_clear) (maxL := 1) (ret := none) (by decide) rfl ?_
  intro p e s m args below meth c s₁ B hml hv
  obtain ⟨rfl, hv⟩ := hv
  have hx := B.exec
  have hb := B.bytes
  have hr := B.returns
  have hts : ∀ w ∈ aw, w.before _ s = true := fun w h => atoms_spec (ws := (.code yB_clear cB_clear 1 none :: aw)) B.pre w (List.mem_cons_of_mem _ h)
  have hown : s.vm.findClass RB = some m.cls := findClass_of_methodNamed B.named
  have hlocks := B.notSynchronized
  obtain ⟨hsz, hP, hK, hD0, hG⟩ := hv
  subst hsz
  have hD := hD0.self (sz := s.heap.size)
  generalize hAe : va_A (w9 ad ca dom σ) s.heap.size = A at hD ⊢
  have hA : ∀ q : Nat, s.heap.size ≤ q → A q := fun q h => by rw [← hAe]; exact Or.inr h
  obtain ⟨H, hH⟩ : ∃ H, H = s.heap := ⟨_, rfl⟩
  have hS : va_S A s.heap H [] := by rw [hH]; exact va_S.rf
  rw [← hH] at hP ⊢
  unfold B_clear at hf
  have hl := lv_entry ([.ref (ad 1 j0)]) (n := 1) (Nat.le_of_ble_eq_true rfl)
  rw [lg_entry_eq]
  generalize (lg_sl ([.ref (ad 1 j0)]) ++ List.replicate (1 - (lg_sl ([.ref (ad 1 j0)])).length) Slot.unset).toArray = ls at hl ⊢
  have hl : lv_has ls 1 [(0, .ref (ad 1 j0))] := hl
  refine lv_aload_n (pc := 0) hx hb dB_clear_0 rfl (lv_at hl 0 rfl) ?_
  obtain ⟨q1, hq1, eq1⟩ := at_1 (ad := ad) (ca := ca) (σ := σ) hm0
  refine va_get (D := (dC, dI)) (cl := kCl) (C := RB) (T := TB) (N := 3) (pc := 1) hx hb hts inB hown hK.1 hP q1 eq1 rfl 0 (by decide) (hts _ wd_284) (fun _ h9 => h9) rfl dB_clear_1 ?_
  refine lv_iconst (pc := 4) (v := (-1)) hx hb dB_clear_4 (by decide) ?_
  obtain ⟨⟨y2, σ3⟩, hy2, hf⟩ := ob hf
  have hFc := w9_free hD hS hA
  refine va_callv (pc := 5) (va_runS (As := [.ref (ad 11 j0), .int (-1)]) (rest := []) ⟨hx, hb, hml, hown, hts⟩ (t_A_fillI l dC dI ad ca dom H.size n σ j0 (-1) (cm_1_0 hC hm0) hN hC y2 σ3 hy2) (va_cwS 2 hts (gSU wd_468 wd_469 wd_462 wd_467) rfl rfl rfl (by decide +kernel) ⟨Nat.le_of_ble_eq_true rfl, Nat.le_of_ble_eq_true rfl⟩) ⟨hW_blind, hW_pre hP hK hD hG⟩ rfl rfl hl.1 rfl (lv_room (Nat.le_of_ble_eq_true rfl)) dB_clear_5 ⟨Nat.le_of_ble_eq_true rfl, Nat.le_of_ble_eq_true rfl⟩) hS (fun q _ h => hFc q h) hFc (fun u t H1 locs ht hvm hr9 hB hz1 hk1 hS => ?_)
  obtain ⟨hP, hD, hC⟩ := hB
  rw [ht] at hP
  replace hD := hD.weaken (fun _ _ _ h => hFc _ h)
  generalize H1 = H at hP hS ⊢
  refine lv_aload_n (pc := 8) hx hb dB_clear_8 rfl (lv_at hl 0 rfl) ?_
  refine lv_iconst (pc := 9) (v := 0) hx hb dB_clear_9 (by decide) ?_
  obtain ⟨q5, hq5, eq5⟩ := at_1 (ad := ad) (ca := ca) (σ := σ3) hm0
  refine va_put (D := (dC, dI)) (cl := kCl) (ci := 1) (v := .int 0) (ty := .int) (C := RB) (T := TB) (N := 3) (pc := 10) hx hb hts inB tyB tyB_ok nmB hown hK.1 hP hD hS q5 eq5 rfl 2 (by decide) (hts _ wd_286) (fun _ h9 => h9) rfl (by decide +kernel) (rfl) (rfl) (Nat.le_of_ble_eq_true rfl) dB_clear_10 (fun H locs hP hD hS => ?_)
  obtain ⟨σ4, hσ4, hf⟩ := lt_9 hf
  obtain ⟨hP, hD⟩ := w9_rI 202 rfl hN hq5 hσ4 (pu_202) hP hD
  have hC : clo dom σ4.2.2 := by rw [hσ4]; exact hC
  obtain ⟨h8, h9⟩ := Prod.mk.inj (Option.some.inj hf)
  subst h9
  exact W.vret (pc := 13) hx hb hr (fun t ht hW => ⟨⟨(), rfl, trivial, by rw [ht]; exact hP, hD, hC⟩, hS.F ht⟩) hS.2.2 dB_clear_13
def V_baselineRefusal (n : Nat) (σ : hT) (a1 : Int32) (a2 : Int32) : Option (Int32 × hT) := Option.bind (V_drawingAt σ a2) fun y2 => hq y2 (hq (xR σ 105 0 0) (none) fun j8 => Option.bind (B_clear n σ j8) fun ⟨y11, σ12⟩ => Option.bind (V_baselineAt σ12 a1) fun y14 => hq y14 (some (7, σ12)) fun j17 => some (2, σ12)) fun j5 => hq (xR σ 105 0 0) (none) fun j22 => Option.bind (B_clear n σ j22) fun ⟨y25, σ26⟩ => Option.bind (V_baselineAt σ26 a1) fun y28 => hq y28 (Option.bind (D_latestReleased n σ26 j5) fun y33 => Option.bind (V_fillDraft n σ26 a2 y33) fun ⟨y35, σ36⟩ => if y35 = 0 then if a1 < 0 then some (7, σ36) else if 10 ≤ a1 then some (7, σ36) else some (0, σ36) else some (y35, σ36)) fun j31 => some (2, σ26)
set_option maxHeartbeats 4000000 in
set_option maxRecDepth 100000 in
theorem t_V_baselineRefusal (l : Launch) (dC : Nat → ClassId) (dI : Nat → Nat → Nat) (ad : Nat → Nat → Nat) (ca : Nat → Nat → ClassId) (dom : List (Nat × Nat)) (sz : Nat) (n : Nat) (σ : hT) (a1 : Int32) (a2 : Int32) (hm0 : (0, 0) ∈ dom) (hN : dom.Nodup) (hC : clo dom σ.2.2) (ρ : Int32) (σ' : hT) (hf : V_baselineRefusal n σ a1 a2 = some (ρ, σ')) : Met l yV_baselineRefusal (.code yV_baselineRefusal cV_baselineRefusal 5 (some .int) :: aw) ({ frames := 5, cells := 0, slots := 0, locals := 118 }) (hW (dC, dI) sz ad ca dom σ [.ref (ad 0 0), .int a1, .int a2]) (va_Qi (fun r (_ : Unit) => r = ρ) (fun _ t => hB (dC, dI) (va_A (w9 ad ca dom σ) sz) ad ca dom σ' t) (va_A (w9 ad ca dom σ) sz)) 0 0 (va_A (w9 ad ca dom σ) sz) := by
  refine Met.ofW (cc := cV_baselineRefusal) (maxL := 5) (ret := (some .int)) (by decide) rfl ?_
  intro p e s m args below meth c s₁ B hml hv
  obtain ⟨rfl, hv⟩ := hv
  have hx := B.exec
  have hb := B.bytes
  have hr := B.returns
  have hts : ∀ w ∈ aw, w.before _ s = true := fun w h => atoms_spec (ws := (.code yV_baselineRefusal cV_baselineRefusal 5 (some .int) :: aw)) B.pre w (List.mem_cons_of_mem _ h)
  have hown : s.vm.findClass RV = some m.cls := findClass_of_methodNamed B.named
  have hlocks := B.notSynchronized
  obtain ⟨hsz, hP, hK, hD0, hG⟩ := hv
  subst hsz
  have hD := hD0.self (sz := s.heap.size)
  generalize hAe : va_A (w9 ad ca dom σ) s.heap.size = A at hD ⊢
  have hA : ∀ q : Nat, s.heap.size ≤ q → A q := fun q h => by rw [← hAe]; exact Or.inr h
  obtain ⟨H, hH⟩ : ∃ H, H = s.heap := ⟨_, rfl⟩
  have hS : va_S A s.heap H [] := by rw [hH]; exact va_S.rf
  rw [← hH] at hP ⊢
  unfold V_baselineRefusal at hf
  have hl := lv_entry ([.ref (ad 0 0), .int a1, .int a2]) (n := 5) (Nat.le_of_ble_eq_true rfl)
  rw [lg_entry_eq]
  generalize (lg_sl ([.ref (ad 0 0), .int a1, .int a2]) ++ List.replicate (5 - (lg_sl ([.ref (ad 0 0), .int a1, .int a2])).length) Slot.unset).toArray = ls at hl ⊢
  have hl : lv_has ls 5 [(0, .ref (ad 0 0)), (1, .int a1), (2, .int a2)] := hl
  refine lv_aload_n (pc := 0) hx hb dV_baselineRefusal_0 rfl (lv_at hl 0 rfl) ?_
  refine lv_iload_n (pc := 1) hx hb dV_baselineRefusal_1 rfl (lv_at hl 2 rfl) ?_
  obtain ⟨q1, hq1, eq1⟩ := at_0 (ad := ad) (ca := ca) (σ := σ) hm0
  obtain ⟨y2, hy2, hf⟩ := ob hf
  refine va_cse (pc := 2) (W.runV (As := [.int a2]) (rest := []) ⟨hx, hb, hml, hown, hts⟩ (t_V_drawingAt l dC dI ad ca dom σ a2 hm0 hN hC y2 hy2) (cwV 1 hts (gV wd_317 wd_318 wd_319 wd_254 wd_316) rfl rfl rfl (by decide +kernel) ⟨Nat.le_of_ble_eq_true rfl, Nat.le_of_ble_eq_true rfl⟩) ⟨hR_blind, va_recv (q := (RV, TV, 9)) (q0 := q1) (ci := 0) hK.1 hP rfl eq1, hR_pre hP hK hG⟩ rfl rfl hl.1 rfl (lv_room (Nat.le_of_ble_eq_true rfl)) dV_baselineRefusal_2 ⟨Nat.le_of_ble_eq_true rfl, Nat.le_of_ble_eq_true rfl⟩) (fun r9 hr9 => ?_)
  obtain ⟨hr9, hmy3⟩ := hr9
  refine W.eq (g2 := F0 m 5 ls [va_re (ad 6) y2]) (by rw [hr9]) ?_
  rcases hE4 : y2 with _ | j5
  · replace hf := hq_n hE4 hf
    refine W.eq (g2 := F0 m 5 ls [.null]) rfl ?_
    refine lv_astore_nN (pc := 5) hx hb dV_baselineRefusal_5 rfl hl (by decide) rfl (fun ls hl => ?_)
    have hl : lv_has ls 5 [(3, .null), (0, .ref (ad 0 0)), (1, .int a1), (2, .int a2)] := hl
    refine lv_aload_n (pc := 6) hx hb dV_baselineRefusal_6 rfl (lv_at hl 1 rfl) ?_
    obtain ⟨q6, hq6, eq6⟩ := at_0 (ad := ad) (ca := ca) (σ := σ) hm0
    refine va_get (D := (dC, dI)) (cl := kCl) (C := RV) (T := TV) (N := 9) (pc := 7) hx hb hts inV hown hK.1 hP q6 eq6 rfl 5 (by decide) (hts _ wd_427) (fun _ h9 => h9) rfl dV_baselineRefusal_7 ?_
    rcases hE7 : xR σ 105 0 0 with _ | j8
    · replace hf := hq_n hE7 hf
      refine W.eq (g2 := F0 m 10 ls [.null]) rfl ?_
      exact nomatch hf
    · replace hf := hq_s hE7 hf
      have hm9 : (1, j8) ∈ dom := (cq_0_5 hC hm0 hE7)
      refine W.eq (g2 := F0 m 10 ls [.ref (ad 1 j8)]) rfl ?_
      obtain ⟨q10, hq10, eq10⟩ := at_1 (ad := ad) (ca := ca) (σ := σ) hm9
      obtain ⟨⟨y11, σ12⟩, hy11, hf⟩ := ob hf
      have hFc := w9_free hD hS hA
      refine va_callv (pc := 10) (va_runV (As := []) (rest := []) ⟨hx, hb, hml, hown, hts⟩ (t_B_clear l dC dI ad ca dom H.size n σ j8 hm9 hN hC y11 σ12 hy11) (cwV 0 hts (gV wd_471 wd_472 wd_473 wd_378 wd_470) rfl rfl rfl (by decide +kernel) ⟨Nat.le_of_ble_eq_true rfl, Nat.le_of_ble_eq_true rfl⟩) ⟨hW_blind, va_recv (q := (RB, TB, 3)) (q0 := q10) (ci := 1) hK.1 hP rfl eq10, hW_pre hP hK hD hG⟩ rfl rfl hl.1 rfl (lv_room (Nat.le_of_ble_eq_true rfl)) dV_baselineRefusal_10 ⟨Nat.le_of_ble_eq_true rfl, Nat.le_of_ble_eq_true rfl⟩) hS (fun q _ h => hFc q h) hFc (fun u t H1 locs ht hvm hr9 hB hz1 hk1 hS => ?_)
      obtain ⟨hP, hD, hC⟩ := hB
      rw [ht] at hP
      replace hD := hD.weaken (fun _ _ _ h => hFc _ h)
      generalize H1 = H at hP hS ⊢
      refine lv_aload_n (pc := 13) hx hb dV_baselineRefusal_13 rfl (lv_at hl 1 rfl) ?_
      refine lv_iload_n (pc := 14) hx hb dV_baselineRefusal_14 rfl (lv_at hl 2 rfl) ?_
      obtain ⟨q13, hq13, eq13⟩ := at_0 (ad := ad) (ca := ca) (σ := σ12) hm0
      obtain ⟨y14, hy14, hf⟩ := ob hf
      refine va_cse (pc := 15) (W.runV (As := [.int a1]) (rest := []) ⟨hx, hb, hml, hown, hts⟩ (t_V_baselineAt l dC dI ad ca dom σ12 a1 hm0 hN hC y14 hy14) (cwV 1 hts (gV wd_475 wd_476 wd_477 wd_254 wd_474) rfl rfl rfl (by decide +kernel) ⟨Nat.le_of_ble_eq_true rfl, Nat.le_of_ble_eq_true rfl⟩) ⟨hR_blind, va_recv (q := (RV, TV, 9)) (q0 := q13) (ci := 0) hK.1 hP rfl eq13, hR_pre hP hK hG⟩ rfl rfl hl.1 rfl (lv_room (Nat.le_of_ble_eq_true rfl)) dV_baselineRefusal_15 ⟨Nat.le_of_ble_eq_true rfl, Nat.le_of_ble_eq_true rfl⟩) (fun r9 hr9 => ?_)
      obtain ⟨hr9, hmy15⟩ := hr9
      refine W.eq (g2 := F0 m 18 ls [va_re (ad 1) y14]) (by rw [hr9]) ?_
      rcases hE16 : y14 with _ | j17
      · replace hf := hq_n hE16 hf
        refine W.eq (g2 := F0 m 18 ls [.null]) rfl ?_
        refine lv_ifnullN (pc := 18) (tgt := 23) hx hb dV_baselineRefusal_18 rfl ?_
        refine lv_aload_nN (pc := 23) hx hb dV_baselineRefusal_23 rfl (lv_at hl 0 rfl) ?_
        refine lv_ifnonnullN (pc := 24) hx hb dV_baselineRefusal_24 ?_
        refine lv_bipush (pc := 27) (v := 7) hx hb dV_baselineRefusal_27 (by decide) ?_
        obtain ⟨h8, h9⟩ := Prod.mk.inj (Option.some.inj hf)
        subst h9
        exact W.iret (pc := 29) hx hb hr (fun t ht hW => ⟨⟨_, (), rfl, h8, by rw [ht]; exact hP, hD, hC⟩, hS.F ht⟩) hS.2.2 dV_baselineRefusal_29
      · replace hf := hq_s hE16 hf
        have hm18 : (1, j17) ∈ dom := (hmy15 _ hE16)
        refine W.eq (g2 := F0 m 18 ls [.ref (ad 1 j17)]) rfl ?_
        refine lv_ifnull (pc := 18) hx hb dV_baselineRefusal_18 ?_
        refine lv_iconst (pc := 21) (v := 2) hx hb dV_baselineRefusal_21 (by decide) ?_
        obtain ⟨h8, h9⟩ := Prod.mk.inj (Option.some.inj hf)
        subst h9
        exact W.iret (pc := 22) hx hb hr (fun t ht hW => ⟨⟨_, (), rfl, h8, by rw [ht]; exact hP, hD, hC⟩, hS.F ht⟩) hS.2.2 dV_baselineRefusal_22
  · replace hf := hq_s hE4 hf
    have hm19 : (6, j5) ∈ dom := (hmy3 _ hE4)
    refine W.eq (g2 := F0 m 5 ls [.ref (ad 6 j5)]) rfl ?_
    refine lv_astore_n (pc := 5) hx hb dV_baselineRefusal_5 rfl hl (by decide) rfl (fun ls hl => ?_)
    have hl : lv_has ls 5 [(3, .ref (ad 6 j5)), (0, .ref (ad 0 0)), (1, .int a1), (2, .int a2)] := hl
    refine lv_aload_n (pc := 6) hx hb dV_baselineRefusal_6 rfl (lv_at hl 1 rfl) ?_
    obtain ⟨q20, hq20, eq20⟩ := at_0 (ad := ad) (ca := ca) (σ := σ) hm0
    refine va_get (D := (dC, dI)) (cl := kCl) (C := RV) (T := TV) (N := 9) (pc := 7) hx hb hts inV hown hK.1 hP q20 eq20 rfl 5 (by decide) (hts _ wd_427) (fun _ h9 => h9) rfl dV_baselineRefusal_7 ?_
    rcases hE21 : xR σ 105 0 0 with _ | j22
    · replace hf := hq_n hE21 hf
      refine W.eq (g2 := F0 m 10 ls [.null]) rfl ?_
      exact nomatch hf
    · replace hf := hq_s hE21 hf
      have hm23 : (1, j22) ∈ dom := (cq_0_5 hC hm0 hE21)
      refine W.eq (g2 := F0 m 10 ls [.ref (ad 1 j22)]) rfl ?_
      obtain ⟨q24, hq24, eq24⟩ := at_1 (ad := ad) (ca := ca) (σ := σ) hm23
      obtain ⟨⟨y25, σ26⟩, hy25, hf⟩ := ob hf
      have hFc := w9_free hD hS hA
      refine va_callv (pc := 10) (va_runV (As := []) (rest := []) ⟨hx, hb, hml, hown, hts⟩ (t_B_clear l dC dI ad ca dom H.size n σ j22 hm23 hN hC y25 σ26 hy25) (cwV 0 hts (gV wd_471 wd_472 wd_473 wd_378 wd_470) rfl rfl rfl (by decide +kernel) ⟨Nat.le_of_ble_eq_true rfl, Nat.le_of_ble_eq_true rfl⟩) ⟨hW_blind, va_recv (q := (RB, TB, 3)) (q0 := q24) (ci := 1) hK.1 hP rfl eq24, hW_pre hP hK hD hG⟩ rfl rfl hl.1 rfl (lv_room (Nat.le_of_ble_eq_true rfl)) dV_baselineRefusal_10 ⟨Nat.le_of_ble_eq_true rfl, Nat.le_of_ble_eq_true rfl⟩) hS (fun q _ h => hFc q h) hFc (fun u t H1 locs ht hvm hr9 hB hz1 hk1 hS => ?_)
      obtain ⟨hP, hD, hC⟩ := hB
      rw [ht] at hP
      replace hD := hD.weaken (fun _ _ _ h => hFc _ h)
      generalize H1 = H at hP hS ⊢
      refine lv_aload_n (pc := 13) hx hb dV_baselineRefusal_13 rfl (lv_at hl 1 rfl) ?_
      refine lv_iload_n (pc := 14) hx hb dV_baselineRefusal_14 rfl (lv_at hl 2 rfl) ?_
      obtain ⟨q27, hq27, eq27⟩ := at_0 (ad := ad) (ca := ca) (σ := σ26) hm0
      obtain ⟨y28, hy28, hf⟩ := ob hf
      refine va_cse (pc := 15) (W.runV (As := [.int a1]) (rest := []) ⟨hx, hb, hml, hown, hts⟩ (t_V_baselineAt l dC dI ad ca dom σ26 a1 hm0 hN hC y28 hy28) (cwV 1 hts (gV wd_475 wd_476 wd_477 wd_254 wd_474) rfl rfl rfl (by decide +kernel) ⟨Nat.le_of_ble_eq_true rfl, Nat.le_of_ble_eq_true rfl⟩) ⟨hR_blind, va_recv (q := (RV, TV, 9)) (q0 := q27) (ci := 0) hK.1 hP rfl eq27, hR_pre hP hK hG⟩ rfl rfl hl.1 rfl (lv_room (Nat.le_of_ble_eq_true rfl)) dV_baselineRefusal_15 ⟨Nat.le_of_ble_eq_true rfl, Nat.le_of_ble_eq_true rfl⟩) (fun r9 hr9 => ?_)
      obtain ⟨hr9, hmy29⟩ := hr9
      refine W.eq (g2 := F0 m 18 ls [va_re (ad 1) y28]) (by rw [hr9]) ?_
      rcases hE30 : y28 with _ | j31
      · replace hf := hq_n hE30 hf
        refine W.eq (g2 := F0 m 18 ls [.null]) rfl ?_
        refine lv_ifnullN (pc := 18) (tgt := 23) hx hb dV_baselineRefusal_18 rfl ?_
        refine lv_aload_n (pc := 23) hx hb dV_baselineRefusal_23 rfl (lv_at hl 0 rfl) ?_
        refine lv_ifnonnull (pc := 24) (tgt := 30) hx hb dV_baselineRefusal_24 rfl ?_
        refine lv_aload_n (pc := 30) hx hb dV_baselineRefusal_30 rfl (lv_at hl 1 rfl) ?_
        refine lv_iload_n (pc := 31) hx hb dV_baselineRefusal_31 rfl (lv_at hl 3 rfl) ?_
        refine lv_aload_n (pc := 32) hx hb dV_baselineRefusal_32 rfl (lv_at hl 0 rfl) ?_
        obtain ⟨q32, hq32, eq32⟩ := at_6 (ad := ad) (ca := ca) (σ := σ26) hm19
        obtain ⟨y33, hy33, hf⟩ := ob hf
        refine vp_callSi (pc := 33) (W.runV (As := []) (rest := [.int a2, .ref (ad 0 0)]) ⟨hx, hb, hml, hown, hts⟩ (t_D_latestReleased l dC dI ad ca dom n σ26 j5 hm19 hN hC y33 hy33) (cwV 0 hts (gV wd_329 wd_330 wd_331 wd_292 wd_328) rfl rfl rfl (by decide +kernel) ⟨Nat.le_of_ble_eq_true rfl, Nat.le_of_ble_eq_true rfl⟩) ⟨hR_blind, va_recv (q := (RD, TD, 5)) (q0 := q32) (ci := 6) hK.1 hP rfl eq32, hR_pre hP hK hG⟩ rfl rfl hl.1 rfl (lv_room (Nat.le_of_ble_eq_true rfl)) dV_baselineRefusal_33 ⟨Nat.le_of_ble_eq_true rfl, Nat.le_of_ble_eq_true rfl⟩) (fun r9 hr9 => ?_)
        refine W.eq (g2 := F0 m 36 ls [.int y33, .int a2, .ref (ad 0 0)]) (by rw [hr9]) ?_
        obtain ⟨q34, hq34, eq34⟩ := at_0 (ad := ad) (ca := ca) (σ := σ26) hm0
        obtain ⟨⟨y35, σ36⟩, hy35, hf⟩ := ob hf
        have hFc := w9_free hD hS hA
        refine va_calli (pc := 36) (va_runV (As := [.int a2, .int y33]) (rest := []) ⟨hx, hb, hml, hown, hts⟩ (t_V_fillDraft l dC dI ad ca dom H.size n σ26 a2 y33 hm0 hN hC y35 σ36 hy35) (cwV 2 hts (gV wd_479 wd_480 wd_481 wd_254 wd_478) rfl rfl rfl (by decide +kernel) ⟨Nat.le_of_ble_eq_true rfl, Nat.le_of_ble_eq_true rfl⟩) ⟨hW_blind, va_recv (q := (RV, TV, 9)) (q0 := q34) (ci := 0) hK.1 hP rfl eq34, hW_pre hP hK hD hG⟩ rfl rfl hl.1 rfl (lv_room (Nat.le_of_ble_eq_true rfl)) dV_baselineRefusal_36 ⟨Nat.le_of_ble_eq_true rfl, Nat.le_of_ble_eq_true rfl⟩) hS (fun q _ h => hFc q h) hFc (fun r9 u t H1 locs ht hvm hr9 hB hz1 hk1 hS => ?_)
        obtain ⟨hP, hD, hC⟩ := hB
        rw [ht] at hP
        replace hD := hD.weaken (fun _ _ _ h => hFc _ h)
        generalize H1 = H at hP hS ⊢
        refine W.eq (g2 := F0 m 39 ls [.int y35]) (by rw [hr9]) ?_
        refine lv_istore (pc := 39) hx hb dV_baselineRefusal_39 hl (by decide) rfl (fun ls hl => ?_)
        have hl : lv_has ls 5 [(4, .int y35), (3, .ref (ad 6 j5)), (0, .ref (ad 0 0)), (1, .int a1), (2, .int a2)] := hl
        refine lv_iload (pc := 41) hx hb dV_baselineRefusal_41 (lv_at hl 0 rfl) ?_
        refine lv_if_eq (pc := 43) (tgt := 49) hx hb dV_baselineRefusal_43 rfl (fun h37 => ?_) (fun h37 => ?_)
        · replace hf := ite_t h37 hf
          refine lv_iload_n (pc := 49) hx hb dV_baselineRefusal_49 rfl (lv_at hl 3 rfl) ?_
          refine lv_if_lt (pc := 50) (tgt := 63) hx hb dV_baselineRefusal_50 rfl (fun h38 => ?_) (fun h38 => ?_)
          · replace hf := ite_t h38 hf
            refine lv_bipush (pc := 63) (v := 7) hx hb dV_baselineRefusal_63 (by decide) ?_
            obtain ⟨h8, h9⟩ := Prod.mk.inj (Option.some.inj hf)
            subst h9
            exact W.iret (pc := 65) hx hb hr (fun t ht hW => ⟨⟨_, (), rfl, h8, by rw [ht]; exact hP, hD, hC⟩, hS.F ht⟩) hS.2.2 dV_baselineRefusal_65
          · replace hf := ite_f h38 hf
            refine lv_iload_n (pc := 53) hx hb dV_baselineRefusal_53 rfl (lv_at hl 3 rfl) ?_
            refine lv_bipush (pc := 54) (v := 10) hx hb dV_baselineRefusal_54 (by decide) ?_
            refine lv_icmp_ge (pc := 56) (tgt := 63) hx hb dV_baselineRefusal_56 rfl (fun h39 => ?_) (fun h39 => ?_)
            · replace hf := ite_t h39 hf
              refine lv_bipush (pc := 63) (v := 7) hx hb dV_baselineRefusal_63 (by decide) ?_
              obtain ⟨h8, h9⟩ := Prod.mk.inj (Option.some.inj hf)
              subst h9
              exact W.iret (pc := 65) hx hb hr (fun t ht hW => ⟨⟨_, (), rfl, h8, by rw [ht]; exact hP, hD, hC⟩, hS.F ht⟩) hS.2.2 dV_baselineRefusal_65
            · replace hf := ite_f h39 hf
              refine lv_iconst (pc := 59) (v := 0) hx hb dV_baselineRefusal_59 (by decide) ?_
              refine lv_goto (pc := 60) (tgt := 65) hx hb dV_baselineRefusal_60 rfl ?_
              obtain ⟨h8, h9⟩ := Prod.mk.inj (Option.some.inj hf)
              subst h9
              exact W.iret (pc := 65) hx hb hr (fun t ht hW => ⟨⟨_, (), rfl, h8, by rw [ht]; exact hP, hD, hC⟩, hS.F ht⟩) hS.2.2 dV_baselineRefusal_65
        · replace hf := ite_f h37 hf
          refine lv_iload (pc := 46) hx hb dV_baselineRefusal_46 (lv_at hl 0 rfl) ?_
          obtain ⟨h8, h9⟩ := Prod.mk.inj (Option.some.inj hf)
          subst h9
          exact W.iret (pc := 48) hx hb hr (fun t ht hW => ⟨⟨_, (), rfl, h8, by rw [ht]; exact hP, hD, hC⟩, hS.F ht⟩) hS.2.2 dV_baselineRefusal_48
      · replace hf := hq_s hE30 hf
        have hm40 : (1, j31) ∈ dom := (hmy29 _ hE30)
        refine W.eq (g2 := F0 m 18 ls [.ref (ad 1 j31)]) rfl ?_
        refine lv_ifnull (pc := 18) hx hb dV_baselineRefusal_18 ?_
        refine lv_iconst (pc := 21) (v := 2) hx hb dV_baselineRefusal_21 (by decide) ?_
        obtain ⟨h8, h9⟩ := Prod.mk.inj (Option.some.inj hf)
        subst h9
        exact W.iret (pc := 22) hx hb hr (fun t ht hW => ⟨⟨_, (), rfl, h8, by rw [ht]; exact hP, hD, hC⟩, hS.F ht⟩) hS.2.2 dV_baselineRefusal_22
