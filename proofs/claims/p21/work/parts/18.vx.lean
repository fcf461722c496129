theorem dV_needPower_10 : decode cV_needPower 10 = .ok (.new 265, 3) := by decide +kernel
theorem dV_needPower_13 : decode cV_needPower 13 = .ok (.dup, 1) := by decide +kernel
theorem dV_needPower_14 : decode cV_needPower 14 = .ok (.invokespecial 267, 3) := by decide +kernel
theorem dV_needPower_17 : decode cV_needPower 17 = .ok (.athrow, 1) := by decide +kernel
theorem dV_mayWrite_45 : decode cV_mayWrite 45 = .ok (.new 265, 3) := by decide +kernel
theorem dV_mayWrite_48 : decode cV_mayWrite 48 = .ok (.dup, 1) := by decide +kernel
theorem dV_mayWrite_49 : decode cV_mayWrite 49 = .ok (.invokespecial 267, 3) := by decide +kernel
theorem dV_mayWrite_52 : decode cV_mayWrite 52 = .ok (.athrow, 1) := by decide +kernel
theorem dV_byteOf_19 : decode cV_byteOf 19 = .ok (.new 167, 3) := by decide +kernel
theorem dV_byteOf_22 : decode cV_byteOf 22 = .ok (.dup, 1) := by decide +kernel
theorem dV_byteOf_23 : decode cV_byteOf 23 = .ok (.invokespecial 169, 3) := by decide +kernel
theorem dV_byteOf_26 : decode cV_byteOf 26 = .ok (.athrow, 1) := by decide +kernel
theorem dV_referencePart_22 : decode cV_referencePart 22 = .ok (.new 167, 3) := by decide +kernel
theorem dV_referencePart_25 : decode cV_referencePart 25 = .ok (.dup, 1) := by decide +kernel
theorem dV_referencePart_26 : decode cV_referencePart 26 = .ok (.invokespecial 169, 3) := by decide +kernel
theorem dV_referencePart_29 : decode cV_referencePart 29 = .ok (.athrow, 1) := by decide +kernel
theorem dV_look_13 : decode cV_look 13 = .ok (.new 167, 3) := by decide +kernel
theorem dV_look_16 : decode cV_look 16 = .ok (.dup, 1) := by decide +kernel
theorem dV_look_17 : decode cV_look 17 = .ok (.invokespecial 169, 3) := by decide +kernel
theorem dV_look_20 : decode cV_look 20 = .ok (.athrow, 1) := by decide +kernel
theorem dV_reference_25 : decode cV_reference 25 = .ok (.new 167, 3) := by decide +kernel
theorem dV_reference_28 : decode cV_reference 28 = .ok (.dup, 1) := by decide +kernel
theorem dV_reference_29 : decode cV_reference 29 = .ok (.invokespecial 169, 3) := by decide +kernel
theorem dV_reference_32 : decode cV_reference 32 = .ok (.athrow, 1) := by decide +kernel
theorem dV_reference_99 : decode cV_reference 99 = .ok (.new 167, 3) := by decide +kernel
theorem dV_reference_102 : decode cV_reference 102 = .ok (.dup, 1) := by decide +kernel
theorem dV_reference_103 : decode cV_reference 103 = .ok (.invokespecial 169, 3) := by decide +kernel
theorem dV_reference_106 : decode cV_reference 106 = .ok (.athrow, 1) := by decide +kernel
theorem dV_about_10 : decode cV_about 10 = .ok (.new 167, 3) := by decide +kernel
theorem dV_about_13 : decode cV_about 13 = .ok (.dup, 1) := by decide +kernel
theorem dV_about_14 : decode cV_about 14 = .ok (.invokespecial 169, 3) := by decide +kernel
theorem dV_about_17 : decode cV_about 17 = .ok (.athrow, 1) := by decide +kernel
theorem dV_inBaseline_12 : decode cV_inBaseline 12 = .ok (.new 167, 3) := by decide +kernel
theorem dV_inBaseline_15 : decode cV_inBaseline 15 = .ok (.dup, 1) := by decide +kernel
theorem dV_inBaseline_16 : decode cV_inBaseline 16 = .ok (.invokespecial 169, 3) := by decide +kernel
theorem dV_inBaseline_19 : decode cV_inBaseline 19 = .ok (.athrow, 1) := by decide +kernel
theorem dV_inBaseline_58 : decode cV_inBaseline 58 = .ok (.new 167, 3) := by decide +kernel
theorem dV_inBaseline_61 : decode cV_inBaseline 61 = .ok (.dup, 1) := by decide +kernel
theorem dV_inBaseline_62 : decode cV_inBaseline 62 = .ok (.invokespecial 169, 3) := by decide +kernel
theorem dV_inBaseline_65 : decode cV_inBaseline 65 = .ok (.athrow, 1) := by decide +kernel
theorem dV_difference_26 : decode cV_difference 26 = .ok (.new 167, 3) := by decide +kernel
theorem dV_difference_29 : decode cV_difference 29 = .ok (.dup, 1) := by decide +kernel
theorem dV_difference_30 : decode cV_difference 30 = .ok (.invokespecial 169, 3) := by decide +kernel
theorem dV_difference_33 : decode cV_difference 33 = .ok (.athrow, 1) := by decide +kernel
theorem wd_582 : (.initialized "java/lang/Throwable" : Cond) ∈ aw := aw_in (tb_1 (List.mem_of_getElem? (i := 7) rfl)) rfl
theorem wd_583 : (.superclass "java/lang/Throwable" "java/lang/Object" : Cond) ∈ aw := aw_in (tb_2 (List.mem_of_getElem? (i := 30) rfl)) rfl
theorem wd_584 : (.instanceMethod ⟨"java/lang/Throwable", "fillInStackTrace", "()Ljava/lang/Throwable;"⟩ : Cond) ∈ aw := aw_in (tb_2 (List.mem_of_getElem? (i := 39) rfl)) rfl
theorem wd_585 : (.codeSync ⟨"java/lang/Throwable", "fillInStackTrace", "()Ljava/lang/Throwable;"⟩ prog_16_method_18_code 1 (Option.some (.object "java/lang/Throwable")) : Cond) ∈ aw := aw_in (tb_2 (List.mem_of_getElem? (i := 42) rfl)) rfl
theorem wd_586 : (.instanceMethod ⟨"java/lang/Throwable", "fillInStackTrace", "(I)Ljava/lang/Throwable;"⟩ : Cond) ∈ aw := aw_in (tb_2 (List.mem_of_getElem? (i := 45) rfl)) rfl
theorem wd_587 : (.native ⟨"java/lang/Throwable", "fillInStackTrace", "(I)Ljava/lang/Throwable;"⟩ : Cond) ∈ aw := aw_in (tb_2 (List.mem_of_getElem? (i := 47) rfl)) rfl
theorem wd_588 : (.instanceMethod ⟨"java/lang/Throwable", "<init>", "()V"⟩ : Cond) ∈ aw := aw_in (tb_2 (List.mem_of_getElem? (i := 31) rfl)) rfl
theorem wd_589 : (.code ⟨"java/lang/Throwable", "<init>", "()V"⟩ prog_16_method_1_code 1 (Option.none : Option Jvm.ClassFile.FieldType) : Cond) ∈ aw := aw_in (tb_2 (List.mem_of_getElem? (i := 32) rfl)) rfl
theorem wd_590 : (.instanceMethod ⟨"java/lang/Object", "<init>", "()V"⟩ : Cond) ∈ aw := aw_in (tb_1 (List.mem_of_getElem? (i := 23) rfl)) rfl
theorem wd_591 : (.code ⟨"java/lang/Object", "<init>", "()V"⟩ object_method_1_code 1 (Option.none : Option Jvm.ClassFile.FieldType) : Cond) ∈ aw := aw_in (tb_1 (List.mem_of_getElem? (i := 24) rfl)) rfl
theorem wd_592 : (.methodLink "java/lang/Throwable" 1 ⟨"java/lang/Object", "<init>", "()V"⟩ : Cond) ∈ aw := aw_in (tb_2 (List.mem_of_getElem? (i := 33) rfl)) rfl
theorem wd_593 : (.methodLink "java/lang/Throwable" 27 ⟨"java/lang/Throwable", "fillInStackTrace", "()Ljava/lang/Throwable;"⟩ : Cond) ∈ aw := aw_in (tb_2 (List.mem_of_getElem? (i := 38) rfl)) rfl
theorem wd_594 : (.methodLink "java/lang/Throwable" 202 ⟨"java/lang/Throwable", "fillInStackTrace", "(I)Ljava/lang/Throwable;"⟩ : Cond) ∈ aw := aw_in (tb_2 (List.mem_of_getElem? (i := 43) rfl)) rfl
theorem wd_595 : (.fieldLink "java/lang/Throwable" 7 "java/lang/Throwable" "cause" "Ljava/lang/Throwable;" : Cond) ∈ aw := aw_in (tb_2 (List.mem_of_getElem? (i := 59) rfl)) rfl
theorem wd_596 : (.lays "java/lang/Throwable" "java/lang/Throwable" "cause" "Ljava/lang/Throwable;" : Cond) ∈ aw := aw_in (tb_2 (List.mem_of_getElem? (i := 20) rfl)) rfl
theorem wd_597 : (.fieldLink "java/lang/Throwable" 17 "java/lang/Throwable" "stackTrace" "[Ljava/lang/StackTraceElement;" : Cond) ∈ aw := aw_in (tb_2 (List.mem_of_getElem? (i := 60) rfl)) rfl
theorem wd_598 : (.lays "java/lang/Throwable" "java/lang/Throwable" "stackTrace" "[Ljava/lang/StackTraceElement;" : Cond) ∈ aw := aw_in (tb_2 (List.mem_of_getElem? (i := 22) rfl)) rfl
theorem wd_599 : (.fieldLink "java/lang/Throwable" 24 "java/lang/Throwable" "suppressedExceptions" "Ljava/util/List;" : Cond) ∈ aw := aw_in (tb_2 (List.mem_of_getElem? (i := 61) rfl)) rfl
theorem wd_600 : (.lays "java/lang/Throwable" "java/lang/Throwable" "suppressedExceptions" "Ljava/util/List;" : Cond) ∈ aw := aw_in (tb_2 (List.mem_of_getElem? (i := 24) rfl)) rfl
theorem wd_601 : (.fieldLink "java/lang/Throwable" 13 "java/lang/Throwable" "UNASSIGNED_STACK" "[Ljava/lang/StackTraceElement;" : Cond) ∈ aw := aw_in (tb_2 (List.mem_of_getElem? (i := 34) rfl)) rfl
theorem wd_602 : (.fieldLink "java/lang/Throwable" 20 "java/lang/Throwable" "SUPPRESSED_SENTINEL" "Ljava/util/List;" : Cond) ∈ aw := aw_in (tb_2 (List.mem_of_getElem? (i := 36) rfl)) rfl
theorem wd_603 : (.lays "java/lang/Throwable" "java/lang/Throwable" "detailMessage" "Ljava/lang/String;" : Cond) ∈ aw := aw_in (tb_2 (List.mem_of_getElem? (i := 26) rfl)) rfl
theorem wd_604 : (.instanceMethod ⟨"java/lang/IndexOutOfBoundsException", "<init>", "()V"⟩ : Cond) ∈ aw := aw_in (tb_3 (List.mem_of_getElem? (i := 208) rfl)) rfl
theorem wd_605 : (.code ⟨"java/lang/IndexOutOfBoundsException", "<init>", "()V"⟩ prog_12_method_1_code 1 (Option.none : Option Jvm.ClassFile.FieldType) : Cond) ∈ aw := aw_in (tb_3 (List.mem_of_getElem? (i := 209) rfl)) rfl
theorem wd_606 : (.methodLink "java/lang/IndexOutOfBoundsException" 1 ⟨"java/lang/RuntimeException", "<init>", "()V"⟩ : Cond) ∈ aw := aw_in (tb_3 (List.mem_of_getElem? (i := 210) rfl)) rfl
theorem wd_607 : (.instanceMethod ⟨"java/lang/RuntimeException", "<init>", "()V"⟩ : Cond) ∈ aw := aw_in (tb_2 (List.mem_of_getElem? (i := 52) rfl)) rfl
theorem wd_608 : (.code ⟨"java/lang/RuntimeException", "<init>", "()V"⟩ prog_14_method_1_code 1 (Option.none : Option Jvm.ClassFile.FieldType) : Cond) ∈ aw := aw_in (tb_2 (List.mem_of_getElem? (i := 53) rfl)) rfl
theorem wd_609 : (.methodLink "java/lang/RuntimeException" 1 ⟨"java/lang/Exception", "<init>", "()V"⟩ : Cond) ∈ aw := aw_in (tb_2 (List.mem_of_getElem? (i := 54) rfl)) rfl
theorem wd_610 : (.instanceMethod ⟨"java/lang/Exception", "<init>", "()V"⟩ : Cond) ∈ aw := aw_in (tb_2 (List.mem_of_getElem? (i := 55) rfl)) rfl
theorem wd_611 : (.code ⟨"java/lang/Exception", "<init>", "()V"⟩ prog_10_method_1_code 1 (Option.none : Option Jvm.ClassFile.FieldType) : Cond) ∈ aw := aw_in (tb_2 (List.mem_of_getElem? (i := 56) rfl)) rfl
theorem wd_612 : (.methodLink "java/lang/Exception" 1 ⟨"java/lang/Throwable", "<init>", "()V"⟩ : Cond) ∈ aw := aw_in (tb_2 (List.mem_of_getElem? (i := 57) rfl)) rfl
theorem wd_613 : (.methodLink "DrawingVault" 169 ⟨"java/lang/IndexOutOfBoundsException", "<init>", "()V"⟩ : Cond) ∈ aw := aw_in (tb_3 (List.mem_of_getElem? (i := 207) rfl)) rfl
theorem wd_614 : (.instantiable "java/lang/IndexOutOfBoundsException" 6 : Cond) ∈ aw := aw_in (tb_3 (List.mem_of_getElem? (i := 199) rfl)) rfl
theorem wd_615 : (.selects "java/lang/IndexOutOfBoundsException" ⟨"java/lang/Throwable", "fillInStackTrace", "(I)Ljava/lang/Throwable;"⟩ ⟨"java/lang/Throwable", "fillInStackTrace", "(I)Ljava/lang/Throwable;"⟩ : Cond) ∈ aw := aw_in (tb_3 (List.mem_of_getElem? (i := 201) rfl)) rfl
theorem wd_616 : (.selects "java/lang/IndexOutOfBoundsException" ⟨"java/lang/Throwable", "fillInStackTrace", "()Ljava/lang/Throwable;"⟩ ⟨"java/lang/Throwable", "fillInStackTrace", "()Ljava/lang/Throwable;"⟩ : Cond) ∈ aw := aw_in (tb_2 (List.mem_of_getElem? (i := 41) rfl)) rfl
theorem wd_617 : (.lays "java/lang/IndexOutOfBoundsException" "java/lang/Throwable" "cause" "Ljava/lang/Throwable;" : Cond) ∈ aw := aw_in (tb_3 (List.mem_of_getElem? (i := 202) rfl)) rfl
theorem wd_618 : (.lays "java/lang/IndexOutOfBoundsException" "java/lang/Throwable" "stackTrace" "[Ljava/lang/StackTraceElement;" : Cond) ∈ aw := aw_in (tb_3 (List.mem_of_getElem? (i := 203) rfl)) rfl
theorem wd_619 : (.lays "java/lang/IndexOutOfBoundsException" "java/lang/Throwable" "suppressedExceptions" "Ljava/util/List;" : Cond) ∈ aw := aw_in (tb_3 (List.mem_of_getElem? (i := 204) rfl)) rfl
theorem wd_620 : (.lays "java/lang/IndexOutOfBoundsException" "java/lang/Throwable" "detailMessage" "Ljava/lang/String;" : Cond) ∈ aw := aw_in (tb_3 (List.mem_of_getElem? (i := 205) rfl)) rfl
theorem wd_621 : (.fieldLink "java/lang/Throwable" 198 "java/lang/Throwable" "backtrace" "Ljava/lang/Object;" : Cond) ∈ aw := aw_in (tb_2 (List.mem_of_getElem? (i := 29) rfl)) rfl
theorem wd_622 : (.lays "java/lang/Throwable" "java/lang/Throwable" "backtrace" "Ljava/lang/Object;" : Cond) ∈ aw := aw_in (tb_2 (List.mem_of_getElem? (i := 28) rfl)) rfl
theorem wd_623 : (.lays "java/lang/IndexOutOfBoundsException" "java/lang/Throwable" "backtrace" "Ljava/lang/Object;" : Cond) ∈ aw := aw_in (tb_3 (List.mem_of_getElem? (i := 206) rfl)) rfl
theorem wd_624 : (.instanceMethod ⟨"java/lang/IllegalStateException", "<init>", "()V"⟩ : Cond) ∈ aw := aw_in (tb_2 (List.mem_of_getElem? (i := 49) rfl)) rfl
theorem wd_625 : (.code ⟨"java/lang/IllegalStateException", "<init>", "()V"⟩ prog_11_method_1_code 1 (Option.none : Option Jvm.ClassFile.FieldType) : Cond) ∈ aw := aw_in (tb_2 (List.mem_of_getElem? (i := 50) rfl)) rfl
theorem wd_626 : (.methodLink "java/lang/IllegalStateException" 1 ⟨"java/lang/RuntimeException", "<init>", "()V"⟩ : Cond) ∈ aw := aw_in (tb_2 (List.mem_of_getElem? (i := 51) rfl)) rfl
theorem wd_627 : (.methodLink "DrawingVault" 267 ⟨"java/lang/IllegalStateException", "<init>", "()V"⟩ : Cond) ∈ aw := aw_in (tb_2 (List.mem_of_getElem? (i := 48) rfl)) rfl
theorem wd_628 : (.instantiable "java/lang/IllegalStateException" 6 : Cond) ∈ aw := aw_in (tb_2 (List.mem_of_getElem? (i := 9) rfl)) rfl
theorem wd_629 : (.selects "java/lang/IllegalStateException" ⟨"java/lang/Throwable", "fillInStackTrace", "(I)Ljava/lang/Throwable;"⟩ ⟨"java/lang/Throwable", "fillInStackTrace", "(I)Ljava/lang/Throwable;"⟩ : Cond) ∈ aw := aw_in (tb_2 (List.mem_of_getElem? (i := 17) rfl)) rfl
theorem wd_630 : (.selects "java/lang/IllegalStateException" ⟨"java/lang/Throwable", "fillInStackTrace", "()Ljava/lang/Throwable;"⟩ ⟨"java/lang/Throwable", "fillInStackTrace", "()Ljava/lang/Throwable;"⟩ : Cond) ∈ aw := aw_in (tb_2 (List.mem_of_getElem? (i := 18) rfl)) rfl
theorem wd_631 : (.lays "java/lang/IllegalStateException" "java/lang/Throwable" "cause" "Ljava/lang/Throwable;" : Cond) ∈ aw := aw_in (tb_2 (List.mem_of_getElem? (i := 19) rfl)) rfl
theorem wd_632 : (.lays "java/lang/IllegalStateException" "java/lang/Throwable" "stackTrace" "[Ljava/lang/StackTraceElement;" : Cond) ∈ aw := aw_in (tb_2 (List.mem_of_getElem? (i := 21) rfl)) rfl
theorem wd_633 : (.lays "java/lang/IllegalStateException" "java/lang/Throwable" "suppressedExceptions" "Ljava/util/List;" : Cond) ∈ aw := aw_in (tb_2 (List.mem_of_getElem? (i := 23) rfl)) rfl
theorem wd_634 : (.lays "java/lang/IllegalStateException" "java/lang/Throwable" "detailMessage" "Ljava/lang/String;" : Cond) ∈ aw := aw_in (tb_2 (List.mem_of_getElem? (i := 25) rfl)) rfl
theorem wd_635 : (.lays "java/lang/IllegalStateException" "java/lang/Throwable" "backtrace" "Ljava/lang/Object;" : Cond) ∈ aw := aw_in (tb_2 (List.mem_of_getElem? (i := 27) rfl)) rfl
theorem wd_636 : (.classLink "DrawingVault" 265 "java/lang/IllegalStateException" : Cond) ∈ aw := aw_in (tb_2 (List.mem_of_getElem? (i := 8) rfl)) rfl
theorem wd_637 : (.initialized "java/lang/IllegalStateException" : Cond) ∈ aw := aw_in (tb_1 (List.mem_of_getElem? (i := 10) rfl)) rfl
theorem wd_638 : (.classLink "DrawingVault" 167 "java/lang/IndexOutOfBoundsException" : Cond) ∈ aw := aw_in (tb_3 (List.mem_of_getElem? (i := 198) rfl)) rfl
theorem wd_639 : (.initialized "java/lang/IndexOutOfBoundsException" : Cond) ∈ aw := aw_in (tb_1 (List.mem_of_getElem? (i := 16) rfl)) rfl

theorem al_c {P : Cond → Prop} {w : Cond} {L : List Cond} (h : P w) (t : ∀ x ∈ L, P x) : ∀ x ∈ w :: L, P x := fun x hx => (List.mem_cons.mp hx).elim (fun e => e ▸ h) (t x)
theorem al_n {P : Cond → Prop} : ∀ x ∈ ([] : List Cond), P x := fun _ h => nomatch h
def xS (ad : Nat → Nat → Nat) (dom : List (Nat × Nat)) (q : Nat) : Prop := ∃ r ∈ dom, ad r.1 r.2 = q
theorem w9_xS {ad : Nat → Nat → Nat} {ca : Nat → Nat → ClassId} {dom : List (Nat × Nat)} {σ : hT} {sz q : Nat} (h : va_A (w9 ad ca dom σ) sz q) (hq : q < sz) : xS ad dom q := by
  rcases h with ⟨k, e, h⟩ | h
  · unfold w9 at h
    rw [List.getElem?_map] at h
    cases hd : dom[k]? with
    | none => rw [hd] at h; cases h
    | some r =>
      rw [hd] at h
      have h9 : cell9 ad ca σ r = (q, e) := Option.some.inj h
      exact ⟨r, List.mem_of_getElem? hd, congrArg Prod.fst h9⟩
  · omega
/-- the start of a method that throws -/
def hX (D : va_G) (sz : Nat) (ad : Nat → Nat → Nat) (ca : Nat → Nat → ClassId) (dom : List (Nat × Nat)) (σ : hT) (av : List Value) : Array Value → State → Prop := va_Pc av (fun U => U.heap.size = sz ∧ va_P D kCl (w9 ad ca dom σ) U.heap ∧ hkt D ca dom U ∧ va_D (fun _ => True) (w9 ad ca dom σ) ∧ eG U ∧ xE (xS ad dom) U)
theorem hX_blind {D : va_G} {sz : Nat} {ad : Nat → Nat → Nat} {ca : Nat → Nat → ClassId} {dom : List (Nat × Nat)} {σ : hT} {av : List Value} : FrameBlind (hX D sz ad ca dom σ av) := fun a U g mk h => ⟨h.1, h.2.1, h.2.2.1, hkt.moved (u := U) (U := U.calling g mk a) (Vm.Alike.refl U.vm) h.2.2.2.1, h.2.2.2.2.1, eG_same (u := U) rfl h.2.2.2.2.2.1, xE.same (u := U) rfl rfl h.2.2.2.2.2.2⟩
theorem hX_pre {D : va_G} {ad : Nat → Nat → Nat} {ca : Nat → Nat → ClassId} {dom : List (Nat × Nat)} {σ : hT} {av : List Value} {s : State} {H : Heap} {A : Nat → Prop} {locs : List Loc} (hP : va_P D kCl (w9 ad ca dom σ) H) (hK : hkt D ca dom s) (hD : va_D A (w9 ad ca dom σ)) (hG : eG s) (hE : xE (xS ad dom) s) (hS : va_S A s.heap H locs) (hSA : ∀ q, q < s.heap.size → A q → xS ad dom q) : ∀ U : State, U.heap = H → s.WarmedH U.vm → hX D H.size ad ca dom σ av av.toArray U := fun U hU hW => ⟨rfl, by rw [hU], by rw [hU]; exact hP, hK.moved hW.alike, hD.weaken (fun _ _ _ _ => trivial), eG_warm hW hG, hE.warm hW (fun q hq hn => by rw [hU]; exact hS.2.1 q hq (fun z => hn (hSA q hq z)))⟩
theorem tab1 {c : Code} {a b h k : Nat} (hm : c.exceptionTable.toList.map (fun h => (h.startPc, h.endPc, h.handlerPc, h.catchType)) = [(a, b, h, k)]) : c.exceptionTable.toList = [⟨a, b, h, k⟩] := by
  cases hl : c.exceptionTable.toList with
  | nil => rw [hl] at hm; cases hm
  | cons x r =>
    rw [hl] at hm
    cases r with
    | nil =>
      obtain ⟨x1, x2, x3, x4⟩ := x
      simp only [List.map_cons, List.map_nil, List.cons.injEq, Prod.mk.injEq, and_true] at hm
      obtain ⟨rfl, rfl, rfl, rfl⟩ := hm
      rfl
    | cons y r => simp at hm
theorem zA.mono {n d : String} {S S' : Nat → Prop} {U : State} (h : zA n d S U) (hS : ∀ q, S' q → S q) : zA n d S' U := by
  obtain ⟨c, k, i, f, a, cell, v, h1, h2, h3, h4⟩ := h
  exact ⟨c, k, i, f, a, cell, v, h1, h2, h3, fun z => h4 (hS a z)⟩
theorem xE.mono {S S' : Nat → Prop} {U : State} (h : xE S U) (hS : ∀ q, S' q → S q) : xE S' U := by
  obtain ⟨h1, h0, h2, h3, h4, h5, h6⟩ := h
  exact ⟨h1, h0, h2, h3, h4, h5.mono hS, h6.mono hS⟩
theorem w9_xA {A : Nat → Prop} {ad : Nat → Nat → Nat} {ca : Nat → Nat → ClassId} {dom : List (Nat × Nat)} {σ : hT} (hD : va_D A (w9 ad ca dom σ)) {q : Nat} (h : xS ad dom q) : A q := by
  obtain ⟨r, hr, rfl⟩ := h
  obtain ⟨k, -, hk⟩ := w9_at (ad := ad) (ca := ca) (σ := σ) hr
  exact hD.2 k _ hk
theorem dmL_m {ρ : Int32} {x : Int64} {d e : List (Nat × Nat)} {r : Nat × Nat} (h : r ∈ d) : r ∈ dmL ρ x d e := by
  unfold dmL; split
  · exact h
  · exact List.mem_append_left _ h
theorem cS9 {A A1 : Nat → Prop} {H0 H H1 : Heap} {locs L : List Loc} (hS : va_S A H0 H locs) (hz : H.size ≤ H1.size) (hL : ∀ x ∈ L, A1 x.base) (hF : ∀ q, A1 q → A q) (hk : ∀ z : Nat, z < H.size → (∀ x ∈ L, x.base ≠ z) → H1[z]? = H[z]?) : va_S A H0 H1 (locs ++ L) := by
  refine ⟨Nat.le_trans hS.1 hz, fun q hq hn => ?_, fun x hx => ?_⟩
  · rw [hk q (Nat.lt_of_lt_of_le hq hS.1) (fun x hx e => hn (by rw [← e]; exact hF _ (hL x hx)))]
    exact hS.2.1 q hq hn
  · rcases List.mem_append.mp hx with h | h
    · exact hS.2.2 x h
    · exact hF _ (hL x h)
theorem ex9_x {α β : Type} {σ σ' : hT} {k : α → Option (Option β × hT)} (hf : ex9 none σ k = some (none, σ')) : σ = σ' := (Prod.mk.inj (Option.some.inj (show some ((none : Option β), σ) = some (none, σ') from hf))).2

theorem xat_IX {S : Nat → Prop} {args : Array Value} {s : State} (hts : ∀ w ∈ aw, w.before args s = true) (hE : xE S s) : ∀ w ∈ Bundle.ownAtoms0 RV 169 nIX [nRT, nEX], w.before args s = true :=
  al_c (hts _ wd_582) (al_c (hts _ wd_583) (al_c (hts _ wd_584) (al_c (hts _ wd_585) (al_c (hts _ wd_586) (al_c (hts _ wd_587) (al_c (hts _ wd_588) (al_c (hts _ wd_589) (al_c (hts _ wd_590) (al_c (hts _ wd_591) (al_c (hts _ wd_592) (al_c (hts _ wd_593) (al_c (hts _ wd_594) (al_c (hts _ wd_595) (al_c (hts _ wd_596) (al_c (hts _ wd_597) (al_c (hts _ wd_598) (al_c (hts _ wd_599) (al_c (hts _ wd_600) (al_c (hts _ wd_601) (al_c hE.2.2.2.2.2.1.lays (al_c (hts _ wd_602) (al_c hE.2.2.2.2.2.2.lays (al_c (hts _ wd_603) (al_c (hts _ wd_604) (al_c (hts _ wd_605) (al_c (hts _ wd_606) (al_c (hts _ wd_607) (al_c (va_Nw.use rfl hE.2.2.1) (al_c (hts _ wd_607) (al_c (hts _ wd_608) (al_c (hts _ wd_609) (al_c (hts _ wd_610) (al_c (va_Nw.use rfl hE.2.2.2.1) (al_c (hts _ wd_610) (al_c (hts _ wd_611) (al_c (hts _ wd_612) (al_c (hts _ wd_588) (al_c (va_Nw.use rfl hE.2.2.2.2.1) (al_c (hts _ wd_613) (al_c (hts _ wd_614) (al_c (va_Nw.use rfl hE.1) (al_c (hts _ wd_615) (al_c (hts _ wd_616) (al_c (hts _ wd_617) (al_c (hts _ wd_618) (al_c (hts _ wd_619) (al_c (hts _ wd_620) (al_c hE.2.2.2.2.2.1.isRef (al_c hE.2.2.2.2.2.2.isRef (al_c (hts _ wd_621) (al_c (hts _ wd_622) (al_c (hts _ wd_623) (al_n)))))))))))))))))))))))))))))))))))))))))))))))))))))
theorem xat_IS {S : Nat → Prop} {args : Array Value} {s : State} (hts : ∀ w ∈ aw, w.before args s = true) (hE : xE S s) : ∀ w ∈ Bundle.ownAtoms0 RV 267 nIS [nRT, nEX], w.before args s = true :=
  al_c (hts _ wd_582) (al_c (hts _ wd_583) (al_c (hts _ wd_584) (al_c (hts _ wd_585) (al_c (hts _ wd_586) (al_c (hts _ wd_587) (al_c (hts _ wd_588) (al_c (hts _ wd_589) (al_c (hts _ wd_590) (al_c (hts _ wd_591) (al_c (hts _ wd_592) (al_c (hts _ wd_593) (al_c (hts _ wd_594) (al_c (hts _ wd_595) (al_c (hts _ wd_596) (al_c (hts _ wd_597) (al_c (hts _ wd_598) (al_c (hts _ wd_599) (al_c (hts _ wd_600) (al_c (hts _ wd_601) (al_c hE.2.2.2.2.2.1.lays (al_c (hts _ wd_602) (al_c hE.2.2.2.2.2.2.lays (al_c (hts _ wd_603) (al_c (hts _ wd_624) (al_c (hts _ wd_625) (al_c (hts _ wd_626) (al_c (hts _ wd_607) (al_c (va_Nw.use rfl hE.2.2.1) (al_c (hts _ wd_607) (al_c (hts _ wd_608) (al_c (hts _ wd_609) (al_c (hts _ wd_610) (al_c (va_Nw.use rfl hE.2.2.2.1) (al_c (hts _ wd_610) (al_c (hts _ wd_611) (al_c (hts _ wd_612) (al_c (hts _ wd_588) (al_c (va_Nw.use rfl hE.2.2.2.2.1) (al_c (hts _ wd_627) (al_c (hts _ wd_628) (al_c (va_Nw.use rfl hE.2.1) (al_c (hts _ wd_629) (al_c (hts _ wd_630) (al_c (hts _ wd_631) (al_c (hts _ wd_632) (al_c (hts _ wd_633) (al_c (hts _ wd_634) (al_c hE.2.2.2.2.2.1.isRef (al_c hE.2.2.2.2.2.2.isRef (al_c (hts _ wd_621) (al_c (hts _ wd_622) (al_c (hts _ wd_635) (al_n)))))))))))))))))))))))))))))))))))))))))))))))))))))
set_option maxHeartbeats 4000000 in
set_option maxRecDepth 100000 in
theorem x_V_needPower (l : Launch) (dC : Nat → ClassId) (dI : Nat → Nat → Nat) (ad : Nat → Nat → Nat) (ca : Nat → Nat → ClassId) (dom : List (Nat × Nat)) (sz : Nat) (σ : hT) (hm0 : (0, 0) ∈ dom) (hN : dom.Nodup) (hC : clo dom σ.2.2) (σ' : hT) (hfl : l.stackTraces = false) (hf : V_needPower σ = some (none, σ')) : tMet l yV_needPower (.code yV_needPower cV_needPower 1 none :: aw) ({ frames := 6, cells := 1, slots := 6, locals := 81 }) (hX (dC, dI) sz ad ca dom σ [.ref (ad 0 0)]) nIS (va_A (w9 ad ca dom σ) sz) (fun H1 => va_P (dC, dI) kCl (w9 ad ca dom σ') H1 ∧ va_D (va_A (w9 ad ca dom σ) sz) (w9 ad ca dom σ') ∧ clo dom σ'.2.2) := by
  refine tOfW (cc := cV_needPower) (maxL := 1) (ret := none) (by decide) rfl ?_
  intro p e s m args below meth c s₁ B hml hno hv
  obtain ⟨rfl, hv⟩ := hv
  have hx := B.exec
  have hb := B.bytes
  have hts : ∀ w ∈ aw, w.before _ s = true := fun w h => atoms_spec (ws := (.code yV_needPower cV_needPower 1 none :: aw)) B.pre w (List.mem_cons_of_mem _ h)
  have hown : s.vm.findClass RV = some m.cls := findClass_of_methodNamed B.named
  have hlocks := B.notSynchronized
  obtain ⟨hsz, hP, hK, hD0, hG, hE⟩ := hv
  subst hsz
  have hD := hD0.self (sz := s.heap.size)
  generalize hAe : va_A (w9 ad ca dom σ) s.heap.size = A at hD ⊢
  have hA : ∀ q : Nat, s.heap.size ≤ q → A q := fun q h => by rw [← hAe]; exact Or.inr h
  have hSA : ∀ q : Nat, q < s.heap.size → A q → xS ad dom q := fun q h z => by rw [← hAe] at z; exact w9_xS z h
  obtain ⟨H, hH⟩ : ∃ H, H = s.heap := ⟨_, rfl⟩
  have hS : va_S A s.heap H [] := by rw [hH]; exact va_S.rf
  rw [← hH] at hP ⊢
  unfold V_needPower at hf
  have hl := lv_entry ([.ref (ad 0 0)]) (n := 1) (Nat.le_of_ble_eq_true rfl)
  rw [lg_entry_eq]
  generalize (lg_sl ([.ref (ad 0 0)]) ++ List.replicate (1 - (lg_sl ([.ref (ad 0 0)])).length) Slot.unset).toArray = ls at hl ⊢
  have hl : lv_has ls 1 [(0, .ref (ad 0 0))] := hl
  refine lv_aload_n (pc := 0) hx hb dV_needPower_0 rfl (lv_at hl 0 rfl) ?_
  obtain ⟨q1, hq1, eq1⟩ := at_0 (ad := ad) (ca := ca) (σ := σ) hm0
  refine va_get (D := (dC, dI)) (cl := kCl) (C := RV) (T := TV) (N := 9) (pc := 1) hx hb hts inV hown hK.1 hP q1 eq1 rfl 7 (by decide) (hts _ wd_380) (fun _ h9 => h9) rfl dV_needPower_1 ?_
  obtain ⟨q2, hq2, eq2⟩ := at_3 (ad := ad) (ca := ca) (σ := σ) (cm_0_7 hC hm0)
  refine va_get (D := (dC, dI)) (cl := kCl) (C := RP) (T := TP) (N := 6) (pc := 4) hx hb hts inP hown hK.1 hP q2 eq2 rfl 3 (by decide) (hts _ wd_439) (fun _ h9 => h9) rfl dV_needPower_4 ?_
  refine lv_if_eq (pc := 7) (tgt := 18) hx hb dV_needPower_7 rfl (fun h3 => ?_) (fun h3 => ?_)
  · replace hf := ite_t h3 hf
    exact nomatch hf
  · replace hf := ite_f h3 hf
    obtain ⟨-, h9⟩ := Prod.mk.inj (Option.some.inj hf)
    subst h9
    exact tThrow (A := A) (S := xS ad dom) (pc := 10) (own := RV) (cls := nIS) (names := [nRT, nEX]) hx hb hfl hown (by decide +kernel) (by decide +kernel) hts hE hS hSA wd_636 wd_637 (fun U h1 h2 => xat_IS h1 h2) (hl.1.trans hml.symm) dV_needPower_10 dV_needPower_13 dV_needPower_14 dV_needPower_17 hno (by decide) (by decide) (by decide) (by decide) hlocks (fun H1 hz hk => ⟨hP.kept (fun k q hq => hk _ ((hP k q hq).lt)), hD, hC⟩)
set_option maxHeartbeats 4000000 in
set_option maxRecDepth 100000 in
theorem x_V_mayWrite (l : Launch) (dC : Nat → ClassId) (dI : Nat → Nat → Nat) (ad : Nat → Nat → Nat) (ca : Nat → Nat → ClassId) (dom : List (Nat × Nat)) (sz : Nat) (σ : hT) (a1 : Int32) (a2 : Int32) (hm0 : (0, 0) ∈ dom) (hN : dom.Nodup) (hC : clo dom σ.2.2) (σ' : hT) (hfl : l.stackTraces = false) (hf : V_mayWrite σ a1 a2 = some (none, σ')) : tMet l yV_mayWrite (.code yV_mayWrite cV_mayWrite 3 (some .boolean) :: aw) ({ frames := 6, cells := 1, slots := 6, locals := 81 }) (hX (dC, dI) sz ad ca dom σ [.ref (ad 0 0), .int a1, .int a2]) nIS (va_A (w9 ad ca dom σ) sz) (fun H1 => va_P (dC, dI) kCl (w9 ad ca dom σ') H1 ∧ va_D (va_A (w9 ad ca dom σ) sz) (w9 ad ca dom σ') ∧ clo dom σ'.2.2) := by
  refine tOfW (cc := cV_mayWrite) (maxL := 3) (ret := (some .boolean)) (by decide) rfl ?_
  intro p e s m args below meth c s₁ B hml hno hv
  obtain ⟨rfl, hv⟩ := hv
  have hx := B.exec
  have hb := B.bytes
  have hts : ∀ w ∈ aw, w.before _ s = true := fun w h => atoms_spec (ws := (.code yV_mayWrite cV_mayWrite 3 (some .boolean) :: aw)) B.pre w (List.mem_cons_of_mem _ h)
  have hown : s.vm.findClass RV = some m.cls := findClass_of_methodNamed B.named
  have hlocks := B.notSynchronized
  obtain ⟨hsz, hP, hK, hD0, hG, hE⟩ := hv
  subst hsz
  have hD := hD0.self (sz := s.heap.size)
  generalize hAe : va_A (w9 ad ca dom σ) s.heap.size = A at hD ⊢
  have hA : ∀ q : Nat, s.heap.size ≤ q → A q := fun q h => by rw [← hAe]; exact Or.inr h
  have hSA : ∀ q : Nat, q < s.heap.size → A q → xS ad dom q := fun q h z => by rw [← hAe] at z; exact w9_xS z h
  obtain ⟨H, hH⟩ : ∃ H, H = s.heap := ⟨_, rfl⟩
  have hS : va_S A s.heap H [] := by rw [hH]; exact va_S.rf
  rw [← hH] at hP ⊢
  unfold V_mayWrite at hf
  have hl := lv_entry ([.ref (ad 0 0), .int a1, .int a2]) (n := 3) (Nat.le_of_ble_eq_true rfl)
  rw [lg_entry_eq]
  generalize (lg_sl ([.ref (ad 0 0), .int a1, .int a2]) ++ List.replicate (3 - (lg_sl ([.ref (ad 0 0), .int a1, .int a2])).length) Slot.unset).toArray = ls at hl ⊢
  have hl : lv_has ls 3 [(0, .ref (ad 0 0)), (1, .int a1), (2, .int a2)] := hl
  refine lv_iload_n (pc := 0) hx hb dV_mayWrite_0 rfl (lv_at hl 1 rfl) ?_
  refine lv_if_ne (pc := 1) (tgt := 22) hx hb dV_mayWrite_1 rfl (fun h1 => ?_) (fun h1 => ?_)
  · replace hf := ite_f h1 hf
    refine lv_iload_n (pc := 22) hx hb dV_mayWrite_22 rfl (lv_at hl 1 rfl) ?_
    refine lv_if_ne (pc := 23) (tgt := 53) hx hb dV_mayWrite_23 rfl (fun h2 => ?_) (fun h2 => ?_)
    · replace hf := ite_f h2 hf
      refine lv_aload_n (pc := 53) hx hb dV_mayWrite_53 rfl (lv_at hl 0 rfl) ?_
      refine lv_iload_n (pc := 54) hx hb dV_mayWrite_54 rfl (lv_at hl 1 rfl) ?_
      obtain ⟨q3, hq3, eq3⟩ := at_0 (ad := ad) (ca := ca) (σ := σ) hm0
      obtain ⟨⟨y4, σ5⟩, hy4, hf⟩ := ob hf
      have hFc := w9_free hD hS hA
      refine va_calli (pc := 55) (va_runV (As := [.int a1]) (rest := []) ⟨hx, hb, hml, hown, hts⟩ (t_V_allowed l dC dI ad ca dom H.size σ a1 hm0 hN hC y4 σ5 hy4) (cwV 1 hts (gV wd_483 wd_484 wd_485 wd_254 wd_482) rfl rfl rfl (by decide +kernel) ⟨Nat.le_of_ble_eq_true rfl, Nat.le_of_ble_eq_true rfl⟩) ⟨hW_blind, va_recv (q := (RV, TV, 9)) (q0 := q3) (ci := 0) hK.1 hP rfl eq3, hW_pre hP hK hD hG⟩ rfl rfl hl.1 rfl (lv_room (Nat.le_of_ble_eq_true rfl)) dV_mayWrite_55 ⟨Nat.le_of_ble_eq_true rfl, Nat.le_of_ble_eq_true rfl⟩) hS (fun q _ h => hFc q h) hFc (fun r9 u t H1 locs ht hvm hr9 hB hz1 hk1 hS => ?_)
      obtain ⟨hP, hD, hC⟩ := hB
      rw [ht] at hP
      replace hD := hD.weaken (fun _ _ _ h => hFc _ h)
      generalize H1 = H at hP hS ⊢
      refine W.eq (g2 := F0 m 58 ls [.int y4]) (by rw [hr9]) ?_
      obtain ⟨hz9, hf⟩ := ite_s hf
      exact nomatch hf
    · replace hf := ite_t h2 hf
      refine lv_aload_n (pc := 26) hx hb dV_mayWrite_26 rfl (lv_at hl 0 rfl) ?_
      obtain ⟨q6, hq6, eq6⟩ := at_0 (ad := ad) (ca := ca) (σ := σ) hm0
      refine va_get (D := (dC, dI)) (cl := kCl) (C := RV) (T := TV) (N := 9) (pc := 27) hx hb hts inV hown hK.1 hP q6 eq6 rfl 7 (by decide) (hts _ wd_380) (fun _ h9 => h9) rfl dV_mayWrite_27 ?_
      refine lv_iload_n (pc := 30) hx hb dV_mayWrite_30 rfl (lv_at hl 2 rfl) ?_
      obtain ⟨q7, hq7, eq7⟩ := at_3 (ad := ad) (ca := ca) (σ := σ) (cm_0_7 hC hm0)
      refine vp_callSi (pc := 31) (W.runV (As := [.int a2]) (rest := []) ⟨hx, hb, hml, hown, hts⟩ (t_P_failsBy l dC dI ad ca dom σ a2 (cm_0_7 hC hm0) hN hC (P_failsBy σ a2) rfl) (cwV 1 hts (gV wd_487 wd_488 wd_489 wd_385 wd_486) rfl rfl rfl (by decide +kernel) ⟨Nat.le_of_ble_eq_true rfl, Nat.le_of_ble_eq_true rfl⟩) ⟨hR_blind, va_recv (q := (RP, TP, 6)) (q0 := q7) (ci := 3) hK.1 hP rfl eq7, hR_pre hP hK hG⟩ rfl rfl hl.1 rfl (lv_room (Nat.le_of_ble_eq_true rfl)) dV_mayWrite_31 ⟨Nat.le_of_ble_eq_true rfl, Nat.le_of_ble_eq_true rfl⟩) (fun r9 hr9 => ?_)
      refine W.eq (g2 := F0 m 34 ls [.int (P_failsBy σ a2)]) (by rw [hr9]) ?_
      refine lv_if_eq (pc := 34) (tgt := 53) hx hb dV_mayWrite_34 rfl (fun h8 => ?_) (fun h8 => ?_)
      · replace hf := ite_t h8 hf
        refine lv_aload_n (pc := 53) hx hb dV_mayWrite_53 rfl (lv_at hl 0 rfl) ?_
        refine lv_iload_n (pc := 54) hx hb dV_mayWrite_54 rfl (lv_at hl 1 rfl) ?_
        obtain ⟨q9, hq9, eq9⟩ := at_0 (ad := ad) (ca := ca) (σ := σ) hm0
        obtain ⟨⟨y10, σ11⟩, hy10, hf⟩ := ob hf
        have hFc := w9_free hD hS hA
        refine va_calli (pc := 55) (va_runV (As := [.int a1]) (rest := []) ⟨hx, hb, hml, hown, hts⟩ (t_V_allowed l dC dI ad ca dom H.size σ a1 hm0 hN hC y10 σ11 hy10) (cwV 1 hts (gV wd_483 wd_484 wd_485 wd_254 wd_482) rfl rfl rfl (by decide +kernel) ⟨Nat.le_of_ble_eq_true rfl, Nat.le_of_ble_eq_true rfl⟩) ⟨hW_blind, va_recv (q := (RV, TV, 9)) (q0 := q9) (ci := 0) hK.1 hP rfl eq9, hW_pre hP hK hD hG⟩ rfl rfl hl.1 rfl (lv_room (Nat.le_of_ble_eq_true rfl)) dV_mayWrite_55 ⟨Nat.le_of_ble_eq_true rfl, Nat.le_of_ble_eq_true rfl⟩) hS (fun q _ h => hFc q h) hFc (fun r9 u t H1 locs ht hvm hr9 hB hz1 hk1 hS => ?_)
        obtain ⟨hP, hD, hC⟩ := hB
        rw [ht] at hP
        replace hD := hD.weaken (fun _ _ _ h => hFc _ h)
        generalize H1 = H at hP hS ⊢
        refine W.eq (g2 := F0 m 58 ls [.int y10]) (by rw [hr9]) ?_
        obtain ⟨hz9, hf⟩ := ite_s hf
        exact nomatch hf
      · replace hf := ite_f h8 hf
        refine lv_aload_n (pc := 37) hx hb dV_mayWrite_37 rfl (lv_at hl 0 rfl) ?_
        obtain ⟨q12, hq12, eq12⟩ := at_0 (ad := ad) (ca := ca) (σ := σ) hm0
        refine va_get (D := (dC, dI)) (cl := kCl) (C := RV) (T := TV) (N := 9) (pc := 38) hx hb hts inV hown hK.1 hP q12 eq12 rfl 7 (by decide) (hts _ wd_380) (fun _ h9 => h9) rfl dV_mayWrite_38 ?_
        refine lv_iconst (pc := 41) (v := 1) hx hb dV_mayWrite_41 (by decide) ?_
        obtain ⟨q14, hq14, eq14⟩ := at_3 (ad := ad) (ca := ca) (σ := σ) (cm_0_7 hC hm0)
        refine va_put (D := (dC, dI)) (cl := kCl) (ci := 3) (v := .int 1) (ty := .boolean) (C := RP) (T := TP) (N := 6) (pc := 42) hx hb hts inP tyP tyP_ok nmP hown hK.1 hP hD hS q14 eq14 rfl 3 (by decide) (hts _ wd_439) (fun _ h9 => h9) rfl (by decide +kernel) (rfl) (rfl) (Nat.le_of_ble_eq_true rfl) dV_mayWrite_42 (fun H locs hP hD hS => ?_)
        obtain ⟨σ13, hσ13, hf⟩ := lt_9 hf
        obtain ⟨hP, hD⟩ := w9_rI 403 rfl hN hq14 hσ13 (pu_403) hP hD
        have hC : clo dom σ13.2.2 := by rw [hσ13]; exact hC
        obtain ⟨-, h9⟩ := Prod.mk.inj (Option.some.inj hf)
        subst h9
        exact tThrow (A := A) (S := xS ad dom) (pc := 45) (own := RV) (cls := nIS) (names := [nRT, nEX]) hx hb hfl hown (by decide +kernel) (by decide +kernel) hts hE hS hSA wd_636 wd_637 (fun U h1 h2 => xat_IS h1 h2) (hl.1.trans hml.symm) dV_mayWrite_45 dV_mayWrite_48 dV_mayWrite_49 dV_mayWrite_52 hno (by decide) (by decide) (by decide) (by decide) hlocks (fun H1 hz hk => ⟨hP.kept (fun k q hq => hk _ ((hP k q hq).lt)), hD, hC⟩)
  · replace hf := ite_t h1 hf
    refine lv_iload_n (pc := 4) hx hb dV_mayWrite_4 rfl (lv_at hl 2 rfl) ?_
    refine lv_aload_n (pc := 5) hx hb dV_mayWrite_5 rfl (lv_at hl 0 rfl) ?_
    obtain ⟨q15, hq15, eq15⟩ := at_0 (ad := ad) (ca := ca) (σ := σ) hm0
    refine va_get (D := (dC, dI)) (cl := kCl) (C := RV) (T := TV) (N := 9) (pc := 6) hx hb hts inV hown hK.1 hP q15 eq15 rfl 7 (by decide) (hts _ wd_380) (fun _ h9 => h9) rfl dV_mayWrite_6 ?_
    obtain ⟨q16, hq16, eq16⟩ := at_3 (ad := ad) (ca := ca) (σ := σ) (cm_0_7 hC hm0)
    refine va_get (D := (dC, dI)) (cl := kCl) (C := RP) (T := TP) (N := 6) (pc := 9) hx hb hts inP hown hK.1 hP q16 eq16 rfl 0 (by decide) (hts _ wd_452) (fun _ h9 => h9) rfl dV_mayWrite_9 ?_
    refine lv_icmp_le (pc := 12) (tgt := 22) hx hb dV_mayWrite_12 rfl (fun h17 => ?_) (fun h17 => ?_)
    · replace hf := ite_t h17 hf
      refine lv_iload_n (pc := 22) hx hb dV_mayWrite_22 rfl (lv_at hl 1 rfl) ?_
      refine lv_if_ne (pc := 23) (tgt := 53) hx hb dV_mayWrite_23 rfl (fun h18 => ?_) (fun h18 => ?_)
      · replace hf := ite_f h18 hf
        refine lv_aload_n (pc := 53) hx hb dV_mayWrite_53 rfl (lv_at hl 0 rfl) ?_
        refine lv_iload_n (pc := 54) hx hb dV_mayWrite_54 rfl (lv_at hl 1 rfl) ?_
        obtain ⟨q19, hq19, eq19⟩ := at_0 (ad := ad) (ca := ca) (σ := σ) hm0
        obtain ⟨⟨y20, σ21⟩, hy20, hf⟩ := ob hf
        have hFc := w9_free hD hS hA
        refine va_calli (pc := 55) (va_runV (As := [.int a1]) (rest := []) ⟨hx, hb, hml, hown, hts⟩ (t_V_allowed l dC dI ad ca dom H.size σ a1 hm0 hN hC y20 σ21 hy20) (cwV 1 hts (gV wd_483 wd_484 wd_485 wd_254 wd_482) rfl rfl rfl (by decide +kernel) ⟨Nat.le_of_ble_eq_true rfl, Nat.le_of_ble_eq_true rfl⟩) ⟨hW_blind, va_recv (q := (RV, TV, 9)) (q0 := q19) (ci := 0) hK.1 hP rfl eq19, hW_pre hP hK hD hG⟩ rfl rfl hl.1 rfl (lv_room (Nat.le_of_ble_eq_true rfl)) dV_mayWrite_55 ⟨Nat.le_of_ble_eq_true rfl, Nat.le_of_ble_eq_true rfl⟩) hS (fun q _ h => hFc q h) hFc (fun r9 u t H1 locs ht hvm hr9 hB hz1 hk1 hS => ?_)
        obtain ⟨hP, hD, hC⟩ := hB
        rw [ht] at hP
        replace hD := hD.weaken (fun _ _ _ h => hFc _ h)
        generalize H1 = H at hP hS ⊢
        refine W.eq (g2 := F0 m 58 ls [.int y20]) (by rw [hr9]) ?_
        obtain ⟨hz9, hf⟩ := ite_s hf
        exact nomatch hf
      · replace hf := ite_t h18 hf
        refine lv_aload_n (pc := 26) hx hb dV_mayWrite_26 rfl (lv_at hl 0 rfl) ?_
        obtain ⟨q22, hq22, eq22⟩ := at_0 (ad := ad) (ca := ca) (σ := σ) hm0
        refine va_get (D := (dC, dI)) (cl := kCl) (C := RV) (T := TV) (N := 9) (pc := 27) hx hb hts inV hown hK.1 hP q22 eq22 rfl 7 (by decide) (hts _ wd_380) (fun _ h9 => h9) rfl dV_mayWrite_27 ?_
        refine lv_iload_n (pc := 30) hx hb dV_mayWrite_30 rfl (lv_at hl 2 rfl) ?_
        obtain ⟨q23, hq23, eq23⟩ := at_3 (ad := ad) (ca := ca) (σ := σ) (cm_0_7 hC hm0)
        refine vp_callSi (pc := 31) (W.runV (As := [.int a2]) (rest := []) ⟨hx, hb, hml, hown, hts⟩ (t_P_failsBy l dC dI ad ca dom σ a2 (cm_0_7 hC hm0) hN hC (P_failsBy σ a2) rfl) (cwV 1 hts (gV wd_487 wd_488 wd_489 wd_385 wd_486) rfl rfl rfl (by decide +kernel) ⟨Nat.le_of_ble_eq_true rfl, Nat.le_of_ble_eq_true rfl⟩) ⟨hR_blind, va_recv (q := (RP, TP, 6)) (q0 := q23) (ci := 3) hK.1 hP rfl eq23, hR_pre hP hK hG⟩ rfl rfl hl.1 rfl (lv_room (Nat.le_of_ble_eq_true rfl)) dV_mayWrite_31 ⟨Nat.le_of_ble_eq_true rfl, Nat.le_of_ble_eq_true rfl⟩) (fun r9 hr9 => ?_)
        refine W.eq (g2 := F0 m 34 ls [.int (P_failsBy σ a2)]) (by rw [hr9]) ?_
        refine lv_if_eq (pc := 34) (tgt := 53) hx hb dV_mayWrite_34 rfl (fun h24 => ?_) (fun h24 => ?_)
        · replace hf := ite_t h24 hf
          refine lv_aload_n (pc := 53) hx hb dV_mayWrite_53 rfl (lv_at hl 0 rfl) ?_
          refine lv_iload_n (pc := 54) hx hb dV_mayWrite_54 rfl (lv_at hl 1 rfl) ?_
          obtain ⟨q25, hq25, eq25⟩ := at_0 (ad := ad) (ca := ca) (σ := σ) hm0
          obtain ⟨⟨y26, σ27⟩, hy26, hf⟩ := ob hf
          have hFc := w9_free hD hS hA
          refine va_calli (pc := 55) (va_runV (As := [.int a1]) (rest := []) ⟨hx, hb, hml, hown, hts⟩ (t_V_allowed l dC dI ad ca dom H.size σ a1 hm0 hN hC y26 σ27 hy26) (cwV 1 hts (gV wd_483 wd_484 wd_485 wd_254 wd_482) rfl rfl rfl (by decide +kernel) ⟨Nat.le_of_ble_eq_true rfl, Nat.le_of_ble_eq_true rfl⟩) ⟨hW_blind, va_recv (q := (RV, TV, 9)) (q0 := q25) (ci := 0) hK.1 hP rfl eq25, hW_pre hP hK hD hG⟩ rfl rfl hl.1 rfl (lv_room (Nat.le_of_ble_eq_true rfl)) dV_mayWrite_55 ⟨Nat.le_of_ble_eq_true rfl, Nat.le_of_ble_eq_true rfl⟩) hS (fun q _ h => hFc q h) hFc (fun r9 u t H1 locs ht hvm hr9 hB hz1 hk1 hS => ?_)
          obtain ⟨hP, hD, hC⟩ := hB
          rw [ht] at hP
          replace hD := hD.weaken (fun _ _ _ h => hFc _ h)
          generalize H1 = H at hP hS ⊢
          refine W.eq (g2 := F0 m 58 ls [.int y26]) (by rw [hr9]) ?_
          obtain ⟨hz9, hf⟩ := ite_s hf
          exact nomatch hf
        · replace hf := ite_f h24 hf
          refine lv_aload_n (pc := 37) hx hb dV_mayWrite_37 rfl (lv_at hl 0 rfl) ?_
          obtain ⟨q28, hq28, eq28⟩ := at_0 (ad := ad) (ca := ca) (σ := σ) hm0
          refine va_get (D := (dC, dI)) (cl := kCl) (C := RV) (T := TV) (N := 9) (pc := 38) hx hb hts inV hown hK.1 hP q28 eq28 rfl 7 (by decide) (hts _ wd_380) (fun _ h9 => h9) rfl dV_mayWrite_38 ?_
          refine lv_iconst (pc := 41) (v := 1) hx hb dV_mayWrite_41 (by decide) ?_
          obtain ⟨q30, hq30, eq30⟩ := at_3 (ad := ad) (ca := ca) (σ := σ) (cm_0_7 hC hm0)
          refine va_put (D := (dC, dI)) (cl := kCl) (ci := 3) (v := .int 1) (ty := .boolean) (C := RP) (T := TP) (N := 6) (pc := 42) hx hb hts inP tyP tyP_ok nmP hown hK.1 hP hD hS q30 eq30 rfl 3 (by decide) (hts _ wd_439) (fun _ h9 => h9) rfl (by decide +kernel) (rfl) (rfl) (Nat.le_of_ble_eq_true rfl) dV_mayWrite_42 (fun H locs hP hD hS => ?_)
          obtain ⟨σ29, hσ29, hf⟩ := lt_9 hf
          obtain ⟨hP, hD⟩ := w9_rI 403 rfl hN hq30 hσ29 (pu_403) hP hD
          have hC : clo dom σ29.2.2 := by rw [hσ29]; exact hC
          obtain ⟨-, h9⟩ := Prod.mk.inj (Option.some.inj hf)
          subst h9
          exact tThrow (A := A) (S := xS ad dom) (pc := 45) (own := RV) (cls := nIS) (names := [nRT, nEX]) hx hb hfl hown (by decide +kernel) (by decide +kernel) hts hE hS hSA wd_636 wd_637 (fun U h1 h2 => xat_IS h1 h2) (hl.1.trans hml.symm) dV_mayWrite_45 dV_mayWrite_48 dV_mayWrite_49 dV_mayWrite_52 hno (by decide) (by decide) (by decide) (by decide) hlocks (fun H1 hz hk => ⟨hP.kept (fun k q hq => hk _ ((hP k q hq).lt)), hD, hC⟩)
    · replace hf := ite_f h17 hf
      refine lv_aload_n (pc := 15) hx hb dV_mayWrite_15 rfl (lv_at hl 0 rfl) ?_
      refine lv_bipush (pc := 16) (v := 8) hx hb dV_mayWrite_16 (by decide) ?_
      obtain ⟨q31, hq31, eq31⟩ := at_0 (ad := ad) (ca := ca) (σ := σ) hm0
      obtain ⟨⟨y32, σ33⟩, hy32, hf⟩ := ob hf
      have hFc := w9_free hD hS hA
      refine va_calli (pc := 18) (va_runV (As := [.int 8]) (rest := []) ⟨hx, hb, hml, hown, hts⟩ (t_V_allowed l dC dI ad ca dom H.size σ 8 hm0 hN hC y32 σ33 hy32) (cwV 1 hts (gV wd_483 wd_484 wd_485 wd_254 wd_482) rfl rfl rfl (by decide +kernel) ⟨Nat.le_of_ble_eq_true rfl, Nat.le_of_ble_eq_true rfl⟩) ⟨hW_blind, va_recv (q := (RV, TV, 9)) (q0 := q31) (ci := 0) hK.1 hP rfl eq31, hW_pre hP hK hD hG⟩ rfl rfl hl.1 rfl (lv_room (Nat.le_of_ble_eq_true rfl)) dV_mayWrite_18 ⟨Nat.le_of_ble_eq_true rfl, Nat.le_of_ble_eq_true rfl⟩) hS (fun q _ h => hFc q h) hFc (fun r9 u t H1 locs ht hvm hr9 hB hz1 hk1 hS => ?_)
      obtain ⟨hP, hD, hC⟩ := hB
      rw [ht] at hP
      replace hD := hD.weaken (fun _ _ _ h => hFc _ h)
      generalize H1 = H at hP hS ⊢
      refine W.eq (g2 := F0 m 21 ls [.int y32]) (by rw [hr9]) ?_
      obtain ⟨hz9, hf⟩ := ite_s hf
      exact nomatch hf
set_option maxHeartbeats 4000000 in
set_option maxRecDepth 100000 in
theorem x_V_becomes (l : Launch) (dC : Nat → ClassId) (dI : Nat → Nat → Nat) (ad : Nat → Nat → Nat) (ca : Nat → Nat → ClassId) (dom : List (Nat × Nat)) (sz : Nat) (n : Nat) (σ : hT) (a1 : Int32) (a2 : Int32) (a3 : Int32) (a4 : Int32) (hm0 : (0, 0) ∈ dom) (hN : dom.Nodup) (hC : clo dom σ.2.2) (σ' : hT) (hfl : l.stackTraces = false) (hf : V_becomes n σ a1 a2 a3 a4 = some (none, σ')) : tMet l yV_becomes (.code yV_becomes cV_becomes 6 (some .boolean) :: aw) ({ frames := 7, cells := 1, slots := 6, locals := 125 }) (hX (dC, dI) sz ad ca dom σ [.ref (ad 0 0), .int a1, .int a2, .int a3, .int a4]) nIS (va_A (w9 ad ca dom σ) sz) (fun H1 => va_P (dC, dI) kCl (w9 ad ca dom σ') H1 ∧ va_D (va_A (w9 ad ca dom σ) sz) (w9 ad ca dom σ') ∧ clo dom σ'.2.2) := by
  refine tOfW (cc := cV_becomes) (maxL := 6) (ret := (some .boolean)) (by decide) rfl ?_
  intro p e s m args below meth c s₁ B hml hno hv
  obtain ⟨rfl, hv⟩ := hv
  have hx := B.exec
  have hb := B.bytes
  have hts : ∀ w ∈ aw, w.before _ s = true := fun w h => atoms_spec (ws := (.code yV_becomes cV_becomes 6 (some .boolean) :: aw)) B.pre w (List.mem_cons_of_mem _ h)
  have hown : s.vm.findClass RV = some m.cls := findClass_of_methodNamed B.named
  have hlocks := B.notSynchronized
  obtain ⟨hsz, hP, hK, hD0, hG, hE⟩ := hv
  subst hsz
  have hD := hD0.self (sz := s.heap.size)
  generalize hAe : va_A (w9 ad ca dom σ) s.heap.size = A at hD ⊢
  have hA : ∀ q : Nat, s.heap.size ≤ q → A q := fun q h => by rw [← hAe]; exact Or.inr h
  have hSA : ∀ q : Nat, q < s.heap.size → A q → xS ad dom q := fun q h z => by rw [← hAe] at z; exact w9_xS z h
  obtain ⟨H, hH⟩ : ∃ H, H = s.heap := ⟨_, rfl⟩
  have hS : va_S A s.heap H [] := by rw [hH]; exact va_S.rf
  rw [← hH] at hP ⊢
  unfold V_becomes at hf
  have hl := lv_entry ([.ref (ad 0 0), .int a1, .int a2, .int a3, .int a4]) (n := 6) (Nat.le_of_ble_eq_true rfl)
  rw [lg_entry_eq]
  generalize (lg_sl ([.ref (ad 0 0), .int a1, .int a2, .int a3, .int a4]) ++ List.replicate (6 - (lg_sl ([.ref (ad 0 0), .int a1, .int a2, .int a3, .int a4])).length) Slot.unset).toArray = ls at hl ⊢
  have hl : lv_has ls 6 [(0, .ref (ad 0 0)), (1, .int a1), (2, .int a2), (3, .int a3), (4, .int a4)] := hl
  refine lv_aload_n (pc := 0) hx hb dV_becomes_0 rfl (lv_at hl 0 rfl) ?_
  refine lv_iload_n (pc := 1) hx hb dV_becomes_1 rfl (lv_at hl 1 rfl) ?_
  refine lv_iload_n (pc := 2) hx hb dV_becomes_2 rfl (lv_at hl 2 rfl) ?_
  obtain ⟨q1, hq1, eq1⟩ := at_0 (ad := ad) (ca := ca) (σ := σ) hm0
  obtain ⟨y2, hy2, hf⟩ := ob hf
  refine va_cse (pc := 3) (W.runV (As := [.int a1, .int a2]) (rest := []) ⟨hx, hb, hml, hown, hts⟩ (t_V_revisionAt l dC dI ad ca dom σ a1 a2 hm0 hN hC y2 hy2) (cwV 2 hts (gV wd_324 wd_325 wd_326 wd_254 wd_323) rfl rfl rfl (by decide +kernel) ⟨Nat.le_of_ble_eq_true rfl, Nat.le_of_ble_eq_true rfl⟩) ⟨hR_blind, va_recv (q := (RV, TV, 9)) (q0 := q1) (ci := 0) hK.1 hP rfl eq1, hR_pre hP hK hG⟩ rfl rfl hl.1 rfl (lv_room (Nat.le_of_ble_eq_true rfl)) dV_becomes_3 ⟨Nat.le_of_ble_eq_true rfl, Nat.le_of_ble_eq_true rfl⟩) (fun r9 hr9 => ?_)
  obtain ⟨hr9, hmy3⟩ := hr9
  refine W.eq (g2 := F0 m 6 ls [va_re (ad 7) y2]) (by rw [hr9]) ?_
  rcases hE4 : y2 with _ | j5
  · replace hf := hq_n hE4 hf
    refine W.eq (g2 := F0 m 6 ls [.null]) rfl ?_
    refine lv_astoreN (pc := 6) hx hb dV_becomes_6 hl (by decide) rfl (fun ls hl => ?_)
    have hl : lv_has ls 6 [(5, .null), (0, .ref (ad 0 0)), (1, .int a1), (2, .int a2), (3, .int a3), (4, .int a4)] := hl
    refine lv_aload_n (pc := 8) hx hb dV_becomes_8 rfl (lv_at hl 1 rfl) ?_
    refine lv_iload (pc := 9) hx hb dV_becomes_9 (lv_at hl 5 rfl) ?_
    refine lv_iconst (pc := 11) (v := 1) hx hb dV_becomes_11 (by decide) ?_
    obtain ⟨q6, hq6, eq6⟩ := at_0 (ad := ad) (ca := ca) (σ := σ) hm0
    obtain ⟨⟨y7o, σ8⟩, hy7, hf⟩ := ob hf
    rcases y7o with _ | y7
    · have h9 := ex9_x hf
      subst h9
      have hFc := w9_free hD hS hA
      exact tPassV (pc := 12) (As := [.int a4, .int 1]) (rest := []) ⟨hx, hb, hml, hown, hts⟩ (x_V_mayWrite l dC dI ad ca dom H.size σ a4 1 hm0 hN hC σ8 hfl hy7) (cwV 2 hts (gV wd_491 wd_492 wd_493 wd_254 wd_490) rfl rfl rfl (by decide +kernel) ⟨Nat.le_of_ble_eq_true rfl, Nat.le_of_ble_eq_true rfl⟩) ⟨hX_blind, va_recv (q := (RV, TV, 9)) (q0 := q6) (ci := 0) hK.1 hP rfl eq6, hX_pre hP hK hD hG hE hS hSA⟩ rfl hl.1 rfl (lv_room (Nat.le_of_ble_eq_true rfl)) dV_becomes_12 ⟨Nat.le_of_ble_eq_true rfl, Nat.le_of_ble_eq_true rfl⟩ hno hlocks hS (fun x h => hFc _ h) (fun H1 h => ⟨h.1, h.2.1.weaken (fun _ _ _ z => hFc _ z), h.2.2⟩)
    replace hf := ex9_s hf
    have hFc := w9_free hD hS hA
    refine va_calli (pc := 12) (va_runV (As := [.int a4, .int 1]) (rest := []) ⟨hx, hb, hml, hown, hts⟩ (t_V_mayWrite l dC dI ad ca dom H.size σ a4 1 hm0 hN hC y7 σ8 hy7) (cwV 2 hts (gV wd_491 wd_492 wd_493 wd_254 wd_490) rfl rfl rfl (by decide +kernel) ⟨Nat.le_of_ble_eq_true rfl, Nat.le_of_ble_eq_true rfl⟩) ⟨hW_blind, va_recv (q := (RV, TV, 9)) (q0 := q6) (ci := 0) hK.1 hP rfl eq6, hW_pre hP hK hD hG⟩ rfl rfl hl.1 rfl (lv_room (Nat.le_of_ble_eq_true rfl)) dV_becomes_12 ⟨Nat.le_of_ble_eq_true rfl, Nat.le_of_ble_eq_true rfl⟩) hS (fun q _ h => hFc q h) hFc (fun r9 u t H1 locs ht hvm hr9 hB hz1 hk1 hS => ?_)
    obtain ⟨hP, hD, hC⟩ := hB
    rw [ht] at hP
    replace hD := hD.weaken (fun _ _ _ h => hFc _ h)
    generalize H1 = H at hP hS ⊢
    refine W.eq (g2 := F0 m 15 ls [.int y7]) (by rw [hr9]) ?_
    refine lv_if_eq (pc := 15) (tgt := 23) hx hb dV_becomes_15 rfl (fun h9 => ?_) (fun h9 => ?_)
    · replace hf := ite_t h9 hf
      refine lv_iconst (pc := 23) (v := 0) hx hb dV_becomes_23 (by decide) ?_
      exact nomatch hf
    · replace hf := ite_f h9 hf
      refine lv_aloadN (pc := 18) hx hb dV_becomes_18 (lv_at hl 0 rfl) ?_
      refine lv_ifnonnullN (pc := 20) hx hb dV_becomes_20 ?_
      refine lv_iconst (pc := 23) (v := 0) hx hb dV_becomes_23 (by decide) ?_
      exact nomatch hf
  · replace hf := hq_s hE4 hf
    have hm10 : (7, j5) ∈ dom := (hmy3 _ hE4)
    refine W.eq (g2 := F0 m 6 ls [.ref (ad 7 j5)]) rfl ?_
    refine lv_astore (pc := 6) hx hb dV_becomes_6 hl (by decide) rfl (fun ls hl => ?_)
    have hl : lv_has ls 6 [(5, .ref (ad 7 j5)), (0, .ref (ad 0 0)), (1, .int a1), (2, .int a2), (3, .int a3), (4, .int a4)] := hl
    refine lv_aload_n (pc := 8) hx hb dV_becomes_8 rfl (lv_at hl 1 rfl) ?_
    refine lv_iload (pc := 9) hx hb dV_becomes_9 (lv_at hl 5 rfl) ?_
    refine lv_iconst (pc := 11) (v := 1) hx hb dV_becomes_11 (by decide) ?_
    obtain ⟨q11, hq11, eq11⟩ := at_0 (ad := ad) (ca := ca) (σ := σ) hm0
    obtain ⟨⟨y12o, σ13⟩, hy12, hf⟩ := ob hf
    rcases y12o with _ | y12
    · have h9 := ex9_x hf
      subst h9
      have hFc := w9_free hD hS hA
      exact tPassV (pc := 12) (As := [.int a4, .int 1]) (rest := []) ⟨hx, hb, hml, hown, hts⟩ (x_V_mayWrite l dC dI ad ca dom H.size σ a4 1 hm0 hN hC σ13 hfl hy12) (cwV 2 hts (gV wd_491 wd_492 wd_493 wd_254 wd_490) rfl rfl rfl (by decide +kernel) ⟨Nat.le_of_ble_eq_true rfl, Nat.le_of_ble_eq_true rfl⟩) ⟨hX_blind, va_recv (q := (RV, TV, 9)) (q0 := q11) (ci := 0) hK.1 hP rfl eq11, hX_pre hP hK hD hG hE hS hSA⟩ rfl hl.1 rfl (lv_room (Nat.le_of_ble_eq_true rfl)) dV_becomes_12 ⟨Nat.le_of_ble_eq_true rfl, Nat.le_of_ble_eq_true rfl⟩ hno hlocks hS (fun x h => hFc _ h) (fun H1 h => ⟨h.1, h.2.1.weaken (fun _ _ _ z => hFc _ z), h.2.2⟩)
    replace hf := ex9_s hf
    have hFc := w9_free hD hS hA
    refine va_calli (pc := 12) (va_runV (As := [.int a4, .int 1]) (rest := []) ⟨hx, hb, hml, hown, hts⟩ (t_V_mayWrite l dC dI ad ca dom H.size σ a4 1 hm0 hN hC y12 σ13 hy12) (cwV 2 hts (gV wd_491 wd_492 wd_493 wd_254 wd_490) rfl rfl rfl (by decide +kernel) ⟨Nat.le_of_ble_eq_true rfl, Nat.le_of_ble_eq_true rfl⟩) ⟨hW_blind, va_recv (q := (RV, TV, 9)) (q0 := q11) (ci := 0) hK.1 hP rfl eq11, hW_pre hP hK hD hG⟩ rfl rfl hl.1 rfl (lv_room (Nat.le_of_ble_eq_true rfl)) dV_becomes_12 ⟨Nat.le_of_ble_eq_true rfl, Nat.le_of_ble_eq_true rfl⟩) hS (fun q _ h => hFc q h) hFc (fun r9 u t H1 locs ht hvm hr9 hB hz1 hk1 hS => ?_)
    obtain ⟨hP, hD, hC⟩ := hB
    rw [ht] at hP
    replace hD := hD.weaken (fun _ _ _ h => hFc _ h)
    generalize H1 = H at hP hS ⊢
    refine W.eq (g2 := F0 m 15 ls [.int y12]) (by rw [hr9]) ?_
    refine lv_if_eq (pc := 15) (tgt := 23) hx hb dV_becomes_15 rfl (fun h14 => ?_) (fun h14 => ?_)
    · replace hf := ite_t h14 hf
      refine lv_iconst (pc := 23) (v := 0) hx hb dV_becomes_23 (by decide) ?_
      exact nomatch hf
    · replace hf := ite_f h14 hf
      refine lv_aload (pc := 18) hx hb dV_becomes_18 (lv_at hl 0 rfl) ?_
      refine lv_ifnonnull (pc := 20) (tgt := 25) hx hb dV_becomes_20 rfl ?_
      refine lv_aload (pc := 25) hx hb dV_becomes_25 (lv_at hl 0 rfl) ?_
      refine lv_iload_n (pc := 27) hx hb dV_becomes_27 rfl (lv_at hl 4 rfl) ?_
      obtain ⟨q16, hq16, eq16⟩ := at_7 (ad := ad) (ca := ca) (σ := σ13) hm10
      refine va_put (D := (dC, dI)) (cl := kCl) (ci := 7) (v := .int a3) (ty := .int) (C := RS) (T := TS) (N := 3) (pc := 28) hx hb hts inS tyS tyS_ok nmS hown hK.1 hP hD hS q16 eq16 rfl 2 (by decide) (hts _ wd_327) (fun _ h9 => h9) rfl (by decide +kernel) (rfl) (rfl) (Nat.le_of_ble_eq_true rfl) dV_becomes_28 (fun H locs hP hD hS => ?_)
      obtain ⟨σ15, hσ15, hf⟩ := lt_9 hf
      obtain ⟨hP, hD⟩ := w9_rI 802 rfl hN hq16 hσ15 (pu_802) hP hD
      have hC : clo dom σ15.2.2 := by rw [hσ15]; exact hC
      refine lv_aload_n (pc := 31) hx hb dV_becomes_31 rfl (lv_at hl 1 rfl) ?_
      refine lv_iconst (pc := 32) (v := 1) hx hb dV_becomes_32 (by decide) ?_
      obtain ⟨q17, hq17, eq17⟩ := at_0 (ad := ad) (ca := ca) (σ := σ15) hm0
      obtain ⟨⟨y18, σ19⟩, hy18, hf⟩ := ob hf
      have hFc := w9_free hD hS hA
      refine va_callv (pc := 33) (va_runV (As := [.int 1]) (rest := []) ⟨hx, hb, hml, hown, hts⟩ (t_V_finish l dC dI ad ca dom H.size n σ15 1 hm0 hN hC y18 σ19 hy18) (cwV 1 hts (gV wd_495 wd_496 wd_497 wd_254 wd_494) rfl rfl rfl (by decide +kernel) ⟨Nat.le_of_ble_eq_true rfl, Nat.le_of_ble_eq_true rfl⟩) ⟨hW_blind, va_recv (q := (RV, TV, 9)) (q0 := q17) (ci := 0) hK.1 hP rfl eq17, hW_pre hP hK hD hG⟩ rfl rfl hl.1 rfl (lv_room (Nat.le_of_ble_eq_true rfl)) dV_becomes_33 ⟨Nat.le_of_ble_eq_true rfl, Nat.le_of_ble_eq_true rfl⟩) hS (fun q _ h => hFc q h) hFc (fun u t H1 locs ht hvm hr9 hB hz1 hk1 hS => ?_)
      obtain ⟨hP, hD, hC⟩ := hB
      rw [ht] at hP
      replace hD := hD.weaken (fun _ _ _ h => hFc _ h)
      generalize H1 = H at hP hS ⊢
      refine lv_iconst (pc := 36) (v := 1) hx hb dV_becomes_36 (by decide) ?_
      exact nomatch hf
set_option maxHeartbeats 4000000 in
set_option maxRecDepth 100000 in
theorem x_V_person (l : Launch) (dC : Nat → ClassId) (dI : Nat → Nat → Nat) (ad : Nat → Nat → Nat) (ca : Nat → Nat → ClassId) (dom : List (Nat × Nat)) (sz : Nat) (n : Nat) (σ : hT) (a1 : Int32) (a2 : Int32) (hm0 : (0, 0) ∈ dom) (hN : dom.Nodup) (hC : clo dom σ.2.2) (σ' : hT) (hfl : l.stackTraces = false) (hf : V_person n σ a1 a2 = some (none, σ')) : tMet l yV_person (.code yV_person cV_person 4 (some .boolean) :: aw) ({ frames := 7, cells := 1, slots := 6, locals := 125 }) (hX (dC, dI) sz ad ca dom σ [.ref (ad 0 0), .int a1, .int a2]) nIS (va_A (w9 ad ca dom σ) sz) (fun H1 => va_P (dC, dI) kCl (w9 ad ca dom σ') H1 ∧ va_D (va_A (w9 ad ca dom σ) sz) (w9 ad ca dom σ') ∧ clo dom σ'.2.2) := by
  refine tOfW (cc := cV_person) (maxL := 4) (ret := (some .boolean)) (by decide) rfl ?_
  intro p e s m args below meth c s₁ B hml hno hv
  obtain ⟨rfl, hv⟩ := hv
  have hx := B.exec
  have hb := B.bytes
  have hts : ∀ w ∈ aw, w.before _ s = true := fun w h => atoms_spec (ws := (.code yV_person cV_person 4 (some .boolean) :: aw)) B.pre w (List.mem_cons_of_mem _ h)
  have hown : s.vm.findClass RV = some m.cls := findClass_of_methodNamed B.named
  have hlocks := B.notSynchronized
  obtain ⟨hsz, hP, hK, hD0, hG, hE⟩ := hv
  subst hsz
  have hD := hD0.self (sz := s.heap.size)
  generalize hAe : va_A (w9 ad ca dom σ) s.heap.size = A at hD ⊢
  have hA : ∀ q : Nat, s.heap.size ≤ q → A q := fun q h => by rw [← hAe]; exact Or.inr h
  have hSA : ∀ q : Nat, q < s.heap.size → A q → xS ad dom q := fun q h z => by rw [← hAe] at z; exact w9_xS z h
  obtain ⟨H, hH⟩ : ∃ H, H = s.heap := ⟨_, rfl⟩
  have hS : va_S A s.heap H [] := by rw [hH]; exact va_S.rf
  rw [← hH] at hP ⊢
  unfold V_person at hf
  have hl := lv_entry ([.ref (ad 0 0), .int a1, .int a2]) (n := 4) (Nat.le_of_ble_eq_true rfl)
  rw [lg_entry_eq]
  generalize (lg_sl ([.ref (ad 0 0), .int a1, .int a2]) ++ List.replicate (4 - (lg_sl ([.ref (ad 0 0), .int a1, .int a2])).length) Slot.unset).toArray = ls at hl ⊢
  have hl : lv_has ls 4 [(0, .ref (ad 0 0)), (1, .int a1), (2, .int a2)] := hl
  refine lv_aload_n (pc := 0) hx hb dV_person_0 rfl (lv_at hl 0 rfl) ?_
  obtain ⟨q1, hq1, eq1⟩ := at_0 (ad := ad) (ca := ca) (σ := σ) hm0
  obtain ⟨⟨y2o, σ3⟩, hy2, hf⟩ := ob hf
  rcases y2o with _ | y2
  · have h9 := ex9_x hf
    subst h9
    have hFc := w9_free hD hS hA
    exact tPassV (pc := 1) (As := []) (rest := []) ⟨hx, hb, hml, hown, hts⟩ (x_V_needPower l dC dI ad ca dom H.size σ hm0 hN hC σ3 hfl hy2) (cwV 0 hts (gV wd_499 wd_500 wd_501 wd_254 wd_498) rfl rfl rfl (by decide +kernel) ⟨Nat.le_of_ble_eq_true rfl, Nat.le_of_ble_eq_true rfl⟩) ⟨hX_blind, va_recv (q := (RV, TV, 9)) (q0 := q1) (ci := 0) hK.1 hP rfl eq1, hX_pre hP hK hD hG hE hS hSA⟩ rfl hl.1 rfl (lv_room (Nat.le_of_ble_eq_true rfl)) dV_person_1 ⟨Nat.le_of_ble_eq_true rfl, Nat.le_of_ble_eq_true rfl⟩ hno hlocks hS (fun x h => hFc _ h) (fun H1 h => ⟨h.1, h.2.1.weaken (fun _ _ _ z => hFc _ z), h.2.2⟩)
  replace hf := ex9_s hf
  have hFc := w9_free hD hS hA
  refine va_callv (pc := 1) (va_runV (As := []) (rest := []) ⟨hx, hb, hml, hown, hts⟩ (t_V_needPower l dC dI ad ca dom H.size σ hm0 hN hC y2 σ3 hy2) (cwV 0 hts (gV wd_499 wd_500 wd_501 wd_254 wd_498) rfl rfl rfl (by decide +kernel) ⟨Nat.le_of_ble_eq_true rfl, Nat.le_of_ble_eq_true rfl⟩) ⟨hW_blind, va_recv (q := (RV, TV, 9)) (q0 := q1) (ci := 0) hK.1 hP rfl eq1, hW_pre hP hK hD hG⟩ rfl rfl hl.1 rfl (lv_room (Nat.le_of_ble_eq_true rfl)) dV_person_1 ⟨Nat.le_of_ble_eq_true rfl, Nat.le_of_ble_eq_true rfl⟩) hS (fun q _ h => hFc q h) hFc (fun u t H1 locs ht hvm hr9 hB hz1 hk1 hS => ?_)
  obtain ⟨hP, hD, hC⟩ := hB
  rw [ht] at hP
  replace hD := hD.weaken (fun _ _ _ h => hFc _ h)
  generalize H1 = H at hP hS ⊢
  refine lv_iload_n (pc := 4) hx hb dV_person_4 rfl (lv_at hl 1 rfl) ?_
  refine vp_callSi (pc := 5) (W.runS (As := [.int a1]) (rest := []) ⟨hx, hb, hml, hown, hts⟩ (t_V_isPerson l dC dI ad ca dom a1 σ3 hN hC (V_isPerson a1) rfl) (cwS 1 hts (gS wd_311 wd_312 wd_254 wd_310) rfl rfl rfl (by decide +kernel) ⟨Nat.le_of_ble_eq_true rfl, Nat.le_of_ble_eq_true rfl⟩) ⟨hR_blind, hR_pre hP hK hG⟩ rfl rfl hl.1 rfl (lv_room (Nat.le_of_ble_eq_true rfl)) dV_person_5 ⟨Nat.le_of_ble_eq_true rfl, Nat.le_of_ble_eq_true rfl⟩) (fun r9 hr9 => ?_)
  refine W.eq (g2 := F0 m 8 ls [.int (V_isPerson a1)]) (by rw [hr9]) ?_
  obtain ⟨x4, hx4, hf⟩ := lt_9 hf
  refine jnF (τ := (Int32) × (Heap) × (List Loc) × (Array Slot)) (fun pc st z => W p l e _ s m _ below meth c z.2.1 z.2.2.1 0 0 _ (F0 m pc z.2.2.2 st)) (pc0 := 8) (st0 := [.int (V_isPerson a1)]) (z0 := (0, H, _, ls)) 26 (fun z => [.int z.1]) (fun z => va_P (dC, dI) kCl (w9 ad ca dom (σ3)) z.2.1 ∧ va_D A (w9 ad ca dom (σ3)) ∧ va_S A s.heap z.2.1 z.2.2.1 ∧ lv_has z.2.2.2 4 [(0, .ref (ad 0 0)), (1, .int a1), (2, .int a2)]) (fun z => x4 z.1) (none, σ') ?_ ?_
  · intro hJx4
    dsimp only at hJx4 ⊢
    refine lv_if_eq (pc := 8) (tgt := 25) hx hb dV_person_8 rfl (fun h6 => ?_) (fun h6 => ?_)
    · replace hf := ite_t h6 hf
      refine lv_iconst (pc := 25) (v := 0) hx hb dV_person_25 (by decide) ?_
      have hl := lv_sub hl (l' := [(0, .ref (ad 0 0)), (1, .int a1), (2, .int a2)]) [0, 1, 2] rfl
      exact hJx4 (0, H, _, ls) ⟨hP, hD, hS, hl⟩ hf
    · replace hf := ite_f h6 hf
      refine lv_iload_n (pc := 11) hx hb dV_person_11 rfl (lv_at hl 2 rfl) ?_
      refine lv_if_lt (pc := 12) (tgt := 25) hx hb dV_person_12 rfl (fun h7 => ?_) (fun h7 => ?_)
      · replace hf := ite_t h7 hf
        refine lv_iconst (pc := 25) (v := 0) hx hb dV_person_25 (by decide) ?_
        have hl := lv_sub hl (l' := [(0, .ref (ad 0 0)), (1, .int a1), (2, .int a2)]) [0, 1, 2] rfl
        exact hJx4 (0, H, _, ls) ⟨hP, hD, hS, hl⟩ hf
      · replace hf := ite_f h7 hf
        refine lv_iload_n (pc := 15) hx hb dV_person_15 rfl (lv_at hl 2 rfl) ?_
        refine lv_bipush (pc := 16) (v := 7) hx hb dV_person_16 (by decide) ?_
        refine lv_icmp_gt (pc := 18) (tgt := 25) hx hb dV_person_18 rfl (fun h8 => ?_) (fun h8 => ?_)
        · replace hf := ite_t h8 hf
          refine lv_iconst (pc := 25) (v := 0) hx hb dV_person_25 (by decide) ?_
          have hl := lv_sub hl (l' := [(0, .ref (ad 0 0)), (1, .int a1), (2, .int a2)]) [0, 1, 2] rfl
          exact hJx4 (0, H, _, ls) ⟨hP, hD, hS, hl⟩ hf
        · replace hf := ite_f h8 hf
          refine lv_iconst (pc := 21) (v := 1) hx hb dV_person_21 (by decide) ?_
          refine lv_goto (pc := 22) (tgt := 26) hx hb dV_person_22 rfl ?_
          have hl := lv_sub hl (l' := [(0, .ref (ad 0 0)), (1, .int a1), (2, .int a2)]) [0, 1, 2] rfl
          exact hJx4 (1, H, _, ls) ⟨hP, hD, hS, hl⟩ hf
  · rintro ⟨s5, H, locs, ls⟩ ⟨hP, hD, hS, hl⟩ hf
    dsimp only at hP hD hS hl hf ⊢
    rw [hx4] at hf
    have hl : lv_has ls 4 [(0, .ref (ad 0 0)), (1, .int a1), (2, .int a2)] := hl
    refine lv_istore_n (pc := 26) hx hb dV_person_26 rfl hl (by decide) rfl (fun ls hl => ?_)
    have hl : lv_has ls 4 [(3, .int s5), (0, .ref (ad 0 0)), (1, .int a1), (2, .int a2)] := hl
    refine lv_aload_n (pc := 27) hx hb dV_person_27 rfl (lv_at hl 1 rfl) ?_
    refine lv_iload_n (pc := 28) hx hb dV_person_28 rfl (lv_at hl 0 rfl) ?_
    obtain ⟨x9, hx9, hf⟩ := lt_9 hf
    refine jnF (τ := (Int32) × (Heap) × (List Loc) × (Array Slot)) (fun pc st z => W p l e _ s m _ below meth c z.2.1 z.2.2.1 0 0 _ (F0 m pc z.2.2.2 st)) (pc0 := 29) (st0 := [.int s5, .ref (ad 0 0)]) (z0 := (0, H, _, ls)) 38 (fun z => [.int z.1, .ref (ad 0 0)]) (fun z => va_P (dC, dI) kCl (w9 ad ca dom (σ3)) z.2.1 ∧ va_D A (w9 ad ca dom (σ3)) ∧ va_S A s.heap z.2.1 z.2.2.1 ∧ lv_has z.2.2.2 4 [(3, .int s5), (0, .ref (ad 0 0)), (1, .int a1), (2, .int a2)]) (fun z => x9 z.1) (none, σ') ?_ ?_
    · intro hJx9
      dsimp only at hJx9 ⊢
      refine lv_if_eq (pc := 29) (tgt := 36) hx hb dV_person_29 rfl (fun h11 => ?_) (fun h11 => ?_)
      · replace hf := ite_t h11 hf
        refine lv_bipush (pc := 36) (v := 7) hx hb dV_person_36 (by decide) ?_
        have hl := lv_sub hl (l' := [(3, .int s5), (0, .ref (ad 0 0)), (1, .int a1), (2, .int a2)]) [0, 1, 2, 3] rfl
        exact hJx9 (7, H, _, ls) ⟨hP, hD, hS, hl⟩ hf
      · replace hf := ite_f h11 hf
        refine lv_iconst (pc := 32) (v := 0) hx hb dV_person_32 (by decide) ?_
        refine lv_goto (pc := 33) (tgt := 38) hx hb dV_person_33 rfl ?_
        have hl := lv_sub hl (l' := [(3, .int s5), (0, .ref (ad 0 0)), (1, .int a1), (2, .int a2)]) [0, 1, 2, 3] rfl
        exact hJx9 (0, H, _, ls) ⟨hP, hD, hS, hl⟩ hf
    · rintro ⟨s10, H, locs, ls⟩ ⟨hP, hD, hS, hl⟩ hf
      dsimp only at hP hD hS hl hf ⊢
      rw [hx9] at hf
      have hl : lv_has ls 4 [(3, .int s5), (0, .ref (ad 0 0)), (1, .int a1), (2, .int a2)] := hl
      refine lv_iconst (pc := 38) (v := 1) hx hb dV_person_38 (by decide) ?_
      obtain ⟨q12, hq12, eq12⟩ := at_0 (ad := ad) (ca := ca) (σ := σ3) hm0
      obtain ⟨⟨y13o, σ14⟩, hy13, hf⟩ := ob hf
      rcases y13o with _ | y13
      · have h9 := ex9_x hf
        subst h9
        have hFc := w9_free hD hS hA
        exact tPassV (pc := 39) (As := [.int s10, .int 1]) (rest := []) ⟨hx, hb, hml, hown, hts⟩ (x_V_mayWrite l dC dI ad ca dom H.size σ3 s10 1 hm0 hN hC σ14 hfl hy13) (cwV 2 hts (gV wd_491 wd_492 wd_493 wd_254 wd_490) rfl rfl rfl (by decide +kernel) ⟨Nat.le_of_ble_eq_true rfl, Nat.le_of_ble_eq_true rfl⟩) ⟨hX_blind, va_recv (q := (RV, TV, 9)) (q0 := q12) (ci := 0) hK.1 hP rfl eq12, hX_pre hP hK hD hG hE hS hSA⟩ rfl hl.1 rfl (lv_room (Nat.le_of_ble_eq_true rfl)) dV_person_39 ⟨Nat.le_of_ble_eq_true rfl, Nat.le_of_ble_eq_true rfl⟩ hno hlocks hS (fun x h => hFc _ h) (fun H1 h => ⟨h.1, h.2.1.weaken (fun _ _ _ z => hFc _ z), h.2.2⟩)
      replace hf := ex9_s hf
      have hFc := w9_free hD hS hA
      refine va_calli (pc := 39) (va_runV (As := [.int s10, .int 1]) (rest := []) ⟨hx, hb, hml, hown, hts⟩ (t_V_mayWrite l dC dI ad ca dom H.size σ3 s10 1 hm0 hN hC y13 σ14 hy13) (cwV 2 hts (gV wd_491 wd_492 wd_493 wd_254 wd_490) rfl rfl rfl (by decide +kernel) ⟨Nat.le_of_ble_eq_true rfl, Nat.le_of_ble_eq_true rfl⟩) ⟨hW_blind, va_recv (q := (RV, TV, 9)) (q0 := q12) (ci := 0) hK.1 hP rfl eq12, hW_pre hP hK hD hG⟩ rfl rfl hl.1 rfl (lv_room (Nat.le_of_ble_eq_true rfl)) dV_person_39 ⟨Nat.le_of_ble_eq_true rfl, Nat.le_of_ble_eq_true rfl⟩) hS (fun q _ h => hFc q h) hFc (fun r9 u t H1 locs ht hvm hr9 hB hz1 hk1 hS => ?_)
      obtain ⟨hP, hD, hC⟩ := hB
      rw [ht] at hP
      replace hD := hD.weaken (fun _ _ _ h => hFc _ h)
      generalize H1 = H at hP hS ⊢
      refine W.eq (g2 := F0 m 42 ls [.int y13]) (by rw [hr9]) ?_
      refine lv_if_ne (pc := 42) (tgt := 47) hx hb dV_person_42 rfl (fun h15 => ?_) (fun h15 => ?_)
      · replace hf := ite_f h15 hf
        refine lv_aload_n (pc := 47) hx hb dV_person_47 rfl (lv_at hl 1 rfl) ?_
        obtain ⟨q16, hq16, eq16⟩ := at_0 (ad := ad) (ca := ca) (σ := σ14) hm0
        refine va_get (D := (dC, dI)) (cl := kCl) (C := RV) (T := TV) (N := 9) (pc := 48) hx hb hts inV hown hK.1 hP q16 eq16 rfl 0 (by decide) (hts _ wd_313) (fun _ h9 => h9) rfl dV_person_48 ?_
        refine lv_iload_n (pc := 51) hx hb dV_person_51 rfl (lv_at hl 2 rfl) ?_
        refine lv_iload_n (pc := 52) hx hb dV_person_52 rfl (lv_at hl 3 rfl) ?_
        obtain ⟨hv18, hf⟩ := ite_s hf
        obtain ⟨q19, hq19, eq19⟩ := at_8 (ad := ad) (ca := ca) (σ := σ14) (cm_0_0 hC hm0)
        refine va_iast (D := (dC, dI)) (cl := kCl) (pc := 53) hx hb (hK.2 8 0 .int (cm_0_0 hC hm0) rfl) hP hD hS q19 0 eq19 rfl (hv18) dV_person_53 (fun H locs hP hD hS => ?_)
        obtain ⟨σ17, hσ17, hf⟩ := lt_9 hf
        obtain ⟨hP, hD⟩ := w9_rI 8 rfl hN hq19 hσ17 (pr_8) hP hD
        have hC : clo dom σ17.2.2 := by rw [hσ17]; exact hC
        refine lv_aload_n (pc := 54) hx hb dV_person_54 rfl (lv_at hl 1 rfl) ?_
        refine lv_iconst (pc := 55) (v := 1) hx hb dV_person_55 (by decide) ?_
        obtain ⟨q20, hq20, eq20⟩ := at_0 (ad := ad) (ca := ca) (σ := σ17) hm0
        obtain ⟨⟨y21, σ22⟩, hy21, hf⟩ := ob hf
        have hFc := w9_free hD hS hA
        refine va_callv (pc := 56) (va_runV (As := [.int 1]) (rest := []) ⟨hx, hb, hml, hown, hts⟩ (t_V_finish l dC dI ad ca dom H.size n σ17 1 hm0 hN hC y21 σ22 hy21) (cwV 1 hts (gV wd_495 wd_496 wd_497 wd_254 wd_494) rfl rfl rfl (by decide +kernel) ⟨Nat.le_of_ble_eq_true rfl, Nat.le_of_ble_eq_true rfl⟩) ⟨hW_blind, va_recv (q := (RV, TV, 9)) (q0 := q20) (ci := 0) hK.1 hP rfl eq20, hW_pre hP hK hD hG⟩ rfl rfl hl.1 rfl (lv_room (Nat.le_of_ble_eq_true rfl)) dV_person_56 ⟨Nat.le_of_ble_eq_true rfl, Nat.le_of_ble_eq_true rfl⟩) hS (fun q _ h => hFc q h) hFc (fun u t H1 locs ht hvm hr9 hB hz1 hk1 hS => ?_)
        obtain ⟨hP, hD, hC⟩ := hB
        rw [ht] at hP
        replace hD := hD.weaken (fun _ _ _ h => hFc _ h)
        generalize H1 = H at hP hS ⊢
        refine lv_iconst (pc := 59) (v := 1) hx hb dV_person_59 (by decide) ?_
        exact nomatch hf
      · replace hf := ite_t h15 hf
        refine lv_iconst (pc := 45) (v := 0) hx hb dV_person_45 (by decide) ?_
        exact nomatch hf
set_option maxHeartbeats 4000000 in
set_option maxRecDepth 100000 in
theorem x_V_out (l : Launch) (dC : Nat → ClassId) (dI : Nat → Nat → Nat) (ad : Nat → Nat → Nat) (ca : Nat → Nat → ClassId) (dom : List (Nat × Nat)) (sz : Nat) (n : Nat) (σ : hT) (a1 : Int32) (a2 : Int32) (hm0 : (0, 0) ∈ dom) (hN : dom.Nodup) (hC : clo dom σ.2.2) (σ' : hT) (hfl : l.stackTraces = false) (hf : V_out n σ a1 a2 = some (none, σ')) : tMet l yV_out (.code yV_out cV_out 4 (some .boolean) :: aw) ({ frames := 7, cells := 1, slots := 6, locals := 125 }) (hX (dC, dI) sz ad ca dom σ [.ref (ad 0 0), .int a1, .int a2]) nIS (va_A (w9 ad ca dom σ) sz) (fun H1 => va_P (dC, dI) kCl (w9 ad ca dom σ') H1 ∧ va_D (va_A (w9 ad ca dom σ) sz) (w9 ad ca dom σ') ∧ clo dom σ'.2.2) := by
  refine tOfW (cc := cV_out) (maxL := 4) (ret := (some .boolean)) (by decide) rfl ?_
  intro p e s m args below meth c s₁ B hml hno hv
  obtain ⟨rfl, hv⟩ := hv
  have hx := B.exec
  have hb := B.bytes
  have hts : ∀ w ∈ aw, w.before _ s = true := fun w h => atoms_spec (ws := (.code yV_out cV_out 4 (some .boolean) :: aw)) B.pre w (List.mem_cons_of_mem _ h)
  have hown : s.vm.findClass RV = some m.cls := findClass_of_methodNamed B.named
  have hlocks := B.notSynchronized
  obtain ⟨hsz, hP, hK, hD0, hG, hE⟩ := hv
  subst hsz
  have hD := hD0.self (sz := s.heap.size)
  generalize hAe : va_A (w9 ad ca dom σ) s.heap.size = A at hD ⊢
  have hA : ∀ q : Nat, s.heap.size ≤ q → A q := fun q h => by rw [← hAe]; exact Or.inr h
  have hSA : ∀ q : Nat, q < s.heap.size → A q → xS ad dom q := fun q h z => by rw [← hAe] at z; exact w9_xS z h
  obtain ⟨H, hH⟩ : ∃ H, H = s.heap := ⟨_, rfl⟩
  have hS : va_S A s.heap H [] := by rw [hH]; exact va_S.rf
  rw [← hH] at hP ⊢
  unfold V_out at hf
  have hl := lv_entry ([.ref (ad 0 0), .int a1, .int a2]) (n := 4) (Nat.le_of_ble_eq_true rfl)
  rw [lg_entry_eq]
  generalize (lg_sl ([.ref (ad 0 0), .int a1, .int a2]) ++ List.replicate (4 - (lg_sl ([.ref (ad 0 0), .int a1, .int a2])).length) Slot.unset).toArray = ls at hl ⊢
  have hl : lv_has ls 4 [(0, .ref (ad 0 0)), (1, .int a1), (2, .int a2)] := hl
  refine lv_aload_n (pc := 0) hx hb dV_out_0 rfl (lv_at hl 0 rfl) ?_
  obtain ⟨q1, hq1, eq1⟩ := at_0 (ad := ad) (ca := ca) (σ := σ) hm0
  obtain ⟨⟨y2o, σ3⟩, hy2, hf⟩ := ob hf
  rcases y2o with _ | y2
  · have h9 := ex9_x hf
    subst h9
    have hFc := w9_free hD hS hA
    exact tPassV (pc := 1) (As := []) (rest := []) ⟨hx, hb, hml, hown, hts⟩ (x_V_needPower l dC dI ad ca dom H.size σ hm0 hN hC σ3 hfl hy2) (cwV 0 hts (gV wd_499 wd_500 wd_501 wd_254 wd_498) rfl rfl rfl (by decide +kernel) ⟨Nat.le_of_ble_eq_true rfl, Nat.le_of_ble_eq_true rfl⟩) ⟨hX_blind, va_recv (q := (RV, TV, 9)) (q0 := q1) (ci := 0) hK.1 hP rfl eq1, hX_pre hP hK hD hG hE hS hSA⟩ rfl hl.1 rfl (lv_room (Nat.le_of_ble_eq_true rfl)) dV_out_1 ⟨Nat.le_of_ble_eq_true rfl, Nat.le_of_ble_eq_true rfl⟩ hno hlocks hS (fun x h => hFc _ h) (fun H1 h => ⟨h.1, h.2.1.weaken (fun _ _ _ z => hFc _ z), h.2.2⟩)
  replace hf := ex9_s hf
  have hFc := w9_free hD hS hA
  refine va_callv (pc := 1) (va_runV (As := []) (rest := []) ⟨hx, hb, hml, hown, hts⟩ (t_V_needPower l dC dI ad ca dom H.size σ hm0 hN hC y2 σ3 hy2) (cwV 0 hts (gV wd_499 wd_500 wd_501 wd_254 wd_498) rfl rfl rfl (by decide +kernel) ⟨Nat.le_of_ble_eq_true rfl, Nat.le_of_ble_eq_true rfl⟩) ⟨hW_blind, va_recv (q := (RV, TV, 9)) (q0 := q1) (ci := 0) hK.1 hP rfl eq1, hW_pre hP hK hD hG⟩ rfl rfl hl.1 rfl (lv_room (Nat.le_of_ble_eq_true rfl)) dV_out_1 ⟨Nat.le_of_ble_eq_true rfl, Nat.le_of_ble_eq_true rfl⟩) hS (fun q _ h => hFc q h) hFc (fun u t H1 locs ht hvm hr9 hB hz1 hk1 hS => ?_)
  obtain ⟨hP, hD, hC⟩ := hB
  rw [ht] at hP
  replace hD := hD.weaken (fun _ _ _ h => hFc _ h)
  generalize H1 = H at hP hS ⊢
  refine lv_aload_n (pc := 4) hx hb dV_out_4 rfl (lv_at hl 0 rfl) ?_
  refine lv_iload_n (pc := 5) hx hb dV_out_5 rfl (lv_at hl 1 rfl) ?_
  obtain ⟨q4, hq4, eq4⟩ := at_0 (ad := ad) (ca := ca) (σ := σ3) hm0
  obtain ⟨y5, hy5, hf⟩ := ob hf
  refine va_cse (pc := 6) (W.runV (As := [.int a1]) (rest := []) ⟨hx, hb, hml, hown, hts⟩ (t_V_drawingAt l dC dI ad ca dom σ3 a1 hm0 hN hC y5 hy5) (cwV 1 hts (gV wd_317 wd_318 wd_319 wd_254 wd_316) rfl rfl rfl (by decide +kernel) ⟨Nat.le_of_ble_eq_true rfl, Nat.le_of_ble_eq_true rfl⟩) ⟨hR_blind, va_recv (q := (RV, TV, 9)) (q0 := q4) (ci := 0) hK.1 hP rfl eq4, hR_pre hP hK hG⟩ rfl rfl hl.1 rfl (lv_room (Nat.le_of_ble_eq_true rfl)) dV_out_6 ⟨Nat.le_of_ble_eq_true rfl, Nat.le_of_ble_eq_true rfl⟩) (fun r9 hr9 => ?_)
  obtain ⟨hr9, hmy6⟩ := hr9
  refine W.eq (g2 := F0 m 9 ls [va_re (ad 6) y5]) (by rw [hr9]) ?_
  rcases hE7 : y5 with _ | j8
  · replace hf := hq_n hE7 hf
    refine W.eq (g2 := F0 m 9 ls [.null]) rfl ?_
    refine lv_astore_nN (pc := 9) hx hb dV_out_9 rfl hl (by decide) rfl (fun ls hl => ?_)
    have hl : lv_has ls 4 [(3, .null), (0, .ref (ad 0 0)), (1, .int a1), (2, .int a2)] := hl
    refine lv_aload_n (pc := 10) hx hb dV_out_10 rfl (lv_at hl 1 rfl) ?_
    refine lv_aload_n (pc := 11) hx hb dV_out_11 rfl (lv_at hl 1 rfl) ?_
    refine lv_aload_nN (pc := 12) hx hb dV_out_12 rfl (lv_at hl 0 rfl) ?_
    refine lv_iload_n (pc := 13) hx hb dV_out_13 rfl (lv_at hl 3 rfl) ?_
    obtain ⟨q9, hq9, eq9⟩ := at_0 (ad := ad) (ca := ca) (σ := σ3) hm0
    obtain ⟨y10, hy10, hf⟩ := ob hf
    refine vp_callSi (pc := 14) (W.runV (As := [.null, .int a2]) (rest := [.ref (ad 0 0)]) ⟨hx, hb, hml, hown, hts⟩ (t_V_outRefusal l dC dI ad ca dom σ3 none a2 hm0 (fun _ z => nomatch z) hN hC y10 hy10) (cwV 2 hts (gV wd_503 wd_504 wd_505 wd_254 wd_502) rfl rfl rfl (by decide +kernel) ⟨Nat.le_of_ble_eq_true rfl, Nat.le_of_ble_eq_true rfl⟩) ⟨hR_blind, va_recv (q := (RV, TV, 9)) (q0 := q9) (ci := 0) hK.1 hP rfl eq9, hR_pre hP hK hG⟩ rfl rfl hl.1 rfl (lv_room (Nat.le_of_ble_eq_true rfl)) dV_out_14 ⟨Nat.le_of_ble_eq_true rfl, Nat.le_of_ble_eq_true rfl⟩) (fun r9 hr9 => ?_)
    refine W.eq (g2 := F0 m 17 ls [.int y10, .ref (ad 0 0)]) (by rw [hr9]) ?_
    refine lv_iconst (pc := 17) (v := 1) hx hb dV_out_17 (by decide) ?_
    obtain ⟨q11, hq11, eq11⟩ := at_0 (ad := ad) (ca := ca) (σ := σ3) hm0
    obtain ⟨⟨y12o, σ13⟩, hy12, hf⟩ := ob hf
    rcases y12o with _ | y12
    · have h9 := ex9_x hf
      subst h9
      have hFc := w9_free hD hS hA
      exact tPassV (pc := 18) (As := [.int y10, .int 1]) (rest := []) ⟨hx, hb, hml, hown, hts⟩ (x_V_mayWrite l dC dI ad ca dom H.size σ3 y10 1 hm0 hN hC σ13 hfl hy12) (cwV 2 hts (gV wd_491 wd_492 wd_493 wd_254 wd_490) rfl rfl rfl (by decide +kernel) ⟨Nat.le_of_ble_eq_true rfl, Nat.le_of_ble_eq_true rfl⟩) ⟨hX_blind, va_recv (q := (RV, TV, 9)) (q0 := q11) (ci := 0) hK.1 hP rfl eq11, hX_pre hP hK hD hG hE hS hSA⟩ rfl hl.1 rfl (lv_room (Nat.le_of_ble_eq_true rfl)) dV_out_18 ⟨Nat.le_of_ble_eq_true rfl, Nat.le_of_ble_eq_true rfl⟩ hno hlocks hS (fun x h => hFc _ h) (fun H1 h => ⟨h.1, h.2.1.weaken (fun _ _ _ z => hFc _ z), h.2.2⟩)
    replace hf := ex9_s hf
    have hFc := w9_free hD hS hA
    refine va_calli (pc := 18) (va_runV (As := [.int y10, .int 1]) (rest := []) ⟨hx, hb, hml, hown, hts⟩ (t_V_mayWrite l dC dI ad ca dom H.size σ3 y10 1 hm0 hN hC y12 σ13 hy12) (cwV 2 hts (gV wd_491 wd_492 wd_493 wd_254 wd_490) rfl rfl rfl (by decide +kernel) ⟨Nat.le_of_ble_eq_true rfl, Nat.le_of_ble_eq_true rfl⟩) ⟨hW_blind, va_recv (q := (RV, TV, 9)) (q0 := q11) (ci := 0) hK.1 hP rfl eq11, hW_pre hP hK hD hG⟩ rfl rfl hl.1 rfl (lv_room (Nat.le_of_ble_eq_true rfl)) dV_out_18 ⟨Nat.le_of_ble_eq_true rfl, Nat.le_of_ble_eq_true rfl⟩) hS (fun q _ h => hFc q h) hFc (fun r9 u t H1 locs ht hvm hr9 hB hz1 hk1 hS => ?_)
    obtain ⟨hP, hD, hC⟩ := hB
    rw [ht] at hP
    replace hD := hD.weaken (fun _ _ _ h => hFc _ h)
    generalize H1 = H at hP hS ⊢
    refine W.eq (g2 := F0 m 21 ls [.int y12]) (by rw [hr9]) ?_
    refine lv_if_ne (pc := 21) (tgt := 26) hx hb dV_out_21 rfl (fun h14 => ?_) (fun h14 => ?_)
    · replace hf := ite_f h14 hf
      refine lv_aload_nN (pc := 26) hx hb dV_out_26 rfl (lv_at hl 0 rfl) ?_
      refine lv_iload_n (pc := 27) hx hb dV_out_27 rfl (lv_at hl 3 rfl) ?_
      exact nomatch hf
    · replace hf := ite_t h14 hf
      refine lv_iconst (pc := 24) (v := 0) hx hb dV_out_24 (by decide) ?_
      exact nomatch hf
  · replace hf := hq_s hE7 hf
    have hm15 : (6, j8) ∈ dom := (hmy6 _ hE7)
    refine W.eq (g2 := F0 m 9 ls [.ref (ad 6 j8)]) rfl ?_
    refine lv_astore_n (pc := 9) hx hb dV_out_9 rfl hl (by decide) rfl (fun ls hl => ?_)
    have hl : lv_has ls 4 [(3, .ref (ad 6 j8)), (0, .ref (ad 0 0)), (1, .int a1), (2, .int a2)] := hl
    refine lv_aload_n (pc := 10) hx hb dV_out_10 rfl (lv_at hl 1 rfl) ?_
    refine lv_aload_n (pc := 11) hx hb dV_out_11 rfl (lv_at hl 1 rfl) ?_
    refine lv_aload_n (pc := 12) hx hb dV_out_12 rfl (lv_at hl 0 rfl) ?_
    refine lv_iload_n (pc := 13) hx hb dV_out_13 rfl (lv_at hl 3 rfl) ?_
    obtain ⟨q16, hq16, eq16⟩ := at_0 (ad := ad) (ca := ca) (σ := σ3) hm0
    obtain ⟨y17, hy17, hf⟩ := ob hf
    refine vp_callSi (pc := 14) (W.runV (As := [.ref (ad 6 j8), .int a2]) (rest := [.ref (ad 0 0)]) ⟨hx, hb, hml, hown, hts⟩ (t_V_outRefusal l dC dI ad ca dom σ3 (some j8) a2 hm0 (fun _ z => Option.some.inj z ▸ hm15) hN hC y17 hy17) (cwV 2 hts (gV wd_503 wd_504 wd_505 wd_254 wd_502) rfl rfl rfl (by decide +kernel) ⟨Nat.le_of_ble_eq_true rfl, Nat.le_of_ble_eq_true rfl⟩) ⟨hR_blind, va_recv (q := (RV, TV, 9)) (q0 := q16) (ci := 0) hK.1 hP rfl eq16, hR_pre hP hK hG⟩ rfl rfl hl.1 rfl (lv_room (Nat.le_of_ble_eq_true rfl)) dV_out_14 ⟨Nat.le_of_ble_eq_true rfl, Nat.le_of_ble_eq_true rfl⟩) (fun r9 hr9 => ?_)
    refine W.eq (g2 := F0 m 17 ls [.int y17, .ref (ad 0 0)]) (by rw [hr9]) ?_
    refine lv_iconst (pc := 17) (v := 1) hx hb dV_out_17 (by decide) ?_
    obtain ⟨q18, hq18, eq18⟩ := at_0 (ad := ad) (ca := ca) (σ := σ3) hm0
    obtain ⟨⟨y19o, σ20⟩, hy19, hf⟩ := ob hf
    rcases y19o with _ | y19
    · have h9 := ex9_x hf
      subst h9
      have hFc := w9_free hD hS hA
      exact tPassV (pc := 18) (As := [.int y17, .int 1]) (rest := []) ⟨hx, hb, hml, hown, hts⟩ (x_V_mayWrite l dC dI ad ca dom H.size σ3 y17 1 hm0 hN hC σ20 hfl hy19) (cwV 2 hts (gV wd_491 wd_492 wd_493 wd_254 wd_490) rfl rfl rfl (by decide +kernel) ⟨Nat.le_of_ble_eq_true rfl, Nat.le_of_ble_eq_true rfl⟩) ⟨hX_blind, va_recv (q := (RV, TV, 9)) (q0 := q18) (ci := 0) hK.1 hP rfl eq18, hX_pre hP hK hD hG hE hS hSA⟩ rfl hl.1 rfl (lv_room (Nat.le_of_ble_eq_true rfl)) dV_out_18 ⟨Nat.le_of_ble_eq_true rfl, Nat.le_of_ble_eq_true rfl⟩ hno hlocks hS (fun x h => hFc _ h) (fun H1 h => ⟨h.1, h.2.1.weaken (fun _ _ _ z => hFc _ z), h.2.2⟩)
    replace hf := ex9_s hf
    have hFc := w9_free hD hS hA
    refine va_calli (pc := 18) (va_runV (As := [.int y17, .int 1]) (rest := []) ⟨hx, hb, hml, hown, hts⟩ (t_V_mayWrite l dC dI ad ca dom H.size σ3 y17 1 hm0 hN hC y19 σ20 hy19) (cwV 2 hts (gV wd_491 wd_492 wd_493 wd_254 wd_490) rfl rfl rfl (by decide +kernel) ⟨Nat.le_of_ble_eq_true rfl, Nat.le_of_ble_eq_true rfl⟩) ⟨hW_blind, va_recv (q := (RV, TV, 9)) (q0 := q18) (ci := 0) hK.1 hP rfl eq18, hW_pre hP hK hD hG⟩ rfl rfl hl.1 rfl (lv_room (Nat.le_of_ble_eq_true rfl)) dV_out_18 ⟨Nat.le_of_ble_eq_true rfl, Nat.le_of_ble_eq_true rfl⟩) hS (fun q _ h => hFc q h) hFc (fun r9 u t H1 locs ht hvm hr9 hB hz1 hk1 hS => ?_)
    obtain ⟨hP, hD, hC⟩ := hB
    rw [ht] at hP
    replace hD := hD.weaken (fun _ _ _ h => hFc _ h)
    generalize H1 = H at hP hS ⊢
    refine W.eq (g2 := F0 m 21 ls [.int y19]) (by rw [hr9]) ?_
    refine lv_if_ne (pc := 21) (tgt := 26) hx hb dV_out_21 rfl (fun h21 => ?_) (fun h21 => ?_)
    · replace hf := ite_f h21 hf
      refine lv_aload_n (pc := 26) hx hb dV_out_26 rfl (lv_at hl 0 rfl) ?_
      refine lv_iload_n (pc := 27) hx hb dV_out_27 rfl (lv_at hl 3 rfl) ?_
      obtain ⟨q22, hq22, eq22⟩ := at_6 (ad := ad) (ca := ca) (σ := σ20) hm15
      obtain ⟨⟨y23, σ24⟩, hy23, hf⟩ := ob hf
      have hFc := w9_free hD hS hA
      refine va_callv (pc := 28) (va_runV (As := [.int a2]) (rest := []) ⟨hx, hb, hml, hown, hts⟩ (t_D_lendTo l dC dI ad ca dom H.size σ20 j8 a2 hm15 hN hC y23 σ24 hy23) (cwV 1 hts (gV wd_507 wd_508 wd_509 wd_292 wd_506) rfl rfl rfl (by decide +kernel) ⟨Nat.le_of_ble_eq_true rfl, Nat.le_of_ble_eq_true rfl⟩) ⟨hW_blind, va_recv (q := (RD, TD, 5)) (q0 := q22) (ci := 6) hK.1 hP rfl eq22, hW_pre hP hK hD hG⟩ rfl rfl hl.1 rfl (lv_room (Nat.le_of_ble_eq_true rfl)) dV_out_28 ⟨Nat.le_of_ble_eq_true rfl, Nat.le_of_ble_eq_true rfl⟩) hS (fun q _ h => hFc q h) hFc (fun u t H1 locs ht hvm hr9 hB hz1 hk1 hS => ?_)
      obtain ⟨hP, hD, hC⟩ := hB
      rw [ht] at hP
      replace hD := hD.weaken (fun _ _ _ h => hFc _ h)
      generalize H1 = H at hP hS ⊢
      refine lv_aload_n (pc := 31) hx hb dV_out_31 rfl (lv_at hl 1 rfl) ?_
      refine lv_iconst (pc := 32) (v := 1) hx hb dV_out_32 (by decide) ?_
      obtain ⟨q25, hq25, eq25⟩ := at_0 (ad := ad) (ca := ca) (σ := σ24) hm0
      obtain ⟨⟨y26, σ27⟩, hy26, hf⟩ := ob hf
      have hFc := w9_free hD hS hA
      refine va_callv (pc := 33) (va_runV (As := [.int 1]) (rest := []) ⟨hx, hb, hml, hown, hts⟩ (t_V_finish l dC dI ad ca dom H.size n σ24 1 hm0 hN hC y26 σ27 hy26) (cwV 1 hts (gV wd_495 wd_496 wd_497 wd_254 wd_494) rfl rfl rfl (by decide +kernel) ⟨Nat.le_of_ble_eq_true rfl, Nat.le_of_ble_eq_true rfl⟩) ⟨hW_blind, va_recv (q := (RV, TV, 9)) (q0 := q25) (ci := 0) hK.1 hP rfl eq25, hW_pre hP hK hD hG⟩ rfl rfl hl.1 rfl (lv_room (Nat.le_of_ble_eq_true rfl)) dV_out_33 ⟨Nat.le_of_ble_eq_true rfl, Nat.le_of_ble_eq_true rfl⟩) hS (fun q _ h => hFc q h) hFc (fun u t H1 locs ht hvm hr9 hB hz1 hk1 hS => ?_)
      obtain ⟨hP, hD, hC⟩ := hB
      rw [ht] at hP
      replace hD := hD.weaken (fun _ _ _ h => hFc _ h)
      generalize H1 = H at hP hS ⊢
      refine lv_iconst (pc := 36) (v := 1) hx hb dV_out_36 (by decide) ?_
      exact nomatch hf
    · replace hf := ite_t h21 hf
      refine lv_iconst (pc := 24) (v := 0) hx hb dV_out_24 (by decide) ?_
      exact nomatch hf
set_option maxHeartbeats 4000000 in
set_option maxRecDepth 100000 in
theorem x_V_undo (l : Launch) (dC : Nat → ClassId) (dI : Nat → Nat → Nat) (ad : Nat → Nat → Nat) (ca : Nat → Nat → ClassId) (dom : List (Nat × Nat)) (sz : Nat) (n : Nat) (σ : hT) (a1 : Int32) (a2 : Int32) (hm0 : (0, 0) ∈ dom) (hN : dom.Nodup) (hC : clo dom σ.2.2) (σ' : hT) (hfl : l.stackTraces = false) (hf : V_undo n σ a1 a2 = some (none, σ')) : tMet l yV_undo (.code yV_undo cV_undo 4 (some .boolean) :: aw) ({ frames := 7, cells := 1, slots := 6, locals := 125 }) (hX (dC, dI) sz ad ca dom σ [.ref (ad 0 0), .int a1, .int a2]) nIS (va_A (w9 ad ca dom σ) sz) (fun H1 => va_P (dC, dI) kCl (w9 ad ca dom σ') H1 ∧ va_D (va_A (w9 ad ca dom σ) sz) (w9 ad ca dom σ') ∧ clo dom σ'.2.2) := by
  refine tOfW (cc := cV_undo) (maxL := 4) (ret := (some .boolean)) (by decide) rfl ?_
  intro p e s m args below meth c s₁ B hml hno hv
  obtain ⟨rfl, hv⟩ := hv
  have hx := B.exec
  have hb := B.bytes
  have hts : ∀ w ∈ aw, w.before _ s = true := fun w h => atoms_spec (ws := (.code yV_undo cV_undo 4 (some .boolean) :: aw)) B.pre w (List.mem_cons_of_mem _ h)
  have hown : s.vm.findClass RV = some m.cls := findClass_of_methodNamed B.named
  have hlocks := B.notSynchronized
  obtain ⟨hsz, hP, hK, hD0, hG, hE⟩ := hv
  subst hsz
  have hD := hD0.self (sz := s.heap.size)
  generalize hAe : va_A (w9 ad ca dom σ) s.heap.size = A at hD ⊢
  have hA : ∀ q : Nat, s.heap.size ≤ q → A q := fun q h => by rw [← hAe]; exact Or.inr h
  have hSA : ∀ q : Nat, q < s.heap.size → A q → xS ad dom q := fun q h z => by rw [← hAe] at z; exact w9_xS z h
  obtain ⟨H, hH⟩ : ∃ H, H = s.heap := ⟨_, rfl⟩
  have hS : va_S A s.heap H [] := by rw [hH]; exact va_S.rf
  rw [← hH] at hP ⊢
  unfold V_undo at hf
  have hl := lv_entry ([.ref (ad 0 0), .int a1, .int a2]) (n := 4) (Nat.le_of_ble_eq_true rfl)
  rw [lg_entry_eq]
  generalize (lg_sl ([.ref (ad 0 0), .int a1, .int a2]) ++ List.replicate (4 - (lg_sl ([.ref (ad 0 0), .int a1, .int a2])).length) Slot.unset).toArray = ls at hl ⊢
  have hl : lv_has ls 4 [(0, .ref (ad 0 0)), (1, .int a1), (2, .int a2)] := hl
  refine lv_aload_n (pc := 0) hx hb dV_undo_0 rfl (lv_at hl 0 rfl) ?_
  obtain ⟨q1, hq1, eq1⟩ := at_0 (ad := ad) (ca := ca) (σ := σ) hm0
  obtain ⟨⟨y2o, σ3⟩, hy2, hf⟩ := ob hf
  rcases y2o with _ | y2
  · have h9 := ex9_x hf
    subst h9
    have hFc := w9_free hD hS hA
    exact tPassV (pc := 1) (As := []) (rest := []) ⟨hx, hb, hml, hown, hts⟩ (x_V_needPower l dC dI ad ca dom H.size σ hm0 hN hC σ3 hfl hy2) (cwV 0 hts (gV wd_499 wd_500 wd_501 wd_254 wd_498) rfl rfl rfl (by decide +kernel) ⟨Nat.le_of_ble_eq_true rfl, Nat.le_of_ble_eq_true rfl⟩) ⟨hX_blind, va_recv (q := (RV, TV, 9)) (q0 := q1) (ci := 0) hK.1 hP rfl eq1, hX_pre hP hK hD hG hE hS hSA⟩ rfl hl.1 rfl (lv_room (Nat.le_of_ble_eq_true rfl)) dV_undo_1 ⟨Nat.le_of_ble_eq_true rfl, Nat.le_of_ble_eq_true rfl⟩ hno hlocks hS (fun x h => hFc _ h) (fun H1 h => ⟨h.1, h.2.1.weaken (fun _ _ _ z => hFc _ z), h.2.2⟩)
  replace hf := ex9_s hf
  have hFc := w9_free hD hS hA
  refine va_callv (pc := 1) (va_runV (As := []) (rest := []) ⟨hx, hb, hml, hown, hts⟩ (t_V_needPower l dC dI ad ca dom H.size σ hm0 hN hC y2 σ3 hy2) (cwV 0 hts (gV wd_499 wd_500 wd_501 wd_254 wd_498) rfl rfl rfl (by decide +kernel) ⟨Nat.le_of_ble_eq_true rfl, Nat.le_of_ble_eq_true rfl⟩) ⟨hW_blind, va_recv (q := (RV, TV, 9)) (q0 := q1) (ci := 0) hK.1 hP rfl eq1, hW_pre hP hK hD hG⟩ rfl rfl hl.1 rfl (lv_room (Nat.le_of_ble_eq_true rfl)) dV_undo_1 ⟨Nat.le_of_ble_eq_true rfl, Nat.le_of_ble_eq_true rfl⟩) hS (fun q _ h => hFc q h) hFc (fun u t H1 locs ht hvm hr9 hB hz1 hk1 hS => ?_)
  obtain ⟨hP, hD, hC⟩ := hB
  rw [ht] at hP
  replace hD := hD.weaken (fun _ _ _ h => hFc _ h)
  generalize H1 = H at hP hS ⊢
  refine lv_aload_n (pc := 4) hx hb dV_undo_4 rfl (lv_at hl 0 rfl) ?_
  refine lv_iload_n (pc := 5) hx hb dV_undo_5 rfl (lv_at hl 1 rfl) ?_
  obtain ⟨q4, hq4, eq4⟩ := at_0 (ad := ad) (ca := ca) (σ := σ3) hm0
  obtain ⟨y5, hy5, hf⟩ := ob hf
  refine va_cse (pc := 6) (W.runV (As := [.int a1]) (rest := []) ⟨hx, hb, hml, hown, hts⟩ (t_V_drawingAt l dC dI ad ca dom σ3 a1 hm0 hN hC y5 hy5) (cwV 1 hts (gV wd_317 wd_318 wd_319 wd_254 wd_316) rfl rfl rfl (by decide +kernel) ⟨Nat.le_of_ble_eq_true rfl, Nat.le_of_ble_eq_true rfl⟩) ⟨hR_blind, va_recv (q := (RV, TV, 9)) (q0 := q4) (ci := 0) hK.1 hP rfl eq4, hR_pre hP hK hG⟩ rfl rfl hl.1 rfl (lv_room (Nat.le_of_ble_eq_true rfl)) dV_undo_6 ⟨Nat.le_of_ble_eq_true rfl, Nat.le_of_ble_eq_true rfl⟩) (fun r9 hr9 => ?_)
  obtain ⟨hr9, hmy6⟩ := hr9
  refine W.eq (g2 := F0 m 9 ls [va_re (ad 6) y5]) (by rw [hr9]) ?_
  rcases hE7 : y5 with _ | j8
  · replace hf := hq_n hE7 hf
    refine W.eq (g2 := F0 m 9 ls [.null]) rfl ?_
    refine lv_astore_nN (pc := 9) hx hb dV_undo_9 rfl hl (by decide) rfl (fun ls hl => ?_)
    have hl : lv_has ls 4 [(3, .null), (0, .ref (ad 0 0)), (1, .int a1), (2, .int a2)] := hl
    refine lv_aload_n (pc := 10) hx hb dV_undo_10 rfl (lv_at hl 1 rfl) ?_
    refine lv_aload_n (pc := 11) hx hb dV_undo_11 rfl (lv_at hl 1 rfl) ?_
    refine lv_aload_nN (pc := 12) hx hb dV_undo_12 rfl (lv_at hl 0 rfl) ?_
    refine lv_iload_n (pc := 13) hx hb dV_undo_13 rfl (lv_at hl 3 rfl) ?_
    obtain ⟨q9, hq9, eq9⟩ := at_0 (ad := ad) (ca := ca) (σ := σ3) hm0
    obtain ⟨y10, hy10, hf⟩ := ob hf
    refine vp_callSi (pc := 14) (W.runV (As := [.null, .int a2]) (rest := [.ref (ad 0 0)]) ⟨hx, hb, hml, hown, hts⟩ (t_V_copyRefusal l dC dI ad ca dom σ3 none a2 hm0 (fun _ z => nomatch z) hN hC y10 hy10) (cwV 2 hts (gV wd_511 wd_512 wd_513 wd_254 wd_510) rfl rfl rfl (by decide +kernel) ⟨Nat.le_of_ble_eq_true rfl, Nat.le_of_ble_eq_true rfl⟩) ⟨hR_blind, va_recv (q := (RV, TV, 9)) (q0 := q9) (ci := 0) hK.1 hP rfl eq9, hR_pre hP hK hG⟩ rfl rfl hl.1 rfl (lv_room (Nat.le_of_ble_eq_true rfl)) dV_undo_14 ⟨Nat.le_of_ble_eq_true rfl, Nat.le_of_ble_eq_true rfl⟩) (fun r9 hr9 => ?_)
    refine W.eq (g2 := F0 m 17 ls [.int y10, .ref (ad 0 0)]) (by rw [hr9]) ?_
    refine lv_iconst (pc := 17) (v := 1) hx hb dV_undo_17 (by decide) ?_
    obtain ⟨q11, hq11, eq11⟩ := at_0 (ad := ad) (ca := ca) (σ := σ3) hm0
    obtain ⟨⟨y12o, σ13⟩, hy12, hf⟩ := ob hf
    rcases y12o with _ | y12
    · have h9 := ex9_x hf
      subst h9
      have hFc := w9_free hD hS hA
      exact tPassV (pc := 18) (As := [.int y10, .int 1]) (rest := []) ⟨hx, hb, hml, hown, hts⟩ (x_V_mayWrite l dC dI ad ca dom H.size σ3 y10 1 hm0 hN hC σ13 hfl hy12) (cwV 2 hts (gV wd_491 wd_492 wd_493 wd_254 wd_490) rfl rfl rfl (by decide +kernel) ⟨Nat.le_of_ble_eq_true rfl, Nat.le_of_ble_eq_true rfl⟩) ⟨hX_blind, va_recv (q := (RV, TV, 9)) (q0 := q11) (ci := 0) hK.1 hP rfl eq11, hX_pre hP hK hD hG hE hS hSA⟩ rfl hl.1 rfl (lv_room (Nat.le_of_ble_eq_true rfl)) dV_undo_18 ⟨Nat.le_of_ble_eq_true rfl, Nat.le_of_ble_eq_true rfl⟩ hno hlocks hS (fun x h => hFc _ h) (fun H1 h => ⟨h.1, h.2.1.weaken (fun _ _ _ z => hFc _ z), h.2.2⟩)
    replace hf := ex9_s hf
    have hFc := w9_free hD hS hA
    refine va_calli (pc := 18) (va_runV (As := [.int y10, .int 1]) (rest := []) ⟨hx, hb, hml, hown, hts⟩ (t_V_mayWrite l dC dI ad ca dom H.size σ3 y10 1 hm0 hN hC y12 σ13 hy12) (cwV 2 hts (gV wd_491 wd_492 wd_493 wd_254 wd_490) rfl rfl rfl (by decide +kernel) ⟨Nat.le_of_ble_eq_true rfl, Nat.le_of_ble_eq_true rfl⟩) ⟨hW_blind, va_recv (q := (RV, TV, 9)) (q0 := q11) (ci := 0) hK.1 hP rfl eq11, hW_pre hP hK hD hG⟩ rfl rfl hl.1 rfl (lv_room (Nat.le_of_ble_eq_true rfl)) dV_undo_18 ⟨Nat.le_of_ble_eq_true rfl, Nat.le_of_ble_eq_true rfl⟩) hS (fun q _ h => hFc q h) hFc (fun r9 u t H1 locs ht hvm hr9 hB hz1 hk1 hS => ?_)
    obtain ⟨hP, hD, hC⟩ := hB
    rw [ht] at hP
    replace hD := hD.weaken (fun _ _ _ h => hFc _ h)
    generalize H1 = H at hP hS ⊢
    refine W.eq (g2 := F0 m 21 ls [.int y12]) (by rw [hr9]) ?_
    refine lv_if_ne (pc := 21) (tgt := 26) hx hb dV_undo_21 rfl (fun h14 => ?_) (fun h14 => ?_)
    · replace hf := ite_f h14 hf
      refine lv_aload_nN (pc := 26) hx hb dV_undo_26 rfl (lv_at hl 0 rfl) ?_
      exact nomatch hf
    · replace hf := ite_t h14 hf
      refine lv_iconst (pc := 24) (v := 0) hx hb dV_undo_24 (by decide) ?_
      exact nomatch hf
  · replace hf := hq_s hE7 hf
    have hm15 : (6, j8) ∈ dom := (hmy6 _ hE7)
    refine W.eq (g2 := F0 m 9 ls [.ref (ad 6 j8)]) rfl ?_
    refine lv_astore_n (pc := 9) hx hb dV_undo_9 rfl hl (by decide) rfl (fun ls hl => ?_)
    have hl : lv_has ls 4 [(3, .ref (ad 6 j8)), (0, .ref (ad 0 0)), (1, .int a1), (2, .int a2)] := hl
    refine lv_aload_n (pc := 10) hx hb dV_undo_10 rfl (lv_at hl 1 rfl) ?_
    refine lv_aload_n (pc := 11) hx hb dV_undo_11 rfl (lv_at hl 1 rfl) ?_
    refine lv_aload_n (pc := 12) hx hb dV_undo_12 rfl (lv_at hl 0 rfl) ?_
    refine lv_iload_n (pc := 13) hx hb dV_undo_13 rfl (lv_at hl 3 rfl) ?_
    obtain ⟨q16, hq16, eq16⟩ := at_0 (ad := ad) (ca := ca) (σ := σ3) hm0
    obtain ⟨y17, hy17, hf⟩ := ob hf
    refine vp_callSi (pc := 14) (W.runV (As := [.ref (ad 6 j8), .int a2]) (rest := [.ref (ad 0 0)]) ⟨hx, hb, hml, hown, hts⟩ (t_V_copyRefusal l dC dI ad ca dom σ3 (some j8) a2 hm0 (fun _ z => Option.some.inj z ▸ hm15) hN hC y17 hy17) (cwV 2 hts (gV wd_511 wd_512 wd_513 wd_254 wd_510) rfl rfl rfl (by decide +kernel) ⟨Nat.le_of_ble_eq_true rfl, Nat.le_of_ble_eq_true rfl⟩) ⟨hR_blind, va_recv (q := (RV, TV, 9)) (q0 := q16) (ci := 0) hK.1 hP rfl eq16, hR_pre hP hK hG⟩ rfl rfl hl.1 rfl (lv_room (Nat.le_of_ble_eq_true rfl)) dV_undo_14 ⟨Nat.le_of_ble_eq_true rfl, Nat.le_of_ble_eq_true rfl⟩) (fun r9 hr9 => ?_)
    refine W.eq (g2 := F0 m 17 ls [.int y17, .ref (ad 0 0)]) (by rw [hr9]) ?_
    refine lv_iconst (pc := 17) (v := 1) hx hb dV_undo_17 (by decide) ?_
    obtain ⟨q18, hq18, eq18⟩ := at_0 (ad := ad) (ca := ca) (σ := σ3) hm0
    obtain ⟨⟨y19o, σ20⟩, hy19, hf⟩ := ob hf
    rcases y19o with _ | y19
    · have h9 := ex9_x hf
      subst h9
      have hFc := w9_free hD hS hA
      exact tPassV (pc := 18) (As := [.int y17, .int 1]) (rest := []) ⟨hx, hb, hml, hown, hts⟩ (x_V_mayWrite l dC dI ad ca dom H.size σ3 y17 1 hm0 hN hC σ20 hfl hy19) (cwV 2 hts (gV wd_491 wd_492 wd_493 wd_254 wd_490) rfl rfl rfl (by decide +kernel) ⟨Nat.le_of_ble_eq_true rfl, Nat.le_of_ble_eq_true rfl⟩) ⟨hX_blind, va_recv (q := (RV, TV, 9)) (q0 := q18) (ci := 0) hK.1 hP rfl eq18, hX_pre hP hK hD hG hE hS hSA⟩ rfl hl.1 rfl (lv_room (Nat.le_of_ble_eq_true rfl)) dV_undo_18 ⟨Nat.le_of_ble_eq_true rfl, Nat.le_of_ble_eq_true rfl⟩ hno hlocks hS (fun x h => hFc _ h) (fun H1 h => ⟨h.1, h.2.1.weaken (fun _ _ _ z => hFc _ z), h.2.2⟩)
    replace hf := ex9_s hf
    have hFc := w9_free hD hS hA
    refine va_calli (pc := 18) (va_runV (As := [.int y17, .int 1]) (rest := []) ⟨hx, hb, hml, hown, hts⟩ (t_V_mayWrite l dC dI ad ca dom H.size σ3 y17 1 hm0 hN hC y19 σ20 hy19) (cwV 2 hts (gV wd_491 wd_492 wd_493 wd_254 wd_490) rfl rfl rfl (by decide +kernel) ⟨Nat.le_of_ble_eq_true rfl, Nat.le_of_ble_eq_true rfl⟩) ⟨hW_blind, va_recv (q := (RV, TV, 9)) (q0 := q18) (ci := 0) hK.1 hP rfl eq18, hW_pre hP hK hD hG⟩ rfl rfl hl.1 rfl (lv_room (Nat.le_of_ble_eq_true rfl)) dV_undo_18 ⟨Nat.le_of_ble_eq_true rfl, Nat.le_of_ble_eq_true rfl⟩) hS (fun q _ h => hFc q h) hFc (fun r9 u t H1 locs ht hvm hr9 hB hz1 hk1 hS => ?_)
    obtain ⟨hP, hD, hC⟩ := hB
    rw [ht] at hP
    replace hD := hD.weaken (fun _ _ _ h => hFc _ h)
    generalize H1 = H at hP hS ⊢
    refine W.eq (g2 := F0 m 21 ls [.int y19]) (by rw [hr9]) ?_
    refine lv_if_ne (pc := 21) (tgt := 26) hx hb dV_undo_21 rfl (fun h21 => ?_) (fun h21 => ?_)
    · replace hf := ite_f h21 hf
      refine lv_aload_n (pc := 26) hx hb dV_undo_26 rfl (lv_at hl 0 rfl) ?_
      obtain ⟨q22, hq22, eq22⟩ := at_6 (ad := ad) (ca := ca) (σ := σ20) hm15
      obtain ⟨⟨y23, σ24⟩, hy23, hf⟩ := ob hf
      have hFc := w9_free hD hS hA
      refine va_callv (pc := 27) (va_runV (As := []) (rest := []) ⟨hx, hb, hml, hown, hts⟩ (t_D_endLoan l dC dI ad ca dom H.size n σ20 j8 hm15 hN hC y23 σ24 hy23) (cwV 0 hts (gV wd_515 wd_516 wd_517 wd_292 wd_514) rfl rfl rfl (by decide +kernel) ⟨Nat.le_of_ble_eq_true rfl, Nat.le_of_ble_eq_true rfl⟩) ⟨hW_blind, va_recv (q := (RD, TD, 5)) (q0 := q22) (ci := 6) hK.1 hP rfl eq22, hW_pre hP hK hD hG⟩ rfl rfl hl.1 rfl (lv_room (Nat.le_of_ble_eq_true rfl)) dV_undo_27 ⟨Nat.le_of_ble_eq_true rfl, Nat.le_of_ble_eq_true rfl⟩) hS (fun q _ h => hFc q h) hFc (fun u t H1 locs ht hvm hr9 hB hz1 hk1 hS => ?_)
      obtain ⟨hP, hD, hC⟩ := hB
      rw [ht] at hP
      replace hD := hD.weaken (fun _ _ _ h => hFc _ h)
      generalize H1 = H at hP hS ⊢
      refine lv_aload_n (pc := 30) hx hb dV_undo_30 rfl (lv_at hl 1 rfl) ?_
      refine lv_iconst (pc := 31) (v := 1) hx hb dV_undo_31 (by decide) ?_
      obtain ⟨q25, hq25, eq25⟩ := at_0 (ad := ad) (ca := ca) (σ := σ24) hm0
      obtain ⟨⟨y26, σ27⟩, hy26, hf⟩ := ob hf
      have hFc := w9_free hD hS hA
      refine va_callv (pc := 32) (va_runV (As := [.int 1]) (rest := []) ⟨hx, hb, hml, hown, hts⟩ (t_V_finish l dC dI ad ca dom H.size n σ24 1 hm0 hN hC y26 σ27 hy26) (cwV 1 hts (gV wd_495 wd_496 wd_497 wd_254 wd_494) rfl rfl rfl (by decide +kernel) ⟨Nat.le_of_ble_eq_true rfl, Nat.le_of_ble_eq_true rfl⟩) ⟨hW_blind, va_recv (q := (RV, TV, 9)) (q0 := q25) (ci := 0) hK.1 hP rfl eq25, hW_pre hP hK hD hG⟩ rfl rfl hl.1 rfl (lv_room (Nat.le_of_ble_eq_true rfl)) dV_undo_32 ⟨Nat.le_of_ble_eq_true rfl, Nat.le_of_ble_eq_true rfl⟩) hS (fun q _ h => hFc q h) hFc (fun u t H1 locs ht hvm hr9 hB hz1 hk1 hS => ?_)
      obtain ⟨hP, hD, hC⟩ := hB
      rw [ht] at hP
      replace hD := hD.weaken (fun _ _ _ h => hFc _ h)
      generalize H1 = H at hP hS ⊢
      refine lv_iconst (pc := 35) (v := 1) hx hb dV_undo_35 (by decide) ?_
      exact nomatch hf
    · replace hf := ite_t h21 hf
      refine lv_iconst (pc := 24) (v := 0) hx hb dV_undo_24 (by decide) ?_
      exact nomatch hf
set_option maxHeartbeats 4000000 in
set_option maxRecDepth 100000 in
theorem x_V_put (l : Launch) (dC : Nat → ClassId) (dI : Nat → Nat → Nat) (ad : Nat → Nat → Nat) (ca : Nat → Nat → ClassId) (dom : List (Nat × Nat)) (sz : Nat) (σ : hT) (a1 : Int32) (a2 : Int32) (a3 : Int32) (a4 : Int32) (hm0 : (0, 0) ∈ dom) (hN : dom.Nodup) (hC : clo dom σ.2.2) (σ' : hT) (hfl : l.stackTraces = false) (hf : V_put σ a1 a2 a3 a4 = some (none, σ')) : tMet l yV_put (.code yV_put cV_put 7 (some .boolean) :: aw) ({ frames := 7, cells := 1, slots := 6, locals := 101 }) (hX (dC, dI) sz ad ca dom σ [.ref (ad 0 0), .int a1, .int a2, .int a3, .int a4]) nIS (va_A (w9 ad ca dom σ) sz) (fun H1 => va_P (dC, dI) kCl (w9 ad ca dom σ') H1 ∧ va_D (va_A (w9 ad ca dom σ) sz) (w9 ad ca dom σ') ∧ clo dom σ'.2.2) := by
  refine tOfW (cc := cV_put) (maxL := 7) (ret := (some .boolean)) (by decide) rfl ?_
  intro p e s m args below meth c s₁ B hml hno hv
  obtain ⟨rfl, hv⟩ := hv
  have hx := B.exec
  have hb := B.bytes
  have hts : ∀ w ∈ aw, w.before _ s = true := fun w h => atoms_spec (ws := (.code yV_put cV_put 7 (some .boolean) :: aw)) B.pre w (List.mem_cons_of_mem _ h)
  have hown : s.vm.findClass RV = some m.cls := findClass_of_methodNamed B.named
  have hlocks := B.notSynchronized
  obtain ⟨hsz, hP, hK, hD0, hG, hE⟩ := hv
  subst hsz
  have hD := hD0.self (sz := s.heap.size)
  generalize hAe : va_A (w9 ad ca dom σ) s.heap.size = A at hD ⊢
  have hA : ∀ q : Nat, s.heap.size ≤ q → A q := fun q h => by rw [← hAe]; exact Or.inr h
  have hSA : ∀ q : Nat, q < s.heap.size → A q → xS ad dom q := fun q h z => by rw [← hAe] at z; exact w9_xS z h
  obtain ⟨H, hH⟩ : ∃ H, H = s.heap := ⟨_, rfl⟩
  have hS : va_S A s.heap H [] := by rw [hH]; exact va_S.rf
  rw [← hH] at hP ⊢
  unfold V_put at hf
  have hl := lv_entry ([.ref (ad 0 0), .int a1, .int a2, .int a3, .int a4]) (n := 7) (Nat.le_of_ble_eq_true rfl)
  rw [lg_entry_eq]
  generalize (lg_sl ([.ref (ad 0 0), .int a1, .int a2, .int a3, .int a4]) ++ List.replicate (7 - (lg_sl ([.ref (ad 0 0), .int a1, .int a2, .int a3, .int a4])).length) Slot.unset).toArray = ls at hl ⊢
  have hl : lv_has ls 7 [(0, .ref (ad 0 0)), (1, .int a1), (2, .int a2), (3, .int a3), (4, .int a4)] := hl
  refine lv_aload_n (pc := 0) hx hb dV_put_0 rfl (lv_at hl 0 rfl) ?_
  obtain ⟨q1, hq1, eq1⟩ := at_0 (ad := ad) (ca := ca) (σ := σ) hm0
  obtain ⟨⟨y2o, σ3⟩, hy2, hf⟩ := ob hf
  rcases y2o with _ | y2
  · have h9 := ex9_x hf
    subst h9
    have hFc := w9_free hD hS hA
    exact tPassV (pc := 1) (As := []) (rest := []) ⟨hx, hb, hml, hown, hts⟩ (x_V_needPower l dC dI ad ca dom H.size σ hm0 hN hC σ3 hfl hy2) (cwV 0 hts (gV wd_499 wd_500 wd_501 wd_254 wd_498) rfl rfl rfl (by decide +kernel) ⟨Nat.le_of_ble_eq_true rfl, Nat.le_of_ble_eq_true rfl⟩) ⟨hX_blind, va_recv (q := (RV, TV, 9)) (q0 := q1) (ci := 0) hK.1 hP rfl eq1, hX_pre hP hK hD hG hE hS hSA⟩ rfl hl.1 rfl (lv_room (Nat.le_of_ble_eq_true rfl)) dV_put_1 ⟨Nat.le_of_ble_eq_true rfl, Nat.le_of_ble_eq_true rfl⟩ hno hlocks hS (fun x h => hFc _ h) (fun H1 h => ⟨h.1, h.2.1.weaken (fun _ _ _ z => hFc _ z), h.2.2⟩)
  replace hf := ex9_s hf
  have hFc := w9_free hD hS hA
  refine va_callv (pc := 1) (va_runV (As := []) (rest := []) ⟨hx, hb, hml, hown, hts⟩ (t_V_needPower l dC dI ad ca dom H.size σ hm0 hN hC y2 σ3 hy2) (cwV 0 hts (gV wd_499 wd_500 wd_501 wd_254 wd_498) rfl rfl rfl (by decide +kernel) ⟨Nat.le_of_ble_eq_true rfl, Nat.le_of_ble_eq_true rfl⟩) ⟨hW_blind, va_recv (q := (RV, TV, 9)) (q0 := q1) (ci := 0) hK.1 hP rfl eq1, hW_pre hP hK hD hG⟩ rfl rfl hl.1 rfl (lv_room (Nat.le_of_ble_eq_true rfl)) dV_put_1 ⟨Nat.le_of_ble_eq_true rfl, Nat.le_of_ble_eq_true rfl⟩) hS (fun q _ h => hFc q h) hFc (fun u t H1 locs ht hvm hr9 hB hz1 hk1 hS => ?_)
  obtain ⟨hP, hD, hC⟩ := hB
  rw [ht] at hP
  replace hD := hD.weaken (fun _ _ _ h => hFc _ h)
  generalize H1 = H at hP hS ⊢
  refine lv_aload_n (pc := 4) hx hb dV_put_4 rfl (lv_at hl 0 rfl) ?_
  refine lv_iload_n (pc := 5) hx hb dV_put_5 rfl (lv_at hl 1 rfl) ?_
  obtain ⟨q4, hq4, eq4⟩ := at_0 (ad := ad) (ca := ca) (σ := σ3) hm0
  obtain ⟨y5, hy5, hf⟩ := ob hf
  refine va_cse (pc := 6) (W.runV (As := [.int a1]) (rest := []) ⟨hx, hb, hml, hown, hts⟩ (t_V_drawingAt l dC dI ad ca dom σ3 a1 hm0 hN hC y5 hy5) (cwV 1 hts (gV wd_317 wd_318 wd_319 wd_254 wd_316) rfl rfl rfl (by decide +kernel) ⟨Nat.le_of_ble_eq_true rfl, Nat.le_of_ble_eq_true rfl⟩) ⟨hR_blind, va_recv (q := (RV, TV, 9)) (q0 := q4) (ci := 0) hK.1 hP rfl eq4, hR_pre hP hK hG⟩ rfl rfl hl.1 rfl (lv_room (Nat.le_of_ble_eq_true rfl)) dV_put_6 ⟨Nat.le_of_ble_eq_true rfl, Nat.le_of_ble_eq_true rfl⟩) (fun r9 hr9 => ?_)
  obtain ⟨hr9, hmy6⟩ := hr9
  refine W.eq (g2 := F0 m 9 ls [va_re (ad 6) y5]) (by rw [hr9]) ?_
  rcases hE7 : y5 with _ | j8
  · replace hf := hq_n hE7 hf
    refine W.eq (g2 := F0 m 9 ls [.null]) rfl ?_
    refine lv_astoreN (pc := 9) hx hb dV_put_9 hl (by decide) rfl (fun ls hl => ?_)
    have hl : lv_has ls 7 [(5, .null), (0, .ref (ad 0 0)), (1, .int a1), (2, .int a2), (3, .int a3), (4, .int a4)] := hl
    refine lv_aload_n (pc := 11) hx hb dV_put_11 rfl (lv_at hl 1 rfl) ?_
    refine lv_aloadN (pc := 12) hx hb dV_put_12 (lv_at hl 0 rfl) ?_
    refine lv_iload_n (pc := 14) hx hb dV_put_14 rfl (lv_at hl 3 rfl) ?_
    obtain ⟨q9, hq9, eq9⟩ := at_0 (ad := ad) (ca := ca) (σ := σ3) hm0
    obtain ⟨y10, hy10, hf⟩ := ob hf
    refine vp_callSi (pc := 15) (W.runV (As := [.null, .int a2]) (rest := []) ⟨hx, hb, hml, hown, hts⟩ (t_V_copyRefusal l dC dI ad ca dom σ3 none a2 hm0 (fun _ z => nomatch z) hN hC y10 hy10) (cwV 2 hts (gV wd_511 wd_512 wd_513 wd_254 wd_510) rfl rfl rfl (by decide +kernel) ⟨Nat.le_of_ble_eq_true rfl, Nat.le_of_ble_eq_true rfl⟩) ⟨hR_blind, va_recv (q := (RV, TV, 9)) (q0 := q9) (ci := 0) hK.1 hP rfl eq9, hR_pre hP hK hG⟩ rfl rfl hl.1 rfl (lv_room (Nat.le_of_ble_eq_true rfl)) dV_put_15 ⟨Nat.le_of_ble_eq_true rfl, Nat.le_of_ble_eq_true rfl⟩) (fun r9 hr9 => ?_)
    refine W.eq (g2 := F0 m 18 ls [.int y10]) (by rw [hr9]) ?_
    refine lv_istore (pc := 18) hx hb dV_put_18 hl (by decide) rfl (fun ls hl => ?_)
    have hl : lv_has ls 7 [(6, .int y10), (5, .null), (0, .ref (ad 0 0)), (1, .int a1), (2, .int a2), (3, .int a3), (4, .int a4)] := hl
    refine lv_iload (pc := 20) hx hb dV_put_20 (lv_at hl 0 rfl) ?_
    obtain ⟨x11, hx11, hf⟩ := lt_9 hf
    refine jnF (τ := (Heap) × (List Loc) × (Array Slot)) (fun pc st z => W p l e _ s m _ below meth c z.1 z.2.1 0 0 _ (F0 m pc z.2.2 st)) (pc0 := 22) (st0 := [.int y10]) (z0 := (H, _, ls)) 54 (fun z => []) (fun z => va_P (dC, dI) kCl (w9 ad ca dom (σ3)) z.1 ∧ va_D A (w9 ad ca dom (σ3)) ∧ va_S A s.heap z.1 z.2.1 ∧ lv_has z.2.2 7 [(6, .int y10), (5, .null), (0, .ref (ad 0 0)), (1, .int a1), (2, .int a2), (3, .int a3), (4, .int a4)]) (fun z => x11) (none, σ') ?_ ?_
    · intro hJx11
      dsimp only at hJx11 ⊢
      refine lv_if_ne (pc := 22) (tgt := 54) hx hb dV_put_22 rfl (fun h12 => ?_) (fun h12 => ?_)
      · replace hf := ite_f h12 hf
        have hl := lv_sub hl (l' := [(6, .int y10), (5, .null), (0, .ref (ad 0 0)), (1, .int a1), (2, .int a2), (3, .int a3), (4, .int a4)]) [0, 1, 2, 3, 4, 5, 6] rfl
        exact hJx11 (H, _, ls) ⟨hP, hD, hS, hl⟩ hf
      · replace hf := ite_t h12 hf
        refine lv_aloadN (pc := 25) hx hb dV_put_25 (lv_at hl 1 rfl) ?_
        exact nomatch hf
    · rintro ⟨H, locs, ls⟩ ⟨hP, hD, hS, hl⟩ hf
      dsimp only at hP hD hS hl hf ⊢
      rw [hx11] at hf
      have hl : lv_has ls 7 [(6, .int y10), (5, .null), (0, .ref (ad 0 0)), (1, .int a1), (2, .int a2), (3, .int a3), (4, .int a4)] := hl
      refine lv_aload_n (pc := 54) hx hb dV_put_54 rfl (lv_at hl 2 rfl) ?_
      refine lv_iload (pc := 55) hx hb dV_put_55 (lv_at hl 0 rfl) ?_
      obtain ⟨q13, hq13, eq13⟩ := at_0 (ad := ad) (ca := ca) (σ := σ3) hm0
      obtain ⟨⟨y14, σ15⟩, hy14, hf⟩ := ob hf
      have hFc := w9_free hD hS hA
      refine va_calli (pc := 57) (va_runV (As := [.int y10]) (rest := []) ⟨hx, hb, hml, hown, hts⟩ (t_V_allowed l dC dI ad ca dom H.size σ3 y10 hm0 hN hC y14 σ15 hy14) (cwV 1 hts (gV wd_483 wd_484 wd_485 wd_254 wd_482) rfl rfl rfl (by decide +kernel) ⟨Nat.le_of_ble_eq_true rfl, Nat.le_of_ble_eq_true rfl⟩) ⟨hW_blind, va_recv (q := (RV, TV, 9)) (q0 := q13) (ci := 0) hK.1 hP rfl eq13, hW_pre hP hK hD hG⟩ rfl rfl hl.1 rfl (lv_room (Nat.le_of_ble_eq_true rfl)) dV_put_57 ⟨Nat.le_of_ble_eq_true rfl, Nat.le_of_ble_eq_true rfl⟩) hS (fun q _ h => hFc q h) hFc (fun r9 u t H1 locs ht hvm hr9 hB hz1 hk1 hS => ?_)
      obtain ⟨hP, hD, hC⟩ := hB
      rw [ht] at hP
      replace hD := hD.weaken (fun _ _ _ h => hFc _ h)
      generalize H1 = H at hP hS ⊢
      refine W.eq (g2 := F0 m 60 ls [.int y14]) (by rw [hr9]) ?_
      refine lv_if_ne (pc := 60) (tgt := 65) hx hb dV_put_60 rfl (fun h16 => ?_) (fun h16 => ?_)
      · replace hf := ite_f h16 hf
        refine lv_aloadN (pc := 65) hx hb dV_put_65 (lv_at hl 1 rfl) ?_
        exact nomatch hf
      · replace hf := ite_t h16 hf
        refine lv_iconst (pc := 63) (v := 0) hx hb dV_put_63 (by decide) ?_
        exact nomatch hf
  · replace hf := hq_s hE7 hf
    have hm17 : (6, j8) ∈ dom := (hmy6 _ hE7)
    refine W.eq (g2 := F0 m 9 ls [.ref (ad 6 j8)]) rfl ?_
    refine lv_astore (pc := 9) hx hb dV_put_9 hl (by decide) rfl (fun ls hl => ?_)
    have hl : lv_has ls 7 [(5, .ref (ad 6 j8)), (0, .ref (ad 0 0)), (1, .int a1), (2, .int a2), (3, .int a3), (4, .int a4)] := hl
    refine lv_aload_n (pc := 11) hx hb dV_put_11 rfl (lv_at hl 1 rfl) ?_
    refine lv_aload (pc := 12) hx hb dV_put_12 (lv_at hl 0 rfl) ?_
    refine lv_iload_n (pc := 14) hx hb dV_put_14 rfl (lv_at hl 3 rfl) ?_
    obtain ⟨q18, hq18, eq18⟩ := at_0 (ad := ad) (ca := ca) (σ := σ3) hm0
    obtain ⟨y19, hy19, hf⟩ := ob hf
    refine vp_callSi (pc := 15) (W.runV (As := [.ref (ad 6 j8), .int a2]) (rest := []) ⟨hx, hb, hml, hown, hts⟩ (t_V_copyRefusal l dC dI ad ca dom σ3 (some j8) a2 hm0 (fun _ z => Option.some.inj z ▸ hm17) hN hC y19 hy19) (cwV 2 hts (gV wd_511 wd_512 wd_513 wd_254 wd_510) rfl rfl rfl (by decide +kernel) ⟨Nat.le_of_ble_eq_true rfl, Nat.le_of_ble_eq_true rfl⟩) ⟨hR_blind, va_recv (q := (RV, TV, 9)) (q0 := q18) (ci := 0) hK.1 hP rfl eq18, hR_pre hP hK hG⟩ rfl rfl hl.1 rfl (lv_room (Nat.le_of_ble_eq_true rfl)) dV_put_15 ⟨Nat.le_of_ble_eq_true rfl, Nat.le_of_ble_eq_true rfl⟩) (fun r9 hr9 => ?_)
    refine W.eq (g2 := F0 m 18 ls [.int y19]) (by rw [hr9]) ?_
    refine lv_istore (pc := 18) hx hb dV_put_18 hl (by decide) rfl (fun ls hl => ?_)
    have hl : lv_has ls 7 [(6, .int y19), (5, .ref (ad 6 j8)), (0, .ref (ad 0 0)), (1, .int a1), (2, .int a2), (3, .int a3), (4, .int a4)] := hl
    refine lv_iload (pc := 20) hx hb dV_put_20 (lv_at hl 0 rfl) ?_
    obtain ⟨x20, hx20, hf⟩ := lt_9 hf
    refine jnF (τ := (Int32) × (Heap) × (List Loc) × (Array Slot)) (fun pc st z => W p l e _ s m _ below meth c z.2.1 z.2.2.1 0 0 _ (F0 m pc z.2.2.2 st)) (pc0 := 22) (st0 := [.int y19]) (z0 := (0, H, _, ls)) 54 (fun z => []) (fun z => va_P (dC, dI) kCl (w9 ad ca dom (σ3)) z.2.1 ∧ va_D A (w9 ad ca dom (σ3)) ∧ va_S A s.heap z.2.1 z.2.2.1 ∧ lv_has z.2.2.2 7 [(6, .int z.1), (5, .ref (ad 6 j8)), (0, .ref (ad 0 0)), (1, .int a1), (2, .int a2), (3, .int a3), (4, .int a4)]) (fun z => x20 z.1) (none, σ') ?_ ?_
    · intro hJx20
      dsimp only at hJx20 ⊢
      refine lv_if_ne (pc := 22) (tgt := 54) hx hb dV_put_22 rfl (fun h22 => ?_) (fun h22 => ?_)
      · replace hf := ite_f h22 hf
        have hl := lv_sub hl (l' := [(6, .int y19), (5, .ref (ad 6 j8)), (0, .ref (ad 0 0)), (1, .int a1), (2, .int a2), (3, .int a3), (4, .int a4)]) [0, 1, 2, 3, 4, 5, 6] rfl
        exact hJx20 (y19, H, _, ls) ⟨hP, hD, hS, hl⟩ hf
      · replace hf := ite_t h22 hf
        refine lv_aload (pc := 25) hx hb dV_put_25 (lv_at hl 1 rfl) ?_
        obtain ⟨q23, hq23, eq23⟩ := at_6 (ad := ad) (ca := ca) (σ := σ3) hm17
        refine va_get (D := (dC, dI)) (cl := kCl) (C := RD) (T := TD) (N := 5) (pc := 27) hx hb hts inD hown hK.1 hP q23 eq23 rfl 3 (by decide) (hts _ wd_368) (fun _ h9 => h9) rfl dV_put_27 ?_
        refine lv_iload_n (pc := 30) hx hb dV_put_30 rfl (lv_at hl 5 rfl) ?_
        obtain ⟨q24, hq24, eq24⟩ := at_5 (ad := ad) (ca := ca) (σ := σ3) (cm_6_3 hC hm17)
        refine vp_callSi (pc := 31) (W.runV (As := [.int a3]) (rest := []) ⟨hx, hb, hml, hown, hts⟩ (t_C_hasByte l dC dI ad ca dom σ3 (3 * j8) a3 (cm_6_3 hC hm17) hN hC (C_hasByte σ3 (3 * j8) a3) rfl) (cwV 1 hts (gV wd_519 wd_520 wd_521 wd_228 wd_518) rfl rfl rfl (by decide +kernel) ⟨Nat.le_of_ble_eq_true rfl, Nat.le_of_ble_eq_true rfl⟩) ⟨hR_blind, va_recv (q := (RC, TC, 5)) (q0 := q24) (ci := 5) hK.1 hP rfl eq24, hR_pre hP hK hG⟩ rfl rfl hl.1 rfl (lv_room (Nat.le_of_ble_eq_true rfl)) dV_put_31 ⟨Nat.le_of_ble_eq_true rfl, Nat.le_of_ble_eq_true rfl⟩) (fun r9 hr9 => ?_)
        refine W.eq (g2 := F0 m 34 ls [.int (C_hasByte σ3 (3 * j8) a3)]) (by rw [hr9]) ?_
        refine lv_if_eq (pc := 34) (tgt := 50) hx hb dV_put_34 rfl (fun h25 => ?_) (fun h25 => ?_)
        · replace hf := ite_t h25 hf
          refine lv_bipush (pc := 50) (v := 7) hx hb dV_put_50 (by decide) ?_
          refine lv_istore (pc := 52) hx hb dV_put_52 hl (by decide) rfl (fun ls hl => ?_)
          have hl : lv_has ls 7 [(6, .int 7), (5, .ref (ad 6 j8)), (0, .ref (ad 0 0)), (1, .int a1), (2, .int a2), (3, .int a3), (4, .int a4)] := hl
          have hl := lv_sub hl (l' := [(6, .int 7), (5, .ref (ad 6 j8)), (0, .ref (ad 0 0)), (1, .int a1), (2, .int a2), (3, .int a3), (4, .int a4)]) [0, 1, 2, 3, 4, 5, 6] rfl
          exact hJx20 (7, H, _, ls) ⟨hP, hD, hS, hl⟩ hf
        · replace hf := ite_f h25 hf
          refine lv_iload (pc := 37) hx hb dV_put_37 (lv_at hl 6 rfl) ?_
          refine lv_if_lt (pc := 39) (tgt := 50) hx hb dV_put_39 rfl (fun h26 => ?_) (fun h26 => ?_)
          · replace hf := ite_t h26 hf
            refine lv_bipush (pc := 50) (v := 7) hx hb dV_put_50 (by decide) ?_
            refine lv_istore (pc := 52) hx hb dV_put_52 hl (by decide) rfl (fun ls hl => ?_)
            have hl : lv_has ls 7 [(6, .int 7), (5, .ref (ad 6 j8)), (0, .ref (ad 0 0)), (1, .int a1), (2, .int a2), (3, .int a3), (4, .int a4)] := hl
            have hl := lv_sub hl (l' := [(6, .int 7), (5, .ref (ad 6 j8)), (0, .ref (ad 0 0)), (1, .int a1), (2, .int a2), (3, .int a3), (4, .int a4)]) [0, 1, 2, 3, 4, 5, 6] rfl
            exact hJx20 (7, H, _, ls) ⟨hP, hD, hS, hl⟩ hf
          · replace hf := ite_f h26 hf
            refine lv_iload (pc := 42) hx hb dV_put_42 (lv_at hl 6 rfl) ?_
            refine lv_sipush (pc := 44) (v := 255) hx hb dV_put_44 (by decide) ?_
            refine lv_icmp_le (pc := 47) (tgt := 54) hx hb dV_put_47 rfl (fun h27 => ?_) (fun h27 => ?_)
            · replace hf := ite_t h27 hf
              have hl := lv_sub hl (l' := [(6, .int y19), (5, .ref (ad 6 j8)), (0, .ref (ad 0 0)), (1, .int a1), (2, .int a2), (3, .int a3), (4, .int a4)]) [0, 1, 2, 3, 4, 5, 6] rfl
              exact hJx20 (y19, H, _, ls) ⟨hP, hD, hS, hl⟩ hf
            · replace hf := ite_f h27 hf
              refine lv_bipush (pc := 50) (v := 7) hx hb dV_put_50 (by decide) ?_
              refine lv_istore (pc := 52) hx hb dV_put_52 hl (by decide) rfl (fun ls hl => ?_)
              have hl : lv_has ls 7 [(6, .int 7), (5, .ref (ad 6 j8)), (0, .ref (ad 0 0)), (1, .int a1), (2, .int a2), (3, .int a3), (4, .int a4)] := hl
              have hl := lv_sub hl (l' := [(6, .int 7), (5, .ref (ad 6 j8)), (0, .ref (ad 0 0)), (1, .int a1), (2, .int a2), (3, .int a3), (4, .int a4)]) [0, 1, 2, 3, 4, 5, 6] rfl
              exact hJx20 (7, H, _, ls) ⟨hP, hD, hS, hl⟩ hf
    · rintro ⟨q21, H, locs, ls⟩ ⟨hP, hD, hS, hl⟩ hf
      dsimp only at hP hD hS hl hf ⊢
      rw [hx20] at hf
      have hl : lv_has ls 7 [(6, .int q21), (5, .ref (ad 6 j8)), (0, .ref (ad 0 0)), (1, .int a1), (2, .int a2), (3, .int a3), (4, .int a4)] := hl
      refine lv_aload_n (pc := 54) hx hb dV_put_54 rfl (lv_at hl 2 rfl) ?_
      refine lv_iload (pc := 55) hx hb dV_put_55 (lv_at hl 0 rfl) ?_
      obtain ⟨q28, hq28, eq28⟩ := at_0 (ad := ad) (ca := ca) (σ := σ3) hm0
      obtain ⟨⟨y29, σ30⟩, hy29, hf⟩ := ob hf
      have hFc := w9_free hD hS hA
      refine va_calli (pc := 57) (va_runV (As := [.int q21]) (rest := []) ⟨hx, hb, hml, hown, hts⟩ (t_V_allowed l dC dI ad ca dom H.size σ3 q21 hm0 hN hC y29 σ30 hy29) (cwV 1 hts (gV wd_483 wd_484 wd_485 wd_254 wd_482) rfl rfl rfl (by decide +kernel) ⟨Nat.le_of_ble_eq_true rfl, Nat.le_of_ble_eq_true rfl⟩) ⟨hW_blind, va_recv (q := (RV, TV, 9)) (q0 := q28) (ci := 0) hK.1 hP rfl eq28, hW_pre hP hK hD hG⟩ rfl rfl hl.1 rfl (lv_room (Nat.le_of_ble_eq_true rfl)) dV_put_57 ⟨Nat.le_of_ble_eq_true rfl, Nat.le_of_ble_eq_true rfl⟩) hS (fun q _ h => hFc q h) hFc (fun r9 u t H1 locs ht hvm hr9 hB hz1 hk1 hS => ?_)
      obtain ⟨hP, hD, hC⟩ := hB
      rw [ht] at hP
      replace hD := hD.weaken (fun _ _ _ h => hFc _ h)
      generalize H1 = H at hP hS ⊢
      refine W.eq (g2 := F0 m 60 ls [.int y29]) (by rw [hr9]) ?_
      refine lv_if_ne (pc := 60) (tgt := 65) hx hb dV_put_60 rfl (fun h31 => ?_) (fun h31 => ?_)
      · replace hf := ite_f h31 hf
        refine lv_aload (pc := 65) hx hb dV_put_65 (lv_at hl 1 rfl) ?_
        obtain ⟨q32, hq32, eq32⟩ := at_6 (ad := ad) (ca := ca) (σ := σ30) hm17
        refine va_get (D := (dC, dI)) (cl := kCl) (C := RD) (T := TD) (N := 5) (pc := 67) hx hb hts inD hown hK.1 hP q32 eq32 rfl 3 (by decide) (hts _ wd_368) (fun _ h9 => h9) rfl dV_put_67 ?_
        refine lv_iload_n (pc := 70) hx hb dV_put_70 rfl (lv_at hl 5 rfl) ?_
        refine lv_iload (pc := 71) hx hb dV_put_71 (lv_at hl 6 rfl) ?_
        obtain ⟨q33, hq33, eq33⟩ := at_5 (ad := ad) (ca := ca) (σ := σ30) (cm_6_3 hC hm17)
        obtain ⟨⟨y34, σ35⟩, hy34, hf⟩ := ob hf
        have hFc := w9_free hD hS hA
        refine va_callv (pc := 73) (va_runV (As := [.int a3, .int a4]) (rest := []) ⟨hx, hb, hml, hown, hts⟩ (t_C_setByte l dC dI ad ca dom H.size σ30 (3 * j8) a3 a4 (cm_6_3 hC hm17) hN hC y34 σ35 hy34) (cwV 2 hts (gV wd_522 wd_233 wd_234 wd_228 wd_231) rfl rfl rfl (by decide +kernel) ⟨Nat.le_of_ble_eq_true rfl, Nat.le_of_ble_eq_true rfl⟩) ⟨hW_blind, va_recv (q := (RC, TC, 5)) (q0 := q33) (ci := 5) hK.1 hP rfl eq33, hW_pre hP hK hD hG⟩ rfl rfl hl.1 rfl (lv_room (Nat.le_of_ble_eq_true rfl)) dV_put_73 ⟨Nat.le_of_ble_eq_true rfl, Nat.le_of_ble_eq_true rfl⟩) hS (fun q _ h => hFc q h) hFc (fun u t H1 locs ht hvm hr9 hB hz1 hk1 hS => ?_)
        obtain ⟨hP, hD, hC⟩ := hB
        rw [ht] at hP
        replace hD := hD.weaken (fun _ _ _ h => hFc _ h)
        generalize H1 = H at hP hS ⊢
        refine lv_iconst (pc := 76) (v := 1) hx hb dV_put_76 (by decide) ?_
        exact nomatch hf
      · replace hf := ite_t h31 hf
        refine lv_iconst (pc := 63) (v := 0) hx hb dV_put_63 (by decide) ?_
        exact nomatch hf
set_option maxHeartbeats 4000000 in
set_option maxRecDepth 100000 in
theorem x_V_resize (l : Launch) (dC : Nat → ClassId) (dI : Nat → Nat → Nat) (ad : Nat → Nat → Nat) (ca : Nat → Nat → ClassId) (dom : List (Nat × Nat)) (sz : Nat) (n : Nat) (σ : hT) (a1 : Int32) (a2 : Int32) (a3 : Int32) (hm0 : (0, 0) ∈ dom) (hN : dom.Nodup) (hC : clo dom σ.2.2) (σ' : hT) (hfl : l.stackTraces = false) (hf : V_resize n σ a1 a2 a3 = some (none, σ')) : tMet l yV_resize (.code yV_resize cV_resize 6 (some .boolean) :: aw) ({ frames := 7, cells := 1, slots := 6, locals := 101 }) (hX (dC, dI) sz ad ca dom σ [.ref (ad 0 0), .int a1, .int a2, .int a3]) nIS (va_A (w9 ad ca dom σ) sz) (fun H1 => va_P (dC, dI) kCl (w9 ad ca dom σ') H1 ∧ va_D (va_A (w9 ad ca dom σ) sz) (w9 ad ca dom σ') ∧ clo dom σ'.2.2) := by
  refine tOfW (cc := cV_resize) (maxL := 6) (ret := (some .boolean)) (by decide) rfl ?_
  intro p e s m args below meth c s₁ B hml hno hv
  obtain ⟨rfl, hv⟩ := hv
  have hx := B.exec
  have hb := B.bytes
  have hts : ∀ w ∈ aw, w.before _ s = true := fun w h => atoms_spec (ws := (.code yV_resize cV_resize 6 (some .boolean) :: aw)) B.pre w (List.mem_cons_of_mem _ h)
  have hown : s.vm.findClass RV = some m.cls := findClass_of_methodNamed B.named
  have hlocks := B.notSynchronized
  obtain ⟨hsz, hP, hK, hD0, hG, hE⟩ := hv
  subst hsz
  have hD := hD0.self (sz := s.heap.size)
  generalize hAe : va_A (w9 ad ca dom σ) s.heap.size = A at hD ⊢
  have hA : ∀ q : Nat, s.heap.size ≤ q → A q := fun q h => by rw [← hAe]; exact Or.inr h
  have hSA : ∀ q : Nat, q < s.heap.size → A q → xS ad dom q := fun q h z => by rw [← hAe] at z; exact w9_xS z h
  obtain ⟨H, hH⟩ : ∃ H, H = s.heap := ⟨_, rfl⟩
  have hS : va_S A s.heap H [] := by rw [hH]; exact va_S.rf
  rw [← hH] at hP ⊢
  unfold V_resize at hf
  have hl := lv_entry ([.ref (ad 0 0), .int a1, .int a2, .int a3]) (n := 6) (Nat.le_of_ble_eq_true rfl)
  rw [lg_entry_eq]
  generalize (lg_sl ([.ref (ad 0 0), .int a1, .int a2, .int a3]) ++ List.replicate (6 - (lg_sl ([.ref (ad 0 0), .int a1, .int a2, .int a3])).length) Slot.unset).toArray = ls at hl ⊢
  have hl : lv_has ls 6 [(0, .ref (ad 0 0)), (1, .int a1), (2, .int a2), (3, .int a3)] := hl
  refine lv_aload_n (pc := 0) hx hb dV_resize_0 rfl (lv_at hl 0 rfl) ?_
  obtain ⟨q1, hq1, eq1⟩ := at_0 (ad := ad) (ca := ca) (σ := σ) hm0
  obtain ⟨⟨y2o, σ3⟩, hy2, hf⟩ := ob hf
  rcases y2o with _ | y2
  · have h9 := ex9_x hf
    subst h9
    have hFc := w9_free hD hS hA
    exact tPassV (pc := 1) (As := []) (rest := []) ⟨hx, hb, hml, hown, hts⟩ (x_V_needPower l dC dI ad ca dom H.size σ hm0 hN hC σ3 hfl hy2) (cwV 0 hts (gV wd_499 wd_500 wd_501 wd_254 wd_498) rfl rfl rfl (by decide +kernel) ⟨Nat.le_of_ble_eq_true rfl, Nat.le_of_ble_eq_true rfl⟩) ⟨hX_blind, va_recv (q := (RV, TV, 9)) (q0 := q1) (ci := 0) hK.1 hP rfl eq1, hX_pre hP hK hD hG hE hS hSA⟩ rfl hl.1 rfl (lv_room (Nat.le_of_ble_eq_true rfl)) dV_resize_1 ⟨Nat.le_of_ble_eq_true rfl, Nat.le_of_ble_eq_true rfl⟩ hno hlocks hS (fun x h => hFc _ h) (fun H1 h => ⟨h.1, h.2.1.weaken (fun _ _ _ z => hFc _ z), h.2.2⟩)
  replace hf := ex9_s hf
  have hFc := w9_free hD hS hA
  refine va_callv (pc := 1) (va_runV (As := []) (rest := []) ⟨hx, hb, hml, hown, hts⟩ (t_V_needPower l dC dI ad ca dom H.size σ hm0 hN hC y2 σ3 hy2) (cwV 0 hts (gV wd_499 wd_500 wd_501 wd_254 wd_498) rfl rfl rfl (by decide +kernel) ⟨Nat.le_of_ble_eq_true rfl, Nat.le_of_ble_eq_true rfl⟩) ⟨hW_blind, va_recv (q := (RV, TV, 9)) (q0 := q1) (ci := 0) hK.1 hP rfl eq1, hW_pre hP hK hD hG⟩ rfl rfl hl.1 rfl (lv_room (Nat.le_of_ble_eq_true rfl)) dV_resize_1 ⟨Nat.le_of_ble_eq_true rfl, Nat.le_of_ble_eq_true rfl⟩) hS (fun q _ h => hFc q h) hFc (fun u t H1 locs ht hvm hr9 hB hz1 hk1 hS => ?_)
  obtain ⟨hP, hD, hC⟩ := hB
  rw [ht] at hP
  replace hD := hD.weaken (fun _ _ _ h => hFc _ h)
  generalize H1 = H at hP hS ⊢
  refine lv_aload_n (pc := 4) hx hb dV_resize_4 rfl (lv_at hl 0 rfl) ?_
  refine lv_iload_n (pc := 5) hx hb dV_resize_5 rfl (lv_at hl 1 rfl) ?_
  obtain ⟨q4, hq4, eq4⟩ := at_0 (ad := ad) (ca := ca) (σ := σ3) hm0
  obtain ⟨y5, hy5, hf⟩ := ob hf
  refine va_cse (pc := 6) (W.runV (As := [.int a1]) (rest := []) ⟨hx, hb, hml, hown, hts⟩ (t_V_drawingAt l dC dI ad ca dom σ3 a1 hm0 hN hC y5 hy5) (cwV 1 hts (gV wd_317 wd_318 wd_319 wd_254 wd_316) rfl rfl rfl (by decide +kernel) ⟨Nat.le_of_ble_eq_true rfl, Nat.le_of_ble_eq_true rfl⟩) ⟨hR_blind, va_recv (q := (RV, TV, 9)) (q0 := q4) (ci := 0) hK.1 hP rfl eq4, hR_pre hP hK hG⟩ rfl rfl hl.1 rfl (lv_room (Nat.le_of_ble_eq_true rfl)) dV_resize_6 ⟨Nat.le_of_ble_eq_true rfl, Nat.le_of_ble_eq_true rfl⟩) (fun r9 hr9 => ?_)
  obtain ⟨hr9, hmy6⟩ := hr9
  refine W.eq (g2 := F0 m 9 ls [va_re (ad 6) y5]) (by rw [hr9]) ?_
  rcases hE7 : y5 with _ | j8
  · replace hf := hq_n hE7 hf
    refine W.eq (g2 := F0 m 9 ls [.null]) rfl ?_
    refine lv_astoreN (pc := 9) hx hb dV_resize_9 hl (by decide) rfl (fun ls hl => ?_)
    have hl : lv_has ls 6 [(4, .null), (0, .ref (ad 0 0)), (1, .int a1), (2, .int a2), (3, .int a3)] := hl
    refine lv_aload_n (pc := 11) hx hb dV_resize_11 rfl (lv_at hl 1 rfl) ?_
    refine lv_aloadN (pc := 12) hx hb dV_resize_12 (lv_at hl 0 rfl) ?_
    refine lv_iload_n (pc := 14) hx hb dV_resize_14 rfl (lv_at hl 3 rfl) ?_
    obtain ⟨q9, hq9, eq9⟩ := at_0 (ad := ad) (ca := ca) (σ := σ3) hm0
    obtain ⟨y10, hy10, hf⟩ := ob hf
    refine vp_callSi (pc := 15) (W.runV (As := [.null, .int a2]) (rest := []) ⟨hx, hb, hml, hown, hts⟩ (t_V_copyRefusal l dC dI ad ca dom σ3 none a2 hm0 (fun _ z => nomatch z) hN hC y10 hy10) (cwV 2 hts (gV wd_511 wd_512 wd_513 wd_254 wd_510) rfl rfl rfl (by decide +kernel) ⟨Nat.le_of_ble_eq_true rfl, Nat.le_of_ble_eq_true rfl⟩) ⟨hR_blind, va_recv (q := (RV, TV, 9)) (q0 := q9) (ci := 0) hK.1 hP rfl eq9, hR_pre hP hK hG⟩ rfl rfl hl.1 rfl (lv_room (Nat.le_of_ble_eq_true rfl)) dV_resize_15 ⟨Nat.le_of_ble_eq_true rfl, Nat.le_of_ble_eq_true rfl⟩) (fun r9 hr9 => ?_)
    refine W.eq (g2 := F0 m 18 ls [.int y10]) (by rw [hr9]) ?_
    refine lv_istore (pc := 18) hx hb dV_resize_18 hl (by decide) rfl (fun ls hl => ?_)
    have hl : lv_has ls 6 [(5, .int y10), (4, .null), (0, .ref (ad 0 0)), (1, .int a1), (2, .int a2), (3, .int a3)] := hl
    refine lv_iload (pc := 20) hx hb dV_resize_20 (lv_at hl 0 rfl) ?_
    obtain ⟨x11, hx11, hf⟩ := lt_9 hf
    refine jnF (τ := (Int32) × (Heap) × (List Loc) × (Array Slot)) (fun pc st z => W p l e _ s m _ below meth c z.2.1 z.2.2.1 0 0 _ (F0 m pc z.2.2.2 st)) (pc0 := 22) (st0 := [.int y10]) (z0 := (0, H, _, ls)) 39 (fun z => []) (fun z => va_P (dC, dI) kCl (w9 ad ca dom (σ3)) z.2.1 ∧ va_D A (w9 ad ca dom (σ3)) ∧ va_S A s.heap z.2.1 z.2.2.1 ∧ lv_has z.2.2.2 6 [(5, .int z.1), (4, .null), (0, .ref (ad 0 0)), (1, .int a1), (2, .int a2), (3, .int a3)]) (fun z => x11 z.1) (none, σ') ?_ ?_
    · intro hJx11
      dsimp only at hJx11 ⊢
      refine lv_if_ne (pc := 22) (tgt := 39) hx hb dV_resize_22 rfl (fun h13 => ?_) (fun h13 => ?_)
      · replace hf := ite_f h13 hf
        have hl := lv_sub hl (l' := [(5, .int y10), (4, .null), (0, .ref (ad 0 0)), (1, .int a1), (2, .int a2), (3, .int a3)]) [0, 1, 2, 3, 4, 5] rfl
        exact hJx11 (y10, H, _, ls) ⟨hP, hD, hS, hl⟩ hf
      · replace hf := ite_t h13 hf
        refine lv_iload_n (pc := 25) hx hb dV_resize_25 rfl (lv_at hl 5 rfl) ?_
        refine lv_if_lt (pc := 26) (tgt := 35) hx hb dV_resize_26 rfl (fun h14 => ?_) (fun h14 => ?_)
        · replace hf := ite_t h14 hf
          refine lv_bipush (pc := 35) (v := 7) hx hb dV_resize_35 (by decide) ?_
          refine lv_istore (pc := 37) hx hb dV_resize_37 hl (by decide) rfl (fun ls hl => ?_)
          have hl : lv_has ls 6 [(5, .int 7), (4, .null), (0, .ref (ad 0 0)), (1, .int a1), (2, .int a2), (3, .int a3)] := hl
          have hl := lv_sub hl (l' := [(5, .int 7), (4, .null), (0, .ref (ad 0 0)), (1, .int a1), (2, .int a2), (3, .int a3)]) [0, 1, 2, 3, 4, 5] rfl
          exact hJx11 (7, H, _, ls) ⟨hP, hD, hS, hl⟩ hf
        · replace hf := ite_f h14 hf
          refine lv_iload_n (pc := 29) hx hb dV_resize_29 rfl (lv_at hl 5 rfl) ?_
          refine lv_bipush (pc := 30) (v := 64) hx hb dV_resize_30 (by decide) ?_
          refine lv_icmp_le (pc := 32) (tgt := 39) hx hb dV_resize_32 rfl (fun h15 => ?_) (fun h15 => ?_)
          · replace hf := ite_t h15 hf
            have hl := lv_sub hl (l' := [(5, .int y10), (4, .null), (0, .ref (ad 0 0)), (1, .int a1), (2, .int a2), (3, .int a3)]) [0, 1, 2, 3, 4, 5] rfl
            exact hJx11 (y10, H, _, ls) ⟨hP, hD, hS, hl⟩ hf
          · replace hf := ite_f h15 hf
            refine lv_bipush (pc := 35) (v := 7) hx hb dV_resize_35 (by decide) ?_
            refine lv_istore (pc := 37) hx hb dV_resize_37 hl (by decide) rfl (fun ls hl => ?_)
            have hl : lv_has ls 6 [(5, .int 7), (4, .null), (0, .ref (ad 0 0)), (1, .int a1), (2, .int a2), (3, .int a3)] := hl
            have hl := lv_sub hl (l' := [(5, .int 7), (4, .null), (0, .ref (ad 0 0)), (1, .int a1), (2, .int a2), (3, .int a3)]) [0, 1, 2, 3, 4, 5] rfl
            exact hJx11 (7, H, _, ls) ⟨hP, hD, hS, hl⟩ hf
    · rintro ⟨q12, H, locs, ls⟩ ⟨hP, hD, hS, hl⟩ hf
      dsimp only at hP hD hS hl hf ⊢
      rw [hx11] at hf
      have hl : lv_has ls 6 [(5, .int q12), (4, .null), (0, .ref (ad 0 0)), (1, .int a1), (2, .int a2), (3, .int a3)] := hl
      refine lv_aload_n (pc := 39) hx hb dV_resize_39 rfl (lv_at hl 2 rfl) ?_
      refine lv_iload (pc := 40) hx hb dV_resize_40 (lv_at hl 0 rfl) ?_
      obtain ⟨q16, hq16, eq16⟩ := at_0 (ad := ad) (ca := ca) (σ := σ3) hm0
      obtain ⟨⟨y17, σ18⟩, hy17, hf⟩ := ob hf
      have hFc := w9_free hD hS hA
      refine va_calli (pc := 42) (va_runV (As := [.int q12]) (rest := []) ⟨hx, hb, hml, hown, hts⟩ (t_V_allowed l dC dI ad ca dom H.size σ3 q12 hm0 hN hC y17 σ18 hy17) (cwV 1 hts (gV wd_483 wd_484 wd_485 wd_254 wd_482) rfl rfl rfl (by decide +kernel) ⟨Nat.le_of_ble_eq_true rfl, Nat.le_of_ble_eq_true rfl⟩) ⟨hW_blind, va_recv (q := (RV, TV, 9)) (q0 := q16) (ci := 0) hK.1 hP rfl eq16, hW_pre hP hK hD hG⟩ rfl rfl hl.1 rfl (lv_room (Nat.le_of_ble_eq_true rfl)) dV_resize_42 ⟨Nat.le_of_ble_eq_true rfl, Nat.le_of_ble_eq_true rfl⟩) hS (fun q _ h => hFc q h) hFc (fun r9 u t H1 locs ht hvm hr9 hB hz1 hk1 hS => ?_)
      obtain ⟨hP, hD, hC⟩ := hB
      rw [ht] at hP
      replace hD := hD.weaken (fun _ _ _ h => hFc _ h)
      generalize H1 = H at hP hS ⊢
      refine W.eq (g2 := F0 m 45 ls [.int y17]) (by rw [hr9]) ?_
      refine lv_if_ne (pc := 45) (tgt := 50) hx hb dV_resize_45 rfl (fun h19 => ?_) (fun h19 => ?_)
      · replace hf := ite_f h19 hf
        refine lv_aloadN (pc := 50) hx hb dV_resize_50 (lv_at hl 1 rfl) ?_
        exact nomatch hf
      · replace hf := ite_t h19 hf
        refine lv_iconst (pc := 48) (v := 0) hx hb dV_resize_48 (by decide) ?_
        exact nomatch hf
  · replace hf := hq_s hE7 hf
    have hm20 : (6, j8) ∈ dom := (hmy6 _ hE7)
    refine W.eq (g2 := F0 m 9 ls [.ref (ad 6 j8)]) rfl ?_
    refine lv_astore (pc := 9) hx hb dV_resize_9 hl (by decide) rfl (fun ls hl => ?_)
    have hl : lv_has ls 6 [(4, .ref (ad 6 j8)), (0, .ref (ad 0 0)), (1, .int a1), (2, .int a2), (3, .int a3)] := hl
    refine lv_aload_n (pc := 11) hx hb dV_resize_11 rfl (lv_at hl 1 rfl) ?_
    refine lv_aload (pc := 12) hx hb dV_resize_12 (lv_at hl 0 rfl) ?_
    refine lv_iload_n (pc := 14) hx hb dV_resize_14 rfl (lv_at hl 3 rfl) ?_
    obtain ⟨q21, hq21, eq21⟩ := at_0 (ad := ad) (ca := ca) (σ := σ3) hm0
    obtain ⟨y22, hy22, hf⟩ := ob hf
    refine vp_callSi (pc := 15) (W.runV (As := [.ref (ad 6 j8), .int a2]) (rest := []) ⟨hx, hb, hml, hown, hts⟩ (t_V_copyRefusal l dC dI ad ca dom σ3 (some j8) a2 hm0 (fun _ z => Option.some.inj z ▸ hm20) hN hC y22 hy22) (cwV 2 hts (gV wd_511 wd_512 wd_513 wd_254 wd_510) rfl rfl rfl (by decide +kernel) ⟨Nat.le_of_ble_eq_true rfl, Nat.le_of_ble_eq_true rfl⟩) ⟨hR_blind, va_recv (q := (RV, TV, 9)) (q0 := q21) (ci := 0) hK.1 hP rfl eq21, hR_pre hP hK hG⟩ rfl rfl hl.1 rfl (lv_room (Nat.le_of_ble_eq_true rfl)) dV_resize_15 ⟨Nat.le_of_ble_eq_true rfl, Nat.le_of_ble_eq_true rfl⟩) (fun r9 hr9 => ?_)
    refine W.eq (g2 := F0 m 18 ls [.int y22]) (by rw [hr9]) ?_
    refine lv_istore (pc := 18) hx hb dV_resize_18 hl (by decide) rfl (fun ls hl => ?_)
    have hl : lv_has ls 6 [(5, .int y22), (4, .ref (ad 6 j8)), (0, .ref (ad 0 0)), (1, .int a1), (2, .int a2), (3, .int a3)] := hl
    refine lv_iload (pc := 20) hx hb dV_resize_20 (lv_at hl 0 rfl) ?_
    obtain ⟨x23, hx23, hf⟩ := lt_9 hf
    refine jnF (τ := (Int32) × (Heap) × (List Loc) × (Array Slot)) (fun pc st z => W p l e _ s m _ below meth c z.2.1 z.2.2.1 0 0 _ (F0 m pc z.2.2.2 st)) (pc0 := 22) (st0 := [.int y22]) (z0 := (0, H, _, ls)) 39 (fun z => []) (fun z => va_P (dC, dI) kCl (w9 ad ca dom (σ3)) z.2.1 ∧ va_D A (w9 ad ca dom (σ3)) ∧ va_S A s.heap z.2.1 z.2.2.1 ∧ lv_has z.2.2.2 6 [(5, .int z.1), (4, .ref (ad 6 j8)), (0, .ref (ad 0 0)), (1, .int a1), (2, .int a2), (3, .int a3)]) (fun z => x23 z.1) (none, σ') ?_ ?_
    · intro hJx23
      dsimp only at hJx23 ⊢
      refine lv_if_ne (pc := 22) (tgt := 39) hx hb dV_resize_22 rfl (fun h25 => ?_) (fun h25 => ?_)
      · replace hf := ite_f h25 hf
        have hl := lv_sub hl (l' := [(5, .int y22), (4, .ref (ad 6 j8)), (0, .ref (ad 0 0)), (1, .int a1), (2, .int a2), (3, .int a3)]) [0, 1, 2, 3, 4, 5] rfl
        exact hJx23 (y22, H, _, ls) ⟨hP, hD, hS, hl⟩ hf
      · replace hf := ite_t h25 hf
        refine lv_iload_n (pc := 25) hx hb dV_resize_25 rfl (lv_at hl 5 rfl) ?_
        refine lv_if_lt (pc := 26) (tgt := 35) hx hb dV_resize_26 rfl (fun h26 => ?_) (fun h26 => ?_)
        · replace hf := ite_t h26 hf
          refine lv_bipush (pc := 35) (v := 7) hx hb dV_resize_35 (by decide) ?_
          refine lv_istore (pc := 37) hx hb dV_resize_37 hl (by decide) rfl (fun ls hl => ?_)
          have hl : lv_has ls 6 [(5, .int 7), (4, .ref (ad 6 j8)), (0, .ref (ad 0 0)), (1, .int a1), (2, .int a2), (3, .int a3)] := hl
          have hl := lv_sub hl (l' := [(5, .int 7), (4, .ref (ad 6 j8)), (0, .ref (ad 0 0)), (1, .int a1), (2, .int a2), (3, .int a3)]) [0, 1, 2, 3, 4, 5] rfl
          exact hJx23 (7, H, _, ls) ⟨hP, hD, hS, hl⟩ hf
        · replace hf := ite_f h26 hf
          refine lv_iload_n (pc := 29) hx hb dV_resize_29 rfl (lv_at hl 5 rfl) ?_
          refine lv_bipush (pc := 30) (v := 64) hx hb dV_resize_30 (by decide) ?_
          refine lv_icmp_le (pc := 32) (tgt := 39) hx hb dV_resize_32 rfl (fun h27 => ?_) (fun h27 => ?_)
          · replace hf := ite_t h27 hf
            have hl := lv_sub hl (l' := [(5, .int y22), (4, .ref (ad 6 j8)), (0, .ref (ad 0 0)), (1, .int a1), (2, .int a2), (3, .int a3)]) [0, 1, 2, 3, 4, 5] rfl
            exact hJx23 (y22, H, _, ls) ⟨hP, hD, hS, hl⟩ hf
          · replace hf := ite_f h27 hf
            refine lv_bipush (pc := 35) (v := 7) hx hb dV_resize_35 (by decide) ?_
            refine lv_istore (pc := 37) hx hb dV_resize_37 hl (by decide) rfl (fun ls hl => ?_)
            have hl : lv_has ls 6 [(5, .int 7), (4, .ref (ad 6 j8)), (0, .ref (ad 0 0)), (1, .int a1), (2, .int a2), (3, .int a3)] := hl
            have hl := lv_sub hl (l' := [(5, .int 7), (4, .ref (ad 6 j8)), (0, .ref (ad 0 0)), (1, .int a1), (2, .int a2), (3, .int a3)]) [0, 1, 2, 3, 4, 5] rfl
            exact hJx23 (7, H, _, ls) ⟨hP, hD, hS, hl⟩ hf
    · rintro ⟨q24, H, locs, ls⟩ ⟨hP, hD, hS, hl⟩ hf
      dsimp only at hP hD hS hl hf ⊢
      rw [hx23] at hf
      have hl : lv_has ls 6 [(5, .int q24), (4, .ref (ad 6 j8)), (0, .ref (ad 0 0)), (1, .int a1), (2, .int a2), (3, .int a3)] := hl
      refine lv_aload_n (pc := 39) hx hb dV_resize_39 rfl (lv_at hl 2 rfl) ?_
      refine lv_iload (pc := 40) hx hb dV_resize_40 (lv_at hl 0 rfl) ?_
      obtain ⟨q28, hq28, eq28⟩ := at_0 (ad := ad) (ca := ca) (σ := σ3) hm0
      obtain ⟨⟨y29, σ30⟩, hy29, hf⟩ := ob hf
      have hFc := w9_free hD hS hA
      refine va_calli (pc := 42) (va_runV (As := [.int q24]) (rest := []) ⟨hx, hb, hml, hown, hts⟩ (t_V_allowed l dC dI ad ca dom H.size σ3 q24 hm0 hN hC y29 σ30 hy29) (cwV 1 hts (gV wd_483 wd_484 wd_485 wd_254 wd_482) rfl rfl rfl (by decide +kernel) ⟨Nat.le_of_ble_eq_true rfl, Nat.le_of_ble_eq_true rfl⟩) ⟨hW_blind, va_recv (q := (RV, TV, 9)) (q0 := q28) (ci := 0) hK.1 hP rfl eq28, hW_pre hP hK hD hG⟩ rfl rfl hl.1 rfl (lv_room (Nat.le_of_ble_eq_true rfl)) dV_resize_42 ⟨Nat.le_of_ble_eq_true rfl, Nat.le_of_ble_eq_true rfl⟩) hS (fun q _ h => hFc q h) hFc (fun r9 u t H1 locs ht hvm hr9 hB hz1 hk1 hS => ?_)
      obtain ⟨hP, hD, hC⟩ := hB
      rw [ht] at hP
      replace hD := hD.weaken (fun _ _ _ h => hFc _ h)
      generalize H1 = H at hP hS ⊢
      refine W.eq (g2 := F0 m 45 ls [.int y29]) (by rw [hr9]) ?_
      refine lv_if_ne (pc := 45) (tgt := 50) hx hb dV_resize_45 rfl (fun h31 => ?_) (fun h31 => ?_)
      · replace hf := ite_f h31 hf
        refine lv_aload (pc := 50) hx hb dV_resize_50 (lv_at hl 1 rfl) ?_
        obtain ⟨q32, hq32, eq32⟩ := at_6 (ad := ad) (ca := ca) (σ := σ30) hm20
        refine va_get (D := (dC, dI)) (cl := kCl) (C := RD) (T := TD) (N := 5) (pc := 52) hx hb hts inD hown hK.1 hP q32 eq32 rfl 3 (by decide) (hts _ wd_368) (fun _ h9 => h9) rfl dV_resize_52 ?_
        refine lv_iload_n (pc := 55) hx hb dV_resize_55 rfl (lv_at hl 5 rfl) ?_
        obtain ⟨q33, hq33, eq33⟩ := at_5 (ad := ad) (ca := ca) (σ := σ30) (cm_6_3 hC hm20)
        obtain ⟨⟨y34, σ35⟩, hy34, hf⟩ := ob hf
        have hFc := w9_free hD hS hA
        refine va_callv (pc := 56) (va_runV (As := [.int a3]) (rest := []) ⟨hx, hb, hml, hown, hts⟩ (t_C_setBytes l dC dI ad ca dom H.size n σ30 (3 * j8) a3 (cm_6_3 hC hm20) hN hC y34 σ35 hy34) (cwV 1 hts (gV wd_524 wd_525 wd_526 wd_228 wd_523) rfl rfl rfl (by decide +kernel) ⟨Nat.le_of_ble_eq_true rfl, Nat.le_of_ble_eq_true rfl⟩) ⟨hW_blind, va_recv (q := (RC, TC, 5)) (q0 := q33) (ci := 5) hK.1 hP rfl eq33, hW_pre hP hK hD hG⟩ rfl rfl hl.1 rfl (lv_room (Nat.le_of_ble_eq_true rfl)) dV_resize_56 ⟨Nat.le_of_ble_eq_true rfl, Nat.le_of_ble_eq_true rfl⟩) hS (fun q _ h => hFc q h) hFc (fun u t H1 locs ht hvm hr9 hB hz1 hk1 hS => ?_)
        obtain ⟨hP, hD, hC⟩ := hB
        rw [ht] at hP
        replace hD := hD.weaken (fun _ _ _ h => hFc _ h)
        generalize H1 = H at hP hS ⊢
        refine lv_iconst (pc := 59) (v := 1) hx hb dV_resize_59 (by decide) ?_
        exact nomatch hf
      · replace hf := ite_t h31 hf
        refine lv_iconst (pc := 48) (v := 0) hx hb dV_resize_48 (by decide) ?_
        exact nomatch hf
set_option maxHeartbeats 4000000 in
set_option maxRecDepth 100000 in
theorem x_V_ref (l : Launch) (dC : Nat → ClassId) (dI : Nat → Nat → Nat) (ad : Nat → Nat → Nat) (ca : Nat → Nat → ClassId) (dom : List (Nat × Nat)) (sz : Nat) (σ : hT) (a1 : Int32) (a2 : Int32) (a3 : Int32) (a4 : Int32) (a5 : Int32) (hm0 : (0, 0) ∈ dom) (hN : dom.Nodup) (hC : clo dom σ.2.2) (σ' : hT) (hfl : l.stackTraces = false) (hf : V_ref σ a1 a2 a3 a4 a5 = some (none, σ')) : tMet l yV_ref (.code yV_ref cV_ref 8 (some .boolean) :: aw) ({ frames := 7, cells := 1, slots := 6, locals := 101 }) (hX (dC, dI) sz ad ca dom σ [.ref (ad 0 0), .int a1, .int a2, .int a3, .int a4, .int a5]) nIS (va_A (w9 ad ca dom σ) sz) (fun H1 => va_P (dC, dI) kCl (w9 ad ca dom σ') H1 ∧ va_D (va_A (w9 ad ca dom σ) sz) (w9 ad ca dom σ') ∧ clo dom σ'.2.2) := by
  refine tOfW (cc := cV_ref) (maxL := 8) (ret := (some .boolean)) (by decide) rfl ?_
  intro p e s m args below meth c s₁ B hml hno hv
  obtain ⟨rfl, hv⟩ := hv
  have hx := B.exec
  have hb := B.bytes
  have hts : ∀ w ∈ aw, w.before _ s = true := fun w h => atoms_spec (ws := (.code yV_ref cV_ref 8 (some .boolean) :: aw)) B.pre w (List.mem_cons_of_mem _ h)
  have hown : s.vm.findClass RV = some m.cls := findClass_of_methodNamed B.named
  have hlocks := B.notSynchronized
  obtain ⟨hsz, hP, hK, hD0, hG, hE⟩ := hv
  subst hsz
  have hD := hD0.self (sz := s.heap.size)
  generalize hAe : va_A (w9 ad ca dom σ) s.heap.size = A at hD ⊢
  have hA : ∀ q : Nat, s.heap.size ≤ q → A q := fun q h => by rw [← hAe]; exact Or.inr h
  have hSA : ∀ q : Nat, q < s.heap.size → A q → xS ad dom q := fun q h z => by rw [← hAe] at z; exact w9_xS z h
  obtain ⟨H, hH⟩ : ∃ H, H = s.heap := ⟨_, rfl⟩
  have hS : va_S A s.heap H [] := by rw [hH]; exact va_S.rf
  rw [← hH] at hP ⊢
  unfold V_ref at hf
  have hl := lv_entry ([.ref (ad 0 0), .int a1, .int a2, .int a3, .int a4, .int a5]) (n := 8) (Nat.le_of_ble_eq_true rfl)
  rw [lg_entry_eq]
  generalize (lg_sl ([.ref (ad 0 0), .int a1, .int a2, .int a3, .int a4, .int a5]) ++ List.replicate (8 - (lg_sl ([.ref (ad 0 0), .int a1, .int a2, .int a3, .int a4, .int a5])).length) Slot.unset).toArray = ls at hl ⊢
  have hl : lv_has ls 8 [(0, .ref (ad 0 0)), (1, .int a1), (2, .int a2), (3, .int a3), (4, .int a4), (5, .int a5)] := hl
  refine lv_aload_n (pc := 0) hx hb dV_ref_0 rfl (lv_at hl 0 rfl) ?_
  obtain ⟨q1, hq1, eq1⟩ := at_0 (ad := ad) (ca := ca) (σ := σ) hm0
  obtain ⟨⟨y2o, σ3⟩, hy2, hf⟩ := ob hf
  rcases y2o with _ | y2
  · have h9 := ex9_x hf
    subst h9
    have hFc := w9_free hD hS hA
    exact tPassV (pc := 1) (As := []) (rest := []) ⟨hx, hb, hml, hown, hts⟩ (x_V_needPower l dC dI ad ca dom H.size σ hm0 hN hC σ3 hfl hy2) (cwV 0 hts (gV wd_499 wd_500 wd_501 wd_254 wd_498) rfl rfl rfl (by decide +kernel) ⟨Nat.le_of_ble_eq_true rfl, Nat.le_of_ble_eq_true rfl⟩) ⟨hX_blind, va_recv (q := (RV, TV, 9)) (q0 := q1) (ci := 0) hK.1 hP rfl eq1, hX_pre hP hK hD hG hE hS hSA⟩ rfl hl.1 rfl (lv_room (Nat.le_of_ble_eq_true rfl)) dV_ref_1 ⟨Nat.le_of_ble_eq_true rfl, Nat.le_of_ble_eq_true rfl⟩ hno hlocks hS (fun x h => hFc _ h) (fun H1 h => ⟨h.1, h.2.1.weaken (fun _ _ _ z => hFc _ z), h.2.2⟩)
  replace hf := ex9_s hf
  have hFc := w9_free hD hS hA
  refine va_callv (pc := 1) (va_runV (As := []) (rest := []) ⟨hx, hb, hml, hown, hts⟩ (t_V_needPower l dC dI ad ca dom H.size σ hm0 hN hC y2 σ3 hy2) (cwV 0 hts (gV wd_499 wd_500 wd_501 wd_254 wd_498) rfl rfl rfl (by decide +kernel) ⟨Nat.le_of_ble_eq_true rfl, Nat.le_of_ble_eq_true rfl⟩) ⟨hW_blind, va_recv (q := (RV, TV, 9)) (q0 := q1) (ci := 0) hK.1 hP rfl eq1, hW_pre hP hK hD hG⟩ rfl rfl hl.1 rfl (lv_room (Nat.le_of_ble_eq_true rfl)) dV_ref_1 ⟨Nat.le_of_ble_eq_true rfl, Nat.le_of_ble_eq_true rfl⟩) hS (fun q _ h => hFc q h) hFc (fun u t H1 locs ht hvm hr9 hB hz1 hk1 hS => ?_)
  obtain ⟨hP, hD, hC⟩ := hB
  rw [ht] at hP
  replace hD := hD.weaken (fun _ _ _ h => hFc _ h)
  generalize H1 = H at hP hS ⊢
  refine lv_aload_n (pc := 4) hx hb dV_ref_4 rfl (lv_at hl 0 rfl) ?_
  refine lv_iload_n (pc := 5) hx hb dV_ref_5 rfl (lv_at hl 1 rfl) ?_
  obtain ⟨q4, hq4, eq4⟩ := at_0 (ad := ad) (ca := ca) (σ := σ3) hm0
  obtain ⟨y5, hy5, hf⟩ := ob hf
  refine va_cse (pc := 6) (W.runV (As := [.int a1]) (rest := []) ⟨hx, hb, hml, hown, hts⟩ (t_V_drawingAt l dC dI ad ca dom σ3 a1 hm0 hN hC y5 hy5) (cwV 1 hts (gV wd_317 wd_318 wd_319 wd_254 wd_316) rfl rfl rfl (by decide +kernel) ⟨Nat.le_of_ble_eq_true rfl, Nat.le_of_ble_eq_true rfl⟩) ⟨hR_blind, va_recv (q := (RV, TV, 9)) (q0 := q4) (ci := 0) hK.1 hP rfl eq4, hR_pre hP hK hG⟩ rfl rfl hl.1 rfl (lv_room (Nat.le_of_ble_eq_true rfl)) dV_ref_6 ⟨Nat.le_of_ble_eq_true rfl, Nat.le_of_ble_eq_true rfl⟩) (fun r9 hr9 => ?_)
  obtain ⟨hr9, hmy6⟩ := hr9
  refine W.eq (g2 := F0 m 9 ls [va_re (ad 6) y5]) (by rw [hr9]) ?_
  rcases hE7 : y5 with _ | j8
  · replace hf := hq_n hE7 hf
    refine W.eq (g2 := F0 m 9 ls [.null]) rfl ?_
    refine lv_astoreN (pc := 9) hx hb dV_ref_9 hl (by decide) rfl (fun ls hl => ?_)
    have hl : lv_has ls 8 [(6, .null), (0, .ref (ad 0 0)), (1, .int a1), (2, .int a2), (3, .int a3), (4, .int a4), (5, .int a5)] := hl
    refine lv_aload_n (pc := 11) hx hb dV_ref_11 rfl (lv_at hl 1 rfl) ?_
    refine lv_aloadN (pc := 12) hx hb dV_ref_12 (lv_at hl 0 rfl) ?_
    refine lv_iload_n (pc := 14) hx hb dV_ref_14 rfl (lv_at hl 3 rfl) ?_
    obtain ⟨q9, hq9, eq9⟩ := at_0 (ad := ad) (ca := ca) (σ := σ3) hm0
    obtain ⟨y10, hy10, hf⟩ := ob hf
    refine vp_callSi (pc := 15) (W.runV (As := [.null, .int a2]) (rest := []) ⟨hx, hb, hml, hown, hts⟩ (t_V_copyRefusal l dC dI ad ca dom σ3 none a2 hm0 (fun _ z => nomatch z) hN hC y10 hy10) (cwV 2 hts (gV wd_511 wd_512 wd_513 wd_254 wd_510) rfl rfl rfl (by decide +kernel) ⟨Nat.le_of_ble_eq_true rfl, Nat.le_of_ble_eq_true rfl⟩) ⟨hR_blind, va_recv (q := (RV, TV, 9)) (q0 := q9) (ci := 0) hK.1 hP rfl eq9, hR_pre hP hK hG⟩ rfl rfl hl.1 rfl (lv_room (Nat.le_of_ble_eq_true rfl)) dV_ref_15 ⟨Nat.le_of_ble_eq_true rfl, Nat.le_of_ble_eq_true rfl⟩) (fun r9 hr9 => ?_)
    refine W.eq (g2 := F0 m 18 ls [.int y10]) (by rw [hr9]) ?_
    refine lv_istore (pc := 18) hx hb dV_ref_18 hl (by decide) rfl (fun ls hl => ?_)
    have hl : lv_has ls 8 [(7, .int y10), (6, .null), (0, .ref (ad 0 0)), (1, .int a1), (2, .int a2), (3, .int a3), (4, .int a4), (5, .int a5)] := hl
    refine lv_iload (pc := 20) hx hb dV_ref_20 (lv_at hl 0 rfl) ?_
    obtain ⟨x11, hx11, hf⟩ := lt_9 hf
    refine jnF (τ := (Heap) × (List Loc) × (Array Slot)) (fun pc st z => W p l e _ s m _ below meth c z.1 z.2.1 0 0 _ (F0 m pc z.2.2 st)) (pc0 := 22) (st0 := [.int y10]) (z0 := (H, _, ls)) 41 (fun z => []) (fun z => va_P (dC, dI) kCl (w9 ad ca dom (σ3)) z.1 ∧ va_D A (w9 ad ca dom (σ3)) ∧ va_S A s.heap z.1 z.2.1 ∧ lv_has z.2.2 8 [(7, .int y10), (6, .null), (0, .ref (ad 0 0)), (1, .int a1), (2, .int a2), (3, .int a3), (4, .int a4), (5, .int a5)]) (fun z => x11) (none, σ') ?_ ?_
    · intro hJx11
      dsimp only at hJx11 ⊢
      refine lv_if_ne (pc := 22) (tgt := 41) hx hb dV_ref_22 rfl (fun h12 => ?_) (fun h12 => ?_)
      · replace hf := ite_f h12 hf
        have hl := lv_sub hl (l' := [(7, .int y10), (6, .null), (0, .ref (ad 0 0)), (1, .int a1), (2, .int a2), (3, .int a3), (4, .int a4), (5, .int a5)]) [0, 1, 2, 3, 4, 5, 6, 7] rfl
        exact hJx11 (H, _, ls) ⟨hP, hD, hS, hl⟩ hf
      · replace hf := ite_t h12 hf
        refine lv_aload_n (pc := 25) hx hb dV_ref_25 rfl (lv_at hl 2 rfl) ?_
        refine lv_aloadN (pc := 26) hx hb dV_ref_26 (lv_at hl 1 rfl) ?_
        exact nomatch hf
    · rintro ⟨H, locs, ls⟩ ⟨hP, hD, hS, hl⟩ hf
      dsimp only at hP hD hS hl hf ⊢
      rw [hx11] at hf
      have hl : lv_has ls 8 [(7, .int y10), (6, .null), (0, .ref (ad 0 0)), (1, .int a1), (2, .int a2), (3, .int a3), (4, .int a4), (5, .int a5)] := hl
      refine lv_aload_n (pc := 41) hx hb dV_ref_41 rfl (lv_at hl 2 rfl) ?_
      refine lv_iload (pc := 42) hx hb dV_ref_42 (lv_at hl 0 rfl) ?_
      obtain ⟨q13, hq13, eq13⟩ := at_0 (ad := ad) (ca := ca) (σ := σ3) hm0
      obtain ⟨⟨y14, σ15⟩, hy14, hf⟩ := ob hf
      have hFc := w9_free hD hS hA
      refine va_calli (pc := 44) (va_runV (As := [.int y10]) (rest := []) ⟨hx, hb, hml, hown, hts⟩ (t_V_allowed l dC dI ad ca dom H.size σ3 y10 hm0 hN hC y14 σ15 hy14) (cwV 1 hts (gV wd_483 wd_484 wd_485 wd_254 wd_482) rfl rfl rfl (by decide +kernel) ⟨Nat.le_of_ble_eq_true rfl, Nat.le_of_ble_eq_true rfl⟩) ⟨hW_blind, va_recv (q := (RV, TV, 9)) (q0 := q13) (ci := 0) hK.1 hP rfl eq13, hW_pre hP hK hD hG⟩ rfl rfl hl.1 rfl (lv_room (Nat.le_of_ble_eq_true rfl)) dV_ref_44 ⟨Nat.le_of_ble_eq_true rfl, Nat.le_of_ble_eq_true rfl⟩) hS (fun q _ h => hFc q h) hFc (fun r9 u t H1 locs ht hvm hr9 hB hz1 hk1 hS => ?_)
      obtain ⟨hP, hD, hC⟩ := hB
      rw [ht] at hP
      replace hD := hD.weaken (fun _ _ _ h => hFc _ h)
      generalize H1 = H at hP hS ⊢
      refine W.eq (g2 := F0 m 47 ls [.int y14]) (by rw [hr9]) ?_
      refine lv_if_ne (pc := 47) (tgt := 52) hx hb dV_ref_47 rfl (fun h16 => ?_) (fun h16 => ?_)
      · replace hf := ite_f h16 hf
        refine lv_aloadN (pc := 52) hx hb dV_ref_52 (lv_at hl 1 rfl) ?_
        exact nomatch hf
      · replace hf := ite_t h16 hf
        refine lv_iconst (pc := 50) (v := 0) hx hb dV_ref_50 (by decide) ?_
        exact nomatch hf
  · replace hf := hq_s hE7 hf
    have hm17 : (6, j8) ∈ dom := (hmy6 _ hE7)
    refine W.eq (g2 := F0 m 9 ls [.ref (ad 6 j8)]) rfl ?_
    refine lv_astore (pc := 9) hx hb dV_ref_9 hl (by decide) rfl (fun ls hl => ?_)
    have hl : lv_has ls 8 [(6, .ref (ad 6 j8)), (0, .ref (ad 0 0)), (1, .int a1), (2, .int a2), (3, .int a3), (4, .int a4), (5, .int a5)] := hl
    refine lv_aload_n (pc := 11) hx hb dV_ref_11 rfl (lv_at hl 1 rfl) ?_
    refine lv_aload (pc := 12) hx hb dV_ref_12 (lv_at hl 0 rfl) ?_
    refine lv_iload_n (pc := 14) hx hb dV_ref_14 rfl (lv_at hl 3 rfl) ?_
    obtain ⟨q18, hq18, eq18⟩ := at_0 (ad := ad) (ca := ca) (σ := σ3) hm0
    obtain ⟨y19, hy19, hf⟩ := ob hf
    refine vp_callSi (pc := 15) (W.runV (As := [.ref (ad 6 j8), .int a2]) (rest := []) ⟨hx, hb, hml, hown, hts⟩ (t_V_copyRefusal l dC dI ad ca dom σ3 (some j8) a2 hm0 (fun _ z => Option.some.inj z ▸ hm17) hN hC y19 hy19) (cwV 2 hts (gV wd_511 wd_512 wd_513 wd_254 wd_510) rfl rfl rfl (by decide +kernel) ⟨Nat.le_of_ble_eq_true rfl, Nat.le_of_ble_eq_true rfl⟩) ⟨hR_blind, va_recv (q := (RV, TV, 9)) (q0 := q18) (ci := 0) hK.1 hP rfl eq18, hR_pre hP hK hG⟩ rfl rfl hl.1 rfl (lv_room (Nat.le_of_ble_eq_true rfl)) dV_ref_15 ⟨Nat.le_of_ble_eq_true rfl, Nat.le_of_ble_eq_true rfl⟩) (fun r9 hr9 => ?_)
    refine W.eq (g2 := F0 m 18 ls [.int y19]) (by rw [hr9]) ?_
    refine lv_istore (pc := 18) hx hb dV_ref_18 hl (by decide) rfl (fun ls hl => ?_)
    have hl : lv_has ls 8 [(7, .int y19), (6, .ref (ad 6 j8)), (0, .ref (ad 0 0)), (1, .int a1), (2, .int a2), (3, .int a3), (4, .int a4), (5, .int a5)] := hl
    refine lv_iload (pc := 20) hx hb dV_ref_20 (lv_at hl 0 rfl) ?_
    obtain ⟨x20, hx20, hf⟩ := lt_9 hf
    refine jnF (τ := (Int32) × (Heap) × (List Loc) × (Array Slot)) (fun pc st z => W p l e _ s m _ below meth c z.2.1 z.2.2.1 0 0 _ (F0 m pc z.2.2.2 st)) (pc0 := 22) (st0 := [.int y19]) (z0 := (0, H, _, ls)) 41 (fun z => []) (fun z => va_P (dC, dI) kCl (w9 ad ca dom (σ3)) z.2.1 ∧ va_D A (w9 ad ca dom (σ3)) ∧ va_S A s.heap z.2.1 z.2.2.1 ∧ lv_has z.2.2.2 8 [(7, .int z.1), (6, .ref (ad 6 j8)), (0, .ref (ad 0 0)), (1, .int a1), (2, .int a2), (3, .int a3), (4, .int a4), (5, .int a5)]) (fun z => x20 z.1) (none, σ') ?_ ?_
    · intro hJx20
      dsimp only at hJx20 ⊢
      refine lv_if_ne (pc := 22) (tgt := 41) hx hb dV_ref_22 rfl (fun h22 => ?_) (fun h22 => ?_)
      · replace hf := ite_f h22 hf
        have hl := lv_sub hl (l' := [(7, .int y19), (6, .ref (ad 6 j8)), (0, .ref (ad 0 0)), (1, .int a1), (2, .int a2), (3, .int a3), (4, .int a4), (5, .int a5)]) [0, 1, 2, 3, 4, 5, 6, 7] rfl
        exact hJx20 (y19, H, _, ls) ⟨hP, hD, hS, hl⟩ hf
      · replace hf := ite_t h22 hf
        refine lv_aload_n (pc := 25) hx hb dV_ref_25 rfl (lv_at hl 2 rfl) ?_
        refine lv_aload (pc := 26) hx hb dV_ref_26 (lv_at hl 1 rfl) ?_
        obtain ⟨q23, hq23, eq23⟩ := at_6 (ad := ad) (ca := ca) (σ := σ3) hm17
        refine va_get (D := (dC, dI)) (cl := kCl) (C := RD) (T := TD) (N := 5) (pc := 28) hx hb hts inD hown hK.1 hP q23 eq23 rfl 3 (by decide) (hts _ wd_368) (fun _ h9 => h9) rfl dV_ref_28 ?_
        refine lv_iload_n (pc := 31) hx hb dV_ref_31 rfl (lv_at hl 5 rfl) ?_
        refine lv_iload (pc := 32) hx hb dV_ref_32 (lv_at hl 6 rfl) ?_
        refine lv_iload (pc := 34) hx hb dV_ref_34 (lv_at hl 7 rfl) ?_
        obtain ⟨q24, hq24, eq24⟩ := at_0 (ad := ad) (ca := ca) (σ := σ3) hm0
        obtain ⟨y25, hy25, hf⟩ := ob hf
        refine vp_callSi (pc := 36) (W.runV (As := [.ref (ad 5 (3 * j8)), .int a3, .int a4, .int a5]) (rest := []) ⟨hx, hb, hml, hown, hts⟩ (t_V_refRefusal l dC dI ad ca dom σ3 (3 * j8) a3 a4 a5 hm0 (cm_6_3 hC hm17) hN hC y25 hy25) (cwV 4 hts (gV wd_528 wd_529 wd_530 wd_254 wd_527) rfl rfl rfl (by decide +kernel) ⟨Nat.le_of_ble_eq_true rfl, Nat.le_of_ble_eq_true rfl⟩) ⟨hR_blind, va_recv (q := (RV, TV, 9)) (q0 := q24) (ci := 0) hK.1 hP rfl eq24, hR_pre hP hK hG⟩ rfl rfl hl.1 rfl (lv_room (Nat.le_of_ble_eq_true rfl)) dV_ref_36 ⟨Nat.le_of_ble_eq_true rfl, Nat.le_of_ble_eq_true rfl⟩) (fun r9 hr9 => ?_)
        refine W.eq (g2 := F0 m 39 ls [.int y25]) (by rw [hr9]) ?_
        refine lv_istore (pc := 39) hx hb dV_ref_39 hl (by decide) rfl (fun ls hl => ?_)
        have hl : lv_has ls 8 [(7, .int y25), (6, .ref (ad 6 j8)), (0, .ref (ad 0 0)), (1, .int a1), (2, .int a2), (3, .int a3), (4, .int a4), (5, .int a5)] := hl
        have hl := lv_sub hl (l' := [(7, .int y25), (6, .ref (ad 6 j8)), (0, .ref (ad 0 0)), (1, .int a1), (2, .int a2), (3, .int a3), (4, .int a4), (5, .int a5)]) [0, 1, 2, 3, 4, 5, 6, 7] rfl
        exact hJx20 (y25, H, _, ls) ⟨hP, hD, hS, hl⟩ hf
    · rintro ⟨q21, H, locs, ls⟩ ⟨hP, hD, hS, hl⟩ hf
      dsimp only at hP hD hS hl hf ⊢
      rw [hx20] at hf
      have hl : lv_has ls 8 [(7, .int q21), (6, .ref (ad 6 j8)), (0, .ref (ad 0 0)), (1, .int a1), (2, .int a2), (3, .int a3), (4, .int a4), (5, .int a5)] := hl
      refine lv_aload_n (pc := 41) hx hb dV_ref_41 rfl (lv_at hl 2 rfl) ?_
      refine lv_iload (pc := 42) hx hb dV_ref_42 (lv_at hl 0 rfl) ?_
      obtain ⟨q26, hq26, eq26⟩ := at_0 (ad := ad) (ca := ca) (σ := σ3) hm0
      obtain ⟨⟨y27, σ28⟩, hy27, hf⟩ := ob hf
      have hFc := w9_free hD hS hA
      refine va_calli (pc := 44) (va_runV (As := [.int q21]) (rest := []) ⟨hx, hb, hml, hown, hts⟩ (t_V_allowed l dC dI ad ca dom H.size σ3 q21 hm0 hN hC y27 σ28 hy27) (cwV 1 hts (gV wd_483 wd_484 wd_485 wd_254 wd_482) rfl rfl rfl (by decide +kernel) ⟨Nat.le_of_ble_eq_true rfl, Nat.le_of_ble_eq_true rfl⟩) ⟨hW_blind, va_recv (q := (RV, TV, 9)) (q0 := q26) (ci := 0) hK.1 hP rfl eq26, hW_pre hP hK hD hG⟩ rfl rfl hl.1 rfl (lv_room (Nat.le_of_ble_eq_true rfl)) dV_ref_44 ⟨Nat.le_of_ble_eq_true rfl, Nat.le_of_ble_eq_true rfl⟩) hS (fun q _ h => hFc q h) hFc (fun r9 u t H1 locs ht hvm hr9 hB hz1 hk1 hS => ?_)
      obtain ⟨hP, hD, hC⟩ := hB
      rw [ht] at hP
      replace hD := hD.weaken (fun _ _ _ h => hFc _ h)
      generalize H1 = H at hP hS ⊢
      refine W.eq (g2 := F0 m 47 ls [.int y27]) (by rw [hr9]) ?_
      refine lv_if_ne (pc := 47) (tgt := 52) hx hb dV_ref_47 rfl (fun h29 => ?_) (fun h29 => ?_)
      · replace hf := ite_f h29 hf
        refine lv_aload (pc := 52) hx hb dV_ref_52 (lv_at hl 1 rfl) ?_
        obtain ⟨q30, hq30, eq30⟩ := at_6 (ad := ad) (ca := ca) (σ := σ28) hm17
        refine va_get (D := (dC, dI)) (cl := kCl) (C := RD) (T := TD) (N := 5) (pc := 54) hx hb hts inD hown hK.1 hP q30 eq30 rfl 3 (by decide) (hts _ wd_368) (fun _ h9 => h9) rfl dV_ref_54 ?_
        refine lv_iload_n (pc := 57) hx hb dV_ref_57 rfl (lv_at hl 5 rfl) ?_
        refine lv_iload (pc := 58) hx hb dV_ref_58 (lv_at hl 6 rfl) ?_
        refine lv_iload (pc := 60) hx hb dV_ref_60 (lv_at hl 7 rfl) ?_
        obtain ⟨q31, hq31, eq31⟩ := at_5 (ad := ad) (ca := ca) (σ := σ28) (cm_6_3 hC hm17)
        obtain ⟨⟨y32, σ33⟩, hy32, hf⟩ := ob hf
        have hFc := w9_free hD hS hA
        refine va_callv (pc := 62) (va_runV (As := [.int a3, .int a4, .int a5]) (rest := []) ⟨hx, hb, hml, hown, hts⟩ (t_C_setReference l dC dI ad ca dom H.size σ28 (3 * j8) a3 a4 a5 (cm_6_3 hC hm17) hN hC y32 σ33 hy32) (cwV 3 hts (gV wd_532 wd_533 wd_534 wd_228 wd_531) rfl rfl rfl (by decide +kernel) ⟨Nat.le_of_ble_eq_true rfl, Nat.le_of_ble_eq_true rfl⟩) ⟨hW_blind, va_recv (q := (RC, TC, 5)) (q0 := q31) (ci := 5) hK.1 hP rfl eq31, hW_pre hP hK hD hG⟩ rfl rfl hl.1 rfl (lv_room (Nat.le_of_ble_eq_true rfl)) dV_ref_62 ⟨Nat.le_of_ble_eq_true rfl, Nat.le_of_ble_eq_true rfl⟩) hS (fun q _ h => hFc q h) hFc (fun u t H1 locs ht hvm hr9 hB hz1 hk1 hS => ?_)
        obtain ⟨hP, hD, hC⟩ := hB
        rw [ht] at hP
        replace hD := hD.weaken (fun _ _ _ h => hFc _ h)
        generalize H1 = H at hP hS ⊢
        refine lv_iconst (pc := 65) (v := 1) hx hb dV_ref_65 (by decide) ?_
        exact nomatch hf
      · replace hf := ite_t h29 hf
        refine lv_iconst (pc := 50) (v := 0) hx hb dV_ref_50 (by decide) ?_
        exact nomatch hf
set_option maxHeartbeats 4000000 in
set_option maxRecDepth 100000 in
theorem x_V_drop (l : Launch) (dC : Nat → ClassId) (dI : Nat → Nat → Nat) (ad : Nat → Nat → Nat) (ca : Nat → Nat → ClassId) (dom : List (Nat × Nat)) (sz : Nat) (n : Nat) (σ : hT) (a1 : Int32) (a2 : Int32) (a3 : Int32) (hm0 : (0, 0) ∈ dom) (hN : dom.Nodup) (hC : clo dom σ.2.2) (σ' : hT) (hfl : l.stackTraces = false) (hf : V_drop n σ a1 a2 a3 = some (none, σ')) : tMet l yV_drop (.code yV_drop cV_drop 6 (some .boolean) :: aw) ({ frames := 7, cells := 1, slots := 6, locals := 101 }) (hX (dC, dI) sz ad ca dom σ [.ref (ad 0 0), .int a1, .int a2, .int a3]) nIS (va_A (w9 ad ca dom σ) sz) (fun H1 => va_P (dC, dI) kCl (w9 ad ca dom σ') H1 ∧ va_D (va_A (w9 ad ca dom σ) sz) (w9 ad ca dom σ') ∧ clo dom σ'.2.2) := by
  refine tOfW (cc := cV_drop) (maxL := 6) (ret := (some .boolean)) (by decide) rfl ?_
  intro p e s m args below meth c s₁ B hml hno hv
  obtain ⟨rfl, hv⟩ := hv
  have hx := B.exec
  have hb := B.bytes
  have hts : ∀ w ∈ aw, w.before _ s = true := fun w h => atoms_spec (ws := (.code yV_drop cV_drop 6 (some .boolean) :: aw)) B.pre w (List.mem_cons_of_mem _ h)
  have hown : s.vm.findClass RV = some m.cls := findClass_of_methodNamed B.named
  have hlocks := B.notSynchronized
  obtain ⟨hsz, hP, hK, hD0, hG, hE⟩ := hv
  subst hsz
  have hD := hD0.self (sz := s.heap.size)
  generalize hAe : va_A (w9 ad ca dom σ) s.heap.size = A at hD ⊢
  have hA : ∀ q : Nat, s.heap.size ≤ q → A q := fun q h => by rw [← hAe]; exact Or.inr h
  have hSA : ∀ q : Nat, q < s.heap.size → A q → xS ad dom q := fun q h z => by rw [← hAe] at z; exact w9_xS z h
  obtain ⟨H, hH⟩ : ∃ H, H = s.heap := ⟨_, rfl⟩
  have hS : va_S A s.heap H [] := by rw [hH]; exact va_S.rf
  rw [← hH] at hP ⊢
  unfold V_drop at hf
  have hl := lv_entry ([.ref (ad 0 0), .int a1, .int a2, .int a3]) (n := 6) (Nat.le_of_ble_eq_true rfl)
  rw [lg_entry_eq]
  generalize (lg_sl ([.ref (ad 0 0), .int a1, .int a2, .int a3]) ++ List.replicate (6 - (lg_sl ([.ref (ad 0 0), .int a1, .int a2, .int a3])).length) Slot.unset).toArray = ls at hl ⊢
  have hl : lv_has ls 6 [(0, .ref (ad 0 0)), (1, .int a1), (2, .int a2), (3, .int a3)] := hl
  refine lv_aload_n (pc := 0) hx hb dV_drop_0 rfl (lv_at hl 0 rfl) ?_
  obtain ⟨q1, hq1, eq1⟩ := at_0 (ad := ad) (ca := ca) (σ := σ) hm0
  obtain ⟨⟨y2o, σ3⟩, hy2, hf⟩ := ob hf
  rcases y2o with _ | y2
  · have h9 := ex9_x hf
    subst h9
    have hFc := w9_free hD hS hA
    exact tPassV (pc := 1) (As := []) (rest := []) ⟨hx, hb, hml, hown, hts⟩ (x_V_needPower l dC dI ad ca dom H.size σ hm0 hN hC σ3 hfl hy2) (cwV 0 hts (gV wd_499 wd_500 wd_501 wd_254 wd_498) rfl rfl rfl (by decide +kernel) ⟨Nat.le_of_ble_eq_true rfl, Nat.le_of_ble_eq_true rfl⟩) ⟨hX_blind, va_recv (q := (RV, TV, 9)) (q0 := q1) (ci := 0) hK.1 hP rfl eq1, hX_pre hP hK hD hG hE hS hSA⟩ rfl hl.1 rfl (lv_room (Nat.le_of_ble_eq_true rfl)) dV_drop_1 ⟨Nat.le_of_ble_eq_true rfl, Nat.le_of_ble_eq_true rfl⟩ hno hlocks hS (fun x h => hFc _ h) (fun H1 h => ⟨h.1, h.2.1.weaken (fun _ _ _ z => hFc _ z), h.2.2⟩)
  replace hf := ex9_s hf
  have hFc := w9_free hD hS hA
  refine va_callv (pc := 1) (va_runV (As := []) (rest := []) ⟨hx, hb, hml, hown, hts⟩ (t_V_needPower l dC dI ad ca dom H.size σ hm0 hN hC y2 σ3 hy2) (cwV 0 hts (gV wd_499 wd_500 wd_501 wd_254 wd_498) rfl rfl rfl (by decide +kernel) ⟨Nat.le_of_ble_eq_true rfl, Nat.le_of_ble_eq_true rfl⟩) ⟨hW_blind, va_recv (q := (RV, TV, 9)) (q0 := q1) (ci := 0) hK.1 hP rfl eq1, hW_pre hP hK hD hG⟩ rfl rfl hl.1 rfl (lv_room (Nat.le_of_ble_eq_true rfl)) dV_drop_1 ⟨Nat.le_of_ble_eq_true rfl, Nat.le_of_ble_eq_true rfl⟩) hS (fun q _ h => hFc q h) hFc (fun u t H1 locs ht hvm hr9 hB hz1 hk1 hS => ?_)
  obtain ⟨hP, hD, hC⟩ := hB
  rw [ht] at hP
  replace hD := hD.weaken (fun _ _ _ h => hFc _ h)
  generalize H1 = H at hP hS ⊢
  refine lv_aload_n (pc := 4) hx hb dV_drop_4 rfl (lv_at hl 0 rfl) ?_
  refine lv_iload_n (pc := 5) hx hb dV_drop_5 rfl (lv_at hl 1 rfl) ?_
  obtain ⟨q4, hq4, eq4⟩ := at_0 (ad := ad) (ca := ca) (σ := σ3) hm0
  obtain ⟨y5, hy5, hf⟩ := ob hf
  refine va_cse (pc := 6) (W.runV (As := [.int a1]) (rest := []) ⟨hx, hb, hml, hown, hts⟩ (t_V_drawingAt l dC dI ad ca dom σ3 a1 hm0 hN hC y5 hy5) (cwV 1 hts (gV wd_317 wd_318 wd_319 wd_254 wd_316) rfl rfl rfl (by decide +kernel) ⟨Nat.le_of_ble_eq_true rfl, Nat.le_of_ble_eq_true rfl⟩) ⟨hR_blind, va_recv (q := (RV, TV, 9)) (q0 := q4) (ci := 0) hK.1 hP rfl eq4, hR_pre hP hK hG⟩ rfl rfl hl.1 rfl (lv_room (Nat.le_of_ble_eq_true rfl)) dV_drop_6 ⟨Nat.le_of_ble_eq_true rfl, Nat.le_of_ble_eq_true rfl⟩) (fun r9 hr9 => ?_)
  obtain ⟨hr9, hmy6⟩ := hr9
  refine W.eq (g2 := F0 m 9 ls [va_re (ad 6) y5]) (by rw [hr9]) ?_
  rcases hE7 : y5 with _ | j8
  · replace hf := hq_n hE7 hf
    refine W.eq (g2 := F0 m 9 ls [.null]) rfl ?_
    refine lv_astoreN (pc := 9) hx hb dV_drop_9 hl (by decide) rfl (fun ls hl => ?_)
    have hl : lv_has ls 6 [(4, .null), (0, .ref (ad 0 0)), (1, .int a1), (2, .int a2), (3, .int a3)] := hl
    refine lv_aload_n (pc := 11) hx hb dV_drop_11 rfl (lv_at hl 1 rfl) ?_
    refine lv_aloadN (pc := 12) hx hb dV_drop_12 (lv_at hl 0 rfl) ?_
    refine lv_iload_n (pc := 14) hx hb dV_drop_14 rfl (lv_at hl 3 rfl) ?_
    obtain ⟨q9, hq9, eq9⟩ := at_0 (ad := ad) (ca := ca) (σ := σ3) hm0
    obtain ⟨y10, hy10, hf⟩ := ob hf
    refine vp_callSi (pc := 15) (W.runV (As := [.null, .int a2]) (rest := []) ⟨hx, hb, hml, hown, hts⟩ (t_V_copyRefusal l dC dI ad ca dom σ3 none a2 hm0 (fun _ z => nomatch z) hN hC y10 hy10) (cwV 2 hts (gV wd_511 wd_512 wd_513 wd_254 wd_510) rfl rfl rfl (by decide +kernel) ⟨Nat.le_of_ble_eq_true rfl, Nat.le_of_ble_eq_true rfl⟩) ⟨hR_blind, va_recv (q := (RV, TV, 9)) (q0 := q9) (ci := 0) hK.1 hP rfl eq9, hR_pre hP hK hG⟩ rfl rfl hl.1 rfl (lv_room (Nat.le_of_ble_eq_true rfl)) dV_drop_15 ⟨Nat.le_of_ble_eq_true rfl, Nat.le_of_ble_eq_true rfl⟩) (fun r9 hr9 => ?_)
    refine W.eq (g2 := F0 m 18 ls [.int y10]) (by rw [hr9]) ?_
    refine lv_istore (pc := 18) hx hb dV_drop_18 hl (by decide) rfl (fun ls hl => ?_)
    have hl : lv_has ls 6 [(5, .int y10), (4, .null), (0, .ref (ad 0 0)), (1, .int a1), (2, .int a2), (3, .int a3)] := hl
    refine lv_iload (pc := 20) hx hb dV_drop_20 (lv_at hl 0 rfl) ?_
    obtain ⟨x11, hx11, hf⟩ := lt_9 hf
    refine jnF (τ := (Heap) × (List Loc) × (Array Slot)) (fun pc st z => W p l e _ s m _ below meth c z.1 z.2.1 0 0 _ (F0 m pc z.2.2 st)) (pc0 := 22) (st0 := [.int y10]) (z0 := (H, _, ls)) 41 (fun z => []) (fun z => va_P (dC, dI) kCl (w9 ad ca dom (σ3)) z.1 ∧ va_D A (w9 ad ca dom (σ3)) ∧ va_S A s.heap z.1 z.2.1 ∧ lv_has z.2.2 6 [(5, .int y10), (4, .null), (0, .ref (ad 0 0)), (1, .int a1), (2, .int a2), (3, .int a3)]) (fun z => x11) (none, σ') ?_ ?_
    · intro hJx11
      dsimp only at hJx11 ⊢
      refine lv_if_ne (pc := 22) (tgt := 41) hx hb dV_drop_22 rfl (fun h12 => ?_) (fun h12 => ?_)
      · replace hf := ite_f h12 hf
        have hl := lv_sub hl (l' := [(5, .int y10), (4, .null), (0, .ref (ad 0 0)), (1, .int a1), (2, .int a2), (3, .int a3)]) [0, 1, 2, 3, 4, 5] rfl
        exact hJx11 (H, _, ls) ⟨hP, hD, hS, hl⟩ hf
      · replace hf := ite_t h12 hf
        refine lv_aloadN (pc := 25) hx hb dV_drop_25 (lv_at hl 1 rfl) ?_
        exact nomatch hf
    · rintro ⟨H, locs, ls⟩ ⟨hP, hD, hS, hl⟩ hf
      dsimp only at hP hD hS hl hf ⊢
      rw [hx11] at hf
      have hl : lv_has ls 6 [(5, .int y10), (4, .null), (0, .ref (ad 0 0)), (1, .int a1), (2, .int a2), (3, .int a3)] := hl
      refine lv_aload_n (pc := 41) hx hb dV_drop_41 rfl (lv_at hl 2 rfl) ?_
      refine lv_iload (pc := 42) hx hb dV_drop_42 (lv_at hl 0 rfl) ?_
      obtain ⟨q13, hq13, eq13⟩ := at_0 (ad := ad) (ca := ca) (σ := σ3) hm0
      obtain ⟨⟨y14, σ15⟩, hy14, hf⟩ := ob hf
      have hFc := w9_free hD hS hA
      refine va_calli (pc := 44) (va_runV (As := [.int y10]) (rest := []) ⟨hx, hb, hml, hown, hts⟩ (t_V_allowed l dC dI ad ca dom H.size σ3 y10 hm0 hN hC y14 σ15 hy14) (cwV 1 hts (gV wd_483 wd_484 wd_485 wd_254 wd_482) rfl rfl rfl (by decide +kernel) ⟨Nat.le_of_ble_eq_true rfl, Nat.le_of_ble_eq_true rfl⟩) ⟨hW_blind, va_recv (q := (RV, TV, 9)) (q0 := q13) (ci := 0) hK.1 hP rfl eq13, hW_pre hP hK hD hG⟩ rfl rfl hl.1 rfl (lv_room (Nat.le_of_ble_eq_true rfl)) dV_drop_44 ⟨Nat.le_of_ble_eq_true rfl, Nat.le_of_ble_eq_true rfl⟩) hS (fun q _ h => hFc q h) hFc (fun r9 u t H1 locs ht hvm hr9 hB hz1 hk1 hS => ?_)
      obtain ⟨hP, hD, hC⟩ := hB
      rw [ht] at hP
      replace hD := hD.weaken (fun _ _ _ h => hFc _ h)
      generalize H1 = H at hP hS ⊢
      refine W.eq (g2 := F0 m 47 ls [.int y14]) (by rw [hr9]) ?_
      refine lv_if_ne (pc := 47) (tgt := 52) hx hb dV_drop_47 rfl (fun h16 => ?_) (fun h16 => ?_)
      · replace hf := ite_f h16 hf
        refine lv_aloadN (pc := 52) hx hb dV_drop_52 (lv_at hl 1 rfl) ?_
        exact nomatch hf
      · replace hf := ite_t h16 hf
        refine lv_iconst (pc := 50) (v := 0) hx hb dV_drop_50 (by decide) ?_
        exact nomatch hf
  · replace hf := hq_s hE7 hf
    have hm17 : (6, j8) ∈ dom := (hmy6 _ hE7)
    refine W.eq (g2 := F0 m 9 ls [.ref (ad 6 j8)]) rfl ?_
    refine lv_astore (pc := 9) hx hb dV_drop_9 hl (by decide) rfl (fun ls hl => ?_)
    have hl : lv_has ls 6 [(4, .ref (ad 6 j8)), (0, .ref (ad 0 0)), (1, .int a1), (2, .int a2), (3, .int a3)] := hl
    refine lv_aload_n (pc := 11) hx hb dV_drop_11 rfl (lv_at hl 1 rfl) ?_
    refine lv_aload (pc := 12) hx hb dV_drop_12 (lv_at hl 0 rfl) ?_
    refine lv_iload_n (pc := 14) hx hb dV_drop_14 rfl (lv_at hl 3 rfl) ?_
    obtain ⟨q18, hq18, eq18⟩ := at_0 (ad := ad) (ca := ca) (σ := σ3) hm0
    obtain ⟨y19, hy19, hf⟩ := ob hf
    refine vp_callSi (pc := 15) (W.runV (As := [.ref (ad 6 j8), .int a2]) (rest := []) ⟨hx, hb, hml, hown, hts⟩ (t_V_copyRefusal l dC dI ad ca dom σ3 (some j8) a2 hm0 (fun _ z => Option.some.inj z ▸ hm17) hN hC y19 hy19) (cwV 2 hts (gV wd_511 wd_512 wd_513 wd_254 wd_510) rfl rfl rfl (by decide +kernel) ⟨Nat.le_of_ble_eq_true rfl, Nat.le_of_ble_eq_true rfl⟩) ⟨hR_blind, va_recv (q := (RV, TV, 9)) (q0 := q18) (ci := 0) hK.1 hP rfl eq18, hR_pre hP hK hG⟩ rfl rfl hl.1 rfl (lv_room (Nat.le_of_ble_eq_true rfl)) dV_drop_15 ⟨Nat.le_of_ble_eq_true rfl, Nat.le_of_ble_eq_true rfl⟩) (fun r9 hr9 => ?_)
    refine W.eq (g2 := F0 m 18 ls [.int y19]) (by rw [hr9]) ?_
    refine lv_istore (pc := 18) hx hb dV_drop_18 hl (by decide) rfl (fun ls hl => ?_)
    have hl : lv_has ls 6 [(5, .int y19), (4, .ref (ad 6 j8)), (0, .ref (ad 0 0)), (1, .int a1), (2, .int a2), (3, .int a3)] := hl
    refine lv_iload (pc := 20) hx hb dV_drop_20 (lv_at hl 0 rfl) ?_
    obtain ⟨x20, hx20, hf⟩ := lt_9 hf
    refine jnF (τ := (Int32) × (Heap) × (List Loc) × (Array Slot)) (fun pc st z => W p l e _ s m _ below meth c z.2.1 z.2.2.1 0 0 _ (F0 m pc z.2.2.2 st)) (pc0 := 22) (st0 := [.int y19]) (z0 := (0, H, _, ls)) 41 (fun z => []) (fun z => va_P (dC, dI) kCl (w9 ad ca dom (σ3)) z.2.1 ∧ va_D A (w9 ad ca dom (σ3)) ∧ va_S A s.heap z.2.1 z.2.2.1 ∧ lv_has z.2.2.2 6 [(5, .int z.1), (4, .ref (ad 6 j8)), (0, .ref (ad 0 0)), (1, .int a1), (2, .int a2), (3, .int a3)]) (fun z => x20 z.1) (none, σ') ?_ ?_
    · intro hJx20
      dsimp only at hJx20 ⊢
      refine lv_if_ne (pc := 22) (tgt := 41) hx hb dV_drop_22 rfl (fun h22 => ?_) (fun h22 => ?_)
      · replace hf := ite_f h22 hf
        have hl := lv_sub hl (l' := [(5, .int y19), (4, .ref (ad 6 j8)), (0, .ref (ad 0 0)), (1, .int a1), (2, .int a2), (3, .int a3)]) [0, 1, 2, 3, 4, 5] rfl
        exact hJx20 (y19, H, _, ls) ⟨hP, hD, hS, hl⟩ hf
      · replace hf := ite_t h22 hf
        refine lv_aload (pc := 25) hx hb dV_drop_25 (lv_at hl 1 rfl) ?_
        obtain ⟨q23, hq23, eq23⟩ := at_6 (ad := ad) (ca := ca) (σ := σ3) hm17
        refine va_get (D := (dC, dI)) (cl := kCl) (C := RD) (T := TD) (N := 5) (pc := 27) hx hb hts inD hown hK.1 hP q23 eq23 rfl 3 (by decide) (hts _ wd_368) (fun _ h9 => h9) rfl dV_drop_27 ?_
        refine lv_iload_n (pc := 30) hx hb dV_drop_30 rfl (lv_at hl 5 rfl) ?_
        obtain ⟨q24, hq24, eq24⟩ := at_5 (ad := ad) (ca := ca) (σ := σ3) (cm_6_3 hC hm17)
        refine vp_callSi (pc := 31) (W.runV (As := [.int a3]) (rest := []) ⟨hx, hb, hml, hown, hts⟩ (t_C_hasReference l dC dI ad ca dom σ3 (3 * j8) a3 (cm_6_3 hC hm17) hN hC (C_hasReference σ3 (3 * j8) a3) rfl) (cwV 1 hts (gV wd_536 wd_537 wd_538 wd_228 wd_535) rfl rfl rfl (by decide +kernel) ⟨Nat.le_of_ble_eq_true rfl, Nat.le_of_ble_eq_true rfl⟩) ⟨hR_blind, va_recv (q := (RC, TC, 5)) (q0 := q24) (ci := 5) hK.1 hP rfl eq24, hR_pre hP hK hG⟩ rfl rfl hl.1 rfl (lv_room (Nat.le_of_ble_eq_true rfl)) dV_drop_31 ⟨Nat.le_of_ble_eq_true rfl, Nat.le_of_ble_eq_true rfl⟩) (fun r9 hr9 => ?_)
        refine W.eq (g2 := F0 m 34 ls [.int (C_hasReference σ3 (3 * j8) a3)]) (by rw [hr9]) ?_
        refine lv_if_ne (pc := 34) (tgt := 41) hx hb dV_drop_34 rfl (fun h25 => ?_) (fun h25 => ?_)
        · replace hf := ite_f h25 hf
          have hl := lv_sub hl (l' := [(5, .int y19), (4, .ref (ad 6 j8)), (0, .ref (ad 0 0)), (1, .int a1), (2, .int a2), (3, .int a3)]) [0, 1, 2, 3, 4, 5] rfl
          exact hJx20 (y19, H, _, ls) ⟨hP, hD, hS, hl⟩ hf
        · replace hf := ite_t h25 hf
          refine lv_bipush (pc := 37) (v := 7) hx hb dV_drop_37 (by decide) ?_
          refine lv_istore (pc := 39) hx hb dV_drop_39 hl (by decide) rfl (fun ls hl => ?_)
          have hl : lv_has ls 6 [(5, .int 7), (4, .ref (ad 6 j8)), (0, .ref (ad 0 0)), (1, .int a1), (2, .int a2), (3, .int a3)] := hl
          have hl := lv_sub hl (l' := [(5, .int 7), (4, .ref (ad 6 j8)), (0, .ref (ad 0 0)), (1, .int a1), (2, .int a2), (3, .int a3)]) [0, 1, 2, 3, 4, 5] rfl
          exact hJx20 (7, H, _, ls) ⟨hP, hD, hS, hl⟩ hf
    · rintro ⟨q21, H, locs, ls⟩ ⟨hP, hD, hS, hl⟩ hf
      dsimp only at hP hD hS hl hf ⊢
      rw [hx20] at hf
      have hl : lv_has ls 6 [(5, .int q21), (4, .ref (ad 6 j8)), (0, .ref (ad 0 0)), (1, .int a1), (2, .int a2), (3, .int a3)] := hl
      refine lv_aload_n (pc := 41) hx hb dV_drop_41 rfl (lv_at hl 2 rfl) ?_
      refine lv_iload (pc := 42) hx hb dV_drop_42 (lv_at hl 0 rfl) ?_
      obtain ⟨q26, hq26, eq26⟩ := at_0 (ad := ad) (ca := ca) (σ := σ3) hm0
      obtain ⟨⟨y27, σ28⟩, hy27, hf⟩ := ob hf
      have hFc := w9_free hD hS hA
      refine va_calli (pc := 44) (va_runV (As := [.int q21]) (rest := []) ⟨hx, hb, hml, hown, hts⟩ (t_V_allowed l dC dI ad ca dom H.size σ3 q21 hm0 hN hC y27 σ28 hy27) (cwV 1 hts (gV wd_483 wd_484 wd_485 wd_254 wd_482) rfl rfl rfl (by decide +kernel) ⟨Nat.le_of_ble_eq_true rfl, Nat.le_of_ble_eq_true rfl⟩) ⟨hW_blind, va_recv (q := (RV, TV, 9)) (q0 := q26) (ci := 0) hK.1 hP rfl eq26, hW_pre hP hK hD hG⟩ rfl rfl hl.1 rfl (lv_room (Nat.le_of_ble_eq_true rfl)) dV_drop_44 ⟨Nat.le_of_ble_eq_true rfl, Nat.le_of_ble_eq_true rfl⟩) hS (fun q _ h => hFc q h) hFc (fun r9 u t H1 locs ht hvm hr9 hB hz1 hk1 hS => ?_)
      obtain ⟨hP, hD, hC⟩ := hB
      rw [ht] at hP
      replace hD := hD.weaken (fun _ _ _ h => hFc _ h)
      generalize H1 = H at hP hS ⊢
      refine W.eq (g2 := F0 m 47 ls [.int y27]) (by rw [hr9]) ?_
      refine lv_if_ne (pc := 47) (tgt := 52) hx hb dV_drop_47 rfl (fun h29 => ?_) (fun h29 => ?_)
      · replace hf := ite_f h29 hf
        refine lv_aload (pc := 52) hx hb dV_drop_52 (lv_at hl 1 rfl) ?_
        obtain ⟨q30, hq30, eq30⟩ := at_6 (ad := ad) (ca := ca) (σ := σ28) hm17
        refine va_get (D := (dC, dI)) (cl := kCl) (C := RD) (T := TD) (N := 5) (pc := 54) hx hb hts inD hown hK.1 hP q30 eq30 rfl 3 (by decide) (hts _ wd_368) (fun _ h9 => h9) rfl dV_drop_54 ?_
        refine lv_iload_n (pc := 57) hx hb dV_drop_57 rfl (lv_at hl 5 rfl) ?_
        obtain ⟨q31, hq31, eq31⟩ := at_5 (ad := ad) (ca := ca) (σ := σ28) (cm_6_3 hC hm17)
        obtain ⟨⟨y32, σ33⟩, hy32, hf⟩ := ob hf
        have hFc := w9_free hD hS hA
        refine va_callv (pc := 58) (va_runV (As := [.int a3]) (rest := []) ⟨hx, hb, hml, hown, hts⟩ (t_C_removeReference l dC dI ad ca dom H.size n σ28 (3 * j8) a3 (cm_6_3 hC hm17) hN hC y32 σ33 hy32) (cwV 1 hts (gV wd_540 wd_541 wd_542 wd_228 wd_539) rfl rfl rfl (by decide +kernel) ⟨Nat.le_of_ble_eq_true rfl, Nat.le_of_ble_eq_true rfl⟩) ⟨hW_blind, va_recv (q := (RC, TC, 5)) (q0 := q31) (ci := 5) hK.1 hP rfl eq31, hW_pre hP hK hD hG⟩ rfl rfl hl.1 rfl (lv_room (Nat.le_of_ble_eq_true rfl)) dV_drop_58 ⟨Nat.le_of_ble_eq_true rfl, Nat.le_of_ble_eq_true rfl⟩) hS (fun q _ h => hFc q h) hFc (fun u t H1 locs ht hvm hr9 hB hz1 hk1 hS => ?_)
        obtain ⟨hP, hD, hC⟩ := hB
        rw [ht] at hP
        replace hD := hD.weaken (fun _ _ _ h => hFc _ h)
        generalize H1 = H at hP hS ⊢
        refine lv_iconst (pc := 61) (v := 1) hx hb dV_drop_61 (by decide) ?_
        exact nomatch hf
      · replace hf := ite_t h29 hf
        refine lv_iconst (pc := 50) (v := 0) hx hb dV_drop_50 (by decide) ?_
        exact nomatch hf
set_option maxHeartbeats 4000000 in
set_option maxRecDepth 100000 in
theorem x_V_check (l : Launch) (dC : Nat → ClassId) (dI : Nat → Nat → Nat) (ad : Nat → Nat → Nat) (ca : Nat → Nat → ClassId) (dom : List (Nat × Nat)) (sz : Nat) (n : Nat) (σ : hT) (a1 : Int32) (a2 : Int32) (a3 : Int32) (hm0 : (0, 0) ∈ dom) (hN : dom.Nodup) (hC : clo dom σ.2.2) (σ' : hT) (hfl : l.stackTraces = false) (hf : V_check n σ a1 a2 a3 = some (none, σ')) : tMet l yV_check (.code yV_check cV_check 4 (some .boolean) :: aw) ({ frames := 8, cells := 1, slots := 6, locals := 150 }) (hX (dC, dI) sz ad ca dom σ [.ref (ad 0 0), .int a1, .int a2, .int a3]) nIS (va_A (w9 ad ca dom σ) sz) (fun H1 => va_P (dC, dI) kCl (w9 ad ca dom σ') H1 ∧ va_D (va_A (w9 ad ca dom σ) sz) (w9 ad ca dom σ') ∧ clo dom σ'.2.2) := by
  refine tOfW (cc := cV_check) (maxL := 4) (ret := (some .boolean)) (by decide) rfl ?_
  intro p e s m args below meth c s₁ B hml hno hv
  obtain ⟨rfl, hv⟩ := hv
  have hx := B.exec
  have hb := B.bytes
  have hts : ∀ w ∈ aw, w.before _ s = true := fun w h => atoms_spec (ws := (.code yV_check cV_check 4 (some .boolean) :: aw)) B.pre w (List.mem_cons_of_mem _ h)
  have hown : s.vm.findClass RV = some m.cls := findClass_of_methodNamed B.named
  have hlocks := B.notSynchronized
  obtain ⟨hsz, hP, hK, hD0, hG, hE⟩ := hv
  subst hsz
  have hD := hD0.self (sz := s.heap.size)
  generalize hAe : va_A (w9 ad ca dom σ) s.heap.size = A at hD ⊢
  have hA : ∀ q : Nat, s.heap.size ≤ q → A q := fun q h => by rw [← hAe]; exact Or.inr h
  have hSA : ∀ q : Nat, q < s.heap.size → A q → xS ad dom q := fun q h z => by rw [← hAe] at z; exact w9_xS z h
  obtain ⟨H, hH⟩ : ∃ H, H = s.heap := ⟨_, rfl⟩
  have hS : va_S A s.heap H [] := by rw [hH]; exact va_S.rf
  rw [← hH] at hP ⊢
  unfold V_check at hf
  have hl := lv_entry ([.ref (ad 0 0), .int a1, .int a2, .int a3]) (n := 4) (Nat.le_of_ble_eq_true rfl)
  rw [lg_entry_eq]
  generalize (lg_sl ([.ref (ad 0 0), .int a1, .int a2, .int a3]) ++ List.replicate (4 - (lg_sl ([.ref (ad 0 0), .int a1, .int a2, .int a3])).length) Slot.unset).toArray = ls at hl ⊢
  have hl : lv_has ls 4 [(0, .ref (ad 0 0)), (1, .int a1), (2, .int a2), (3, .int a3)] := hl
  refine lv_aload_n (pc := 0) hx hb dV_check_0 rfl (lv_at hl 0 rfl) ?_
  obtain ⟨q1, hq1, eq1⟩ := at_0 (ad := ad) (ca := ca) (σ := σ) hm0
  obtain ⟨⟨y2o, σ3⟩, hy2, hf⟩ := ob hf
  rcases y2o with _ | y2
  · have h9 := ex9_x hf
    subst h9
    have hFc := w9_free hD hS hA
    exact tPassV (pc := 1) (As := []) (rest := []) ⟨hx, hb, hml, hown, hts⟩ (x_V_needPower l dC dI ad ca dom H.size σ hm0 hN hC σ3 hfl hy2) (cwV 0 hts (gV wd_499 wd_500 wd_501 wd_254 wd_498) rfl rfl rfl (by decide +kernel) ⟨Nat.le_of_ble_eq_true rfl, Nat.le_of_ble_eq_true rfl⟩) ⟨hX_blind, va_recv (q := (RV, TV, 9)) (q0 := q1) (ci := 0) hK.1 hP rfl eq1, hX_pre hP hK hD hG hE hS hSA⟩ rfl hl.1 rfl (lv_room (Nat.le_of_ble_eq_true rfl)) dV_check_1 ⟨Nat.le_of_ble_eq_true rfl, Nat.le_of_ble_eq_true rfl⟩ hno hlocks hS (fun x h => hFc _ h) (fun H1 h => ⟨h.1, h.2.1.weaken (fun _ _ _ z => hFc _ z), h.2.2⟩)
  replace hf := ex9_s hf
  have hFc := w9_free hD hS hA
  refine va_callv (pc := 1) (va_runV (As := []) (rest := []) ⟨hx, hb, hml, hown, hts⟩ (t_V_needPower l dC dI ad ca dom H.size σ hm0 hN hC y2 σ3 hy2) (cwV 0 hts (gV wd_499 wd_500 wd_501 wd_254 wd_498) rfl rfl rfl (by decide +kernel) ⟨Nat.le_of_ble_eq_true rfl, Nat.le_of_ble_eq_true rfl⟩) ⟨hW_blind, va_recv (q := (RV, TV, 9)) (q0 := q1) (ci := 0) hK.1 hP rfl eq1, hW_pre hP hK hD hG⟩ rfl rfl hl.1 rfl (lv_room (Nat.le_of_ble_eq_true rfl)) dV_check_1 ⟨Nat.le_of_ble_eq_true rfl, Nat.le_of_ble_eq_true rfl⟩) hS (fun q _ h => hFc q h) hFc (fun u t H1 locs ht hvm hr9 hB hz1 hk1 hS => ?_)
  obtain ⟨hP, hD, hC⟩ := hB
  rw [ht] at hP
  replace hD := hD.weaken (fun _ _ _ h => hFc _ h)
  generalize H1 = H at hP hS ⊢
  refine lv_aload_n (pc := 4) hx hb dV_check_4 rfl (lv_at hl 0 rfl) ?_
  refine lv_iload_n (pc := 5) hx hb dV_check_5 rfl (lv_at hl 1 rfl) ?_
  refine lv_iload_n (pc := 6) hx hb dV_check_6 rfl (lv_at hl 2 rfl) ?_
  refine lv_iconst (pc := 7) (v := 1) hx hb dV_check_7 (by decide) ?_
  refine lv_aload_n (pc := 8) hx hb dV_check_8 rfl (lv_at hl 0 rfl) ?_
  refine lv_iload_n (pc := 9) hx hb dV_check_9 rfl (lv_at hl 1 rfl) ?_
  refine lv_iload_n (pc := 10) hx hb dV_check_10 rfl (lv_at hl 2 rfl) ?_
  refine lv_iload_n (pc := 11) hx hb dV_check_11 rfl (lv_at hl 3 rfl) ?_
  obtain ⟨q4, hq4, eq4⟩ := at_0 (ad := ad) (ca := ca) (σ := σ3) hm0
  obtain ⟨y5, hy5, hf⟩ := ob hf
  refine vp_callSi (pc := 12) (W.runV (As := [.int a1, .int a2, .int a3]) (rest := [.int 1, .int a2, .int a1, .ref (ad 0 0)]) ⟨hx, hb, hml, hown, hts⟩ (t_V_checkRefusal l dC dI ad ca dom σ3 a1 a2 a3 hm0 hN hC y5 hy5) (cwV 3 hts (gV wd_544 wd_545 wd_546 wd_254 wd_543) rfl rfl rfl (by decide +kernel) ⟨Nat.le_of_ble_eq_true rfl, Nat.le_of_ble_eq_true rfl⟩) ⟨hR_blind, va_recv (q := (RV, TV, 9)) (q0 := q4) (ci := 0) hK.1 hP rfl eq4, hR_pre hP hK hG⟩ rfl rfl hl.1 rfl (lv_room (Nat.le_of_ble_eq_true rfl)) dV_check_12 ⟨Nat.le_of_ble_eq_true rfl, Nat.le_of_ble_eq_true rfl⟩) (fun r9 hr9 => ?_)
  refine W.eq (g2 := F0 m 15 ls [.int y5, .int 1, .int a2, .int a1, .ref (ad 0 0)]) (by rw [hr9]) ?_
  obtain ⟨q6, hq6, eq6⟩ := at_0 (ad := ad) (ca := ca) (σ := σ3) hm0
  obtain ⟨⟨y7o, σ8⟩, hy7, hf⟩ := ob hf
  rcases y7o with _ | y7
  · have h9 := ex9_x hf
    subst h9
    have hFc := w9_free hD hS hA
    exact tPassV (pc := 15) (As := [.int a1, .int a2, .int 1, .int y5]) (rest := []) ⟨hx, hb, hml, hown, hts⟩ (x_V_becomes l dC dI ad ca dom H.size n σ3 a1 a2 1 y5 hm0 hN hC σ8 hfl hy7) (cwV 4 hts (gV wd_548 wd_549 wd_550 wd_254 wd_547) rfl rfl rfl (by decide +kernel) ⟨Nat.le_of_ble_eq_true rfl, Nat.le_of_ble_eq_true rfl⟩) ⟨hX_blind, va_recv (q := (RV, TV, 9)) (q0 := q6) (ci := 0) hK.1 hP rfl eq6, hX_pre hP hK hD hG hE hS hSA⟩ rfl hl.1 rfl (lv_room (Nat.le_of_ble_eq_true rfl)) dV_check_15 ⟨Nat.le_of_ble_eq_true rfl, Nat.le_of_ble_eq_true rfl⟩ hno hlocks hS (fun x h => hFc _ h) (fun H1 h => ⟨h.1, h.2.1.weaken (fun _ _ _ z => hFc _ z), h.2.2⟩)
  replace hf := ex9_s hf
  have hFc := w9_free hD hS hA
  refine va_calli (pc := 15) (va_runV (As := [.int a1, .int a2, .int 1, .int y5]) (rest := []) ⟨hx, hb, hml, hown, hts⟩ (t_V_becomes l dC dI ad ca dom H.size n σ3 a1 a2 1 y5 hm0 hN hC y7 σ8 hy7) (cwV 4 hts (gV wd_548 wd_549 wd_550 wd_254 wd_547) rfl rfl rfl (by decide +kernel) ⟨Nat.le_of_ble_eq_true rfl, Nat.le_of_ble_eq_true rfl⟩) ⟨hW_blind, va_recv (q := (RV, TV, 9)) (q0 := q6) (ci := 0) hK.1 hP rfl eq6, hW_pre hP hK hD hG⟩ rfl rfl hl.1 rfl (lv_room (Nat.le_of_ble_eq_true rfl)) dV_check_15 ⟨Nat.le_of_ble_eq_true rfl, Nat.le_of_ble_eq_true rfl⟩) hS (fun q _ h => hFc q h) hFc (fun r9 u t H1 locs ht hvm hr9 hB hz1 hk1 hS => ?_)
  obtain ⟨hP, hD, hC⟩ := hB
  rw [ht] at hP
  replace hD := hD.weaken (fun _ _ _ h => hFc _ h)
  generalize H1 = H at hP hS ⊢
  refine W.eq (g2 := F0 m 18 ls [.int y7]) (by rw [hr9]) ?_
  obtain ⟨hz9, hf⟩ := ite_s hf
  exact nomatch hf
set_option maxHeartbeats 4000000 in
set_option maxRecDepth 100000 in
theorem x_V_release (l : Launch) (dC : Nat → ClassId) (dI : Nat → Nat → Nat) (ad : Nat → Nat → Nat) (ca : Nat → Nat → ClassId) (dom : List (Nat × Nat)) (sz : Nat) (n : Nat) (σ : hT) (a1 : Int32) (a2 : Int32) (a3 : Int32) (hm0 : (0, 0) ∈ dom) (hN : dom.Nodup) (hC : clo dom σ.2.2) (σ' : hT) (hfl : l.stackTraces = false) (hf : V_release n σ a1 a2 a3 = some (none, σ')) : tMet l yV_release (.code yV_release cV_release 4 (some .boolean) :: aw) ({ frames := 8, cells := 1, slots := 6, locals := 150 }) (hX (dC, dI) sz ad ca dom σ [.ref (ad 0 0), .int a1, .int a2, .int a3]) nIS (va_A (w9 ad ca dom σ) sz) (fun H1 => va_P (dC, dI) kCl (w9 ad ca dom σ') H1 ∧ va_D (va_A (w9 ad ca dom σ) sz) (w9 ad ca dom σ') ∧ clo dom σ'.2.2) := by
  refine tOfW (cc := cV_release) (maxL := 4) (ret := (some .boolean)) (by decide) rfl ?_
  intro p e s m args below meth c s₁ B hml hno hv
  obtain ⟨rfl, hv⟩ := hv
  have hx := B.exec
  have hb := B.bytes
  have hts : ∀ w ∈ aw, w.before _ s = true := fun w h => atoms_spec (ws := (.code yV_release cV_release 4 (some .boolean) :: aw)) B.pre w (List.mem_cons_of_mem _ h)
  have hown : s.vm.findClass RV = some m.cls := findClass_of_methodNamed B.named
  have hlocks := B.notSynchronized
  obtain ⟨hsz, hP, hK, hD0, hG, hE⟩ := hv
  subst hsz
  have hD := hD0.self (sz := s.heap.size)
  generalize hAe : va_A (w9 ad ca dom σ) s.heap.size = A at hD ⊢
  have hA : ∀ q : Nat, s.heap.size ≤ q → A q := fun q h => by rw [← hAe]; exact Or.inr h
  have hSA : ∀ q : Nat, q < s.heap.size → A q → xS ad dom q := fun q h z => by rw [← hAe] at z; exact w9_xS z h
  obtain ⟨H, hH⟩ : ∃ H, H = s.heap := ⟨_, rfl⟩
  have hS : va_S A s.heap H [] := by rw [hH]; exact va_S.rf
  rw [← hH] at hP ⊢
  unfold V_release at hf
  have hl := lv_entry ([.ref (ad 0 0), .int a1, .int a2, .int a3]) (n := 4) (Nat.le_of_ble_eq_true rfl)
  rw [lg_entry_eq]
  generalize (lg_sl ([.ref (ad 0 0), .int a1, .int a2, .int a3]) ++ List.replicate (4 - (lg_sl ([.ref (ad 0 0), .int a1, .int a2, .int a3])).length) Slot.unset).toArray = ls at hl ⊢
  have hl : lv_has ls 4 [(0, .ref (ad 0 0)), (1, .int a1), (2, .int a2), (3, .int a3)] := hl
  refine lv_aload_n (pc := 0) hx hb dV_release_0 rfl (lv_at hl 0 rfl) ?_
  obtain ⟨q1, hq1, eq1⟩ := at_0 (ad := ad) (ca := ca) (σ := σ) hm0
  obtain ⟨⟨y2o, σ3⟩, hy2, hf⟩ := ob hf
  rcases y2o with _ | y2
  · have h9 := ex9_x hf
    subst h9
    have hFc := w9_free hD hS hA
    exact tPassV (pc := 1) (As := []) (rest := []) ⟨hx, hb, hml, hown, hts⟩ (x_V_needPower l dC dI ad ca dom H.size σ hm0 hN hC σ3 hfl hy2) (cwV 0 hts (gV wd_499 wd_500 wd_501 wd_254 wd_498) rfl rfl rfl (by decide +kernel) ⟨Nat.le_of_ble_eq_true rfl, Nat.le_of_ble_eq_true rfl⟩) ⟨hX_blind, va_recv (q := (RV, TV, 9)) (q0 := q1) (ci := 0) hK.1 hP rfl eq1, hX_pre hP hK hD hG hE hS hSA⟩ rfl hl.1 rfl (lv_room (Nat.le_of_ble_eq_true rfl)) dV_release_1 ⟨Nat.le_of_ble_eq_true rfl, Nat.le_of_ble_eq_true rfl⟩ hno hlocks hS (fun x h => hFc _ h) (fun H1 h => ⟨h.1, h.2.1.weaken (fun _ _ _ z => hFc _ z), h.2.2⟩)
  replace hf := ex9_s hf
  have hFc := w9_free hD hS hA
  refine va_callv (pc := 1) (va_runV (As := []) (rest := []) ⟨hx, hb, hml, hown, hts⟩ (t_V_needPower l dC dI ad ca dom H.size σ hm0 hN hC y2 σ3 hy2) (cwV 0 hts (gV wd_499 wd_500 wd_501 wd_254 wd_498) rfl rfl rfl (by decide +kernel) ⟨Nat.le_of_ble_eq_true rfl, Nat.le_of_ble_eq_true rfl⟩) ⟨hW_blind, va_recv (q := (RV, TV, 9)) (q0 := q1) (ci := 0) hK.1 hP rfl eq1, hW_pre hP hK hD hG⟩ rfl rfl hl.1 rfl (lv_room (Nat.le_of_ble_eq_true rfl)) dV_release_1 ⟨Nat.le_of_ble_eq_true rfl, Nat.le_of_ble_eq_true rfl⟩) hS (fun q _ h => hFc q h) hFc (fun u t H1 locs ht hvm hr9 hB hz1 hk1 hS => ?_)
  obtain ⟨hP, hD, hC⟩ := hB
  rw [ht] at hP
  replace hD := hD.weaken (fun _ _ _ h => hFc _ h)
  generalize H1 = H at hP hS ⊢
  refine lv_aload_n (pc := 4) hx hb dV_release_4 rfl (lv_at hl 0 rfl) ?_
  refine lv_iload_n (pc := 5) hx hb dV_release_5 rfl (lv_at hl 1 rfl) ?_
  refine lv_iload_n (pc := 6) hx hb dV_release_6 rfl (lv_at hl 2 rfl) ?_
  refine lv_iconst (pc := 7) (v := 2) hx hb dV_release_7 (by decide) ?_
  refine lv_aload_n (pc := 8) hx hb dV_release_8 rfl (lv_at hl 0 rfl) ?_
  refine lv_iload_n (pc := 9) hx hb dV_release_9 rfl (lv_at hl 1 rfl) ?_
  refine lv_iload_n (pc := 10) hx hb dV_release_10 rfl (lv_at hl 2 rfl) ?_
  refine lv_iload_n (pc := 11) hx hb dV_release_11 rfl (lv_at hl 3 rfl) ?_
  obtain ⟨q4, hq4, eq4⟩ := at_0 (ad := ad) (ca := ca) (σ := σ3) hm0
  obtain ⟨y5, hy5, hf⟩ := ob hf
  refine vp_callSi (pc := 12) (W.runV (As := [.int a1, .int a2, .int a3]) (rest := [.int 2, .int a2, .int a1, .ref (ad 0 0)]) ⟨hx, hb, hml, hown, hts⟩ (t_V_releaseRefusal l dC dI ad ca dom n σ3 a1 a2 a3 hm0 hN hC y5 hy5) (cwV 3 hts (gV wd_552 wd_553 wd_554 wd_254 wd_551) rfl rfl rfl (by decide +kernel) ⟨Nat.le_of_ble_eq_true rfl, Nat.le_of_ble_eq_true rfl⟩) ⟨hR_blind, va_recv (q := (RV, TV, 9)) (q0 := q4) (ci := 0) hK.1 hP rfl eq4, hR_pre hP hK hG⟩ rfl rfl hl.1 rfl (lv_room (Nat.le_of_ble_eq_true rfl)) dV_release_12 ⟨Nat.le_of_ble_eq_true rfl, Nat.le_of_ble_eq_true rfl⟩) (fun r9 hr9 => ?_)
  refine W.eq (g2 := F0 m 15 ls [.int y5, .int 2, .int a2, .int a1, .ref (ad 0 0)]) (by rw [hr9]) ?_
  obtain ⟨q6, hq6, eq6⟩ := at_0 (ad := ad) (ca := ca) (σ := σ3) hm0
  obtain ⟨⟨y7o, σ8⟩, hy7, hf⟩ := ob hf
  rcases y7o with _ | y7
  · have h9 := ex9_x hf
    subst h9
    have hFc := w9_free hD hS hA
    exact tPassV (pc := 15) (As := [.int a1, .int a2, .int 2, .int y5]) (rest := []) ⟨hx, hb, hml, hown, hts⟩ (x_V_becomes l dC dI ad ca dom H.size n σ3 a1 a2 2 y5 hm0 hN hC σ8 hfl hy7) (cwV 4 hts (gV wd_548 wd_549 wd_550 wd_254 wd_547) rfl rfl rfl (by decide +kernel) ⟨Nat.le_of_ble_eq_true rfl, Nat.le_of_ble_eq_true rfl⟩) ⟨hX_blind, va_recv (q := (RV, TV, 9)) (q0 := q6) (ci := 0) hK.1 hP rfl eq6, hX_pre hP hK hD hG hE hS hSA⟩ rfl hl.1 rfl (lv_room (Nat.le_of_ble_eq_true rfl)) dV_release_15 ⟨Nat.le_of_ble_eq_true rfl, Nat.le_of_ble_eq_true rfl⟩ hno hlocks hS (fun x h => hFc _ h) (fun H1 h => ⟨h.1, h.2.1.weaken (fun _ _ _ z => hFc _ z), h.2.2⟩)
  replace hf := ex9_s hf
  have hFc := w9_free hD hS hA
  refine va_calli (pc := 15) (va_runV (As := [.int a1, .int a2, .int 2, .int y5]) (rest := []) ⟨hx, hb, hml, hown, hts⟩ (t_V_becomes l dC dI ad ca dom H.size n σ3 a1 a2 2 y5 hm0 hN hC y7 σ8 hy7) (cwV 4 hts (gV wd_548 wd_549 wd_550 wd_254 wd_547) rfl rfl rfl (by decide +kernel) ⟨Nat.le_of_ble_eq_true rfl, Nat.le_of_ble_eq_true rfl⟩) ⟨hW_blind, va_recv (q := (RV, TV, 9)) (q0 := q6) (ci := 0) hK.1 hP rfl eq6, hW_pre hP hK hD hG⟩ rfl rfl hl.1 rfl (lv_room (Nat.le_of_ble_eq_true rfl)) dV_release_15 ⟨Nat.le_of_ble_eq_true rfl, Nat.le_of_ble_eq_true rfl⟩) hS (fun q _ h => hFc q h) hFc (fun r9 u t H1 locs ht hvm hr9 hB hz1 hk1 hS => ?_)
  obtain ⟨hP, hD, hC⟩ := hB
  rw [ht] at hP
  replace hD := hD.weaken (fun _ _ _ h => hFc _ h)
  generalize H1 = H at hP hS ⊢
  refine W.eq (g2 := F0 m 18 ls [.int y7]) (by rw [hr9]) ?_
  obtain ⟨hz9, hf⟩ := ite_s hf
  exact nomatch hf
set_option maxHeartbeats 4000000 in
set_option maxRecDepth 100000 in
theorem x_V_withdraw (l : Launch) (dC : Nat → ClassId) (dI : Nat → Nat → Nat) (ad : Nat → Nat → Nat) (ca : Nat → Nat → ClassId) (dom : List (Nat × Nat)) (sz : Nat) (n : Nat) (σ : hT) (a1 : Int32) (a2 : Int32) (a3 : Int32) (hm0 : (0, 0) ∈ dom) (hN : dom.Nodup) (hC : clo dom σ.2.2) (σ' : hT) (hfl : l.stackTraces = false) (hf : V_withdraw n σ a1 a2 a3 = some (none, σ')) : tMet l yV_withdraw (.code yV_withdraw cV_withdraw 4 (some .boolean) :: aw) ({ frames := 8, cells := 1, slots := 6, locals := 150 }) (hX (dC, dI) sz ad ca dom σ [.ref (ad 0 0), .int a1, .int a2, .int a3]) nIS (va_A (w9 ad ca dom σ) sz) (fun H1 => va_P (dC, dI) kCl (w9 ad ca dom σ') H1 ∧ va_D (va_A (w9 ad ca dom σ) sz) (w9 ad ca dom σ') ∧ clo dom σ'.2.2) := by
  refine tOfW (cc := cV_withdraw) (maxL := 4) (ret := (some .boolean)) (by decide) rfl ?_
  intro p e s m args below meth c s₁ B hml hno hv
  obtain ⟨rfl, hv⟩ := hv
  have hx := B.exec
  have hb := B.bytes
  have hts : ∀ w ∈ aw, w.before _ s = true := fun w h => atoms_spec (ws := (.code yV_withdraw cV_withdraw 4 (some .boolean) :: aw)) B.pre w (List.mem_cons_of_mem _ h)
  have hown : s.vm.findClass RV = some m.cls := findClass_of_methodNamed B.named
  have hlocks := B.notSynchronized
  obtain ⟨hsz, hP, hK, hD0, hG, hE⟩ := hv
  subst hsz
  have hD := hD0.self (sz := s.heap.size)
  generalize hAe : va_A (w9 ad ca dom σ) s.heap.size = A at hD ⊢
  have hA : ∀ q : Nat, s.heap.size ≤ q → A q := fun q h => by rw [← hAe]; exact Or.inr h
  have hSA : ∀ q : Nat, q < s.heap.size → A q → xS ad dom q := fun q h z => by rw [← hAe] at z; exact w9_xS z h
  obtain ⟨H, hH⟩ : ∃ H, H = s.heap := ⟨_, rfl⟩
  have hS : va_S A s.heap H [] := by rw [hH]; exact va_S.rf
  rw [← hH] at hP ⊢
  unfold V_withdraw at hf
  have hl := lv_entry ([.ref (ad 0 0), .int a1, .int a2, .int a3]) (n := 4) (Nat.le_of_ble_eq_true rfl)
  rw [lg_entry_eq]
  generalize (lg_sl ([.ref (ad 0 0), .int a1, .int a2, .int a3]) ++ List.replicate (4 - (lg_sl ([.ref (ad 0 0), .int a1, .int a2, .int a3])).length) Slot.unset).toArray = ls at hl ⊢
  have hl : lv_has ls 4 [(0, .ref (ad 0 0)), (1, .int a1), (2, .int a2), (3, .int a3)] := hl
  refine lv_aload_n (pc := 0) hx hb dV_withdraw_0 rfl (lv_at hl 0 rfl) ?_
  obtain ⟨q1, hq1, eq1⟩ := at_0 (ad := ad) (ca := ca) (σ := σ) hm0
  obtain ⟨⟨y2o, σ3⟩, hy2, hf⟩ := ob hf
  rcases y2o with _ | y2
  · have h9 := ex9_x hf
    subst h9
    have hFc := w9_free hD hS hA
    exact tPassV (pc := 1) (As := []) (rest := []) ⟨hx, hb, hml, hown, hts⟩ (x_V_needPower l dC dI ad ca dom H.size σ hm0 hN hC σ3 hfl hy2) (cwV 0 hts (gV wd_499 wd_500 wd_501 wd_254 wd_498) rfl rfl rfl (by decide +kernel) ⟨Nat.le_of_ble_eq_true rfl, Nat.le_of_ble_eq_true rfl⟩) ⟨hX_blind, va_recv (q := (RV, TV, 9)) (q0 := q1) (ci := 0) hK.1 hP rfl eq1, hX_pre hP hK hD hG hE hS hSA⟩ rfl hl.1 rfl (lv_room (Nat.le_of_ble_eq_true rfl)) dV_withdraw_1 ⟨Nat.le_of_ble_eq_true rfl, Nat.le_of_ble_eq_true rfl⟩ hno hlocks hS (fun x h => hFc _ h) (fun H1 h => ⟨h.1, h.2.1.weaken (fun _ _ _ z => hFc _ z), h.2.2⟩)
  replace hf := ex9_s hf
  have hFc := w9_free hD hS hA
  refine va_callv (pc := 1) (va_runV (As := []) (rest := []) ⟨hx, hb, hml, hown, hts⟩ (t_V_needPower l dC dI ad ca dom H.size σ hm0 hN hC y2 σ3 hy2) (cwV 0 hts (gV wd_499 wd_500 wd_501 wd_254 wd_498) rfl rfl rfl (by decide +kernel) ⟨Nat.le_of_ble_eq_true rfl, Nat.le_of_ble_eq_true rfl⟩) ⟨hW_blind, va_recv (q := (RV, TV, 9)) (q0 := q1) (ci := 0) hK.1 hP rfl eq1, hW_pre hP hK hD hG⟩ rfl rfl hl.1 rfl (lv_room (Nat.le_of_ble_eq_true rfl)) dV_withdraw_1 ⟨Nat.le_of_ble_eq_true rfl, Nat.le_of_ble_eq_true rfl⟩) hS (fun q _ h => hFc q h) hFc (fun u t H1 locs ht hvm hr9 hB hz1 hk1 hS => ?_)
  obtain ⟨hP, hD, hC⟩ := hB
  rw [ht] at hP
  replace hD := hD.weaken (fun _ _ _ h => hFc _ h)
  generalize H1 = H at hP hS ⊢
  refine lv_aload_n (pc := 4) hx hb dV_withdraw_4 rfl (lv_at hl 0 rfl) ?_
  refine lv_iload_n (pc := 5) hx hb dV_withdraw_5 rfl (lv_at hl 1 rfl) ?_
  refine lv_iload_n (pc := 6) hx hb dV_withdraw_6 rfl (lv_at hl 2 rfl) ?_
  refine lv_iconst (pc := 7) (v := 3) hx hb dV_withdraw_7 (by decide) ?_
  refine lv_aload_n (pc := 8) hx hb dV_withdraw_8 rfl (lv_at hl 0 rfl) ?_
  refine lv_iload_n (pc := 9) hx hb dV_withdraw_9 rfl (lv_at hl 1 rfl) ?_
  refine lv_iload_n (pc := 10) hx hb dV_withdraw_10 rfl (lv_at hl 2 rfl) ?_
  refine lv_iload_n (pc := 11) hx hb dV_withdraw_11 rfl (lv_at hl 3 rfl) ?_
  obtain ⟨q4, hq4, eq4⟩ := at_0 (ad := ad) (ca := ca) (σ := σ3) hm0
  obtain ⟨y5, hy5, hf⟩ := ob hf
  refine vp_callSi (pc := 12) (W.runV (As := [.int a1, .int a2, .int a3]) (rest := [.int 3, .int a2, .int a1, .ref (ad 0 0)]) ⟨hx, hb, hml, hown, hts⟩ (t_V_withdrawRefusal l dC dI ad ca dom n σ3 a1 a2 a3 hm0 hN hC y5 hy5) (cwV 3 hts (gV wd_556 wd_557 wd_558 wd_254 wd_555) rfl rfl rfl (by decide +kernel) ⟨Nat.le_of_ble_eq_true rfl, Nat.le_of_ble_eq_true rfl⟩) ⟨hR_blind, va_recv (q := (RV, TV, 9)) (q0 := q4) (ci := 0) hK.1 hP rfl eq4, hR_pre hP hK hG⟩ rfl rfl hl.1 rfl (lv_room (Nat.le_of_ble_eq_true rfl)) dV_withdraw_12 ⟨Nat.le_of_ble_eq_true rfl, Nat.le_of_ble_eq_true rfl⟩) (fun r9 hr9 => ?_)
  refine W.eq (g2 := F0 m 15 ls [.int y5, .int 3, .int a2, .int a1, .ref (ad 0 0)]) (by rw [hr9]) ?_
  obtain ⟨q6, hq6, eq6⟩ := at_0 (ad := ad) (ca := ca) (σ := σ3) hm0
  obtain ⟨⟨y7o, σ8⟩, hy7, hf⟩ := ob hf
  rcases y7o with _ | y7
  · have h9 := ex9_x hf
    subst h9
    have hFc := w9_free hD hS hA
    exact tPassV (pc := 15) (As := [.int a1, .int a2, .int 3, .int y5]) (rest := []) ⟨hx, hb, hml, hown, hts⟩ (x_V_becomes l dC dI ad ca dom H.size n σ3 a1 a2 3 y5 hm0 hN hC σ8 hfl hy7) (cwV 4 hts (gV wd_548 wd_549 wd_550 wd_254 wd_547) rfl rfl rfl (by decide +kernel) ⟨Nat.le_of_ble_eq_true rfl, Nat.le_of_ble_eq_true rfl⟩) ⟨hX_blind, va_recv (q := (RV, TV, 9)) (q0 := q6) (ci := 0) hK.1 hP rfl eq6, hX_pre hP hK hD hG hE hS hSA⟩ rfl hl.1 rfl (lv_room (Nat.le_of_ble_eq_true rfl)) dV_withdraw_15 ⟨Nat.le_of_ble_eq_true rfl, Nat.le_of_ble_eq_true rfl⟩ hno hlocks hS (fun x h => hFc _ h) (fun H1 h => ⟨h.1, h.2.1.weaken (fun _ _ _ z => hFc _ z), h.2.2⟩)
  replace hf := ex9_s hf
  have hFc := w9_free hD hS hA
  refine va_calli (pc := 15) (va_runV (As := [.int a1, .int a2, .int 3, .int y5]) (rest := []) ⟨hx, hb, hml, hown, hts⟩ (t_V_becomes l dC dI ad ca dom H.size n σ3 a1 a2 3 y5 hm0 hN hC y7 σ8 hy7) (cwV 4 hts (gV wd_548 wd_549 wd_550 wd_254 wd_547) rfl rfl rfl (by decide +kernel) ⟨Nat.le_of_ble_eq_true rfl, Nat.le_of_ble_eq_true rfl⟩) ⟨hW_blind, va_recv (q := (RV, TV, 9)) (q0 := q6) (ci := 0) hK.1 hP rfl eq6, hW_pre hP hK hD hG⟩ rfl rfl hl.1 rfl (lv_room (Nat.le_of_ble_eq_true rfl)) dV_withdraw_15 ⟨Nat.le_of_ble_eq_true rfl, Nat.le_of_ble_eq_true rfl⟩) hS (fun q _ h => hFc q h) hFc (fun r9 u t H1 locs ht hvm hr9 hB hz1 hk1 hS => ?_)
  obtain ⟨hP, hD, hC⟩ := hB
  rw [ht] at hP
  replace hD := hD.weaken (fun _ _ _ h => hFc _ h)
  generalize H1 = H at hP hS ⊢
  refine W.eq (g2 := F0 m 18 ls [.int y7]) (by rw [hr9]) ?_
  obtain ⟨hz9, hf⟩ := ite_s hf
  exact nomatch hf
set_option maxHeartbeats 4000000 in
set_option maxRecDepth 100000 in
theorem x_V_byteOf (l : Launch) (dC : Nat → ClassId) (dI : Nat → Nat → Nat) (ad : Nat → Nat → Nat) (ca : Nat → Nat → ClassId) (dom : List (Nat × Nat)) (sz : Nat) (σ : hT) (j0 : Nat) (a1 : Int32) (hm0 : (5, j0) ∈ dom) (hN : dom.Nodup) (hC : clo dom σ.2.2) (σ' : hT) (hfl : l.stackTraces = false) (hf : V_byteOf σ j0 a1 = some (none, σ')) : tMet l yV_byteOf (.code yV_byteOf cV_byteOf 3 (some .int) :: aw) ({ frames := 6, cells := 1, slots := 6, locals := 81 }) (hX (dC, dI) sz ad ca dom σ [.ref (ad 5 j0), .int a1]) nIX (va_A (w9 ad ca dom σ) sz) (fun H1 => va_P (dC, dI) kCl (w9 ad ca dom σ') H1 ∧ va_D (va_A (w9 ad ca dom σ) sz) (w9 ad ca dom σ') ∧ clo dom σ'.2.2) := by
  refine tOfW (cc := cV_byteOf) (maxL := 3) (ret := (some .int)) (by decide) rfl ?_
  intro p e s m args below meth c s₁ B hml hno hv
  obtain ⟨rfl, hv⟩ := hv
  have hx := B.exec
  have hb := B.bytes
  have hts : ∀ w ∈ aw, w.before _ s = true := fun w h => atoms_spec (ws := (.code yV_byteOf cV_byteOf 3 (some .int) :: aw)) B.pre w (List.mem_cons_of_mem _ h)
  have hown : s.vm.findClass RV = some m.cls := findClass_of_methodNamed B.named
  have hlocks := B.notSynchronized
  obtain ⟨hsz, hP, hK, hD0, hG, hE⟩ := hv
  subst hsz
  have hD := hD0.self (sz := s.heap.size)
  generalize hAe : va_A (w9 ad ca dom σ) s.heap.size = A at hD ⊢
  have hA : ∀ q : Nat, s.heap.size ≤ q → A q := fun q h => by rw [← hAe]; exact Or.inr h
  have hSA : ∀ q : Nat, q < s.heap.size → A q → xS ad dom q := fun q h z => by rw [← hAe] at z; exact w9_xS z h
  obtain ⟨H, hH⟩ : ∃ H, H = s.heap := ⟨_, rfl⟩
  have hS : va_S A s.heap H [] := by rw [hH]; exact va_S.rf
  rw [← hH] at hP ⊢
  unfold V_byteOf at hf
  have hl := lv_entry ([.ref (ad 5 j0), .int a1]) (n := 3) (Nat.le_of_ble_eq_true rfl)
  rw [lg_entry_eq]
  generalize (lg_sl ([.ref (ad 5 j0), .int a1]) ++ List.replicate (3 - (lg_sl ([.ref (ad 5 j0), .int a1])).length) Slot.unset).toArray = ls at hl ⊢
  have hl : lv_has ls 3 [(0, .ref (ad 5 j0)), (1, .int a1)] := hl
  refine lv_iload_n (pc := 0) hx hb dV_byteOf_0 rfl (lv_at hl 1 rfl) ?_
  refine lv_bipush (pc := 1) (v := 8) hx hb dV_byteOf_1 (by decide) ?_
  refine lv_isub (pc := 3) hx hb dV_byteOf_3 ?_
  refine lv_istore_n (pc := 4) hx hb dV_byteOf_4 rfl hl (by decide) rfl (fun ls hl => ?_)
  have hl : lv_has ls 3 [(2, .int (a1 - 8)), (0, .ref (ad 5 j0)), (1, .int a1)] := hl
  refine lv_iload_n (pc := 5) hx hb dV_byteOf_5 rfl (lv_at hl 2 rfl) ?_
  refine lv_bipush (pc := 6) (v := 8) hx hb dV_byteOf_6 (by decide) ?_
  refine lv_icmp_lt (pc := 8) (tgt := 19) hx hb dV_byteOf_8 rfl (fun h1 => ?_) (fun h1 => ?_)
  · replace hf := ite_t h1 hf
    obtain ⟨-, h9⟩ := Prod.mk.inj (Option.some.inj hf)
    subst h9
    exact tThrow (A := A) (S := xS ad dom) (pc := 19) (own := RV) (cls := nIX) (names := [nRT, nEX]) hx hb hfl hown (by decide +kernel) (by decide +kernel) hts hE hS hSA wd_638 wd_639 (fun U h1 h2 => xat_IX h1 h2) (hl.1.trans hml.symm) dV_byteOf_19 dV_byteOf_22 dV_byteOf_23 dV_byteOf_26 hno (by decide) (by decide) (by decide) (by decide) hlocks (fun H1 hz hk => ⟨hP.kept (fun k q hq => hk _ ((hP k q hq).lt)), hD, hC⟩)
  · replace hf := ite_f h1 hf
    refine lv_aload_n (pc := 11) hx hb dV_byteOf_11 rfl (lv_at hl 1 rfl) ?_
    refine lv_iload_n (pc := 12) hx hb dV_byteOf_12 rfl (lv_at hl 0 rfl) ?_
    obtain ⟨q2, hq2, eq2⟩ := at_5 (ad := ad) (ca := ca) (σ := σ) hm0
    refine vp_callSi (pc := 13) (W.runV (As := [.int (a1 - 8)]) (rest := []) ⟨hx, hb, hml, hown, hts⟩ (t_C_hasByte l dC dI ad ca dom σ j0 (a1 - 8) hm0 hN hC (C_hasByte σ j0 (a1 - 8)) rfl) (cwV 1 hts (gV wd_519 wd_520 wd_521 wd_228 wd_518) rfl rfl rfl (by decide +kernel) ⟨Nat.le_of_ble_eq_true rfl, Nat.le_of_ble_eq_true rfl⟩) ⟨hR_blind, va_recv (q := (RC, TC, 5)) (q0 := q2) (ci := 5) hK.1 hP rfl eq2, hR_pre hP hK hG⟩ rfl rfl hl.1 rfl (lv_room (Nat.le_of_ble_eq_true rfl)) dV_byteOf_13 ⟨Nat.le_of_ble_eq_true rfl, Nat.le_of_ble_eq_true rfl⟩) (fun r9 hr9 => ?_)
    refine W.eq (g2 := F0 m 16 ls [.int (C_hasByte σ j0 (a1 - 8))]) (by rw [hr9]) ?_
    refine lv_if_ne (pc := 16) (tgt := 27) hx hb dV_byteOf_16 rfl (fun h3 => ?_) (fun h3 => ?_)
    · replace hf := ite_f h3 hf
      refine lv_aload_n (pc := 27) hx hb dV_byteOf_27 rfl (lv_at hl 1 rfl) ?_
      refine lv_iload_n (pc := 28) hx hb dV_byteOf_28 rfl (lv_at hl 0 rfl) ?_
      obtain ⟨q4, hq4, eq4⟩ := at_5 (ad := ad) (ca := ca) (σ := σ) hm0
      obtain ⟨y5, hy5, hf⟩ := ob hf
      refine vp_callSi (pc := 29) (W.runV (As := [.int (a1 - 8)]) (rest := []) ⟨hx, hb, hml, hown, hts⟩ (t_C_byteAt l dC dI ad ca dom σ j0 (a1 - 8) hm0 hN hC y5 hy5) (cwV 1 hts (gV wd_560 wd_561 wd_562 wd_228 wd_559) rfl rfl rfl (by decide +kernel) ⟨Nat.le_of_ble_eq_true rfl, Nat.le_of_ble_eq_true rfl⟩) ⟨hR_blind, va_recv (q := (RC, TC, 5)) (q0 := q4) (ci := 5) hK.1 hP rfl eq4, hR_pre hP hK hG⟩ rfl rfl hl.1 rfl (lv_room (Nat.le_of_ble_eq_true rfl)) dV_byteOf_29 ⟨Nat.le_of_ble_eq_true rfl, Nat.le_of_ble_eq_true rfl⟩) (fun r9 hr9 => ?_)
      refine W.eq (g2 := F0 m 32 ls [.int y5]) (by rw [hr9]) ?_
      exact nomatch hf
    · replace hf := ite_t h3 hf
      obtain ⟨-, h9⟩ := Prod.mk.inj (Option.some.inj hf)
      subst h9
      exact tThrow (A := A) (S := xS ad dom) (pc := 19) (own := RV) (cls := nIX) (names := [nRT, nEX]) hx hb hfl hown (by decide +kernel) (by decide +kernel) hts hE hS hSA wd_638 wd_639 (fun U h1 h2 => xat_IX h1 h2) (hl.1.trans hml.symm) dV_byteOf_19 dV_byteOf_22 dV_byteOf_23 dV_byteOf_26 hno (by decide) (by decide) (by decide) (by decide) hlocks (fun H1 hz hk => ⟨hP.kept (fun k q hq => hk _ ((hP k q hq).lt)), hD, hC⟩)
set_option maxHeartbeats 4000000 in
set_option maxRecDepth 100000 in
theorem x_V_referencePart (l : Launch) (dC : Nat → ClassId) (dI : Nat → Nat → Nat) (ad : Nat → Nat → Nat) (ca : Nat → Nat → ClassId) (dom : List (Nat × Nat)) (sz : Nat) (σ : hT) (j0 : Nat) (a1 : Int32) (hm0 : (5, j0) ∈ dom) (hN : dom.Nodup) (hC : clo dom σ.2.2) (σ' : hT) (hfl : l.stackTraces = false) (hf : V_referencePart σ j0 a1 = some (none, σ')) : tMet l yV_referencePart (.code yV_referencePart cV_referencePart 4 (some .int) :: aw) ({ frames := 6, cells := 1, slots := 6, locals := 81 }) (hX (dC, dI) sz ad ca dom σ [.ref (ad 5 j0), .int a1]) nIX (va_A (w9 ad ca dom σ) sz) (fun H1 => va_P (dC, dI) kCl (w9 ad ca dom σ') H1 ∧ va_D (va_A (w9 ad ca dom σ) sz) (w9 ad ca dom σ') ∧ clo dom σ'.2.2) := by
  refine tOfW (cc := cV_referencePart) (maxL := 4) (ret := (some .int)) (by decide) rfl ?_
  intro p e s m args below meth c s₁ B hml hno hv
  obtain ⟨rfl, hv⟩ := hv
  have hx := B.exec
  have hb := B.bytes
  have hts : ∀ w ∈ aw, w.before _ s = true := fun w h => atoms_spec (ws := (.code yV_referencePart cV_referencePart 4 (some .int) :: aw)) B.pre w (List.mem_cons_of_mem _ h)
  have hown : s.vm.findClass RV = some m.cls := findClass_of_methodNamed B.named
  have hlocks := B.notSynchronized
  obtain ⟨hsz, hP, hK, hD0, hG, hE⟩ := hv
  subst hsz
  have hD := hD0.self (sz := s.heap.size)
  generalize hAe : va_A (w9 ad ca dom σ) s.heap.size = A at hD ⊢
  have hA : ∀ q : Nat, s.heap.size ≤ q → A q := fun q h => by rw [← hAe]; exact Or.inr h
  have hSA : ∀ q : Nat, q < s.heap.size → A q → xS ad dom q := fun q h z => by rw [← hAe] at z; exact w9_xS z h
  obtain ⟨H, hH⟩ : ∃ H, H = s.heap := ⟨_, rfl⟩
  have hS : va_S A s.heap H [] := by rw [hH]; exact va_S.rf
  rw [← hH] at hP ⊢
  unfold V_referencePart at hf
  have hl := lv_entry ([.ref (ad 5 j0), .int a1]) (n := 4) (Nat.le_of_ble_eq_true rfl)
  rw [lg_entry_eq]
  generalize (lg_sl ([.ref (ad 5 j0), .int a1]) ++ List.replicate (4 - (lg_sl ([.ref (ad 5 j0), .int a1])).length) Slot.unset).toArray = ls at hl ⊢
  have hl : lv_has ls 4 [(0, .ref (ad 5 j0)), (1, .int a1)] := hl
  refine lv_iload_n (pc := 0) hx hb dV_referencePart_0 rfl (lv_at hl 1 rfl) ?_
  refine lv_sipush (pc := 1) (v := 200) hx hb dV_referencePart_1 (by decide) ?_
  refine lv_isub (pc := 4) hx hb dV_referencePart_4 ?_
  refine lv_istore_n (pc := 5) hx hb dV_referencePart_5 rfl hl (by decide) rfl (fun ls hl => ?_)
  have hl : lv_has ls 4 [(2, .int (a1 - 200)), (0, .ref (ad 5 j0)), (1, .int a1)] := hl
  refine lv_iload_n (pc := 6) hx hb dV_referencePart_6 rfl (lv_at hl 0 rfl) ?_
  refine lv_iconst (pc := 7) (v := 2) hx hb dV_referencePart_7 (by decide) ?_
  refine lv_idiv (pc := 8) hx hb dV_referencePart_8 (by decide) ?_
  refine lv_istore_n (pc := 9) hx hb dV_referencePart_9 rfl hl (by decide) rfl (fun ls hl => ?_)
  have hl : lv_has ls 4 [(3, .int ((a1 - 200) / 2)), (2, .int (a1 - 200)), (0, .ref (ad 5 j0)), (1, .int a1)] := hl
  refine lv_iload_n (pc := 10) hx hb dV_referencePart_10 rfl (lv_at hl 1 rfl) ?_
  refine lv_if_lt (pc := 11) (tgt := 22) hx hb dV_referencePart_11 rfl (fun h1 => ?_) (fun h1 => ?_)
  · replace hf := ite_t h1 hf
    obtain ⟨-, h9⟩ := Prod.mk.inj (Option.some.inj hf)
    subst h9
    exact tThrow (A := A) (S := xS ad dom) (pc := 22) (own := RV) (cls := nIX) (names := [nRT, nEX]) hx hb hfl hown (by decide +kernel) (by decide +kernel) hts hE hS hSA wd_638 wd_639 (fun U h1 h2 => xat_IX h1 h2) (hl.1.trans hml.symm) dV_referencePart_22 dV_referencePart_25 dV_referencePart_26 dV_referencePart_29 hno (by decide) (by decide) (by decide) (by decide) hlocks (fun H1 hz hk => ⟨hP.kept (fun k q hq => hk _ ((hP k q hq).lt)), hD, hC⟩)
  · replace hf := ite_f h1 hf
    refine lv_aload_n (pc := 14) hx hb dV_referencePart_14 rfl (lv_at hl 2 rfl) ?_
    refine lv_iload_n (pc := 15) hx hb dV_referencePart_15 rfl (lv_at hl 0 rfl) ?_
    obtain ⟨q2, hq2, eq2⟩ := at_5 (ad := ad) (ca := ca) (σ := σ) hm0
    refine vp_callSi (pc := 16) (W.runV (As := [.int ((a1 - 200) / 2)]) (rest := []) ⟨hx, hb, hml, hown, hts⟩ (t_C_hasReference l dC dI ad ca dom σ j0 ((a1 - 200) / 2) hm0 hN hC (C_hasReference σ j0 ((a1 - 200) / 2)) rfl) (cwV 1 hts (gV wd_536 wd_537 wd_538 wd_228 wd_535) rfl rfl rfl (by decide +kernel) ⟨Nat.le_of_ble_eq_true rfl, Nat.le_of_ble_eq_true rfl⟩) ⟨hR_blind, va_recv (q := (RC, TC, 5)) (q0 := q2) (ci := 5) hK.1 hP rfl eq2, hR_pre hP hK hG⟩ rfl rfl hl.1 rfl (lv_room (Nat.le_of_ble_eq_true rfl)) dV_referencePart_16 ⟨Nat.le_of_ble_eq_true rfl, Nat.le_of_ble_eq_true rfl⟩) (fun r9 hr9 => ?_)
    refine W.eq (g2 := F0 m 19 ls [.int (C_hasReference σ j0 ((a1 - 200) / 2))]) (by rw [hr9]) ?_
    refine lv_if_ne (pc := 19) (tgt := 30) hx hb dV_referencePart_19 rfl (fun h3 => ?_) (fun h3 => ?_)
    · replace hf := ite_f h3 hf
      refine lv_iload_n (pc := 30) hx hb dV_referencePart_30 rfl (lv_at hl 1 rfl) ?_
      refine lv_iconst (pc := 31) (v := 2) hx hb dV_referencePart_31 (by decide) ?_
      refine lv_irem (pc := 32) hx hb dV_referencePart_32 (by decide) ?_
      refine lv_if_ne (pc := 33) (tgt := 45) hx hb dV_referencePart_33 rfl (fun h4 => ?_) (fun h4 => ?_)
      · replace hf := ite_f h4 hf
        refine lv_aload_n (pc := 45) hx hb dV_referencePart_45 rfl (lv_at hl 2 rfl) ?_
        obtain ⟨q5, hq5, eq5⟩ := at_5 (ad := ad) (ca := ca) (σ := σ) hm0
        refine va_get (D := (dC, dI)) (cl := kCl) (C := RC) (T := TC) (N := 5) (pc := 46) hx hb hts inC hown hK.1 hP q5 eq5 rfl 3 (by decide) (hts _ wd_334) (fun _ h9 => h9) rfl dV_referencePart_46 ?_
        refine lv_iload_n (pc := 49) hx hb dV_referencePart_49 rfl (lv_at hl 0 rfl) ?_
        obtain ⟨hv6, hf⟩ := ite_s hf
        obtain ⟨q7, hq7, eq7⟩ := at_22 (ad := ad) (ca := ca) (σ := σ) (cm_5_3 hC hm0)
        refine va_iald (D := (dC, dI)) (cl := kCl) (pc := 50) hx hb (hK.2 22 j0 .int (cm_5_3 hC hm0) rfl) hP q7 0 eq7 rfl (hv6) dV_referencePart_50 ?_
        refine W.eq (g2 := F0 m 51 ls [.int (xI σ 22 j0 (((a1 - 200) / 2)).toNatClampNeg)]) rfl ?_
        exact nomatch hf
      · replace hf := ite_t h4 hf
        refine lv_aload_n (pc := 36) hx hb dV_referencePart_36 rfl (lv_at hl 2 rfl) ?_
        obtain ⟨q8, hq8, eq8⟩ := at_5 (ad := ad) (ca := ca) (σ := σ) hm0
        refine va_get (D := (dC, dI)) (cl := kCl) (C := RC) (T := TC) (N := 5) (pc := 37) hx hb hts inC hown hK.1 hP q8 eq8 rfl 2 (by decide) (hts _ wd_333) (fun _ h9 => h9) rfl dV_referencePart_37 ?_
        refine lv_iload_n (pc := 40) hx hb dV_referencePart_40 rfl (lv_at hl 0 rfl) ?_
        obtain ⟨hv9, hf⟩ := ite_s hf
        obtain ⟨q10, hq10, eq10⟩ := at_21 (ad := ad) (ca := ca) (σ := σ) (cm_5_2 hC hm0)
        refine va_iald (D := (dC, dI)) (cl := kCl) (pc := 41) hx hb (hK.2 21 j0 .int (cm_5_2 hC hm0) rfl) hP q10 0 eq10 rfl (hv9) dV_referencePart_41 ?_
        refine W.eq (g2 := F0 m 42 ls [.int (xI σ 21 j0 (((a1 - 200) / 2)).toNatClampNeg)]) rfl ?_
        refine lv_goto (pc := 42) (tgt := 51) hx hb dV_referencePart_42 rfl ?_
        exact nomatch hf
    · replace hf := ite_t h3 hf
      obtain ⟨-, h9⟩ := Prod.mk.inj (Option.some.inj hf)
      subst h9
      exact tThrow (A := A) (S := xS ad dom) (pc := 22) (own := RV) (cls := nIX) (names := [nRT, nEX]) hx hb hfl hown (by decide +kernel) (by decide +kernel) hts hE hS hSA wd_638 wd_639 (fun U h1 h2 => xat_IX h1 h2) (hl.1.trans hml.symm) dV_referencePart_22 dV_referencePart_25 dV_referencePart_26 dV_referencePart_29 hno (by decide) (by decide) (by decide) (by decide) hlocks (fun H1 hz hk => ⟨hP.kept (fun k q hq => hk _ ((hP k q hq).lt)), hD, hC⟩)
set_option maxHeartbeats 4000000 in
set_option maxRecDepth 100000 in
theorem x_V_look (l : Launch) (dC : Nat → ClassId) (dI : Nat → Nat → Nat) (ad : Nat → Nat → Nat) (ca : Nat → Nat → ClassId) (dom : List (Nat × Nat)) (sz : Nat) (n : Nat) (σ : hT) (a1 : Int32) (a2 : Int32) (a3 : Int32) (hm0 : (0, 0) ∈ dom) (hN : dom.Nodup) (hC : clo dom σ.2.2) (σ' : hT) (hfl : l.stackTraces = false) (hf : V_look n σ a1 a2 a3 = some (none, σ')) : tMet l yV_look (.code yV_look cV_look 5 (some .int) :: aw) ({ frames := 7, cells := 1, slots := 6, locals := 103 }) (hX (dC, dI) sz ad ca dom σ [.ref (ad 0 0), .int a1, .int a2, .int a3]) nIX (va_A (w9 ad ca dom σ) sz) (fun H1 => va_P (dC, dI) kCl (w9 ad ca dom σ') H1 ∧ va_D (va_A (w9 ad ca dom σ) sz) (w9 ad ca dom σ') ∧ clo dom σ'.2.2) := by
  refine tOfW (cc := cV_look) (maxL := 5) (ret := (some .int)) (by decide) rfl ?_
  intro p e s m args below meth c s₁ B hml hno hv
  obtain ⟨rfl, hv⟩ := hv
  have hx := B.exec
  have hb := B.bytes
  have hts : ∀ w ∈ aw, w.before _ s = true := fun w h => atoms_spec (ws := (.code yV_look cV_look 5 (some .int) :: aw)) B.pre w (List.mem_cons_of_mem _ h)
  have hown : s.vm.findClass RV = some m.cls := findClass_of_methodNamed B.named
  have hlocks := B.notSynchronized
  obtain ⟨hsz, hP, hK, hD0, hG, hE⟩ := hv
  subst hsz
  have hD := hD0.self (sz := s.heap.size)
  generalize hAe : va_A (w9 ad ca dom σ) s.heap.size = A at hD ⊢
  have hA : ∀ q : Nat, s.heap.size ≤ q → A q := fun q h => by rw [← hAe]; exact Or.inr h
  have hSA : ∀ q : Nat, q < s.heap.size → A q → xS ad dom q := fun q h z => by rw [← hAe] at z; exact w9_xS z h
  obtain ⟨H, hH⟩ : ∃ H, H = s.heap := ⟨_, rfl⟩
  have hS : va_S A s.heap H [] := by rw [hH]; exact va_S.rf
  rw [← hH] at hP ⊢
  unfold V_look at hf
  have hl := lv_entry ([.ref (ad 0 0), .int a1, .int a2, .int a3]) (n := 5) (Nat.le_of_ble_eq_true rfl)
  rw [lg_entry_eq]
  generalize (lg_sl ([.ref (ad 0 0), .int a1, .int a2, .int a3]) ++ List.replicate (5 - (lg_sl ([.ref (ad 0 0), .int a1, .int a2, .int a3])).length) Slot.unset).toArray = ls at hl ⊢
  have hl : lv_has ls 5 [(0, .ref (ad 0 0)), (1, .int a1), (2, .int a2), (3, .int a3)] := hl
  refine lv_aload_n (pc := 0) hx hb dV_look_0 rfl (lv_at hl 0 rfl) ?_
  refine lv_iload_n (pc := 1) hx hb dV_look_1 rfl (lv_at hl 1 rfl) ?_
  refine lv_iload_n (pc := 2) hx hb dV_look_2 rfl (lv_at hl 2 rfl) ?_
  obtain ⟨q1, hq1, eq1⟩ := at_0 (ad := ad) (ca := ca) (σ := σ) hm0
  obtain ⟨y2, hy2, hf⟩ := ob hf
  refine va_cse (pc := 3) (W.runV (As := [.int a1, .int a2]) (rest := []) ⟨hx, hb, hml, hown, hts⟩ (t_V_revisionAt l dC dI ad ca dom σ a1 a2 hm0 hN hC y2 hy2) (cwV 2 hts (gV wd_324 wd_325 wd_326 wd_254 wd_323) rfl rfl rfl (by decide +kernel) ⟨Nat.le_of_ble_eq_true rfl, Nat.le_of_ble_eq_true rfl⟩) ⟨hR_blind, va_recv (q := (RV, TV, 9)) (q0 := q1) (ci := 0) hK.1 hP rfl eq1, hR_pre hP hK hG⟩ rfl rfl hl.1 rfl (lv_room (Nat.le_of_ble_eq_true rfl)) dV_look_3 ⟨Nat.le_of_ble_eq_true rfl, Nat.le_of_ble_eq_true rfl⟩) (fun r9 hr9 => ?_)
  obtain ⟨hr9, hmy3⟩ := hr9
  refine W.eq (g2 := F0 m 6 ls [va_re (ad 7) y2]) (by rw [hr9]) ?_
  rcases hE4 : y2 with _ | j5
  · replace hf := hq_n hE4 hf
    refine W.eq (g2 := F0 m 6 ls [.null]) rfl ?_
    refine lv_astoreN (pc := 6) hx hb dV_look_6 hl (by decide) rfl (fun ls hl => ?_)
    have hl : lv_has ls 5 [(4, .null), (0, .ref (ad 0 0)), (1, .int a1), (2, .int a2), (3, .int a3)] := hl
    refine lv_aloadN (pc := 8) hx hb dV_look_8 (lv_at hl 0 rfl) ?_
    refine lv_ifnonnullN (pc := 10) hx hb dV_look_10 ?_
    obtain ⟨-, h9⟩ := Prod.mk.inj (Option.some.inj hf)
    subst h9
    exact tThrow (A := A) (S := xS ad dom) (pc := 13) (own := RV) (cls := nIX) (names := [nRT, nEX]) hx hb hfl hown (by decide +kernel) (by decide +kernel) hts hE hS hSA wd_638 wd_639 (fun U h1 h2 => xat_IX h1 h2) (hl.1.trans hml.symm) dV_look_13 dV_look_16 dV_look_17 dV_look_20 hno (by decide) (by decide) (by decide) (by decide) hlocks (fun H1 hz hk => ⟨hP.kept (fun k q hq => hk _ ((hP k q hq).lt)), hD, hC⟩)
  · replace hf := hq_s hE4 hf
    have hm6 : (7, j5) ∈ dom := (hmy3 _ hE4)
    refine W.eq (g2 := F0 m 6 ls [.ref (ad 7 j5)]) rfl ?_
    refine lv_astore (pc := 6) hx hb dV_look_6 hl (by decide) rfl (fun ls hl => ?_)
    have hl : lv_has ls 5 [(4, .ref (ad 7 j5)), (0, .ref (ad 0 0)), (1, .int a1), (2, .int a2), (3, .int a3)] := hl
    refine lv_aload (pc := 8) hx hb dV_look_8 (lv_at hl 0 rfl) ?_
    refine lv_ifnonnull (pc := 10) (tgt := 21) hx hb dV_look_10 rfl ?_
    refine lv_iload_n (pc := 21) hx hb dV_look_21 rfl (lv_at hl 4 rfl) ?_
    by_cases hw7 : a3 = 0
    · replace hf := ite_t hw7 hf
      refine lv_tableIn (pc := 22) (tgt := 56) (off := 34) hx hb dV_look_22 (by rw [hw7]; decide) (by rw [hw7]; decide) (by rw [hw7]; decide) rfl ?_
      refine lv_aload (pc := 56) hx hb dV_look_56 (lv_at hl 0 rfl) ?_
      obtain ⟨q8, hq8, eq8⟩ := at_7 (ad := ad) (ca := ca) (σ := σ) hm6
      refine va_get (D := (dC, dI)) (cl := kCl) (C := RS) (T := TS) (N := 3) (pc := 58) hx hb hts inS hown hK.1 hP q8 eq8 rfl 2 (by decide) (hts _ wd_327) (fun _ h9 => h9) rfl dV_look_58 ?_
      exact nomatch hf
    replace hf := ite_f hw7 hf
    by_cases hw9 : a3 = 1
    · replace hf := ite_t hw9 hf
      refine lv_tableIn (pc := 22) (tgt := 62) (off := 40) hx hb dV_look_22 (by rw [hw9]; decide) (by rw [hw9]; decide) (by rw [hw9]; decide) rfl ?_
      refine lv_aload (pc := 62) hx hb dV_look_62 (lv_at hl 0 rfl) ?_
      obtain ⟨q10, hq10, eq10⟩ := at_7 (ad := ad) (ca := ca) (σ := σ) hm6
      refine va_get (D := (dC, dI)) (cl := kCl) (C := RS) (T := TS) (N := 3) (pc := 64) hx hb hts inS hown hK.1 hP q10 eq10 rfl 1 (by decide) (hts _ wd_414) (fun _ h9 => h9) rfl dV_look_64 ?_
      exact nomatch hf
    replace hf := ite_f hw9 hf
    by_cases hw11 : a3 = 2
    · replace hf := ite_t hw11 hf
      refine lv_tableIn (pc := 22) (tgt := 68) (off := 46) hx hb dV_look_22 (by rw [hw11]; decide) (by rw [hw11]; decide) (by rw [hw11]; decide) rfl ?_
      refine lv_aload (pc := 68) hx hb dV_look_68 (lv_at hl 0 rfl) ?_
      obtain ⟨q12, hq12, eq12⟩ := at_7 (ad := ad) (ca := ca) (σ := σ) hm6
      refine va_get (D := (dC, dI)) (cl := kCl) (C := RS) (T := TS) (N := 3) (pc := 70) hx hb hts inS hown hK.1 hP q12 eq12 rfl 0 (by decide) (hts _ wd_345) (fun _ h9 => h9) rfl dV_look_70 ?_
      obtain ⟨q13, hq13, eq13⟩ := at_5 (ad := ad) (ca := ca) (σ := σ) (cm_7_0 hC hm6)
      refine va_get (D := (dC, dI)) (cl := kCl) (C := RC) (T := TC) (N := 5) (pc := 73) hx hb hts inC hown hK.1 hP q13 eq13 rfl 1 (by decide) (hts _ wd_563) (fun _ h9 => h9) rfl dV_look_73 ?_
      exact nomatch hf
    replace hf := ite_f hw11 hf
    by_cases hw14 : a3 = 3
    · replace hf := ite_t hw14 hf
      refine lv_tableIn (pc := 22) (tgt := 77) (off := 55) hx hb dV_look_22 (by rw [hw14]; decide) (by rw [hw14]; decide) (by rw [hw14]; decide) rfl ?_
      refine lv_aload (pc := 77) hx hb dV_look_77 (lv_at hl 0 rfl) ?_
      obtain ⟨q15, hq15, eq15⟩ := at_7 (ad := ad) (ca := ca) (σ := σ) hm6
      refine va_get (D := (dC, dI)) (cl := kCl) (C := RS) (T := TS) (N := 3) (pc := 79) hx hb hts inS hown hK.1 hP q15 eq15 rfl 0 (by decide) (hts _ wd_345) (fun _ h9 => h9) rfl dV_look_79 ?_
      obtain ⟨q16, hq16, eq16⟩ := at_5 (ad := ad) (ca := ca) (σ := σ) (cm_7_0 hC hm6)
      refine va_get (D := (dC, dI)) (cl := kCl) (C := RC) (T := TC) (N := 5) (pc := 82) hx hb hts inC hown hK.1 hP q16 eq16 rfl 4 (by decide) (hts _ wd_332) (fun _ h9 => h9) rfl dV_look_82 ?_
      exact nomatch hf
    replace hf := ite_f hw14 hf
    by_cases hw17 : a3 = 4
    · replace hf := ite_t hw17 hf
      refine lv_tableIn (pc := 22) (tgt := 86) (off := 64) hx hb dV_look_22 (by rw [hw17]; decide) (by rw [hw17]; decide) (by rw [hw17]; decide) rfl ?_
      refine lv_aload_n (pc := 86) hx hb dV_look_86 rfl (lv_at hl 1 rfl) ?_
      obtain ⟨q18, hq18, eq18⟩ := at_0 (ad := ad) (ca := ca) (σ := σ) hm0
      refine va_get (D := (dC, dI)) (cl := kCl) (C := RV) (T := TV) (N := 9) (pc := 87) hx hb hts inV hown hK.1 hP q18 eq18 rfl 6 (by decide) (hts _ wd_360) (fun _ h9 => h9) rfl dV_look_87 ?_
      refine lv_aload (pc := 90) hx hb dV_look_90 (lv_at hl 0 rfl) ?_
      obtain ⟨q19, hq19, eq19⟩ := at_7 (ad := ad) (ca := ca) (σ := σ) hm6
      refine va_get (D := (dC, dI)) (cl := kCl) (C := RS) (T := TS) (N := 3) (pc := 92) hx hb hts inS hown hK.1 hP q19 eq19 rfl 0 (by decide) (hts _ wd_345) (fun _ h9 => h9) rfl dV_look_92 ?_
      obtain ⟨q20, hq20, eq20⟩ := at_2 (ad := ad) (ca := ca) (σ := σ) (cm_0_6 hC hm0)
      obtain ⟨⟨y21, σ22⟩, hy21, hf⟩ := ob hf
      have hFc := w9_free hD hS hA
      refine va_calli (pc := 95) (va_runV (As := [.ref (ad 5 (3 * j5 + 2))]) (rest := []) ⟨hx, hb, hml, hown, hts⟩ (t_K_sizeOf l dC dI ad ca dom H.size n σ (3 * j5 + 2) (cm_0_6 hC hm0) (cm_7_0 hC hm6) hN hC y21 σ22 hy21) (cwV 1 hts (gV wd_565 wd_566 wd_567 wd_275 wd_564) rfl rfl rfl (by decide +kernel) ⟨Nat.le_of_ble_eq_true rfl, Nat.le_of_ble_eq_true rfl⟩) ⟨hW_blind, va_recv (q := (RK, TK, 3)) (q0 := q20) (ci := 2) hK.1 hP rfl eq20, hW_pre hP hK hD hG⟩ rfl rfl hl.1 rfl (lv_room (Nat.le_of_ble_eq_true rfl)) dV_look_95 ⟨Nat.le_of_ble_eq_true rfl, Nat.le_of_ble_eq_true rfl⟩) hS (fun q _ h => hFc q h) hFc (fun r9 u t H1 locs ht hvm hr9 hB hz1 hk1 hS => ?_)
      obtain ⟨hP, hD, hC⟩ := hB
      rw [ht] at hP
      replace hD := hD.weaken (fun _ _ _ h => hFc _ h)
      generalize H1 = H at hP hS ⊢
      refine W.eq (g2 := F0 m 98 ls [.int y21]) (by rw [hr9]) ?_
      exact nomatch hf
    replace hf := ite_f hw17 hf
    refine lv_tableOut (pc := 22) (tgt := 99) hx hb dV_look_22 (by have := lv_neT hw7 (a := 0) (by decide); have := lv_neT hw9 (a := 1) (by decide); have := lv_neT hw11 (a := 2) (by decide); have := lv_neT hw14 (a := 3) (by decide); have := lv_neT hw17 (a := 4) (by decide); omega) rfl ?_
    refine lv_aload (pc := 99) hx hb dV_look_99 (lv_at hl 0 rfl) ?_
    obtain ⟨q23, hq23, eq23⟩ := at_7 (ad := ad) (ca := ca) (σ := σ) hm6
    refine va_get (D := (dC, dI)) (cl := kCl) (C := RS) (T := TS) (N := 3) (pc := 101) hx hb hts inS hown hK.1 hP q23 eq23 rfl 0 (by decide) (hts _ wd_345) (fun _ h9 => h9) rfl dV_look_101 ?_
    refine lv_iload_n (pc := 104) hx hb dV_look_104 rfl (lv_at hl 4 rfl) ?_
    obtain ⟨⟨y24o, σ25⟩, hy24, hf⟩ := ob hf
    rcases y24o with _ | y24
    · have h9 := ex9_x hf
      subst h9
      have hFc := w9_free hD hS hA
      exact tPassS (pc := 105) (As := [.ref (ad 5 (3 * j5 + 2)), .int a3]) (rest := []) ⟨hx, hb, hml, hown, hts⟩ (x_V_byteOf l dC dI ad ca dom H.size σ (3 * j5 + 2) a3 (cm_7_0 hC hm6) hN hC σ25 hfl hy24) (cwS 2 hts (gS wd_569 wd_570 wd_254 wd_568) rfl rfl rfl (by decide +kernel) ⟨Nat.le_of_ble_eq_true rfl, Nat.le_of_ble_eq_true rfl⟩) ⟨hX_blind, hX_pre hP hK hD hG hE hS hSA⟩ rfl hl.1 rfl (lv_room (Nat.le_of_ble_eq_true rfl)) dV_look_105 ⟨Nat.le_of_ble_eq_true rfl, Nat.le_of_ble_eq_true rfl⟩ hno hlocks hS (fun x h => hFc _ h) (fun H1 h => ⟨h.1, h.2.1.weaken (fun _ _ _ z => hFc _ z), h.2.2⟩)
    replace hf := ex9_s hf
    have hFc := w9_free hD hS hA
    refine va_calli (pc := 105) (va_runS (As := [.ref (ad 5 (3 * j5 + 2)), .int a3]) (rest := []) ⟨hx, hb, hml, hown, hts⟩ (t_V_byteOf l dC dI ad ca dom H.size σ (3 * j5 + 2) a3 (cm_7_0 hC hm6) hN hC y24 σ25 hy24) (cwS 2 hts (gS wd_569 wd_570 wd_254 wd_568) rfl rfl rfl (by decide +kernel) ⟨Nat.le_of_ble_eq_true rfl, Nat.le_of_ble_eq_true rfl⟩) ⟨hW_blind, hW_pre hP hK hD hG⟩ rfl rfl hl.1 rfl (lv_room (Nat.le_of_ble_eq_true rfl)) dV_look_105 ⟨Nat.le_of_ble_eq_true rfl, Nat.le_of_ble_eq_true rfl⟩) hS (fun q _ h => hFc q h) hFc (fun r9 u t H1 locs ht hvm hr9 hB hz1 hk1 hS => ?_)
    obtain ⟨hP, hD, hC⟩ := hB
    rw [ht] at hP
    replace hD := hD.weaken (fun _ _ _ h => hFc _ h)
    generalize H1 = H at hP hS ⊢
    refine W.eq (g2 := F0 m 108 ls [.int y24]) (by rw [hr9]) ?_
    exact nomatch hf
set_option maxHeartbeats 4000000 in
set_option maxRecDepth 100000 in
theorem x_V_reference (l : Launch) (dC : Nat → ClassId) (dI : Nat → Nat → Nat) (ad : Nat → Nat → Nat) (ca : Nat → Nat → ClassId) (dom : List (Nat × Nat)) (sz : Nat) (n : Nat) (σ : hT) (a1 : Int32) (a2 : Int32) (a3 : Int32) (a4 : Int32) (hm0 : (0, 0) ∈ dom) (hN : dom.Nodup) (hC : clo dom σ.2.2) (σ' : hT) (hfl : l.stackTraces = false) (hf : V_reference n σ a1 a2 a3 a4 = some (none, σ')) : tMet l yV_reference (.code yV_reference cV_reference 8 (some .int) :: aw) ({ frames := 6, cells := 1, slots := 6, locals := 81 }) (hX (dC, dI) sz ad ca dom σ [.ref (ad 0 0), .int a1, .int a2, .int a3, .int a4]) nIX (va_A (w9 ad ca dom σ) sz) (fun H1 => va_P (dC, dI) kCl (w9 ad ca dom σ') H1 ∧ va_D (va_A (w9 ad ca dom σ) sz) (w9 ad ca dom σ') ∧ clo dom σ'.2.2) := by
  refine tOfW (cc := cV_reference) (maxL := 8) (ret := (some .int)) (by decide) rfl ?_
  intro p e s m args below meth c s₁ B hml hno hv
  obtain ⟨rfl, hv⟩ := hv
  have hx := B.exec
  have hb := B.bytes
  have hts : ∀ w ∈ aw, w.before _ s = true := fun w h => atoms_spec (ws := (.code yV_reference cV_reference 8 (some .int) :: aw)) B.pre w (List.mem_cons_of_mem _ h)
  have hown : s.vm.findClass RV = some m.cls := findClass_of_methodNamed B.named
  have hlocks := B.notSynchronized
  obtain ⟨hsz, hP, hK, hD0, hG, hE⟩ := hv
  subst hsz
  have hD := hD0.self (sz := s.heap.size)
  generalize hAe : va_A (w9 ad ca dom σ) s.heap.size = A at hD ⊢
  have hA : ∀ q : Nat, s.heap.size ≤ q → A q := fun q h => by rw [← hAe]; exact Or.inr h
  have hSA : ∀ q : Nat, q < s.heap.size → A q → xS ad dom q := fun q h z => by rw [← hAe] at z; exact w9_xS z h
  obtain ⟨H, hH⟩ : ∃ H, H = s.heap := ⟨_, rfl⟩
  have hS : va_S A s.heap H [] := by rw [hH]; exact va_S.rf
  rw [← hH] at hP ⊢
  unfold V_reference at hf
  have hl := lv_entry ([.ref (ad 0 0), .int a1, .int a2, .int a3, .int a4]) (n := 8) (Nat.le_of_ble_eq_true rfl)
  rw [lg_entry_eq]
  generalize (lg_sl ([.ref (ad 0 0), .int a1, .int a2, .int a3, .int a4]) ++ List.replicate (8 - (lg_sl ([.ref (ad 0 0), .int a1, .int a2, .int a3, .int a4])).length) Slot.unset).toArray = ls at hl ⊢
  have hl : lv_has ls 8 [(0, .ref (ad 0 0)), (1, .int a1), (2, .int a2), (3, .int a3), (4, .int a4)] := hl
  refine lv_aload_n (pc := 0) hx hb dV_reference_0 rfl (lv_at hl 0 rfl) ?_
  refine lv_iload_n (pc := 1) hx hb dV_reference_1 rfl (lv_at hl 1 rfl) ?_
  refine lv_iload_n (pc := 2) hx hb dV_reference_2 rfl (lv_at hl 2 rfl) ?_
  obtain ⟨q1, hq1, eq1⟩ := at_0 (ad := ad) (ca := ca) (σ := σ) hm0
  obtain ⟨y2, hy2, hf⟩ := ob hf
  refine va_cse (pc := 3) (W.runV (As := [.int a1, .int a2]) (rest := []) ⟨hx, hb, hml, hown, hts⟩ (t_V_revisionAt l dC dI ad ca dom σ a1 a2 hm0 hN hC y2 hy2) (cwV 2 hts (gV wd_324 wd_325 wd_326 wd_254 wd_323) rfl rfl rfl (by decide +kernel) ⟨Nat.le_of_ble_eq_true rfl, Nat.le_of_ble_eq_true rfl⟩) ⟨hR_blind, va_recv (q := (RV, TV, 9)) (q0 := q1) (ci := 0) hK.1 hP rfl eq1, hR_pre hP hK hG⟩ rfl rfl hl.1 rfl (lv_room (Nat.le_of_ble_eq_true rfl)) dV_reference_3 ⟨Nat.le_of_ble_eq_true rfl, Nat.le_of_ble_eq_true rfl⟩) (fun r9 hr9 => ?_)
  obtain ⟨hr9, hmy3⟩ := hr9
  refine W.eq (g2 := F0 m 6 ls [va_re (ad 7) y2]) (by rw [hr9]) ?_
  rcases hE4 : y2 with _ | j5
  · replace hf := hq_n hE4 hf
    refine W.eq (g2 := F0 m 6 ls [.null]) rfl ?_
    refine lv_astoreN (pc := 6) hx hb dV_reference_6 hl (by decide) rfl (fun ls hl => ?_)
    have hl : lv_has ls 8 [(5, .null), (0, .ref (ad 0 0)), (1, .int a1), (2, .int a2), (3, .int a3), (4, .int a4)] := hl
    refine lv_aloadN (pc := 8) hx hb dV_reference_8 (lv_at hl 0 rfl) ?_
    refine lv_ifnullN (pc := 10) (tgt := 25) hx hb dV_reference_10 rfl ?_
    obtain ⟨-, h9⟩ := Prod.mk.inj (Option.some.inj hf)
    subst h9
    exact tThrow (A := A) (S := xS ad dom) (pc := 25) (own := RV) (cls := nIX) (names := [nRT, nEX]) hx hb hfl hown (by decide +kernel) (by decide +kernel) hts hE hS hSA wd_638 wd_639 (fun U h1 h2 => xat_IX h1 h2) (hl.1.trans hml.symm) dV_reference_25 dV_reference_28 dV_reference_29 dV_reference_32 hno (by decide) (by decide) (by decide) (by decide) hlocks (fun H1 hz hk => ⟨hP.kept (fun k q hq => hk _ ((hP k q hq).lt)), hD, hC⟩)
  · replace hf := hq_s hE4 hf
    have hm6 : (7, j5) ∈ dom := (hmy3 _ hE4)
    refine W.eq (g2 := F0 m 6 ls [.ref (ad 7 j5)]) rfl ?_
    refine lv_astore (pc := 6) hx hb dV_reference_6 hl (by decide) rfl (fun ls hl => ?_)
    have hl : lv_has ls 8 [(5, .ref (ad 7 j5)), (0, .ref (ad 0 0)), (1, .int a1), (2, .int a2), (3, .int a3), (4, .int a4)] := hl
    refine lv_aload (pc := 8) hx hb dV_reference_8 (lv_at hl 0 rfl) ?_
    refine lv_ifnull (pc := 10) hx hb dV_reference_10 ?_
    refine lv_aload (pc := 13) hx hb dV_reference_13 (lv_at hl 0 rfl) ?_
    obtain ⟨q7, hq7, eq7⟩ := at_7 (ad := ad) (ca := ca) (σ := σ) hm6
    refine va_get (D := (dC, dI)) (cl := kCl) (C := RS) (T := TS) (N := 3) (pc := 15) hx hb hts inS hown hK.1 hP q7 eq7 rfl 0 (by decide) (hts _ wd_345) (fun _ h9 => h9) rfl dV_reference_15 ?_
    refine lv_iload_n (pc := 18) hx hb dV_reference_18 rfl (lv_at hl 4 rfl) ?_
    obtain ⟨q8, hq8, eq8⟩ := at_5 (ad := ad) (ca := ca) (σ := σ) (cm_7_0 hC hm6)
    refine vp_callSi (pc := 19) (W.runV (As := [.int a3]) (rest := []) ⟨hx, hb, hml, hown, hts⟩ (t_C_hasReference l dC dI ad ca dom σ (3 * j5 + 2) a3 (cm_7_0 hC hm6) hN hC (C_hasReference σ (3 * j5 + 2) a3) rfl) (cwV 1 hts (gV wd_536 wd_537 wd_538 wd_228 wd_535) rfl rfl rfl (by decide +kernel) ⟨Nat.le_of_ble_eq_true rfl, Nat.le_of_ble_eq_true rfl⟩) ⟨hR_blind, va_recv (q := (RC, TC, 5)) (q0 := q8) (ci := 5) hK.1 hP rfl eq8, hR_pre hP hK hG⟩ rfl rfl hl.1 rfl (lv_room (Nat.le_of_ble_eq_true rfl)) dV_reference_19 ⟨Nat.le_of_ble_eq_true rfl, Nat.le_of_ble_eq_true rfl⟩) (fun r9 hr9 => ?_)
    refine W.eq (g2 := F0 m 22 ls [.int (C_hasReference σ (3 * j5 + 2) a3)]) (by rw [hr9]) ?_
    refine lv_if_ne (pc := 22) (tgt := 33) hx hb dV_reference_22 rfl (fun h9 => ?_) (fun h9 => ?_)
    · replace hf := ite_f h9 hf
      refine lv_aload (pc := 33) hx hb dV_reference_33 (lv_at hl 0 rfl) ?_
      obtain ⟨q10, hq10, eq10⟩ := at_7 (ad := ad) (ca := ca) (σ := σ) hm6
      refine va_get (D := (dC, dI)) (cl := kCl) (C := RS) (T := TS) (N := 3) (pc := 35) hx hb hts inS hown hK.1 hP q10 eq10 rfl 0 (by decide) (hts _ wd_345) (fun _ h9 => h9) rfl dV_reference_35 ?_
      obtain ⟨q11, hq11, eq11⟩ := at_5 (ad := ad) (ca := ca) (σ := σ) (cm_7_0 hC hm6)
      refine va_get (D := (dC, dI)) (cl := kCl) (C := RC) (T := TC) (N := 5) (pc := 38) hx hb hts inC hown hK.1 hP q11 eq11 rfl 2 (by decide) (hts _ wd_333) (fun _ h9 => h9) rfl dV_reference_38 ?_
      refine lv_iload_n (pc := 41) hx hb dV_reference_41 rfl (lv_at hl 4 rfl) ?_
      obtain ⟨hv12, hf⟩ := ite_s hf
      obtain ⟨q13, hq13, eq13⟩ := at_21 (ad := ad) (ca := ca) (σ := σ) (cm_5_2 hC (cm_7_0 hC hm6))
      refine va_iald (D := (dC, dI)) (cl := kCl) (pc := 42) hx hb (hK.2 21 (3 * j5 + 2) .int (cm_5_2 hC (cm_7_0 hC hm6)) rfl) hP q13 0 eq13 rfl (hv12) dV_reference_42 ?_
      refine W.eq (g2 := F0 m 43 ls [.int (xI σ 21 (3 * j5 + 2) (a3).toNatClampNeg)]) rfl ?_
      refine lv_istore (pc := 43) hx hb dV_reference_43 hl (by decide) rfl (fun ls hl => ?_)
      have hl : lv_has ls 8 [(6, .int (xI σ 21 (3 * j5 + 2) (a3).toNatClampNeg)), (5, .ref (ad 7 j5)), (0, .ref (ad 0 0)), (1, .int a1), (2, .int a2), (3, .int a3), (4, .int a4)] := hl
      refine lv_aload (pc := 45) hx hb dV_reference_45 (lv_at hl 1 rfl) ?_
      obtain ⟨q14, hq14, eq14⟩ := at_7 (ad := ad) (ca := ca) (σ := σ) hm6
      refine va_get (D := (dC, dI)) (cl := kCl) (C := RS) (T := TS) (N := 3) (pc := 47) hx hb hts inS hown hK.1 hP q14 eq14 rfl 0 (by decide) (hts _ wd_345) (fun _ h9 => h9) rfl dV_reference_47 ?_
      obtain ⟨q15, hq15, eq15⟩ := at_5 (ad := ad) (ca := ca) (σ := σ) (cm_7_0 hC hm6)
      refine va_get (D := (dC, dI)) (cl := kCl) (C := RC) (T := TC) (N := 5) (pc := 50) hx hb hts inC hown hK.1 hP q15 eq15 rfl 3 (by decide) (hts _ wd_334) (fun _ h9 => h9) rfl dV_reference_50 ?_
      refine lv_iload_n (pc := 53) hx hb dV_reference_53 rfl (lv_at hl 5 rfl) ?_
      obtain ⟨hv16, hf⟩ := ite_s hf
      obtain ⟨q17, hq17, eq17⟩ := at_22 (ad := ad) (ca := ca) (σ := σ) (cm_5_3 hC (cm_7_0 hC hm6))
      refine va_iald (D := (dC, dI)) (cl := kCl) (pc := 54) hx hb (hK.2 22 (3 * j5 + 2) .int (cm_5_3 hC (cm_7_0 hC hm6)) rfl) hP q17 0 eq17 rfl (hv16) dV_reference_54 ?_
      refine W.eq (g2 := F0 m 55 ls [.int (xI σ 22 (3 * j5 + 2) (a3).toNatClampNeg)]) rfl ?_
      refine lv_istore (pc := 55) hx hb dV_reference_55 hl (by decide) rfl (fun ls hl => ?_)
      have hl : lv_has ls 8 [(7, .int (xI σ 22 (3 * j5 + 2) (a3).toNatClampNeg)), (6, .int (xI σ 21 (3 * j5 + 2) (a3).toNatClampNeg)), (5, .ref (ad 7 j5)), (0, .ref (ad 0 0)), (1, .int a1), (2, .int a2), (3, .int a3), (4, .int a4)] := hl
      refine lv_iload (pc := 57) hx hb dV_reference_57 (lv_at hl 7 rfl) ?_
      by_cases hw18 : a4 = 0
      · replace hf := ite_t hw18 hf
        refine lv_tableIn (pc := 59) (tgt := 84) (off := 25) hx hb dV_reference_59 (by rw [hw18]; decide) (by rw [hw18]; decide) (by rw [hw18]; decide) rfl ?_
        refine lv_iload (pc := 84) hx hb dV_reference_84 (lv_at hl 1 rfl) ?_
        exact nomatch hf
      replace hf := ite_f hw18 hf
      by_cases hw19 : a4 = 1
      · replace hf := ite_t hw19 hf
        refine lv_tableIn (pc := 59) (tgt := 87) (off := 28) hx hb dV_reference_59 (by rw [hw19]; decide) (by rw [hw19]; decide) (by rw [hw19]; decide) rfl ?_
        refine lv_iload (pc := 87) hx hb dV_reference_87 (lv_at hl 0 rfl) ?_
        exact nomatch hf
      replace hf := ite_f hw19 hf
      by_cases hw20 : a4 = 2
      · replace hf := ite_t hw20 hf
        refine lv_tableIn (pc := 59) (tgt := 90) (off := 31) hx hb dV_reference_59 (by rw [hw20]; decide) (by rw [hw20]; decide) (by rw [hw20]; decide) rfl ?_
        refine lv_aload_n (pc := 90) hx hb dV_reference_90 rfl (lv_at hl 3 rfl) ?_
        refine lv_iload (pc := 91) hx hb dV_reference_91 (lv_at hl 1 rfl) ?_
        refine lv_iload (pc := 93) hx hb dV_reference_93 (lv_at hl 0 rfl) ?_
        obtain ⟨q21, hq21, eq21⟩ := at_0 (ad := ad) (ca := ca) (σ := σ) hm0
        obtain ⟨y22, hy22, hf⟩ := ob hf
        refine vp_callSi (pc := 95) (W.runV (As := [.int (xI σ 21 (3 * j5 + 2) (a3).toNatClampNeg), .int (xI σ 22 (3 * j5 + 2) (a3).toNatClampNeg)]) (rest := []) ⟨hx, hb, hml, hown, hts⟩ (t_V_resolved l dC dI ad ca dom n σ (xI σ 21 (3 * j5 + 2) (a3).toNatClampNeg) (xI σ 22 (3 * j5 + 2) (a3).toNatClampNeg) hm0 hN hC y22 hy22) (cwV 2 hts (gV wd_336 wd_337 wd_338 wd_254 wd_335) rfl rfl rfl (by decide +kernel) ⟨Nat.le_of_ble_eq_true rfl, Nat.le_of_ble_eq_true rfl⟩) ⟨hR_blind, va_recv (q := (RV, TV, 9)) (q0 := q21) (ci := 0) hK.1 hP rfl eq21, hR_pre hP hK hG⟩ rfl rfl hl.1 rfl (lv_room (Nat.le_of_ble_eq_true rfl)) dV_reference_95 ⟨Nat.le_of_ble_eq_true rfl, Nat.le_of_ble_eq_true rfl⟩) (fun r9 hr9 => ?_)
        refine W.eq (g2 := F0 m 98 ls [.int y22]) (by rw [hr9]) ?_
        exact nomatch hf
      replace hf := ite_f hw20 hf
      refine lv_tableOut (pc := 59) (tgt := 99) hx hb dV_reference_59 (by have := lv_neT hw18 (a := 0) (by decide); have := lv_neT hw19 (a := 1) (by decide); have := lv_neT hw20 (a := 2) (by decide); omega) rfl ?_
      obtain ⟨-, h9⟩ := Prod.mk.inj (Option.some.inj hf)
      subst h9
      exact tThrow (A := A) (S := xS ad dom) (pc := 99) (own := RV) (cls := nIX) (names := [nRT, nEX]) hx hb hfl hown (by decide +kernel) (by decide +kernel) hts hE hS hSA wd_638 wd_639 (fun U h1 h2 => xat_IX h1 h2) (hl.1.trans hml.symm) dV_reference_99 dV_reference_102 dV_reference_103 dV_reference_106 hno (by decide) (by decide) (by decide) (by decide) hlocks (fun H1 hz hk => ⟨hP.kept (fun k q hq => hk _ ((hP k q hq).lt)), hD, hC⟩)
    · replace hf := ite_t h9 hf
      obtain ⟨-, h9⟩ := Prod.mk.inj (Option.some.inj hf)
      subst h9
      exact tThrow (A := A) (S := xS ad dom) (pc := 25) (own := RV) (cls := nIX) (names := [nRT, nEX]) hx hb hfl hown (by decide +kernel) (by decide +kernel) hts hE hS hSA wd_638 wd_639 (fun U h1 h2 => xat_IX h1 h2) (hl.1.trans hml.symm) dV_reference_25 dV_reference_28 dV_reference_29 dV_reference_32 hno (by decide) (by decide) (by decide) (by decide) hlocks (fun H1 hz hk => ⟨hP.kept (fun k q hq => hk _ ((hP k q hq).lt)), hD, hC⟩)
set_option maxHeartbeats 4000000 in
set_option maxRecDepth 100000 in
theorem x_V_about (l : Launch) (dC : Nat → ClassId) (dI : Nat → Nat → Nat) (ad : Nat → Nat → Nat) (ca : Nat → Nat → ClassId) (dom : List (Nat × Nat)) (sz : Nat) (n : Nat) (σ : hT) (a1 : Int32) (a2 : Int32) (hm0 : (0, 0) ∈ dom) (hN : dom.Nodup) (hC : clo dom σ.2.2) (σ' : hT) (hfl : l.stackTraces = false) (hf : V_about n σ a1 a2 = some (none, σ')) : tMet l yV_about (.code yV_about cV_about 4 (some .int) :: aw) ({ frames := 7, cells := 1, slots := 6, locals := 104 }) (hX (dC, dI) sz ad ca dom σ [.ref (ad 0 0), .int a1, .int a2]) nIX (va_A (w9 ad ca dom σ) sz) (fun H1 => va_P (dC, dI) kCl (w9 ad ca dom σ') H1 ∧ va_D (va_A (w9 ad ca dom σ) sz) (w9 ad ca dom σ') ∧ clo dom σ'.2.2) := by
  refine tOfW (cc := cV_about) (maxL := 4) (ret := (some .int)) (by decide) rfl ?_
  intro p e s m args below meth c s₁ B hml hno hv
  obtain ⟨rfl, hv⟩ := hv
  have hx := B.exec
  have hb := B.bytes
  have hts : ∀ w ∈ aw, w.before _ s = true := fun w h => atoms_spec (ws := (.code yV_about cV_about 4 (some .int) :: aw)) B.pre w (List.mem_cons_of_mem _ h)
  have hown : s.vm.findClass RV = some m.cls := findClass_of_methodNamed B.named
  have hlocks := B.notSynchronized
  obtain ⟨hsz, hP, hK, hD0, hG, hE⟩ := hv
  subst hsz
  have hD := hD0.self (sz := s.heap.size)
  generalize hAe : va_A (w9 ad ca dom σ) s.heap.size = A at hD ⊢
  have hA : ∀ q : Nat, s.heap.size ≤ q → A q := fun q h => by rw [← hAe]; exact Or.inr h
  have hSA : ∀ q : Nat, q < s.heap.size → A q → xS ad dom q := fun q h z => by rw [← hAe] at z; exact w9_xS z h
  obtain ⟨H, hH⟩ : ∃ H, H = s.heap := ⟨_, rfl⟩
  have hS : va_S A s.heap H [] := by rw [hH]; exact va_S.rf
  rw [← hH] at hP ⊢
  unfold V_about at hf
  have hl := lv_entry ([.ref (ad 0 0), .int a1, .int a2]) (n := 4) (Nat.le_of_ble_eq_true rfl)
  rw [lg_entry_eq]
  generalize (lg_sl ([.ref (ad 0 0), .int a1, .int a2]) ++ List.replicate (4 - (lg_sl ([.ref (ad 0 0), .int a1, .int a2])).length) Slot.unset).toArray = ls at hl ⊢
  have hl : lv_has ls 4 [(0, .ref (ad 0 0)), (1, .int a1), (2, .int a2)] := hl
  refine lv_aload_n (pc := 0) hx hb dV_about_0 rfl (lv_at hl 0 rfl) ?_
  refine lv_iload_n (pc := 1) hx hb dV_about_1 rfl (lv_at hl 1 rfl) ?_
  obtain ⟨q1, hq1, eq1⟩ := at_0 (ad := ad) (ca := ca) (σ := σ) hm0
  obtain ⟨y2, hy2, hf⟩ := ob hf
  refine va_cse (pc := 2) (W.runV (As := [.int a1]) (rest := []) ⟨hx, hb, hml, hown, hts⟩ (t_V_drawingAt l dC dI ad ca dom σ a1 hm0 hN hC y2 hy2) (cwV 1 hts (gV wd_317 wd_318 wd_319 wd_254 wd_316) rfl rfl rfl (by decide +kernel) ⟨Nat.le_of_ble_eq_true rfl, Nat.le_of_ble_eq_true rfl⟩) ⟨hR_blind, va_recv (q := (RV, TV, 9)) (q0 := q1) (ci := 0) hK.1 hP rfl eq1, hR_pre hP hK hG⟩ rfl rfl hl.1 rfl (lv_room (Nat.le_of_ble_eq_true rfl)) dV_about_2 ⟨Nat.le_of_ble_eq_true rfl, Nat.le_of_ble_eq_true rfl⟩) (fun r9 hr9 => ?_)
  obtain ⟨hr9, hmy3⟩ := hr9
  refine W.eq (g2 := F0 m 5 ls [va_re (ad 6) y2]) (by rw [hr9]) ?_
  rcases hE4 : y2 with _ | j5
  · replace hf := hq_n hE4 hf
    refine W.eq (g2 := F0 m 5 ls [.null]) rfl ?_
    refine lv_astore_nN (pc := 5) hx hb dV_about_5 rfl hl (by decide) rfl (fun ls hl => ?_)
    have hl : lv_has ls 4 [(3, .null), (0, .ref (ad 0 0)), (1, .int a1), (2, .int a2)] := hl
    refine lv_aload_nN (pc := 6) hx hb dV_about_6 rfl (lv_at hl 0 rfl) ?_
    refine lv_ifnonnullN (pc := 7) hx hb dV_about_7 ?_
    obtain ⟨-, h9⟩ := Prod.mk.inj (Option.some.inj hf)
    subst h9
    exact tThrow (A := A) (S := xS ad dom) (pc := 10) (own := RV) (cls := nIX) (names := [nRT, nEX]) hx hb hfl hown (by decide +kernel) (by decide +kernel) hts hE hS hSA wd_638 wd_639 (fun U h1 h2 => xat_IX h1 h2) (hl.1.trans hml.symm) dV_about_10 dV_about_13 dV_about_14 dV_about_17 hno (by decide) (by decide) (by decide) (by decide) hlocks (fun H1 hz hk => ⟨hP.kept (fun k q hq => hk _ ((hP k q hq).lt)), hD, hC⟩)
  · replace hf := hq_s hE4 hf
    have hm6 : (6, j5) ∈ dom := (hmy3 _ hE4)
    refine W.eq (g2 := F0 m 5 ls [.ref (ad 6 j5)]) rfl ?_
    refine lv_astore_n (pc := 5) hx hb dV_about_5 rfl hl (by decide) rfl (fun ls hl => ?_)
    have hl : lv_has ls 4 [(3, .ref (ad 6 j5)), (0, .ref (ad 0 0)), (1, .int a1), (2, .int a2)] := hl
    refine lv_aload_n (pc := 6) hx hb dV_about_6 rfl (lv_at hl 0 rfl) ?_
    refine lv_ifnonnull (pc := 7) (tgt := 18) hx hb dV_about_7 rfl ?_
    refine lv_iload_n (pc := 18) hx hb dV_about_18 rfl (lv_at hl 3 rfl) ?_
    by_cases hw7 : a2 = 0
    · replace hf := ite_t hw7 hf
      refine lv_tableIn (pc := 19) (tgt := 52) (off := 33) hx hb dV_about_19 (by rw [hw7]; decide) (by rw [hw7]; decide) (by rw [hw7]; decide) rfl ?_
      refine lv_aload_n (pc := 52) hx hb dV_about_52 rfl (lv_at hl 0 rfl) ?_
      obtain ⟨q8, hq8, eq8⟩ := at_6 (ad := ad) (ca := ca) (σ := σ) hm6
      refine vp_callSi (pc := 53) (W.runV (As := []) (rest := []) ⟨hx, hb, hml, hown, hts⟩ (t_D_newest l dC dI ad ca dom σ j5 hm6 hN hC (D_newest σ j5) rfl) (cwV 0 hts (gV wd_413 wd_290 wd_291 wd_292 wd_288) rfl rfl rfl (by decide +kernel) ⟨Nat.le_of_ble_eq_true rfl, Nat.le_of_ble_eq_true rfl⟩) ⟨hR_blind, va_recv (q := (RD, TD, 5)) (q0 := q8) (ci := 6) hK.1 hP rfl eq8, hR_pre hP hK hG⟩ rfl rfl hl.1 rfl (lv_room (Nat.le_of_ble_eq_true rfl)) dV_about_53 ⟨Nat.le_of_ble_eq_true rfl, Nat.le_of_ble_eq_true rfl⟩) (fun r9 hr9 => ?_)
      refine W.eq (g2 := F0 m 56 ls [.int (D_newest σ j5)]) (by rw [hr9]) ?_
      exact nomatch hf
    replace hf := ite_f hw7 hf
    by_cases hw9 : a2 = 1
    · replace hf := ite_t hw9 hf
      refine lv_tableIn (pc := 19) (tgt := 57) (off := 38) hx hb dV_about_19 (by rw [hw9]; decide) (by rw [hw9]; decide) (by rw [hw9]; decide) rfl ?_
      refine lv_aload_n (pc := 57) hx hb dV_about_57 rfl (lv_at hl 0 rfl) ?_
      obtain ⟨q10, hq10, eq10⟩ := at_6 (ad := ad) (ca := ca) (σ := σ) hm6
      obtain ⟨y11, hy11, hf⟩ := ob hf
      refine vp_callSi (pc := 58) (W.runV (As := []) (rest := []) ⟨hx, hb, hml, hown, hts⟩ (t_D_latestReleased l dC dI ad ca dom n σ j5 hm6 hN hC y11 hy11) (cwV 0 hts (gV wd_329 wd_330 wd_331 wd_292 wd_328) rfl rfl rfl (by decide +kernel) ⟨Nat.le_of_ble_eq_true rfl, Nat.le_of_ble_eq_true rfl⟩) ⟨hR_blind, va_recv (q := (RD, TD, 5)) (q0 := q10) (ci := 6) hK.1 hP rfl eq10, hR_pre hP hK hG⟩ rfl rfl hl.1 rfl (lv_room (Nat.le_of_ble_eq_true rfl)) dV_about_58 ⟨Nat.le_of_ble_eq_true rfl, Nat.le_of_ble_eq_true rfl⟩) (fun r9 hr9 => ?_)
      refine W.eq (g2 := F0 m 61 ls [.int y11]) (by rw [hr9]) ?_
      exact nomatch hf
    replace hf := ite_f hw9 hf
    by_cases hw12 : a2 = 2
    · replace hf := ite_t hw12 hf
      refine lv_tableIn (pc := 19) (tgt := 62) (off := 43) hx hb dV_about_19 (by rw [hw12]; decide) (by rw [hw12]; decide) (by rw [hw12]; decide) rfl ?_
      refine lv_aload_n (pc := 62) hx hb dV_about_62 rfl (lv_at hl 0 rfl) ?_
      obtain ⟨q13, hq13, eq13⟩ := at_6 (ad := ad) (ca := ca) (σ := σ) hm6
      refine va_get (D := (dC, dI)) (cl := kCl) (C := RD) (T := TD) (N := 5) (pc := 63) hx hb hts inD hown hK.1 hP q13 eq13 rfl 2 (by decide) (hts _ wd_359) (fun _ h9 => h9) rfl dV_about_63 ?_
      exact nomatch hf
    replace hf := ite_f hw12 hf
    by_cases hw14 : a2 = 3
    · replace hf := ite_t hw14 hf
      refine lv_tableIn (pc := 19) (tgt := 67) (off := 48) hx hb dV_about_19 (by rw [hw14]; decide) (by rw [hw14]; decide) (by rw [hw14]; decide) rfl ?_
      refine lv_aload_n (pc := 67) hx hb dV_about_67 rfl (lv_at hl 0 rfl) ?_
      obtain ⟨q15, hq15, eq15⟩ := at_6 (ad := ad) (ca := ca) (σ := σ) hm6
      refine va_get (D := (dC, dI)) (cl := kCl) (C := RD) (T := TD) (N := 5) (pc := 68) hx hb hts inD hown hK.1 hP q15 eq15 rfl 3 (by decide) (hts _ wd_368) (fun _ h9 => h9) rfl dV_about_68 ?_
      obtain ⟨q16, hq16, eq16⟩ := at_5 (ad := ad) (ca := ca) (σ := σ) (cm_6_3 hC hm6)
      refine va_get (D := (dC, dI)) (cl := kCl) (C := RC) (T := TC) (N := 5) (pc := 71) hx hb hts inC hown hK.1 hP q16 eq16 rfl 1 (by decide) (hts _ wd_563) (fun _ h9 => h9) rfl dV_about_71 ?_
      exact nomatch hf
    replace hf := ite_f hw14 hf
    by_cases hw17 : a2 = 4
    · replace hf := ite_t hw17 hf
      refine lv_tableIn (pc := 19) (tgt := 75) (off := 56) hx hb dV_about_19 (by rw [hw17]; decide) (by rw [hw17]; decide) (by rw [hw17]; decide) rfl ?_
      refine lv_aload_n (pc := 75) hx hb dV_about_75 rfl (lv_at hl 0 rfl) ?_
      obtain ⟨q18, hq18, eq18⟩ := at_6 (ad := ad) (ca := ca) (σ := σ) hm6
      refine va_get (D := (dC, dI)) (cl := kCl) (C := RD) (T := TD) (N := 5) (pc := 76) hx hb hts inD hown hK.1 hP q18 eq18 rfl 3 (by decide) (hts _ wd_368) (fun _ h9 => h9) rfl dV_about_76 ?_
      obtain ⟨q19, hq19, eq19⟩ := at_5 (ad := ad) (ca := ca) (σ := σ) (cm_6_3 hC hm6)
      refine va_get (D := (dC, dI)) (cl := kCl) (C := RC) (T := TC) (N := 5) (pc := 79) hx hb hts inC hown hK.1 hP q19 eq19 rfl 4 (by decide) (hts _ wd_332) (fun _ h9 => h9) rfl dV_about_79 ?_
      exact nomatch hf
    replace hf := ite_f hw17 hf
    refine lv_tableOut (pc := 19) (tgt := 83) hx hb dV_about_19 (by have := lv_neT hw7 (a := 0) (by decide); have := lv_neT hw9 (a := 1) (by decide); have := lv_neT hw12 (a := 2) (by decide); have := lv_neT hw14 (a := 3) (by decide); have := lv_neT hw17 (a := 4) (by decide); omega) rfl ?_
    refine lv_iload_n (pc := 83) hx hb dV_about_83 rfl (lv_at hl 3 rfl) ?_
    refine lv_sipush (pc := 84) (v := 200) hx hb dV_about_84 (by decide) ?_
    refine lv_icmp_lt (pc := 87) (tgt := 101) hx hb dV_about_87 rfl (fun h20 => ?_) (fun h20 => ?_)
    · replace hf := ite_t h20 hf
      refine lv_aload_n (pc := 101) hx hb dV_about_101 rfl (lv_at hl 0 rfl) ?_
      obtain ⟨q21, hq21, eq21⟩ := at_6 (ad := ad) (ca := ca) (σ := σ) hm6
      refine va_get (D := (dC, dI)) (cl := kCl) (C := RD) (T := TD) (N := 5) (pc := 102) hx hb hts inD hown hK.1 hP q21 eq21 rfl 3 (by decide) (hts _ wd_368) (fun _ h9 => h9) rfl dV_about_102 ?_
      refine lv_iload_n (pc := 105) hx hb dV_about_105 rfl (lv_at hl 3 rfl) ?_
      obtain ⟨⟨y22o, σ23⟩, hy22, hf⟩ := ob hf
      rcases y22o with _ | y22
      · have h9 := ex9_x hf
        subst h9
        have hFc := w9_free hD hS hA
        exact tPassS (pc := 106) (As := [.ref (ad 5 (3 * j5)), .int a2]) (rest := []) ⟨hx, hb, hml, hown, hts⟩ (x_V_byteOf l dC dI ad ca dom H.size σ (3 * j5) a2 (cm_6_3 hC hm6) hN hC σ23 hfl hy22) (cwS 2 hts (gS wd_569 wd_570 wd_254 wd_568) rfl rfl rfl (by decide +kernel) ⟨Nat.le_of_ble_eq_true rfl, Nat.le_of_ble_eq_true rfl⟩) ⟨hX_blind, hX_pre hP hK hD hG hE hS hSA⟩ rfl hl.1 rfl (lv_room (Nat.le_of_ble_eq_true rfl)) dV_about_106 ⟨Nat.le_of_ble_eq_true rfl, Nat.le_of_ble_eq_true rfl⟩ hno hlocks hS (fun x h => hFc _ h) (fun H1 h => ⟨h.1, h.2.1.weaken (fun _ _ _ z => hFc _ z), h.2.2⟩)
      replace hf := ex9_s hf
      have hFc := w9_free hD hS hA
      refine va_calli (pc := 106) (va_runS (As := [.ref (ad 5 (3 * j5)), .int a2]) (rest := []) ⟨hx, hb, hml, hown, hts⟩ (t_V_byteOf l dC dI ad ca dom H.size σ (3 * j5) a2 (cm_6_3 hC hm6) hN hC y22 σ23 hy22) (cwS 2 hts (gS wd_569 wd_570 wd_254 wd_568) rfl rfl rfl (by decide +kernel) ⟨Nat.le_of_ble_eq_true rfl, Nat.le_of_ble_eq_true rfl⟩) ⟨hW_blind, hW_pre hP hK hD hG⟩ rfl rfl hl.1 rfl (lv_room (Nat.le_of_ble_eq_true rfl)) dV_about_106 ⟨Nat.le_of_ble_eq_true rfl, Nat.le_of_ble_eq_true rfl⟩) hS (fun q _ h => hFc q h) hFc (fun r9 u t H1 locs ht hvm hr9 hB hz1 hk1 hS => ?_)
      obtain ⟨hP, hD, hC⟩ := hB
      rw [ht] at hP
      replace hD := hD.weaken (fun _ _ _ h => hFc _ h)
      generalize H1 = H at hP hS ⊢
      refine W.eq (g2 := F0 m 109 ls [.int y22]) (by rw [hr9]) ?_
      exact nomatch hf
    · replace hf := ite_f h20 hf
      refine lv_aload_n (pc := 90) hx hb dV_about_90 rfl (lv_at hl 0 rfl) ?_
      obtain ⟨q24, hq24, eq24⟩ := at_6 (ad := ad) (ca := ca) (σ := σ) hm6
      refine va_get (D := (dC, dI)) (cl := kCl) (C := RD) (T := TD) (N := 5) (pc := 91) hx hb hts inD hown hK.1 hP q24 eq24 rfl 3 (by decide) (hts _ wd_368) (fun _ h9 => h9) rfl dV_about_91 ?_
      refine lv_iload_n (pc := 94) hx hb dV_about_94 rfl (lv_at hl 3 rfl) ?_
      obtain ⟨⟨y25o, σ26⟩, hy25, hf⟩ := ob hf
      rcases y25o with _ | y25
      · have h9 := ex9_x hf
        subst h9
        have hFc := w9_free hD hS hA
        exact tPassS (pc := 95) (As := [.ref (ad 5 (3 * j5)), .int a2]) (rest := []) ⟨hx, hb, hml, hown, hts⟩ (x_V_referencePart l dC dI ad ca dom H.size σ (3 * j5) a2 (cm_6_3 hC hm6) hN hC σ26 hfl hy25) (cwS 2 hts (gS wd_572 wd_573 wd_254 wd_571) rfl rfl rfl (by decide +kernel) ⟨Nat.le_of_ble_eq_true rfl, Nat.le_of_ble_eq_true rfl⟩) ⟨hX_blind, hX_pre hP hK hD hG hE hS hSA⟩ rfl hl.1 rfl (lv_room (Nat.le_of_ble_eq_true rfl)) dV_about_95 ⟨Nat.le_of_ble_eq_true rfl, Nat.le_of_ble_eq_true rfl⟩ hno hlocks hS (fun x h => hFc _ h) (fun H1 h => ⟨h.1, h.2.1.weaken (fun _ _ _ z => hFc _ z), h.2.2⟩)
      replace hf := ex9_s hf
      have hFc := w9_free hD hS hA
      refine va_calli (pc := 95) (va_runS (As := [.ref (ad 5 (3 * j5)), .int a2]) (rest := []) ⟨hx, hb, hml, hown, hts⟩ (t_V_referencePart l dC dI ad ca dom H.size σ (3 * j5) a2 (cm_6_3 hC hm6) hN hC y25 σ26 hy25) (cwS 2 hts (gS wd_572 wd_573 wd_254 wd_571) rfl rfl rfl (by decide +kernel) ⟨Nat.le_of_ble_eq_true rfl, Nat.le_of_ble_eq_true rfl⟩) ⟨hW_blind, hW_pre hP hK hD hG⟩ rfl rfl hl.1 rfl (lv_room (Nat.le_of_ble_eq_true rfl)) dV_about_95 ⟨Nat.le_of_ble_eq_true rfl, Nat.le_of_ble_eq_true rfl⟩) hS (fun q _ h => hFc q h) hFc (fun r9 u t H1 locs ht hvm hr9 hB hz1 hk1 hS => ?_)
      obtain ⟨hP, hD, hC⟩ := hB
      rw [ht] at hP
      replace hD := hD.weaken (fun _ _ _ h => hFc _ h)
      generalize H1 = H at hP hS ⊢
      refine W.eq (g2 := F0 m 98 ls [.int y25]) (by rw [hr9]) ?_
      refine lv_goto (pc := 98) (tgt := 109) hx hb dV_about_98 rfl ?_
      exact nomatch hf
set_option maxHeartbeats 4000000 in
set_option maxRecDepth 100000 in
theorem x_V_inBaseline (l : Launch) (dC : Nat → ClassId) (dI : Nat → Nat → Nat) (ad : Nat → Nat → Nat) (ca : Nat → Nat → ClassId) (dom : List (Nat × Nat)) (sz : Nat) (n : Nat) (σ : hT) (a1 : Int32) (a2 : Int32) (a3 : Int32) (hm0 : (0, 0) ∈ dom) (hN : dom.Nodup) (hC : clo dom σ.2.2) (σ' : hT) (hfl : l.stackTraces = false) (hf : V_inBaseline n σ a1 a2 a3 = some (none, σ')) : tMet l yV_inBaseline (.code yV_inBaseline cV_inBaseline 6 (some .int) :: aw) ({ frames := 6, cells := 1, slots := 6, locals := 81 }) (hX (dC, dI) sz ad ca dom σ [.ref (ad 0 0), .int a1, .int a2, .int a3]) nIX (va_A (w9 ad ca dom σ) sz) (fun H1 => va_P (dC, dI) kCl (w9 ad ca dom σ') H1 ∧ va_D (va_A (w9 ad ca dom σ) sz) (w9 ad ca dom σ') ∧ clo dom σ'.2.2) := by
  refine tOfW (cc := cV_inBaseline) (maxL := 6) (ret := (some .int)) (by decide) rfl ?_
  intro p e s m args below meth c s₁ B hml hno hv
  obtain ⟨rfl, hv⟩ := hv
  have hx := B.exec
  have hb := B.bytes
  have hts : ∀ w ∈ aw, w.before _ s = true := fun w h => atoms_spec (ws := (.code yV_inBaseline cV_inBaseline 6 (some .int) :: aw)) B.pre w (List.mem_cons_of_mem _ h)
  have hown : s.vm.findClass RV = some m.cls := findClass_of_methodNamed B.named
  have hlocks := B.notSynchronized
  obtain ⟨hsz, hP, hK, hD0, hG, hE⟩ := hv
  subst hsz
  have hD := hD0.self (sz := s.heap.size)
  generalize hAe : va_A (w9 ad ca dom σ) s.heap.size = A at hD ⊢
  have hA : ∀ q : Nat, s.heap.size ≤ q → A q := fun q h => by rw [← hAe]; exact Or.inr h
  have hSA : ∀ q : Nat, q < s.heap.size → A q → xS ad dom q := fun q h z => by rw [← hAe] at z; exact w9_xS z h
  obtain ⟨H, hH⟩ : ∃ H, H = s.heap := ⟨_, rfl⟩
  have hS : va_S A s.heap H [] := by rw [hH]; exact va_S.rf
  rw [← hH] at hP ⊢
  unfold V_inBaseline at hf
  have hl := lv_entry ([.ref (ad 0 0), .int a1, .int a2, .int a3]) (n := 6) (Nat.le_of_ble_eq_true rfl)
  rw [lg_entry_eq]
  generalize (lg_sl ([.ref (ad 0 0), .int a1, .int a2, .int a3]) ++ List.replicate (6 - (lg_sl ([.ref (ad 0 0), .int a1, .int a2, .int a3])).length) Slot.unset).toArray = ls at hl ⊢
  have hl : lv_has ls 6 [(0, .ref (ad 0 0)), (1, .int a1), (2, .int a2), (3, .int a3)] := hl
  refine lv_aload_n (pc := 0) hx hb dV_inBaseline_0 rfl (lv_at hl 0 rfl) ?_
  refine lv_iload_n (pc := 1) hx hb dV_inBaseline_1 rfl (lv_at hl 1 rfl) ?_
  obtain ⟨q1, hq1, eq1⟩ := at_0 (ad := ad) (ca := ca) (σ := σ) hm0
  obtain ⟨y2, hy2, hf⟩ := ob hf
  refine va_cse (pc := 2) (W.runV (As := [.int a1]) (rest := []) ⟨hx, hb, hml, hown, hts⟩ (t_V_baselineAt l dC dI ad ca dom σ a1 hm0 hN hC y2 hy2) (cwV 1 hts (gV wd_475 wd_476 wd_477 wd_254 wd_474) rfl rfl rfl (by decide +kernel) ⟨Nat.le_of_ble_eq_true rfl, Nat.le_of_ble_eq_true rfl⟩) ⟨hR_blind, va_recv (q := (RV, TV, 9)) (q0 := q1) (ci := 0) hK.1 hP rfl eq1, hR_pre hP hK hG⟩ rfl rfl hl.1 rfl (lv_room (Nat.le_of_ble_eq_true rfl)) dV_inBaseline_2 ⟨Nat.le_of_ble_eq_true rfl, Nat.le_of_ble_eq_true rfl⟩) (fun r9 hr9 => ?_)
  obtain ⟨hr9, hmy3⟩ := hr9
  refine W.eq (g2 := F0 m 5 ls [va_re (ad 1) y2]) (by rw [hr9]) ?_
  rcases hE4 : y2 with _ | j5
  · replace hf := hq_n hE4 hf
    refine W.eq (g2 := F0 m 5 ls [.null]) rfl ?_
    refine lv_astoreN (pc := 5) hx hb dV_inBaseline_5 hl (by decide) rfl (fun ls hl => ?_)
    have hl : lv_has ls 6 [(4, .null), (0, .ref (ad 0 0)), (1, .int a1), (2, .int a2), (3, .int a3)] := hl
    refine lv_aloadN (pc := 7) hx hb dV_inBaseline_7 (lv_at hl 0 rfl) ?_
    refine lv_ifnonnullN (pc := 9) hx hb dV_inBaseline_9 ?_
    obtain ⟨-, h9⟩ := Prod.mk.inj (Option.some.inj hf)
    subst h9
    exact tThrow (A := A) (S := xS ad dom) (pc := 12) (own := RV) (cls := nIX) (names := [nRT, nEX]) hx hb hfl hown (by decide +kernel) (by decide +kernel) hts hE hS hSA wd_638 wd_639 (fun U h1 h2 => xat_IX h1 h2) (hl.1.trans hml.symm) dV_inBaseline_12 dV_inBaseline_15 dV_inBaseline_16 dV_inBaseline_19 hno (by decide) (by decide) (by decide) (by decide) hlocks (fun H1 hz hk => ⟨hP.kept (fun k q hq => hk _ ((hP k q hq).lt)), hD, hC⟩)
  · replace hf := hq_s hE4 hf
    have hm6 : (1, j5) ∈ dom := (hmy3 _ hE4)
    refine W.eq (g2 := F0 m 5 ls [.ref (ad 1 j5)]) rfl ?_
    refine lv_astore (pc := 5) hx hb dV_inBaseline_5 hl (by decide) rfl (fun ls hl => ?_)
    have hl : lv_has ls 6 [(4, .ref (ad 1 j5)), (0, .ref (ad 0 0)), (1, .int a1), (2, .int a2), (3, .int a3)] := hl
    refine lv_aload (pc := 7) hx hb dV_inBaseline_7 (lv_at hl 0 rfl) ?_
    refine lv_ifnonnull (pc := 9) (tgt := 20) hx hb dV_inBaseline_9 rfl ?_
    refine lv_iload_n (pc := 20) hx hb dV_inBaseline_20 rfl (lv_at hl 3 rfl) ?_
    refine lv_iconst (pc := 21) (v := (-1)) hx hb dV_inBaseline_21 (by decide) ?_
    refine lv_icmp_ne (pc := 22) (tgt := 35) hx hb dV_inBaseline_22 rfl (fun h7 => ?_) (fun h7 => ?_)
    · replace hf := ite_f h7 hf
      refine lv_aload (pc := 35) hx hb dV_inBaseline_35 (lv_at hl 0 rfl) ?_
      refine lv_iload_n (pc := 37) hx hb dV_inBaseline_37 rfl (lv_at hl 3 rfl) ?_
      obtain ⟨q8, hq8, eq8⟩ := at_1 (ad := ad) (ca := ca) (σ := σ) hm6
      obtain ⟨y9, hy9, hf⟩ := ob hf
      refine vp_callSi (pc := 38) (W.runV (As := [.int a2]) (rest := []) ⟨hx, hb, hml, hown, hts⟩ (t_B_drawingByNumber l dC dI ad ca dom n σ j5 a2 hm6 hN hC y9 hy9) (cwV 1 hts (gV wd_575 wd_576 wd_577 wd_378 wd_574) rfl rfl rfl (by decide +kernel) ⟨Nat.le_of_ble_eq_true rfl, Nat.le_of_ble_eq_true rfl⟩) ⟨hR_blind, va_recv (q := (RB, TB, 3)) (q0 := q8) (ci := 1) hK.1 hP rfl eq8, hR_pre hP hK hG⟩ rfl rfl hl.1 rfl (lv_room (Nat.le_of_ble_eq_true rfl)) dV_inBaseline_38 ⟨Nat.le_of_ble_eq_true rfl, Nat.le_of_ble_eq_true rfl⟩) (fun r9 hr9 => ?_)
      refine W.eq (g2 := F0 m 41 ls [.int y9]) (by rw [hr9]) ?_
      refine lv_istore (pc := 41) hx hb dV_inBaseline_41 hl (by decide) rfl (fun ls hl => ?_)
      have hl : lv_has ls 6 [(5, .int y9), (4, .ref (ad 1 j5)), (0, .ref (ad 0 0)), (1, .int a1), (2, .int a2), (3, .int a3)] := hl
      refine lv_iload (pc := 43) hx hb dV_inBaseline_43 (lv_at hl 0 rfl) ?_
      refine lv_iconst (pc := 45) (v := (-1)) hx hb dV_inBaseline_45 (by decide) ?_
      refine lv_icmp_eq (pc := 46) (tgt := 58) hx hb dV_inBaseline_46 rfl (fun h10 => ?_) (fun h10 => ?_)
      · replace hf := ite_t h10 hf
        obtain ⟨-, h9⟩ := Prod.mk.inj (Option.some.inj hf)
        subst h9
        exact tThrow (A := A) (S := xS ad dom) (pc := 58) (own := RV) (cls := nIX) (names := [nRT, nEX]) hx hb hfl hown (by decide +kernel) (by decide +kernel) hts hE hS hSA wd_638 wd_639 (fun U h1 h2 => xat_IX h1 h2) (hl.1.trans hml.symm) dV_inBaseline_58 dV_inBaseline_61 dV_inBaseline_62 dV_inBaseline_65 hno (by decide) (by decide) (by decide) (by decide) hlocks (fun H1 hz hk => ⟨hP.kept (fun k q hq => hk _ ((hP k q hq).lt)), hD, hC⟩)
      · replace hf := ite_f h10 hf
        refine lv_iload_n (pc := 49) hx hb dV_inBaseline_49 rfl (lv_at hl 5 rfl) ?_
        refine lv_if_lt (pc := 50) (tgt := 58) hx hb dV_inBaseline_50 rfl (fun h11 => ?_) (fun h11 => ?_)
        · replace hf := ite_t h11 hf
          obtain ⟨-, h9⟩ := Prod.mk.inj (Option.some.inj hf)
          subst h9
          exact tThrow (A := A) (S := xS ad dom) (pc := 58) (own := RV) (cls := nIX) (names := [nRT, nEX]) hx hb hfl hown (by decide +kernel) (by decide +kernel) hts hE hS hSA wd_638 wd_639 (fun U h1 h2 => xat_IX h1 h2) (hl.1.trans hml.symm) dV_inBaseline_58 dV_inBaseline_61 dV_inBaseline_62 dV_inBaseline_65 hno (by decide) (by decide) (by decide) (by decide) hlocks (fun H1 hz hk => ⟨hP.kept (fun k q hq => hk _ ((hP k q hq).lt)), hD, hC⟩)
        · replace hf := ite_f h11 hf
          refine lv_iload_n (pc := 53) hx hb dV_inBaseline_53 rfl (lv_at hl 5 rfl) ?_
          refine lv_iconst (pc := 54) (v := 1) hx hb dV_inBaseline_54 (by decide) ?_
          refine lv_icmp_le (pc := 55) (tgt := 66) hx hb dV_inBaseline_55 rfl (fun h12 => ?_) (fun h12 => ?_)
          · replace hf := ite_t h12 hf
            refine lv_iload_n (pc := 66) hx hb dV_inBaseline_66 rfl (lv_at hl 5 rfl) ?_
            refine lv_if_ne (pc := 67) (tgt := 75) hx hb dV_inBaseline_67 rfl (fun h13 => ?_) (fun h13 => ?_)
            · replace hf := ite_f h13 hf
              refine lv_aload (pc := 75) hx hb dV_inBaseline_75 (lv_at hl 1 rfl) ?_
              obtain ⟨q14, hq14, eq14⟩ := at_1 (ad := ad) (ca := ca) (σ := σ) hm6
              refine va_get (D := (dC, dI)) (cl := kCl) (C := RB) (T := TB) (N := 3) (pc := 77) hx hb hts inB hown hK.1 hP q14 eq14 rfl 0 (by decide) (hts _ wd_343) (fun _ h9 => h9) rfl dV_inBaseline_77 ?_
              refine lv_iload (pc := 80) hx hb dV_inBaseline_80 (lv_at hl 0 rfl) ?_
              obtain ⟨hv15, hf⟩ := ite_s hf
              obtain ⟨q16, hq16, eq16⟩ := at_11 (ad := ad) (ca := ca) (σ := σ) (cm_1_0 hC hm6)
              refine va_iald (D := (dC, dI)) (cl := kCl) (pc := 82) hx hb (hK.2 11 j5 .int (cm_1_0 hC hm6) rfl) hP q16 0 eq16 rfl (hv15) dV_inBaseline_82 ?_
              refine W.eq (g2 := F0 m 83 ls [.int (xI σ 11 j5 (y9).toNatClampNeg)]) rfl ?_
              exact nomatch hf
            · replace hf := ite_t h13 hf
              refine lv_iload (pc := 70) hx hb dV_inBaseline_70 (lv_at hl 0 rfl) ?_
              refine lv_goto (pc := 72) (tgt := 83) hx hb dV_inBaseline_72 rfl ?_
              exact nomatch hf
          · replace hf := ite_f h12 hf
            obtain ⟨-, h9⟩ := Prod.mk.inj (Option.some.inj hf)
            subst h9
            exact tThrow (A := A) (S := xS ad dom) (pc := 58) (own := RV) (cls := nIX) (names := [nRT, nEX]) hx hb hfl hown (by decide +kernel) (by decide +kernel) hts hE hS hSA wd_638 wd_639 (fun U h1 h2 => xat_IX h1 h2) (hl.1.trans hml.symm) dV_inBaseline_58 dV_inBaseline_61 dV_inBaseline_62 dV_inBaseline_65 hno (by decide) (by decide) (by decide) (by decide) hlocks (fun H1 hz hk => ⟨hP.kept (fun k q hq => hk _ ((hP k q hq).lt)), hD, hC⟩)
    · replace hf := ite_t h7 hf
      refine lv_iload_n (pc := 25) hx hb dV_inBaseline_25 rfl (lv_at hl 4 rfl) ?_
      refine lv_if_ne (pc := 26) (tgt := 35) hx hb dV_inBaseline_26 rfl (fun h17 => ?_) (fun h17 => ?_)
      · replace hf := ite_f h17 hf
        refine lv_aload (pc := 35) hx hb dV_inBaseline_35 (lv_at hl 0 rfl) ?_
        refine lv_iload_n (pc := 37) hx hb dV_inBaseline_37 rfl (lv_at hl 3 rfl) ?_
        obtain ⟨q18, hq18, eq18⟩ := at_1 (ad := ad) (ca := ca) (σ := σ) hm6
        obtain ⟨y19, hy19, hf⟩ := ob hf
        refine vp_callSi (pc := 38) (W.runV (As := [.int a2]) (rest := []) ⟨hx, hb, hml, hown, hts⟩ (t_B_drawingByNumber l dC dI ad ca dom n σ j5 a2 hm6 hN hC y19 hy19) (cwV 1 hts (gV wd_575 wd_576 wd_577 wd_378 wd_574) rfl rfl rfl (by decide +kernel) ⟨Nat.le_of_ble_eq_true rfl, Nat.le_of_ble_eq_true rfl⟩) ⟨hR_blind, va_recv (q := (RB, TB, 3)) (q0 := q18) (ci := 1) hK.1 hP rfl eq18, hR_pre hP hK hG⟩ rfl rfl hl.1 rfl (lv_room (Nat.le_of_ble_eq_true rfl)) dV_inBaseline_38 ⟨Nat.le_of_ble_eq_true rfl, Nat.le_of_ble_eq_true rfl⟩) (fun r9 hr9 => ?_)
        refine W.eq (g2 := F0 m 41 ls [.int y19]) (by rw [hr9]) ?_
        refine lv_istore (pc := 41) hx hb dV_inBaseline_41 hl (by decide) rfl (fun ls hl => ?_)
        have hl : lv_has ls 6 [(5, .int y19), (4, .ref (ad 1 j5)), (0, .ref (ad 0 0)), (1, .int a1), (2, .int a2), (3, .int a3)] := hl
        refine lv_iload (pc := 43) hx hb dV_inBaseline_43 (lv_at hl 0 rfl) ?_
        refine lv_iconst (pc := 45) (v := (-1)) hx hb dV_inBaseline_45 (by decide) ?_
        refine lv_icmp_eq (pc := 46) (tgt := 58) hx hb dV_inBaseline_46 rfl (fun h20 => ?_) (fun h20 => ?_)
        · replace hf := ite_t h20 hf
          obtain ⟨-, h9⟩ := Prod.mk.inj (Option.some.inj hf)
          subst h9
          exact tThrow (A := A) (S := xS ad dom) (pc := 58) (own := RV) (cls := nIX) (names := [nRT, nEX]) hx hb hfl hown (by decide +kernel) (by decide +kernel) hts hE hS hSA wd_638 wd_639 (fun U h1 h2 => xat_IX h1 h2) (hl.1.trans hml.symm) dV_inBaseline_58 dV_inBaseline_61 dV_inBaseline_62 dV_inBaseline_65 hno (by decide) (by decide) (by decide) (by decide) hlocks (fun H1 hz hk => ⟨hP.kept (fun k q hq => hk _ ((hP k q hq).lt)), hD, hC⟩)
        · replace hf := ite_f h20 hf
          refine lv_iload_n (pc := 49) hx hb dV_inBaseline_49 rfl (lv_at hl 5 rfl) ?_
          refine lv_if_lt (pc := 50) (tgt := 58) hx hb dV_inBaseline_50 rfl (fun h21 => ?_) (fun h21 => ?_)
          · replace hf := ite_t h21 hf
            obtain ⟨-, h9⟩ := Prod.mk.inj (Option.some.inj hf)
            subst h9
            exact tThrow (A := A) (S := xS ad dom) (pc := 58) (own := RV) (cls := nIX) (names := [nRT, nEX]) hx hb hfl hown (by decide +kernel) (by decide +kernel) hts hE hS hSA wd_638 wd_639 (fun U h1 h2 => xat_IX h1 h2) (hl.1.trans hml.symm) dV_inBaseline_58 dV_inBaseline_61 dV_inBaseline_62 dV_inBaseline_65 hno (by decide) (by decide) (by decide) (by decide) hlocks (fun H1 hz hk => ⟨hP.kept (fun k q hq => hk _ ((hP k q hq).lt)), hD, hC⟩)
          · replace hf := ite_f h21 hf
            refine lv_iload_n (pc := 53) hx hb dV_inBaseline_53 rfl (lv_at hl 5 rfl) ?_
            refine lv_iconst (pc := 54) (v := 1) hx hb dV_inBaseline_54 (by decide) ?_
            refine lv_icmp_le (pc := 55) (tgt := 66) hx hb dV_inBaseline_55 rfl (fun h22 => ?_) (fun h22 => ?_)
            · replace hf := ite_t h22 hf
              refine lv_iload_n (pc := 66) hx hb dV_inBaseline_66 rfl (lv_at hl 5 rfl) ?_
              refine lv_if_ne (pc := 67) (tgt := 75) hx hb dV_inBaseline_67 rfl (fun h23 => ?_) (fun h23 => ?_)
              · replace hf := ite_f h23 hf
                refine lv_aload (pc := 75) hx hb dV_inBaseline_75 (lv_at hl 1 rfl) ?_
                obtain ⟨q24, hq24, eq24⟩ := at_1 (ad := ad) (ca := ca) (σ := σ) hm6
                refine va_get (D := (dC, dI)) (cl := kCl) (C := RB) (T := TB) (N := 3) (pc := 77) hx hb hts inB hown hK.1 hP q24 eq24 rfl 0 (by decide) (hts _ wd_343) (fun _ h9 => h9) rfl dV_inBaseline_77 ?_
                refine lv_iload (pc := 80) hx hb dV_inBaseline_80 (lv_at hl 0 rfl) ?_
                obtain ⟨hv25, hf⟩ := ite_s hf
                obtain ⟨q26, hq26, eq26⟩ := at_11 (ad := ad) (ca := ca) (σ := σ) (cm_1_0 hC hm6)
                refine va_iald (D := (dC, dI)) (cl := kCl) (pc := 82) hx hb (hK.2 11 j5 .int (cm_1_0 hC hm6) rfl) hP q26 0 eq26 rfl (hv25) dV_inBaseline_82 ?_
                refine W.eq (g2 := F0 m 83 ls [.int (xI σ 11 j5 (y19).toNatClampNeg)]) rfl ?_
                exact nomatch hf
              · replace hf := ite_t h23 hf
                refine lv_iload (pc := 70) hx hb dV_inBaseline_70 (lv_at hl 0 rfl) ?_
                refine lv_goto (pc := 72) (tgt := 83) hx hb dV_inBaseline_72 rfl ?_
                exact nomatch hf
            · replace hf := ite_f h22 hf
              obtain ⟨-, h9⟩ := Prod.mk.inj (Option.some.inj hf)
              subst h9
              exact tThrow (A := A) (S := xS ad dom) (pc := 58) (own := RV) (cls := nIX) (names := [nRT, nEX]) hx hb hfl hown (by decide +kernel) (by decide +kernel) hts hE hS hSA wd_638 wd_639 (fun U h1 h2 => xat_IX h1 h2) (hl.1.trans hml.symm) dV_inBaseline_58 dV_inBaseline_61 dV_inBaseline_62 dV_inBaseline_65 hno (by decide) (by decide) (by decide) (by decide) hlocks (fun H1 hz hk => ⟨hP.kept (fun k q hq => hk _ ((hP k q hq).lt)), hD, hC⟩)
      · replace hf := ite_t h17 hf
        refine lv_aload (pc := 29) hx hb dV_inBaseline_29 (lv_at hl 0 rfl) ?_
        obtain ⟨q27, hq27, eq27⟩ := at_1 (ad := ad) (ca := ca) (σ := σ) hm6
        refine va_get (D := (dC, dI)) (cl := kCl) (C := RB) (T := TB) (N := 3) (pc := 31) hx hb hts inB hown hK.1 hP q27 eq27 rfl 2 (by decide) (hts _ wd_432) (fun _ h9 => h9) rfl dV_inBaseline_31 ?_
        exact nomatch hf
set_option maxHeartbeats 4000000 in
set_option maxRecDepth 100000 in
theorem x_V_difference (l : Launch) (dC : Nat → ClassId) (dI : Nat → Nat → Nat) (ad : Nat → Nat → Nat) (ca : Nat → Nat → ClassId) (dom : List (Nat × Nat)) (sz : Nat) (n : Nat) (σ : hT) (a1 : Int32) (a2 : Int32) (a3 : Int32) (a4 : Int32) (hm0 : (0, 0) ∈ dom) (hN : dom.Nodup) (hC : clo dom σ.2.2) (σ' : hT) (hfl : l.stackTraces = false) (hf : V_difference n σ a1 a2 a3 a4 = some (none, σ')) : tMet l yV_difference (.code yV_difference cV_difference 9 (some .int) :: aw) ({ frames := 6, cells := 1, slots := 6, locals := 81 }) (hX (dC, dI) sz ad ca dom σ [.ref (ad 0 0), .int a1, .int a2, .int a3, .int a4]) nIX (va_A (w9 ad ca dom σ) sz) (fun H1 => va_P (dC, dI) kCl (w9 ad ca dom σ') H1 ∧ va_D (va_A (w9 ad ca dom σ) sz) (w9 ad ca dom σ') ∧ clo dom σ'.2.2) := by
  refine tOfW (cc := cV_difference) (maxL := 9) (ret := (some .int)) (by decide) rfl ?_
  intro p e s m args below meth c s₁ B hml hno hv
  obtain ⟨rfl, hv⟩ := hv
  have hx := B.exec
  have hb := B.bytes
  have hts : ∀ w ∈ aw, w.before _ s = true := fun w h => atoms_spec (ws := (.code yV_difference cV_difference 9 (some .int) :: aw)) B.pre w (List.mem_cons_of_mem _ h)
  have hown : s.vm.findClass RV = some m.cls := findClass_of_methodNamed B.named
  have hlocks := B.notSynchronized
  obtain ⟨hsz, hP, hK, hD0, hG, hE⟩ := hv
  subst hsz
  have hD := hD0.self (sz := s.heap.size)
  generalize hAe : va_A (w9 ad ca dom σ) s.heap.size = A at hD ⊢
  have hA : ∀ q : Nat, s.heap.size ≤ q → A q := fun q h => by rw [← hAe]; exact Or.inr h
  have hSA : ∀ q : Nat, q < s.heap.size → A q → xS ad dom q := fun q h z => by rw [← hAe] at z; exact w9_xS z h
  obtain ⟨H, hH⟩ : ∃ H, H = s.heap := ⟨_, rfl⟩
  have hS : va_S A s.heap H [] := by rw [hH]; exact va_S.rf
  rw [← hH] at hP ⊢
  unfold V_difference at hf
  have hl := lv_entry ([.ref (ad 0 0), .int a1, .int a2, .int a3, .int a4]) (n := 9) (Nat.le_of_ble_eq_true rfl)
  rw [lg_entry_eq]
  generalize (lg_sl ([.ref (ad 0 0), .int a1, .int a2, .int a3, .int a4]) ++ List.replicate (9 - (lg_sl ([.ref (ad 0 0), .int a1, .int a2, .int a3, .int a4])).length) Slot.unset).toArray = ls at hl ⊢
  have hl : lv_has ls 9 [(0, .ref (ad 0 0)), (1, .int a1), (2, .int a2), (3, .int a3), (4, .int a4)] := hl
  refine lv_aload_n (pc := 0) hx hb dV_difference_0 rfl (lv_at hl 0 rfl) ?_
  refine lv_iload_n (pc := 1) hx hb dV_difference_1 rfl (lv_at hl 1 rfl) ?_
  refine lv_iload_n (pc := 2) hx hb dV_difference_2 rfl (lv_at hl 2 rfl) ?_
  obtain ⟨q1, hq1, eq1⟩ := at_0 (ad := ad) (ca := ca) (σ := σ) hm0
  obtain ⟨y2, hy2, hf⟩ := ob hf
  refine va_cse (pc := 3) (W.runV (As := [.int a1, .int a2]) (rest := []) ⟨hx, hb, hml, hown, hts⟩ (t_V_revisionAt l dC dI ad ca dom σ a1 a2 hm0 hN hC y2 hy2) (cwV 2 hts (gV wd_324 wd_325 wd_326 wd_254 wd_323) rfl rfl rfl (by decide +kernel) ⟨Nat.le_of_ble_eq_true rfl, Nat.le_of_ble_eq_true rfl⟩) ⟨hR_blind, va_recv (q := (RV, TV, 9)) (q0 := q1) (ci := 0) hK.1 hP rfl eq1, hR_pre hP hK hG⟩ rfl rfl hl.1 rfl (lv_room (Nat.le_of_ble_eq_true rfl)) dV_difference_3 ⟨Nat.le_of_ble_eq_true rfl, Nat.le_of_ble_eq_true rfl⟩) (fun r9 hr9 => ?_)
  obtain ⟨hr9, hmy3⟩ := hr9
  refine W.eq (g2 := F0 m 6 ls [va_re (ad 7) y2]) (by rw [hr9]) ?_
  rcases hE4 : y2 with _ | j5
  · replace hf := hq_n hE4 hf
    refine W.eq (g2 := F0 m 6 ls [.null]) rfl ?_
    refine lv_astoreN (pc := 6) hx hb dV_difference_6 hl (by decide) rfl (fun ls hl => ?_)
    have hl : lv_has ls 9 [(5, .null), (0, .ref (ad 0 0)), (1, .int a1), (2, .int a2), (3, .int a3), (4, .int a4)] := hl
    refine lv_aload_n (pc := 8) hx hb dV_difference_8 rfl (lv_at hl 1 rfl) ?_
    refine lv_iload_n (pc := 9) hx hb dV_difference_9 rfl (lv_at hl 2 rfl) ?_
    refine lv_iload_n (pc := 10) hx hb dV_difference_10 rfl (lv_at hl 4 rfl) ?_
    obtain ⟨q6, hq6, eq6⟩ := at_0 (ad := ad) (ca := ca) (σ := σ) hm0
    obtain ⟨y7, hy7, hf⟩ := ob hf
    refine va_cse (pc := 11) (W.runV (As := [.int a1, .int a3]) (rest := []) ⟨hx, hb, hml, hown, hts⟩ (t_V_revisionAt l dC dI ad ca dom σ a1 a3 hm0 hN hC y7 hy7) (cwV 2 hts (gV wd_324 wd_325 wd_326 wd_254 wd_323) rfl rfl rfl (by decide +kernel) ⟨Nat.le_of_ble_eq_true rfl, Nat.le_of_ble_eq_true rfl⟩) ⟨hR_blind, va_recv (q := (RV, TV, 9)) (q0 := q6) (ci := 0) hK.1 hP rfl eq6, hR_pre hP hK hG⟩ rfl rfl hl.1 rfl (lv_room (Nat.le_of_ble_eq_true rfl)) dV_difference_11 ⟨Nat.le_of_ble_eq_true rfl, Nat.le_of_ble_eq_true rfl⟩) (fun r9 hr9 => ?_)
    obtain ⟨hr9, hmy8⟩ := hr9
    refine W.eq (g2 := F0 m 14 ls [va_re (ad 7) y7]) (by rw [hr9]) ?_
    rcases hE9 : y7 with _ | j10
    · replace hf := hq_n hE9 hf
      refine W.eq (g2 := F0 m 14 ls [.null]) rfl ?_
      refine lv_astoreN (pc := 14) hx hb dV_difference_14 hl (by decide) rfl (fun ls hl => ?_)
      have hl : lv_has ls 9 [(6, .null), (5, .null), (0, .ref (ad 0 0)), (1, .int a1), (2, .int a2), (3, .int a3), (4, .int a4)] := hl
      refine lv_aloadN (pc := 16) hx hb dV_difference_16 (lv_at hl 1 rfl) ?_
      refine lv_ifnullN (pc := 18) (tgt := 26) hx hb dV_difference_18 rfl ?_
      obtain ⟨-, h9⟩ := Prod.mk.inj (Option.some.inj hf)
      subst h9
      exact tThrow (A := A) (S := xS ad dom) (pc := 26) (own := RV) (cls := nIX) (names := [nRT, nEX]) hx hb hfl hown (by decide +kernel) (by decide +kernel) hts hE hS hSA wd_638 wd_639 (fun U h1 h2 => xat_IX h1 h2) (hl.1.trans hml.symm) dV_difference_26 dV_difference_29 dV_difference_30 dV_difference_33 hno (by decide) (by decide) (by decide) (by decide) hlocks (fun H1 hz hk => ⟨hP.kept (fun k q hq => hk _ ((hP k q hq).lt)), hD, hC⟩)
    · replace hf := hq_s hE9 hf
      have hm11 : (7, j10) ∈ dom := (hmy8 _ hE9)
      refine W.eq (g2 := F0 m 14 ls [.ref (ad 7 j10)]) rfl ?_
      refine lv_astore (pc := 14) hx hb dV_difference_14 hl (by decide) rfl (fun ls hl => ?_)
      have hl : lv_has ls 9 [(6, .ref (ad 7 j10)), (5, .null), (0, .ref (ad 0 0)), (1, .int a1), (2, .int a2), (3, .int a3), (4, .int a4)] := hl
      refine lv_aloadN (pc := 16) hx hb dV_difference_16 (lv_at hl 1 rfl) ?_
      refine lv_ifnullN (pc := 18) (tgt := 26) hx hb dV_difference_18 rfl ?_
      obtain ⟨-, h9⟩ := Prod.mk.inj (Option.some.inj hf)
      subst h9
      exact tThrow (A := A) (S := xS ad dom) (pc := 26) (own := RV) (cls := nIX) (names := [nRT, nEX]) hx hb hfl hown (by decide +kernel) (by decide +kernel) hts hE hS hSA wd_638 wd_639 (fun U h1 h2 => xat_IX h1 h2) (hl.1.trans hml.symm) dV_difference_26 dV_difference_29 dV_difference_30 dV_difference_33 hno (by decide) (by decide) (by decide) (by decide) hlocks (fun H1 hz hk => ⟨hP.kept (fun k q hq => hk _ ((hP k q hq).lt)), hD, hC⟩)
  · replace hf := hq_s hE4 hf
    have hm12 : (7, j5) ∈ dom := (hmy3 _ hE4)
    refine W.eq (g2 := F0 m 6 ls [.ref (ad 7 j5)]) rfl ?_
    refine lv_astore (pc := 6) hx hb dV_difference_6 hl (by decide) rfl (fun ls hl => ?_)
    have hl : lv_has ls 9 [(5, .ref (ad 7 j5)), (0, .ref (ad 0 0)), (1, .int a1), (2, .int a2), (3, .int a3), (4, .int a4)] := hl
    refine lv_aload_n (pc := 8) hx hb dV_difference_8 rfl (lv_at hl 1 rfl) ?_
    refine lv_iload_n (pc := 9) hx hb dV_difference_9 rfl (lv_at hl 2 rfl) ?_
    refine lv_iload_n (pc := 10) hx hb dV_difference_10 rfl (lv_at hl 4 rfl) ?_
    obtain ⟨q13, hq13, eq13⟩ := at_0 (ad := ad) (ca := ca) (σ := σ) hm0
    obtain ⟨y14, hy14, hf⟩ := ob hf
    refine va_cse (pc := 11) (W.runV (As := [.int a1, .int a3]) (rest := []) ⟨hx, hb, hml, hown, hts⟩ (t_V_revisionAt l dC dI ad ca dom σ a1 a3 hm0 hN hC y14 hy14) (cwV 2 hts (gV wd_324 wd_325 wd_326 wd_254 wd_323) rfl rfl rfl (by decide +kernel) ⟨Nat.le_of_ble_eq_true rfl, Nat.le_of_ble_eq_true rfl⟩) ⟨hR_blind, va_recv (q := (RV, TV, 9)) (q0 := q13) (ci := 0) hK.1 hP rfl eq13, hR_pre hP hK hG⟩ rfl rfl hl.1 rfl (lv_room (Nat.le_of_ble_eq_true rfl)) dV_difference_11 ⟨Nat.le_of_ble_eq_true rfl, Nat.le_of_ble_eq_true rfl⟩) (fun r9 hr9 => ?_)
    obtain ⟨hr9, hmy15⟩ := hr9
    refine W.eq (g2 := F0 m 14 ls [va_re (ad 7) y14]) (by rw [hr9]) ?_
    rcases hE16 : y14 with _ | j17
    · replace hf := hq_n hE16 hf
      refine W.eq (g2 := F0 m 14 ls [.null]) rfl ?_
      refine lv_astoreN (pc := 14) hx hb dV_difference_14 hl (by decide) rfl (fun ls hl => ?_)
      have hl : lv_has ls 9 [(6, .null), (5, .ref (ad 7 j5)), (0, .ref (ad 0 0)), (1, .int a1), (2, .int a2), (3, .int a3), (4, .int a4)] := hl
      refine lv_aload (pc := 16) hx hb dV_difference_16 (lv_at hl 1 rfl) ?_
      refine lv_ifnull (pc := 18) hx hb dV_difference_18 ?_
      refine lv_aloadN (pc := 21) hx hb dV_difference_21 (lv_at hl 0 rfl) ?_
      refine lv_ifnonnullN (pc := 23) hx hb dV_difference_23 ?_
      obtain ⟨-, h9⟩ := Prod.mk.inj (Option.some.inj hf)
      subst h9
      exact tThrow (A := A) (S := xS ad dom) (pc := 26) (own := RV) (cls := nIX) (names := [nRT, nEX]) hx hb hfl hown (by decide +kernel) (by decide +kernel) hts hE hS hSA wd_638 wd_639 (fun U h1 h2 => xat_IX h1 h2) (hl.1.trans hml.symm) dV_difference_26 dV_difference_29 dV_difference_30 dV_difference_33 hno (by decide) (by decide) (by decide) (by decide) hlocks (fun H1 hz hk => ⟨hP.kept (fun k q hq => hk _ ((hP k q hq).lt)), hD, hC⟩)
    · replace hf := hq_s hE16 hf
      have hm18 : (7, j17) ∈ dom := (hmy15 _ hE16)
      refine W.eq (g2 := F0 m 14 ls [.ref (ad 7 j17)]) rfl ?_
      refine lv_astore (pc := 14) hx hb dV_difference_14 hl (by decide) rfl (fun ls hl => ?_)
      have hl : lv_has ls 9 [(6, .ref (ad 7 j17)), (5, .ref (ad 7 j5)), (0, .ref (ad 0 0)), (1, .int a1), (2, .int a2), (3, .int a3), (4, .int a4)] := hl
      refine lv_aload (pc := 16) hx hb dV_difference_16 (lv_at hl 1 rfl) ?_
      refine lv_ifnull (pc := 18) hx hb dV_difference_18 ?_
      refine lv_aload (pc := 21) hx hb dV_difference_21 (lv_at hl 0 rfl) ?_
      refine lv_ifnonnull (pc := 23) (tgt := 34) hx hb dV_difference_23 rfl ?_
      refine lv_iconst (pc := 34) (v := 0) hx hb dV_difference_34 (by decide) ?_
      refine lv_istore (pc := 35) hx hb dV_difference_35 hl (by decide) rfl (fun ls hl => ?_)
      have hl : lv_has ls 9 [(7, .int 0), (6, .ref (ad 7 j17)), (5, .ref (ad 7 j5)), (0, .ref (ad 0 0)), (1, .int a1), (2, .int a2), (3, .int a3), (4, .int a4)] := hl
      refine lv_iconst (pc := 37) (v := 0) hx hb dV_difference_37 (by decide) ?_
      refine lv_istore (pc := 38) hx hb dV_difference_38 hl (by decide) rfl (fun ls hl => ?_)
      have hl : lv_has ls 9 [(8, .int 0), (7, .int 0), (6, .ref (ad 7 j17)), (5, .ref (ad 7 j5)), (0, .ref (ad 0 0)), (1, .int a1), (2, .int a2), (3, .int a3), (4, .int a4)] := hl
      obtain ⟨kx30, hkx30, hf⟩ := lt_9 hf
      refine lpF (τ := (hT) × (Int32) × (Int32) × (Nat) × (Nat) × (Int32) × (Int32) × (Int32) × (Int32) × (Heap) × (List Loc) × (Array Slot)) (fun pc z => W p l e _ s m _ below meth c z.2.2.2.2.2.2.2.2.2.1 z.2.2.2.2.2.2.2.2.2.2.1 0 0 _ (F0 m pc z.2.2.2.2.2.2.2.2.2.2.2 [])) 40 84 (fun z => va_P (dC, dI) kCl (w9 ad ca dom z.1) z.2.2.2.2.2.2.2.2.2.1 ∧ va_D A (w9 ad ca dom z.1) ∧ va_S A s.heap z.2.2.2.2.2.2.2.2.2.1 z.2.2.2.2.2.2.2.2.2.2.1 ∧ clo dom z.1.2.2 ∧ lv_has z.2.2.2.2.2.2.2.2.2.2.2 9 [(8, .int z.2.1), (7, .int z.2.2.1), (6, .ref (ad 7 z.2.2.2.1)), (5, .ref (ad 7 z.2.2.2.2.1)), (0, .ref (ad 0 0)), (1, .int z.2.2.2.2.2.1), (2, .int z.2.2.2.2.2.2.1), (3, .int z.2.2.2.2.2.2.2.1), (4, .int z.2.2.2.2.2.2.2.2.1)] ∧ (7, z.2.2.2.1) ∈ dom ∧ (7, z.2.2.2.2.1) ∈ dom) (fun k z => V_difference_L40 n kx30 k z.1 z.2.1 z.2.2.1 z.2.2.2.1 z.2.2.2.2.1 z.2.2.2.2.2.1 z.2.2.2.2.2.2.1 z.2.2.2.2.2.2.2.1 z.2.2.2.2.2.2.2.2.1) (fun z => kx30 z.1 z.2.1 z.2.2.1 z.2.2.2.1 z.2.2.2.2.1 z.2.2.2.2.2.1 z.2.2.2.2.2.2.1 z.2.2.2.2.2.2.2.1 z.2.2.2.2.2.2.2.2.1) _ (fun z => rfl) ?_ ?_ n (σ, 0, 0, j17, j5, a1, a2, a3, a4, H, _, ls) ⟨hP, hD, hS, hC, hl, hm18, hm12⟩ hf
      · rintro k ⟨σ19, p20, p21, j22, j24, p26, p27, p28, p29, H, locs, ls⟩ ⟨hP, hD, hS, hC, hl, hm23, hm25⟩ hf ih31 hXkx30
        dsimp only at hP hD hS hC hl hm23 hm25 hf ih31 hXkx30 ⊢
        unfold V_difference_L40 at hf
        have hl : lv_has ls 9 [(8, .int p20), (7, .int p21), (6, .ref (ad 7 j22)), (5, .ref (ad 7 j24)), (0, .ref (ad 0 0)), (1, .int p26), (2, .int p27), (3, .int p28), (4, .int p29)] := hl
        refine lv_iload (pc := 40) hx hb dV_difference_40 (lv_at hl 0 rfl) ?_
        refine lv_bipush (pc := 42) (v := 8) hx hb dV_difference_42 (by decide) ?_
        refine lv_icmp_ge (pc := 44) (tgt := 84) hx hb dV_difference_44 rfl (fun h32 => ?_) (fun h32 => ?_)
        · replace hf := ite_t h32 hf
          have hl := lv_sub hl (l' := [(8, .int p20), (7, .int p21), (6, .ref (ad 7 j22)), (5, .ref (ad 7 j24)), (0, .ref (ad 0 0)), (1, .int p26), (2, .int p27), (3, .int p28), (4, .int p29)]) [0, 1, 2, 3, 4, 5, 6, 7, 8] rfl
          exact hXkx30 (σ19, p20, p21, j22, j24, p26, p27, p28, p29, H, _, ls) ⟨hP, hD, hS, hC, hl, hm23, hm25⟩ hf
        · replace hf := ite_f h32 hf
          refine lv_aload (pc := 47) hx hb dV_difference_47 (lv_at hl 3 rfl) ?_
          obtain ⟨q33, hq33, eq33⟩ := at_7 (ad := ad) (ca := ca) (σ := σ19) hm25
          refine va_get (D := (dC, dI)) (cl := kCl) (C := RS) (T := TS) (N := 3) (pc := 49) hx hb hts inS hown hK.1 hP q33 eq33 rfl 0 (by decide) (hts _ wd_345) (fun _ h9 => h9) rfl dV_difference_49 ?_
          refine lv_aload (pc := 52) hx hb dV_difference_52 (lv_at hl 2 rfl) ?_
          obtain ⟨q34, hq34, eq34⟩ := at_7 (ad := ad) (ca := ca) (σ := σ19) hm23
          refine va_get (D := (dC, dI)) (cl := kCl) (C := RS) (T := TS) (N := 3) (pc := 54) hx hb hts inS hown hK.1 hP q34 eq34 rfl 0 (by decide) (hts _ wd_345) (fun _ h9 => h9) rfl dV_difference_54 ?_
          refine lv_iload (pc := 57) hx hb dV_difference_57 (lv_at hl 0 rfl) ?_
          obtain ⟨q35, hq35, eq35⟩ := at_5 (ad := ad) (ca := ca) (σ := σ19) (cm_7_0 hC hm25)
          obtain ⟨y36, hy36, hf⟩ := ob hf
          refine vp_callSi (pc := 59) (W.runV (As := [.ref (ad 5 (3 * j22 + 2)), .int p20]) (rest := []) ⟨hx, hb, hml, hown, hts⟩ (t_C_samePiece l dC dI ad ca dom σ19 (3 * j24 + 2) (3 * j22 + 2) p20 (cm_7_0 hC hm25) (cm_7_0 hC hm23) hN hC y36 hy36) (cwV 2 hts (gV wd_579 wd_580 wd_581 wd_228 wd_578) rfl rfl rfl (by decide +kernel) ⟨Nat.le_of_ble_eq_true rfl, Nat.le_of_ble_eq_true rfl⟩) ⟨hR_blind, va_recv (q := (RC, TC, 5)) (q0 := q35) (ci := 5) hK.1 hP rfl eq35, hR_pre hP hK hG⟩ rfl rfl hl.1 rfl (lv_room (Nat.le_of_ble_eq_true rfl)) dV_difference_59 ⟨Nat.le_of_ble_eq_true rfl, Nat.le_of_ble_eq_true rfl⟩) (fun r9 hr9 => ?_)
          refine W.eq (g2 := F0 m 62 ls [.int y36]) (by rw [hr9]) ?_
          refine lv_if_ne (pc := 62) (tgt := 78) hx hb dV_difference_62 rfl (fun h37 => ?_) (fun h37 => ?_)
          · replace hf := ite_f h37 hf
            refine lv_iinc (pc := 78) (v := (p20 + 1)) hx hb dV_difference_78 hl (k := 0) rfl (by rfl) (by decide) rfl (fun ls hl => ?_)
            have hl : lv_has ls 9 [(8, .int (p20 + 1)), (7, .int p21), (6, .ref (ad 7 j22)), (5, .ref (ad 7 j24)), (0, .ref (ad 0 0)), (1, .int p26), (2, .int p27), (3, .int p28), (4, .int p29)] := hl
            refine lv_goto (pc := 81) (tgt := 40) hx hb dV_difference_81 rfl ?_
            have hl := lv_sub hl (l' := [(8, .int (p20 + 1)), (7, .int p21), (6, .ref (ad 7 j22)), (5, .ref (ad 7 j24)), (0, .ref (ad 0 0)), (1, .int p26), (2, .int p27), (3, .int p28), (4, .int p29)]) [0, 1, 2, 3, 4, 5, 6, 7, 8] rfl
            exact ih31 (σ19, (p20 + 1), p21, j22, j24, p26, p27, p28, p29, H, _, ls) ⟨hP, hD, hS, hC, hl, hm23, hm25⟩ hf
          · replace hf := ite_t h37 hf
            refine lv_iload (pc := 65) hx hb dV_difference_65 (lv_at hl 1 rfl) ?_
            refine lv_iload (pc := 67) hx hb dV_difference_67 (lv_at hl 8 rfl) ?_
            refine lv_icmp_ne (pc := 69) (tgt := 75) hx hb dV_difference_69 rfl (fun h38 => ?_) (fun h38 => ?_)
            · replace hf := ite_f h38 hf
              refine lv_iinc (pc := 75) (v := (p21 + 1)) hx hb dV_difference_75 hl (k := 1) rfl (by rfl) (by decide) rfl (fun ls hl => ?_)
              have hl : lv_has ls 9 [(7, .int (p21 + 1)), (8, .int p20), (6, .ref (ad 7 j22)), (5, .ref (ad 7 j24)), (0, .ref (ad 0 0)), (1, .int p26), (2, .int p27), (3, .int p28), (4, .int p29)] := hl
              refine lv_iinc (pc := 78) (v := (p20 + 1)) hx hb dV_difference_78 hl (k := 1) rfl (by rfl) (by decide) rfl (fun ls hl => ?_)
              have hl : lv_has ls 9 [(8, .int (p20 + 1)), (7, .int (p21 + 1)), (6, .ref (ad 7 j22)), (5, .ref (ad 7 j24)), (0, .ref (ad 0 0)), (1, .int p26), (2, .int p27), (3, .int p28), (4, .int p29)] := hl
              refine lv_goto (pc := 81) (tgt := 40) hx hb dV_difference_81 rfl ?_
              have hl := lv_sub hl (l' := [(8, .int (p20 + 1)), (7, .int (p21 + 1)), (6, .ref (ad 7 j22)), (5, .ref (ad 7 j24)), (0, .ref (ad 0 0)), (1, .int p26), (2, .int p27), (3, .int p28), (4, .int p29)]) [0, 1, 2, 3, 4, 5, 6, 7, 8] rfl
              exact ih31 (σ19, (p20 + 1), (p21 + 1), j22, j24, p26, p27, p28, p29, H, _, ls) ⟨hP, hD, hS, hC, hl, hm23, hm25⟩ hf
            · replace hf := ite_t h38 hf
              refine lv_iload (pc := 72) hx hb dV_difference_72 (lv_at hl 0 rfl) ?_
              exact nomatch hf
      · rintro ⟨σ19, p20, p21, j22, j24, p26, p27, p28, p29, H, locs, ls⟩ ⟨hP, hD, hS, hC, hl, hm23, hm25⟩ hf
        dsimp only at hP hD hS hC hl hm23 hm25 hf ⊢
        rw [hkx30] at hf
        have hl : lv_has ls 9 [(8, .int p20), (7, .int p21), (6, .ref (ad 7 j22)), (5, .ref (ad 7 j24)), (0, .ref (ad 0 0)), (1, .int p26), (2, .int p27), (3, .int p28), (4, .int p29)] := hl
        refine lv_iconst (pc := 84) (v := (-1)) hx hb dV_difference_84 (by decide) ?_
        exact nomatch hf
