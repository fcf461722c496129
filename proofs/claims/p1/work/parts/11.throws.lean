abbrev cV_look : ByteArray := prog_1_method_16_code
abbrev yV_look : MethodName := ⟨"DrawingVault", "look", "(III)I"⟩
theorem dV_look_0 : decode cV_look 0 = .ok (.aload_n 0, 1) := by decide +kernel
theorem dV_look_1 : decode cV_look 1 = .ok (.iload_n 1, 1) := by decide +kernel
theorem dV_look_2 : decode cV_look 2 = .ok (.iload_n 2, 1) := by decide +kernel
theorem dV_look_3 : decode cV_look 3 = .ok (.invokevirtual 163, 3) := by decide +kernel
theorem dV_look_6 : decode cV_look 6 = .ok (.astore 4, 2) := by decide +kernel
theorem dV_look_8 : decode cV_look 8 = .ok (.aload 4, 2) := by decide +kernel
theorem dV_look_10 : decode cV_look 10 = .ok (.ifnonnull 11, 3) := by decide +kernel
theorem dV_look_13 : decode cV_look 13 = .ok (.new 167, 3) := by decide +kernel
theorem dV_look_16 : decode cV_look 16 = .ok (.dup, 1) := by decide +kernel
theorem dV_look_17 : decode cV_look 17 = .ok (.invokespecial 169, 3) := by decide +kernel
theorem dV_look_20 : decode cV_look 20 = .ok (.athrow, 1) := by decide +kernel
abbrev cV_reference : ByteArray := prog_1_method_17_code
abbrev yV_reference : MethodName := ⟨"DrawingVault", "reference", "(IIII)I"⟩
theorem dV_reference_0 : decode cV_reference 0 = .ok (.aload_n 0, 1) := by decide +kernel
theorem dV_reference_1 : decode cV_reference 1 = .ok (.iload_n 1, 1) := by decide +kernel
theorem dV_reference_2 : decode cV_reference 2 = .ok (.iload_n 2, 1) := by decide +kernel
theorem dV_reference_3 : decode cV_reference 3 = .ok (.invokevirtual 163, 3) := by decide +kernel
theorem dV_reference_6 : decode cV_reference 6 = .ok (.astore 5, 2) := by decide +kernel
theorem dV_reference_8 : decode cV_reference 8 = .ok (.aload 5, 2) := by decide +kernel
theorem dV_reference_10 : decode cV_reference 10 = .ok (.ifnull 15, 3) := by decide +kernel
theorem dV_reference_25 : decode cV_reference 25 = .ok (.new 167, 3) := by decide +kernel
theorem dV_reference_28 : decode cV_reference 28 = .ok (.dup, 1) := by decide +kernel
theorem dV_reference_29 : decode cV_reference 29 = .ok (.invokespecial 169, 3) := by decide +kernel
theorem dV_reference_32 : decode cV_reference 32 = .ok (.athrow, 1) := by decide +kernel
abbrev cV_about : ByteArray := prog_1_method_18_code
abbrev yV_about : MethodName := ⟨"DrawingVault", "about", "(II)I"⟩
theorem dV_about_0 : decode cV_about 0 = .ok (.aload_n 0, 1) := by decide +kernel
theorem dV_about_1 : decode cV_about 1 = .ok (.iload_n 1, 1) := by decide +kernel
theorem dV_about_2 : decode cV_about 2 = .ok (.invokevirtual 74, 3) := by decide +kernel
theorem dV_about_5 : decode cV_about 5 = .ok (.astore_n 3, 1) := by decide +kernel
theorem dV_about_6 : decode cV_about 6 = .ok (.aload_n 3, 1) := by decide +kernel
theorem dV_about_7 : decode cV_about 7 = .ok (.ifnonnull 11, 3) := by decide +kernel
theorem dV_about_10 : decode cV_about 10 = .ok (.new 167, 3) := by decide +kernel
theorem dV_about_13 : decode cV_about 13 = .ok (.dup, 1) := by decide +kernel
theorem dV_about_14 : decode cV_about 14 = .ok (.invokespecial 169, 3) := by decide +kernel
theorem dV_about_17 : decode cV_about 17 = .ok (.athrow, 1) := by decide +kernel
abbrev cV_inBaseline : ByteArray := prog_1_method_19_code
abbrev yV_inBaseline : MethodName := ⟨"DrawingVault", "inBaseline", "(III)I"⟩
theorem dV_inBaseline_0 : decode cV_inBaseline 0 = .ok (.aload_n 0, 1) := by decide +kernel
theorem dV_inBaseline_1 : decode cV_inBaseline 1 = .ok (.iload_n 1, 1) := by decide +kernel
theorem dV_inBaseline_2 : decode cV_inBaseline 2 = .ok (.invokevirtual 209, 3) := by decide +kernel
theorem dV_inBaseline_5 : decode cV_inBaseline 5 = .ok (.astore 4, 2) := by decide +kernel
theorem dV_inBaseline_7 : decode cV_inBaseline 7 = .ok (.aload 4, 2) := by decide +kernel
theorem dV_inBaseline_9 : decode cV_inBaseline 9 = .ok (.ifnonnull 11, 3) := by decide +kernel
theorem dV_inBaseline_12 : decode cV_inBaseline 12 = .ok (.new 167, 3) := by decide +kernel
theorem dV_inBaseline_15 : decode cV_inBaseline 15 = .ok (.dup, 1) := by decide +kernel
theorem dV_inBaseline_16 : decode cV_inBaseline 16 = .ok (.invokespecial 169, 3) := by decide +kernel
theorem dV_inBaseline_19 : decode cV_inBaseline 19 = .ok (.athrow, 1) := by decide +kernel
abbrev cV_difference : ByteArray := prog_1_method_21_code
abbrev yV_difference : MethodName := ⟨"DrawingVault", "difference", "(IIII)I"⟩
theorem dV_difference_0 : decode cV_difference 0 = .ok (.aload_n 0, 1) := by decide +kernel
theorem dV_difference_1 : decode cV_difference 1 = .ok (.iload_n 1, 1) := by decide +kernel
theorem dV_difference_2 : decode cV_difference 2 = .ok (.iload_n 2, 1) := by decide +kernel
theorem dV_difference_3 : decode cV_difference 3 = .ok (.invokevirtual 163, 3) := by decide +kernel
theorem dV_difference_6 : decode cV_difference 6 = .ok (.astore 5, 2) := by decide +kernel
theorem dV_difference_8 : decode cV_difference 8 = .ok (.aload_n 0, 1) := by decide +kernel
theorem dV_difference_9 : decode cV_difference 9 = .ok (.iload_n 1, 1) := by decide +kernel
theorem dV_difference_10 : decode cV_difference 10 = .ok (.iload_n 3, 1) := by decide +kernel
theorem dV_difference_11 : decode cV_difference 11 = .ok (.invokevirtual 163, 3) := by decide +kernel
theorem dV_difference_14 : decode cV_difference 14 = .ok (.astore 6, 2) := by decide +kernel
theorem dV_difference_16 : decode cV_difference 16 = .ok (.aload 5, 2) := by decide +kernel
theorem dV_difference_18 : decode cV_difference 18 = .ok (.ifnull 8, 3) := by decide +kernel
theorem dV_difference_26 : decode cV_difference 26 = .ok (.new 167, 3) := by decide +kernel
theorem dV_difference_29 : decode cV_difference 29 = .ok (.dup, 1) := by decide +kernel
theorem dV_difference_30 : decode cV_difference 30 = .ok (.invokespecial 169, 3) := by decide +kernel
theorem dV_difference_33 : decode cV_difference 33 = .ok (.athrow, 1) := by decide +kernel
theorem wd_369 : (.classLink "DrawingVault" 167 "java/lang/IndexOutOfBoundsException" : Cond) ∈ aw := aw_in (tb_3 (List.mem_of_getElem? (i := 198) rfl)) rfl
theorem wd_370 : (.initialized "java/lang/IndexOutOfBoundsException" : Cond) ∈ aw := aw_in (tb_1 (List.mem_of_getElem? (i := 16) rfl)) rfl

def pRx (D : va_G) (ws : va_W) (tys : List (ClassId × FieldType)) (av : List Value) : Array Value → State → Prop := va_Pc av (fun U => va_P D kCl ws U.heap ∧ va_K D kCl tys U ∧ xE U)
theorem pRx_blind {D : va_G} {ws : va_W} {tys : List (ClassId × FieldType)} {av : List Value} : FrameBlind (pRx D ws tys av) := fun a U g mk h => ⟨h.1, h.2.1, va_K.moved (u := U) (U := U.calling g mk a) (Vm.Alike.refl U.vm) h.2.2.1, xE_same (u := U) rfl rfl h.2.2.2⟩
theorem pRx_pre {D : va_G} {ws : va_W} {tys : List (ClassId × FieldType)} {av : List Value} {s : State} {H : Heap} (hP : va_P D kCl ws H) (hK : va_K D kCl tys s) (hE : ∀ U : State, U.heap = H → s.WarmedH U.vm → xE U) : ∀ U : State, U.heap = H → s.WarmedH U.vm → pRx D ws tys av av.toArray U := fun U hU hW => ⟨rfl, by rw [hU]; exact hP, va_K.moved hW.alike hK, hE U hU hW⟩
def pWy (D : va_G) (sz : Nat) (ws : va_W) (tys : List (ClassId × FieldType)) (av : List Value) : Array Value → State → Prop := va_Pc av (fun U => U.heap.size = sz ∧ va_P D kCl ws U.heap ∧ va_K D kCl tys U ∧ va_D (fun _ => True) ws ∧ xE U)
theorem pWy_blind {D : va_G} {sz : Nat} {ws : va_W} {tys : List (ClassId × FieldType)} {av : List Value} : FrameBlind (pWy D sz ws tys av) := fun a U g mk h => ⟨h.1, h.2.1, h.2.2.1, va_K.moved (u := U) (U := U.calling g mk a) (Vm.Alike.refl U.vm) h.2.2.2.1, h.2.2.2.2.1, xE_same (u := U) rfl rfl h.2.2.2.2.2⟩
theorem pWy_pre {D : va_G} {ws : va_W} {tys : List (ClassId × FieldType)} {av : List Value} {s : State} {H : Heap} {A : Nat → Prop} (hP : va_P D kCl ws H) (hK : va_K D kCl tys s) (hD : va_D A ws) (hE : ∀ U : State, U.heap = H → s.WarmedH U.vm → xE U) : ∀ U : State, U.heap = H → s.WarmedH U.vm → pWy D H.size ws tys av av.toArray U := fun U hU hW => ⟨rfl, by rw [hU], by rw [hU]; exact hP, va_K.moved hW.alike hK, hD.weaken (fun _ _ _ _ => trivial), hE U hU hW⟩
theorem tab1 {c : Code} {a b h k : Nat} (hm : c.exceptionTable.toList.map (fun h => (h.startPc, h.endPc, h.handlerPc, h.catchType)) = [(a, b, h, k)]) : c.exceptionTable.toList = [⟨a, b, h, k⟩] := by
  cases hl : c.exceptionTable.toList with
  | nil => rw [hl] at hm; cases hm
  | cons x r =>
    rw [hl] at hm
    cases r with
    | nil =>
      obtain ⟨x1, x2, x3, x4⟩ := x
      simp only [List.map_cons, List.map_nil, List.cons.injEq, Prod.mk.injEq, and_true] at hm
      obtain ⟨rfl, rfl, rfl, rfl⟩ := hm
      rfl
    | cons y r => simp at hm
theorem va_nil {D : va_G} {H : Heap} : va_P D kCl ([] : va_W) H := fun k q h => by simp at h
theorem va_nilD {A : Nat → Prop} : va_D A ([] : va_W) := ⟨fun i j p q h => by simp at h, fun k q h => by simp at h⟩
theorem al_c {P : Cond → Prop} {w : Cond} {L : List Cond} (h : P w) (t : ∀ x ∈ L, P x) : ∀ x ∈ w :: L, P x := fun x hx => (List.mem_cons.mp hx).elim (fun e => e ▸ h) (t x)
theorem al_n {P : Cond → Prop} : ∀ x ∈ ([] : List Cond), P x := fun _ h => nomatch h
theorem wd_329 : (.initialized "java/lang/Throwable" : Cond) ∈ aw := aw_in (tb_1 (List.mem_of_getElem? (i := 7) rfl)) rfl
theorem wd_330 : (.superclass "java/lang/Throwable" "java/lang/Object" : Cond) ∈ aw := aw_in (tb_2 (List.mem_of_getElem? (i := 30) rfl)) rfl
theorem wd_331 : (.instanceMethod ⟨"java/lang/Throwable", "fillInStackTrace", "()Ljava/lang/Throwable;"⟩ : Cond) ∈ aw := aw_in (tb_2 (List.mem_of_getElem? (i := 39) rfl)) rfl
theorem wd_332 : (.codeSync ⟨"java/lang/Throwable", "fillInStackTrace", "()Ljava/lang/Throwable;"⟩ prog_16_method_18_code 1 (Option.some (.object "java/lang/Throwable")) : Cond) ∈ aw := aw_in (tb_2 (List.mem_of_getElem? (i := 42) rfl)) rfl
theorem wd_333 : (.instanceMethod ⟨"java/lang/Throwable", "fillInStackTrace", "(I)Ljava/lang/Throwable;"⟩ : Cond) ∈ aw := aw_in (tb_2 (List.mem_of_getElem? (i := 45) rfl)) rfl
theorem wd_334 : (.native ⟨"java/lang/Throwable", "fillInStackTrace", "(I)Ljava/lang/Throwable;"⟩ : Cond) ∈ aw := aw_in (tb_2 (List.mem_of_getElem? (i := 47) rfl)) rfl
theorem wd_335 : (.instanceMethod ⟨"java/lang/Throwable", "<init>", "()V"⟩ : Cond) ∈ aw := aw_in (tb_2 (List.mem_of_getElem? (i := 31) rfl)) rfl
theorem wd_336 : (.code ⟨"java/lang/Throwable", "<init>", "()V"⟩ prog_16_method_1_code 1 (Option.none : Option Jvm.ClassFile.FieldType) : Cond) ∈ aw := aw_in (tb_2 (List.mem_of_getElem? (i := 32) rfl)) rfl
theorem wd_337 : (.methodLink "java/lang/Throwable" 1 ⟨"java/lang/Object", "<init>", "()V"⟩ : Cond) ∈ aw := aw_in (tb_2 (List.mem_of_getElem? (i := 33) rfl)) rfl
theorem wd_338 : (.methodLink "java/lang/Throwable" 27 ⟨"java/lang/Throwable", "fillInStackTrace", "()Ljava/lang/Throwable;"⟩ : Cond) ∈ aw := aw_in (tb_2 (List.mem_of_getElem? (i := 38) rfl)) rfl
theorem wd_339 : (.methodLink "java/lang/Throwable" 202 ⟨"java/lang/Throwable", "fillInStackTrace", "(I)Ljava/lang/Throwable;"⟩ : Cond) ∈ aw := aw_in (tb_2 (List.mem_of_getElem? (i := 43) rfl)) rfl
theorem wd_340 : (.fieldLink "java/lang/Throwable" 7 "java/lang/Throwable" "cause" "Ljava/lang/Throwable;" : Cond) ∈ aw := aw_in (tb_2 (List.mem_of_getElem? (i := 59) rfl)) rfl
theorem wd_341 : (.lays "java/lang/Throwable" "java/lang/Throwable" "cause" "Ljava/lang/Throwable;" : Cond) ∈ aw := aw_in (tb_2 (List.mem_of_getElem? (i := 20) rfl)) rfl
theorem wd_342 : (.fieldLink "java/lang/Throwable" 17 "java/lang/Throwable" "stackTrace" "[Ljava/lang/StackTraceElement;" : Cond) ∈ aw := aw_in (tb_2 (List.mem_of_getElem? (i := 60) rfl)) rfl
theorem wd_343 : (.lays "java/lang/Throwable" "java/lang/Throwable" "stackTrace" "[Ljava/lang/StackTraceElement;" : Cond) ∈ aw := aw_in (tb_2 (List.mem_of_getElem? (i := 22) rfl)) rfl
theorem wd_344 : (.fieldLink "java/lang/Throwable" 24 "java/lang/Throwable" "suppressedExceptions" "Ljava/util/List;" : Cond) ∈ aw := aw_in (tb_2 (List.mem_of_getElem? (i := 61) rfl)) rfl
theorem wd_345 : (.lays "java/lang/Throwable" "java/lang/Throwable" "suppressedExceptions" "Ljava/util/List;" : Cond) ∈ aw := aw_in (tb_2 (List.mem_of_getElem? (i := 24) rfl)) rfl
theorem wd_346 : (.fieldLink "java/lang/Throwable" 13 "java/lang/Throwable" "UNASSIGNED_STACK" "[Ljava/lang/StackTraceElement;" : Cond) ∈ aw := aw_in (tb_2 (List.mem_of_getElem? (i := 34) rfl)) rfl
theorem wd_347 : (.fieldLink "java/lang/Throwable" 20 "java/lang/Throwable" "SUPPRESSED_SENTINEL" "Ljava/util/List;" : Cond) ∈ aw := aw_in (tb_2 (List.mem_of_getElem? (i := 36) rfl)) rfl
theorem wd_348 : (.lays "java/lang/Throwable" "java/lang/Throwable" "detailMessage" "Ljava/lang/String;" : Cond) ∈ aw := aw_in (tb_2 (List.mem_of_getElem? (i := 26) rfl)) rfl
theorem wd_349 : (.instanceMethod ⟨"java/lang/IndexOutOfBoundsException", "<init>", "()V"⟩ : Cond) ∈ aw := aw_in (tb_3 (List.mem_of_getElem? (i := 208) rfl)) rfl
theorem wd_350 : (.code ⟨"java/lang/IndexOutOfBoundsException", "<init>", "()V"⟩ prog_12_method_1_code 1 (Option.none : Option Jvm.ClassFile.FieldType) : Cond) ∈ aw := aw_in (tb_3 (List.mem_of_getElem? (i := 209) rfl)) rfl
theorem wd_351 : (.methodLink "java/lang/IndexOutOfBoundsException" 1 ⟨"java/lang/RuntimeException", "<init>", "()V"⟩ : Cond) ∈ aw := aw_in (tb_3 (List.mem_of_getElem? (i := 210) rfl)) rfl
theorem wd_352 : (.instanceMethod ⟨"java/lang/RuntimeException", "<init>", "()V"⟩ : Cond) ∈ aw := aw_in (tb_2 (List.mem_of_getElem? (i := 52) rfl)) rfl
theorem wd_353 : (.code ⟨"java/lang/RuntimeException", "<init>", "()V"⟩ prog_14_method_1_code 1 (Option.none : Option Jvm.ClassFile.FieldType) : Cond) ∈ aw := aw_in (tb_2 (List.mem_of_getElem? (i := 53) rfl)) rfl
theorem wd_354 : (.methodLink "java/lang/RuntimeException" 1 ⟨"java/lang/Exception", "<init>", "()V"⟩ : Cond) ∈ aw := aw_in (tb_2 (List.mem_of_getElem? (i := 54) rfl)) rfl
theorem wd_355 : (.instanceMethod ⟨"java/lang/Exception", "<init>", "()V"⟩ : Cond) ∈ aw := aw_in (tb_2 (List.mem_of_getElem? (i := 55) rfl)) rfl
theorem wd_356 : (.code ⟨"java/lang/Exception", "<init>", "()V"⟩ prog_10_method_1_code 1 (Option.none : Option Jvm.ClassFile.FieldType) : Cond) ∈ aw := aw_in (tb_2 (List.mem_of_getElem? (i := 56) rfl)) rfl
theorem wd_357 : (.methodLink "java/lang/Exception" 1 ⟨"java/lang/Throwable", "<init>", "()V"⟩ : Cond) ∈ aw := aw_in (tb_2 (List.mem_of_getElem? (i := 57) rfl)) rfl
theorem wd_358 : (.methodLink "DrawingVault" 169 ⟨"java/lang/IndexOutOfBoundsException", "<init>", "()V"⟩ : Cond) ∈ aw := aw_in (tb_3 (List.mem_of_getElem? (i := 207) rfl)) rfl
theorem wd_359 : (.instantiable "java/lang/IndexOutOfBoundsException" 6 : Cond) ∈ aw := aw_in (tb_3 (List.mem_of_getElem? (i := 199) rfl)) rfl
theorem wd_360 : (.selects "java/lang/IndexOutOfBoundsException" ⟨"java/lang/Throwable", "fillInStackTrace", "(I)Ljava/lang/Throwable;"⟩ ⟨"java/lang/Throwable", "fillInStackTrace", "(I)Ljava/lang/Throwable;"⟩ : Cond) ∈ aw := aw_in (tb_3 (List.mem_of_getElem? (i := 201) rfl)) rfl
theorem wd_361 : (.selects "java/lang/IndexOutOfBoundsException" ⟨"java/lang/Throwable", "fillInStackTrace", "()Ljava/lang/Throwable;"⟩ ⟨"java/lang/Throwable", "fillInStackTrace", "()Ljava/lang/Throwable;"⟩ : Cond) ∈ aw := aw_in (tb_2 (List.mem_of_getElem? (i := 41) rfl)) rfl
theorem wd_362 : (.lays "java/lang/IndexOutOfBoundsException" "java/lang/Throwable" "cause" "Ljava/lang/Throwable;" : Cond) ∈ aw := aw_in (tb_3 (List.mem_of_getElem? (i := 202) rfl)) rfl
theorem wd_363 : (.lays "java/lang/IndexOutOfBoundsException" "java/lang/Throwable" "stackTrace" "[Ljava/lang/StackTraceElement;" : Cond) ∈ aw := aw_in (tb_3 (List.mem_of_getElem? (i := 203) rfl)) rfl
theorem wd_364 : (.lays "java/lang/IndexOutOfBoundsException" "java/lang/Throwable" "suppressedExceptions" "Ljava/util/List;" : Cond) ∈ aw := aw_in (tb_3 (List.mem_of_getElem? (i := 204) rfl)) rfl
theorem wd_365 : (.lays "java/lang/IndexOutOfBoundsException" "java/lang/Throwable" "detailMessage" "Ljava/lang/String;" : Cond) ∈ aw := aw_in (tb_3 (List.mem_of_getElem? (i := 205) rfl)) rfl
theorem wd_366 : (.fieldLink "java/lang/Throwable" 198 "java/lang/Throwable" "backtrace" "Ljava/lang/Object;" : Cond) ∈ aw := aw_in (tb_2 (List.mem_of_getElem? (i := 29) rfl)) rfl
theorem wd_367 : (.lays "java/lang/Throwable" "java/lang/Throwable" "backtrace" "Ljava/lang/Object;" : Cond) ∈ aw := aw_in (tb_2 (List.mem_of_getElem? (i := 28) rfl)) rfl
theorem wd_368 : (.lays "java/lang/IndexOutOfBoundsException" "java/lang/Throwable" "backtrace" "Ljava/lang/Object;" : Cond) ∈ aw := aw_in (tb_3 (List.mem_of_getElem? (i := 206) rfl)) rfl
theorem xat {args : Array Value} {s : State} (hts : ∀ w ∈ aw, w.before args s = true) (hE : xE s) : ∀ w ∈ Bundle.ownAtoms0 RV 169 nIX [nRT, nEX], w.before args s = true :=
  al_c (hts _ wd_329) (al_c (hts _ wd_330) (al_c (hts _ wd_331) (al_c (hts _ wd_332) (al_c (hts _ wd_333) (al_c (hts _ wd_334) (al_c (hts _ wd_335) (al_c (hts _ wd_336) (al_c (hts _ wd_222) (al_c (hts _ wd_223) (al_c (hts _ wd_337) (al_c (hts _ wd_338) (al_c (hts _ wd_339) (al_c (hts _ wd_340) (al_c (hts _ wd_341) (al_c (hts _ wd_342) (al_c (hts _ wd_343) (al_c (hts _ wd_344) (al_c (hts _ wd_345) (al_c (hts _ wd_346) (al_c hE.2.2.2.2.1.lays (al_c (hts _ wd_347) (al_c hE.2.2.2.2.2.lays (al_c (hts _ wd_348) (al_c (hts _ wd_349) (al_c (hts _ wd_350) (al_c (hts _ wd_351) (al_c (hts _ wd_352) (al_c (va_Nw.use rfl hE.2.1) (al_c (hts _ wd_352) (al_c (hts _ wd_353) (al_c (hts _ wd_354) (al_c (hts _ wd_355) (al_c (va_Nw.use rfl hE.2.2.1) (al_c (hts _ wd_355) (al_c (hts _ wd_356) (al_c (hts _ wd_357) (al_c (hts _ wd_335) (al_c (va_Nw.use rfl hE.2.2.2.1) (al_c (hts _ wd_358) (al_c (hts _ wd_359) (al_c (va_Nw.use rfl hE.1) (al_c (hts _ wd_360) (al_c (hts _ wd_361) (al_c (hts _ wd_362) (al_c (hts _ wd_363) (al_c (hts _ wd_364) (al_c (hts _ wd_365) (al_c hE.2.2.2.2.1.isRef (al_c hE.2.2.2.2.2.isRef (al_c (hts _ wd_366) (al_c (hts _ wd_367) (al_c (hts _ wd_368) (al_n)))))))))))))))))))))))))))))))))))))))))))))))))))))
set_option maxHeartbeats 4000000 in
set_option maxRecDepth 100000 in
theorem v_look (l : Launch) (dC : Nat → ClassId) (dI : Nat → Nat → Nat) (x : Nat) (rt : Nat) (dr : Nat) (bs : Nat) (df : Nat) (ch : Nat) (pg : Nat) (rs : Int32) (dd : Int32) (vv : Int32) (ww : Int32) (hfl : l.stackTraces = false) : tMet l yV_look (.code yV_look cV_look 5 (some .int) :: aw) ({ frames := 6, cells := 1, slots := 6, locals := 81 }) (pRx (dC, dI) [(x, .inr (0, [.ref rt, .ref dr, .int 0, .int 0, .ref bs, .ref df, .ref ch, .ref pg, .int rs]))] [] [.ref x, .int dd, .int vv, .int ww]) nIX := by
  refine tOfW (cc := cV_look) (maxL := 5) (ret := (some .int)) (by decide) rfl ?_
  intro p e s m args below meth c s₁ B hml hno hv
  obtain ⟨rfl, hv⟩ := hv
  have hx := B.exec
  have hb := B.bytes
  have hts : ∀ w ∈ aw, w.before _ s = true := fun w h => atoms_spec (ws := (.code yV_look cV_look 5 (some .int) :: aw)) B.pre w (List.mem_cons_of_mem _ h)
  have hown : s.vm.findClass RV = some m.cls := findClass_of_methodNamed B.named
  have hlocks := B.notSynchronized
  obtain ⟨hP, hK, hE⟩ := hv
  obtain ⟨H, hH⟩ : ∃ H, H = s.heap := ⟨_, rfl⟩
  rw [← hH] at hP ⊢
  have hl := lv_entry ([.ref x, .int dd, .int vv, .int ww]) (n := 5) (Nat.le_of_ble_eq_true rfl)
  rw [lg_entry_eq]
  generalize (lg_sl ([.ref x, .int dd, .int vv, .int ww]) ++ List.replicate (5 - (lg_sl ([.ref x, .int dd, .int vv, .int ww])).length) Slot.unset).toArray = ls at hl ⊢
  have hl : lv_has ls 5 [(0, .ref x), (1, .int dd), (2, .int vv), (3, .int ww)] := hl
  refine lv_aload_n (pc := 0) hx hb dV_look_0 rfl (lv_at hl 0 rfl) ?_
  refine lv_iload_n (pc := 1) hx hb dV_look_1 rfl (lv_at hl 1 rfl) ?_
  refine lv_iload_n (pc := 2) hx hb dV_look_2 rfl (lv_at hl 2 rfl) ?_
  refine va_csq (pc := 3) (W.runV (As := [.int dd, .int vv]) (rest := []) ⟨hx, hb, hml, hown, hts⟩ (v_revisionAt l dC dI x rt dr bs df ch pg rs dd vv) (cwV 2 hts (gV wd_50 wd_51 wd_52 wd_35 wd_49) rfl rfl rfl (by decide +kernel) ⟨Nat.le_of_ble_eq_true rfl, Nat.le_of_ble_eq_true rfl⟩) ⟨pR_blind, va_recv (q := (RV, TV, 9)) (q0 := 0) (ci := 0) hK hP rfl rfl, pR_pre (hP.sub (ws' := [(x, .inr (0, [.ref rt, .ref dr, .int 0, .int 0, .ref bs, .ref df, .ref ch, .ref pg, .int rs]))]) [0] rfl) (hK.sub (tys' := []) [] rfl)⟩ rfl rfl hl.1 rfl (lv_room (Nat.le_of_ble_eq_true rfl)) dV_look_3 ⟨Nat.le_of_ble_eq_true rfl, Nat.le_of_ble_eq_true rfl⟩) (fun r1 hr2 => ?_)
  obtain rfl : r1 = none := hr2
  refine W.eq (g2 := F0 m 6 ls [.null]) rfl ?_
  refine lv_astoreN (pc := 6) hx hb dV_look_6 hl (by decide) rfl (fun ls hl => ?_)
  have hl : lv_has ls 5 [(4, .null), (0, .ref x), (1, .int dd), (2, .int vv), (3, .int ww)] := hl
  refine lv_aloadN (pc := 8) hx hb dV_look_8 (lv_at hl 0 rfl) ?_
  refine lv_ifnonnullN (pc := 10) hx hb dV_look_10 ?_
  exact tThrow (pc := 13) (own := RV) (cls := nIX) (names := [nRT, nEX]) hx hb hfl hown (by decide +kernel) (by decide +kernel) (hts _ wd_369) (hts _ wd_370) (xat hts hE) (hl.1.trans hml.symm) dV_look_13 dV_look_16 dV_look_17 dV_look_20 hno (by decide) (by decide) (by decide) (by decide) hlocks hH
set_option maxHeartbeats 4000000 in
set_option maxRecDepth 100000 in
theorem v_reference (l : Launch) (dC : Nat → ClassId) (dI : Nat → Nat → Nat) (x : Nat) (rt : Nat) (dr : Nat) (bs : Nat) (df : Nat) (ch : Nat) (pg : Nat) (rs : Int32) (dd : Int32) (vv : Int32) (kk : Int32) (ww : Int32) (hfl : l.stackTraces = false) : tMet l yV_reference (.code yV_reference cV_reference 8 (some .int) :: aw) ({ frames := 6, cells := 1, slots := 6, locals := 81 }) (pRx (dC, dI) [(x, .inr (0, [.ref rt, .ref dr, .int 0, .int 0, .ref bs, .ref df, .ref ch, .ref pg, .int rs]))] [] [.ref x, .int dd, .int vv, .int kk, .int ww]) nIX := by
  refine tOfW (cc := cV_reference) (maxL := 8) (ret := (some .int)) (by decide) rfl ?_
  intro p e s m args below meth c s₁ B hml hno hv
  obtain ⟨rfl, hv⟩ := hv
  have hx := B.exec
  have hb := B.bytes
  have hts : ∀ w ∈ aw, w.before _ s = true := fun w h => atoms_spec (ws := (.code yV_reference cV_reference 8 (some .int) :: aw)) B.pre w (List.mem_cons_of_mem _ h)
  have hown : s.vm.findClass RV = some m.cls := findClass_of_methodNamed B.named
  have hlocks := B.notSynchronized
  obtain ⟨hP, hK, hE⟩ := hv
  obtain ⟨H, hH⟩ : ∃ H, H = s.heap := ⟨_, rfl⟩
  rw [← hH] at hP ⊢
  have hl := lv_entry ([.ref x, .int dd, .int vv, .int kk, .int ww]) (n := 8) (Nat.le_of_ble_eq_true rfl)
  rw [lg_entry_eq]
  generalize (lg_sl ([.ref x, .int dd, .int vv, .int kk, .int ww]) ++ List.replicate (8 - (lg_sl ([.ref x, .int dd, .int vv, .int kk, .int ww])).length) Slot.unset).toArray = ls at hl ⊢
  have hl : lv_has ls 8 [(0, .ref x), (1, .int dd), (2, .int vv), (3, .int kk), (4, .int ww)] := hl
  refine lv_aload_n (pc := 0) hx hb dV_reference_0 rfl (lv_at hl 0 rfl) ?_
  refine lv_iload_n (pc := 1) hx hb dV_reference_1 rfl (lv_at hl 1 rfl) ?_
  refine lv_iload_n (pc := 2) hx hb dV_reference_2 rfl (lv_at hl 2 rfl) ?_
  refine va_csq (pc := 3) (W.runV (As := [.int dd, .int vv]) (rest := []) ⟨hx, hb, hml, hown, hts⟩ (v_revisionAt l dC dI x rt dr bs df ch pg rs dd vv) (cwV 2 hts (gV wd_50 wd_51 wd_52 wd_35 wd_49) rfl rfl rfl (by decide +kernel) ⟨Nat.le_of_ble_eq_true rfl, Nat.le_of_ble_eq_true rfl⟩) ⟨pR_blind, va_recv (q := (RV, TV, 9)) (q0 := 0) (ci := 0) hK hP rfl rfl, pR_pre (hP.sub (ws' := [(x, .inr (0, [.ref rt, .ref dr, .int 0, .int 0, .ref bs, .ref df, .ref ch, .ref pg, .int rs]))]) [0] rfl) (hK.sub (tys' := []) [] rfl)⟩ rfl rfl hl.1 rfl (lv_room (Nat.le_of_ble_eq_true rfl)) dV_reference_3 ⟨Nat.le_of_ble_eq_true rfl, Nat.le_of_ble_eq_true rfl⟩) (fun r1 hr2 => ?_)
  obtain rfl : r1 = none := hr2
  refine W.eq (g2 := F0 m 6 ls [.null]) rfl ?_
  refine lv_astoreN (pc := 6) hx hb dV_reference_6 hl (by decide) rfl (fun ls hl => ?_)
  have hl : lv_has ls 8 [(5, .null), (0, .ref x), (1, .int dd), (2, .int vv), (3, .int kk), (4, .int ww)] := hl
  refine lv_aloadN (pc := 8) hx hb dV_reference_8 (lv_at hl 0 rfl) ?_
  refine lv_ifnullN (pc := 10) (tgt := 25) hx hb dV_reference_10 rfl ?_
  exact tThrow (pc := 25) (own := RV) (cls := nIX) (names := [nRT, nEX]) hx hb hfl hown (by decide +kernel) (by decide +kernel) (hts _ wd_369) (hts _ wd_370) (xat hts hE) (hl.1.trans hml.symm) dV_reference_25 dV_reference_28 dV_reference_29 dV_reference_32 hno (by decide) (by decide) (by decide) (by decide) hlocks hH
set_option maxHeartbeats 4000000 in
set_option maxRecDepth 100000 in
theorem v_about (l : Launch) (dC : Nat → ClassId) (dI : Nat → Nat → Nat) (x : Nat) (rt : Nat) (dr : Nat) (bs : Nat) (df : Nat) (ch : Nat) (pg : Nat) (rs : Int32) (dd : Int32) (ww : Int32) (hfl : l.stackTraces = false) : tMet l yV_about (.code yV_about cV_about 4 (some .int) :: aw) ({ frames := 6, cells := 1, slots := 6, locals := 81 }) (pRx (dC, dI) [(x, .inr (0, [.ref rt, .ref dr, .int 0, .int 0, .ref bs, .ref df, .ref ch, .ref pg, .int rs]))] [] [.ref x, .int dd, .int ww]) nIX := by
  refine tOfW (cc := cV_about) (maxL := 4) (ret := (some .int)) (by decide) rfl ?_
  intro p e s m args below meth c s₁ B hml hno hv
  obtain ⟨rfl, hv⟩ := hv
  have hx := B.exec
  have hb := B.bytes
  have hts : ∀ w ∈ aw, w.before _ s = true := fun w h => atoms_spec (ws := (.code yV_about cV_about 4 (some .int) :: aw)) B.pre w (List.mem_cons_of_mem _ h)
  have hown : s.vm.findClass RV = some m.cls := findClass_of_methodNamed B.named
  have hlocks := B.notSynchronized
  obtain ⟨hP, hK, hE⟩ := hv
  obtain ⟨H, hH⟩ : ∃ H, H = s.heap := ⟨_, rfl⟩
  rw [← hH] at hP ⊢
  have hl := lv_entry ([.ref x, .int dd, .int ww]) (n := 4) (Nat.le_of_ble_eq_true rfl)
  rw [lg_entry_eq]
  generalize (lg_sl ([.ref x, .int dd, .int ww]) ++ List.replicate (4 - (lg_sl ([.ref x, .int dd, .int ww])).length) Slot.unset).toArray = ls at hl ⊢
  have hl : lv_has ls 4 [(0, .ref x), (1, .int dd), (2, .int ww)] := hl
  refine lv_aload_n (pc := 0) hx hb dV_about_0 rfl (lv_at hl 0 rfl) ?_
  refine lv_iload_n (pc := 1) hx hb dV_about_1 rfl (lv_at hl 1 rfl) ?_
  refine va_csq (pc := 2) (W.runV (As := [.int dd]) (rest := []) ⟨hx, hb, hml, hown, hts⟩ (v_drawingAt l dC dI x rt dr bs df ch pg rs dd) (cwV 1 hts (gV wd_41 wd_42 wd_43 wd_35 wd_40) rfl rfl rfl (by decide +kernel) ⟨Nat.le_of_ble_eq_true rfl, Nat.le_of_ble_eq_true rfl⟩) ⟨pR_blind, va_recv (q := (RV, TV, 9)) (q0 := 0) (ci := 0) hK hP rfl rfl, pR_pre (hP.sub (ws' := [(x, .inr (0, [.ref rt, .ref dr, .int 0, .int 0, .ref bs, .ref df, .ref ch, .ref pg, .int rs]))]) [0] rfl) (hK.sub (tys' := []) [] rfl)⟩ rfl rfl hl.1 rfl (lv_room (Nat.le_of_ble_eq_true rfl)) dV_about_2 ⟨Nat.le_of_ble_eq_true rfl, Nat.le_of_ble_eq_true rfl⟩) (fun r1 hr2 => ?_)
  obtain rfl : r1 = none := hr2
  refine W.eq (g2 := F0 m 5 ls [.null]) rfl ?_
  refine lv_astore_nN (pc := 5) hx hb dV_about_5 rfl hl (by decide) rfl (fun ls hl => ?_)
  have hl : lv_has ls 4 [(3, .null), (0, .ref x), (1, .int dd), (2, .int ww)] := hl
  refine lv_aload_nN (pc := 6) hx hb dV_about_6 rfl (lv_at hl 0 rfl) ?_
  refine lv_ifnonnullN (pc := 7) hx hb dV_about_7 ?_
  exact tThrow (pc := 10) (own := RV) (cls := nIX) (names := [nRT, nEX]) hx hb hfl hown (by decide +kernel) (by decide +kernel) (hts _ wd_369) (hts _ wd_370) (xat hts hE) (hl.1.trans hml.symm) dV_about_10 dV_about_13 dV_about_14 dV_about_17 hno (by decide) (by decide) (by decide) (by decide) hlocks hH
set_option maxHeartbeats 4000000 in
set_option maxRecDepth 100000 in
theorem v_inBaseline (l : Launch) (dC : Nat → ClassId) (dI : Nat → Nat → Nat) (x : Nat) (rt : Nat) (dr : Nat) (bs : Nat) (df : Nat) (ch : Nat) (pg : Nat) (rs : Int32) (cB : ClassId) (nn : Int32) (kk : Int32) (ww : Int32) (hfl : l.stackTraces = false) : tMet l yV_inBaseline (.code yV_inBaseline cV_inBaseline 6 (some .int) :: aw) ({ frames := 6, cells := 1, slots := 6, locals := 81 }) (pRx (dC, dI) [(x, .inr (0, [.ref rt, .ref dr, .int 0, .int 0, .ref bs, .ref df, .ref ch, .ref pg, .int rs])), (bs, .inl (cB, 10, .inr (.inr (.inr (.inr (fun _ => none))))))] [(cB, .object "DrawingVault$Baseline")] [.ref x, .int nn, .int kk, .int ww]) nIX := by
  refine tOfW (cc := cV_inBaseline) (maxL := 6) (ret := (some .int)) (by decide) rfl ?_
  intro p e s m args below meth c s₁ B hml hno hv
  obtain ⟨rfl, hv⟩ := hv
  have hx := B.exec
  have hb := B.bytes
  have hts : ∀ w ∈ aw, w.before _ s = true := fun w h => atoms_spec (ws := (.code yV_inBaseline cV_inBaseline 6 (some .int) :: aw)) B.pre w (List.mem_cons_of_mem _ h)
  have hown : s.vm.findClass RV = some m.cls := findClass_of_methodNamed B.named
  have hlocks := B.notSynchronized
  obtain ⟨hP, hK, hE⟩ := hv
  obtain ⟨H, hH⟩ : ∃ H, H = s.heap := ⟨_, rfl⟩
  rw [← hH] at hP ⊢
  have hl := lv_entry ([.ref x, .int nn, .int kk, .int ww]) (n := 6) (Nat.le_of_ble_eq_true rfl)
  rw [lg_entry_eq]
  generalize (lg_sl ([.ref x, .int nn, .int kk, .int ww]) ++ List.replicate (6 - (lg_sl ([.ref x, .int nn, .int kk, .int ww])).length) Slot.unset).toArray = ls at hl ⊢
  have hl : lv_has ls 6 [(0, .ref x), (1, .int nn), (2, .int kk), (3, .int ww)] := hl
  refine lv_aload_n (pc := 0) hx hb dV_inBaseline_0 rfl (lv_at hl 0 rfl) ?_
  refine lv_iload_n (pc := 1) hx hb dV_inBaseline_1 rfl (lv_at hl 1 rfl) ?_
  refine va_csq (pc := 2) (W.runV (As := [.int nn]) (rest := []) ⟨hx, hb, hml, hown, hts⟩ (v_baselineAt l dC dI x rt dr bs df ch pg rs cB nn) (cwV 1 hts (gV wd_266 wd_267 wd_268 wd_35 wd_265) rfl rfl rfl (by decide +kernel) ⟨Nat.le_of_ble_eq_true rfl, Nat.le_of_ble_eq_true rfl⟩) ⟨pR_blind, va_recv (q := (RV, TV, 9)) (q0 := 0) (ci := 0) hK hP rfl rfl, pR_pre (hP.sub (ws' := [(x, .inr (0, [.ref rt, .ref dr, .int 0, .int 0, .ref bs, .ref df, .ref ch, .ref pg, .int rs])), (bs, .inl (cB, 10, .inr (.inr (.inr (.inr (fun _ => none))))))]) [0, 1] rfl) (hK.sub (tys' := [(cB, .object "DrawingVault$Baseline")]) [0] rfl)⟩ rfl rfl hl.1 rfl (lv_room (Nat.le_of_ble_eq_true rfl)) dV_inBaseline_2 ⟨Nat.le_of_ble_eq_true rfl, Nat.le_of_ble_eq_true rfl⟩) (fun r1 hr2 => ?_)
  obtain rfl : r1 = none := hr2
  refine W.eq (g2 := F0 m 5 ls [.null]) rfl ?_
  refine lv_astoreN (pc := 5) hx hb dV_inBaseline_5 hl (by decide) rfl (fun ls hl => ?_)
  have hl : lv_has ls 6 [(4, .null), (0, .ref x), (1, .int nn), (2, .int kk), (3, .int ww)] := hl
  refine lv_aloadN (pc := 7) hx hb dV_inBaseline_7 (lv_at hl 0 rfl) ?_
  refine lv_ifnonnullN (pc := 9) hx hb dV_inBaseline_9 ?_
  exact tThrow (pc := 12) (own := RV) (cls := nIX) (names := [nRT, nEX]) hx hb hfl hown (by decide +kernel) (by decide +kernel) (hts _ wd_369) (hts _ wd_370) (xat hts hE) (hl.1.trans hml.symm) dV_inBaseline_12 dV_inBaseline_15 dV_inBaseline_16 dV_inBaseline_19 hno (by decide) (by decide) (by decide) (by decide) hlocks hH
set_option maxHeartbeats 4000000 in
set_option maxRecDepth 100000 in
theorem v_difference (l : Launch) (dC : Nat → ClassId) (dI : Nat → Nat → Nat) (x : Nat) (rt : Nat) (dr : Nat) (bs : Nat) (df : Nat) (ch : Nat) (pg : Nat) (rs : Int32) (dd : Int32) (vv : Int32) (ov : Int32) (kk : Int32) (hfl : l.stackTraces = false) : tMet l yV_difference (.code yV_difference cV_difference 9 (some .int) :: aw) ({ frames := 6, cells := 1, slots := 6, locals := 81 }) (pRx (dC, dI) [(x, .inr (0, [.ref rt, .ref dr, .int 0, .int 0, .ref bs, .ref df, .ref ch, .ref pg, .int rs]))] [] [.ref x, .int dd, .int vv, .int ov, .int kk]) nIX := by
  refine tOfW (cc := cV_difference) (maxL := 9) (ret := (some .int)) (by decide) rfl ?_
  intro p e s m args below meth c s₁ B hml hno hv
  obtain ⟨rfl, hv⟩ := hv
  have hx := B.exec
  have hb := B.bytes
  have hts : ∀ w ∈ aw, w.before _ s = true := fun w h => atoms_spec (ws := (.code yV_difference cV_difference 9 (some .int) :: aw)) B.pre w (List.mem_cons_of_mem _ h)
  have hown : s.vm.findClass RV = some m.cls := findClass_of_methodNamed B.named
  have hlocks := B.notSynchronized
  obtain ⟨hP, hK, hE⟩ := hv
  obtain ⟨H, hH⟩ : ∃ H, H = s.heap := ⟨_, rfl⟩
  rw [← hH] at hP ⊢
  have hl := lv_entry ([.ref x, .int dd, .int vv, .int ov, .int kk]) (n := 9) (Nat.le_of_ble_eq_true rfl)
  rw [lg_entry_eq]
  generalize (lg_sl ([.ref x, .int dd, .int vv, .int ov, .int kk]) ++ List.replicate (9 - (lg_sl ([.ref x, .int dd, .int vv, .int ov, .int kk])).length) Slot.unset).toArray = ls at hl ⊢
  have hl : lv_has ls 9 [(0, .ref x), (1, .int dd), (2, .int vv), (3, .int ov), (4, .int kk)] := hl
  refine lv_aload_n (pc := 0) hx hb dV_difference_0 rfl (lv_at hl 0 rfl) ?_
  refine lv_iload_n (pc := 1) hx hb dV_difference_1 rfl (lv_at hl 1 rfl) ?_
  refine lv_iload_n (pc := 2) hx hb dV_difference_2 rfl (lv_at hl 2 rfl) ?_
  refine va_csq (pc := 3) (W.runV (As := [.int dd, .int vv]) (rest := []) ⟨hx, hb, hml, hown, hts⟩ (v_revisionAt l dC dI x rt dr bs df ch pg rs dd vv) (cwV 2 hts (gV wd_50 wd_51 wd_52 wd_35 wd_49) rfl rfl rfl (by decide +kernel) ⟨Nat.le_of_ble_eq_true rfl, Nat.le_of_ble_eq_true rfl⟩) ⟨pR_blind, va_recv (q := (RV, TV, 9)) (q0 := 0) (ci := 0) hK hP rfl rfl, pR_pre (hP.sub (ws' := [(x, .inr (0, [.ref rt, .ref dr, .int 0, .int 0, .ref bs, .ref df, .ref ch, .ref pg, .int rs]))]) [0] rfl) (hK.sub (tys' := []) [] rfl)⟩ rfl rfl hl.1 rfl (lv_room (Nat.le_of_ble_eq_true rfl)) dV_difference_3 ⟨Nat.le_of_ble_eq_true rfl, Nat.le_of_ble_eq_true rfl⟩) (fun r1 hr2 => ?_)
  obtain rfl : r1 = none := hr2
  refine W.eq (g2 := F0 m 6 ls [.null]) rfl ?_
  refine lv_astoreN (pc := 6) hx hb dV_difference_6 hl (by decide) rfl (fun ls hl => ?_)
  have hl : lv_has ls 9 [(5, .null), (0, .ref x), (1, .int dd), (2, .int vv), (3, .int ov), (4, .int kk)] := hl
  refine lv_aload_n (pc := 8) hx hb dV_difference_8 rfl (lv_at hl 1 rfl) ?_
  refine lv_iload_n (pc := 9) hx hb dV_difference_9 rfl (lv_at hl 2 rfl) ?_
  refine lv_iload_n (pc := 10) hx hb dV_difference_10 rfl (lv_at hl 4 rfl) ?_
  refine va_csq (pc := 11) (W.runV (As := [.int dd, .int ov]) (rest := []) ⟨hx, hb, hml, hown, hts⟩ (v_revisionAt l dC dI x rt dr bs df ch pg rs dd ov) (cwV 2 hts (gV wd_50 wd_51 wd_52 wd_35 wd_49) rfl rfl rfl (by decide +kernel) ⟨Nat.le_of_ble_eq_true rfl, Nat.le_of_ble_eq_true rfl⟩) ⟨pR_blind, va_recv (q := (RV, TV, 9)) (q0 := 0) (ci := 0) hK hP rfl rfl, pR_pre (hP.sub (ws' := [(x, .inr (0, [.ref rt, .ref dr, .int 0, .int 0, .ref bs, .ref df, .ref ch, .ref pg, .int rs]))]) [0] rfl) (hK.sub (tys' := []) [] rfl)⟩ rfl rfl hl.1 rfl (lv_room (Nat.le_of_ble_eq_true rfl)) dV_difference_11 ⟨Nat.le_of_ble_eq_true rfl, Nat.le_of_ble_eq_true rfl⟩) (fun r3 hr4 => ?_)
  obtain rfl : r3 = none := hr4
  refine W.eq (g2 := F0 m 14 ls [.null]) rfl ?_
  refine lv_astoreN (pc := 14) hx hb dV_difference_14 hl (by decide) rfl (fun ls hl => ?_)
  have hl : lv_has ls 9 [(6, .null), (5, .null), (0, .ref x), (1, .int dd), (2, .int vv), (3, .int ov), (4, .int kk)] := hl
  refine lv_aloadN (pc := 16) hx hb dV_difference_16 (lv_at hl 1 rfl) ?_
  refine lv_ifnullN (pc := 18) (tgt := 26) hx hb dV_difference_18 rfl ?_
  exact tThrow (pc := 26) (own := RV) (cls := nIX) (names := [nRT, nEX]) hx hb hfl hown (by decide +kernel) (by decide +kernel) (hts _ wd_369) (hts _ wd_370) (xat hts hE) (hl.1.trans hml.symm) dV_difference_26 dV_difference_29 dV_difference_30 dV_difference_33 hno (by decide) (by decide) (by decide) (by decide) hlocks hH
