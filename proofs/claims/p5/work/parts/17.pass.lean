
section TC
variable {p : Program} {l : Launch} {e : Env} {R : Room} {s : State} {m : MethodId} {args : Array Value} {below : List Frame} {meth : Method} {c : Code} {H : Heap} {locs : List Loc} {cells slots : Nat} {Q : State → Prop} {cc : ByteArray} {pc : Nat} {ls : Array Slot} {rest st0 : List Value} {T : State} {A A1 : Nat → Prop} {B B1 : Heap → Prop}
/-- the frame of a caller at its call -/
theorem fr9 {T : State} (X : Stand p l e R s m args below meth c T locs cells slots) (g : JFrame) : (T.setTop g).frames = .java g :: below := (State.frames_setTop' g X.here.top).trans (by rw [X.tail])
/-- what is called throws: where the caller stands then. V is the end with the caller's frames put back. -/
theorem tMid {y : MethodName} {bytes : ByteArray} {maxL nL index n : Nat} {ret : Option FieldType} {ws : List Cond} {rm : Room} {Pc : Array Value → State → Prop} {own E : String} {Ts : List Cond}
    (S : CallFix p m c cc nL s args Ts own) (hM : tMet l y ws rm Pc E A1 B1) (cb : CallB R s args own index y bytes maxL ret ws rm 1 6 n) (hbl : FrameBlind Pc) {mk : MethodId} (hmk : s.methodNamed? y = some mk) (hsize : ls.size = nL) (hW : 2 * (F0 m pc ls rest).monitorRoom + (rest.map fun v => v.category).sum ≤ 8)
    {ig : Instr} (hdg : decode cc pc = .ok (ig, 3)) (hf : cells + 1 ≤ R.cells ∧ slots + 6 ≤ R.slots) {U : State} (X : Stand p l e R s m args below meth c U locs cells slots) {a : Array Value} (hP : Pc a U) :
    ∃ (q : Addr) (ce : Cell) (L : List Loc) (V : State), (Stand p l e R s m args below meth c V (locs ++ L) (cells + 1) (slots + 6) ∧ ∀ acts : List Action, Steps p.tables e below (doInvoke e (U.setTop (F0 m pc ls rest)) acts mk a).1 ((V.setTop (F0 m pc ls rest)).pushFrame (.throwing q))) ∧ (U.heap.size ≤ q ∧ V.heap[q]? = some ce ∧ ce.vm = .none ∧ s.vm.findClass E = some ce.cls) ∧ (∀ x ∈ L, A1 x.base) ∧ B1 V.heap ∧ U.heap.size ≤ V.heap.size ∧ ∀ z : Nat, z < U.heap.size → (∀ x ∈ L, x.base ≠ z) → V.heap[z]? = U.heap[z]? := by
  have room : (headSpec ws rm).room.cells = 1 ∧ (headSpec ws rm).room.slots = 6 ∧ (headSpec ws rm).room.frames + 1 ≤ R.frames ∧ 8 + (maxL + 11) + (headSpec ws rm).room.locals ≤ R.locals := ⟨cb.1, cb.2.1, cb.2.2.1, cb.2.2.2.1⟩
  obtain ⟨-, -, -, -, hws, hcw, -, hini, -⟩ := cb
  have named := X.named hmk
  obtain ⟨me, co, m1, m2, -, m4, -⟩ := Cond.code_spec named (hws _ hcw a U X.warmed)
  obtain ⟨k, k1, -⟩ := className_of_methodNamed named
  have k2 : k.init = .initialized := Cond.initialized_spec (args := args) (findClass_of_methodNamed named) k1 (word_at X.warmed (Or.inl (by first | rfl | simp [Cond.onTables, Cond.keeps, Cond.steady])) hini)
  have applies : (headSpec ws rm).appliesLoose y e.platform (U.calling (F0 m pc ls rest) mk a) = true := by
    refine Spec.appliesLoose_calling (g := F0 m pc ls rest) X.here (by rw [S.2.1]; exact hdg) named k1 k2 (X.room_calling (hsize.trans S.2.2.1.symm) m1 m2 room.2.2.1 ?_ (by rw [room.1]; exact hf.1) (by rw [room.2.1]; exact hf.2)) (atoms_intro fun w hw => hws w hw a U X.warmed)
    rw [m4]
    exact Nat.le_trans (Nat.add_le_add_right (Nat.add_le_add_right hW _) _) room.2.2.2
  obtain ⟨o, t, st, -, fin, q, ce, L, rfl, t1, t2, t3, t4, t5, t6, t7, t8⟩ := Steps.callFree hM p X.admits X.cas X.clock (acts := []) (mid := [.java (F0 m pc ls rest)]) (fr9 X _) applies (hbl _ _ _ _ hP) trivial
  rw [fr9 X] at fin
  have ft : t.frames = .throwing q :: .java (F0 m pc ls rest) :: below := fin
  obtain ⟨g₀, fu⟩ := X.frames_eq
  obtain ⟨th, hth, -⟩ := State.frames_cons fu
  obtain ⟨tt, htt, -⟩ := State.frames_cons ft
  have put : t.setFrames U.frames = ({ U with heap := t.heap, slotsUsed := t.slotsUsed } : State).setVm t.vm := by
    have h9 : ({ t with vm := U.vm } : State) = ({ (U.calling (F0 m pc ls rest) mk a).setFrames t.frames with heap := t.heap, slotsUsed := t.slotsUsed } : State) := t6.1
    rw [State.calling_eq X.here.top, State.setFrames_setFrames] at h9
    have h8 : (({ t with vm := U.vm } : State).setFrames U.frames).setVm t.vm = (({ U.setFrames t.frames with heap := t.heap, slotsUsed := t.slotsUsed } : State).setFrames U.frames).setVm t.vm := by rw [h9]
    refine h8.trans ?_
    show ({ (U.setFrames t.frames).setFrames U.frames with heap := t.heap, slotsUsed := t.slotsUsed } : State).setVm t.vm = _
    rw [State.setFrames_setFrames, State.setFrames_self hth]
  have fv : (t.setFrames U.frames).frames = .java g₀ :: below := by rw [put]; exact fu
  have back : ((t.setFrames U.frames).setTop (F0 m pc ls rest)).pushFrame (.throwing q) = t := by
    rw [State.pushFrame, State.frames_setTop _ fv, State.setTop_of_frames _ fv, State.setFrames_setFrames, State.setFrames_setFrames, ← ft, State.setFrames_self htt]
  have warm : U.WarmedH t.vm := t5
  have same : U.sameButNew ({ U with heap := t.heap, slotsUsed := t.slotsUsed } : State) L 1 6 := by
    refine ⟨?_, t6.2⟩
    show ({ U with heap := t.heap, slotsUsed := t.slotsUsed } : State) = { U.setFrames U.frames with heap := t.heap, slotsUsed := t.slotsUsed }
    rw [State.setFrames_self hth]
  have XV : Stand p l e R s m args below meth c (t.setFrames U.frames) (locs ++ L) (cells + 1) (slots + 6) := by
    rw [put]
    exact X.moved ((X.here.setHeapUsed t.heap t.slotsUsed).setVm warm.alike) X.tail rfl rfl warm same
  refine ⟨q, ce, L, t.setFrames U.frames, ⟨XV, fun acts => ?_⟩, ⟨t1, t2, t3, ?_⟩, t7, t8, t6.2.1, (sb_kept t6).2⟩
  · rw [back, doInvoke_state]
    exact st
  · rw [← X.warmed.alike.findClass]
    exact t4
/-- an exception comes to a caller with one handler that names what it takes: that is looked up at the first such search, and the handler goes on with the exception alone on its stack -/
theorem tCat (X : Stand p l e R s m args below meth c T locs cells slots) {own name E : String} (ho : s.vm.findClass own = some m.cls) {q : Addr} {ce : Cell} (hce : T.heap[q]? = some ce) (hvm : ce.vm = .none) (hE : s.vm.findClass E = some ce.cls)
    {x : ExceptionTableEntry} (htab : c.exceptionTable.toList = [x]) (hcov : covers x pc = true) (h0 : x.catchType ≠ 0) (hlink : (Cond.classLink own x.catchType name).before args s = true) (hcast : (Cond.castable E name).before args s = true) :
    ∃ vm', Stand p l e R s m args below meth c (T.setVm vm') locs cells slots ∧ Steps p.tables e below ((T.setTop (F0 m pc ls rest)).pushFrame (.throwing q)) ((T.setVm vm').setTop (F0 m x.handlerPc ls [.ref q])) := by
  obtain ⟨kE, kN, e1, e2, fits⟩ := Cond.castable_spec hcast
  obtain ⟨kL, e3, links⟩ := Cond.classLink_spec ho hlink e.platform (by rw [X.admits.platform])
  cases e1.symm.trans hE
  cases e2.symm.trans e3
  obtain ⟨dk, -, -, kn, d1, -, -, -, -, d2, -, open9⟩ := links.here
  obtain ⟨ke, d3⟩ := Vm.classAt_of_findClass hE
  have linksT := X.warmed.classLinks links
  have warm : s.WarmedH (T.vm.noted m.cls x.catchType (.cls kN)) := X.warmed.noted d1 open9 (State.rightAt_cls links)
  refine ⟨_, X.noted warm, ?_⟩
  obtain ⟨ke', d3', -⟩ := warm.alike.2.2 _ _ d3
  obtain ⟨kn', d2', -⟩ := warm.alike.2.2 _ _ d2
  have fits' : (T.vm.noted m.cls x.catchType (.cls kN)).assignable ce.cls kN = true := by rw [warm.alike.assignable]; exact fits
  obtain ⟨r1, r2⟩ := (resolveClass_links e.toSetting linksT).op (op := VmOp.resolveClass m.cls x.catchType) rfl
  have hvm' : ∀ k, ce.vm ≠ .statics k := fun k hk => by rw [hvm] at hk; cases hk
  have range : (decide (x.startPc ≤ pc) && decide (pc < x.endPc)) = true := hcov
  obtain ⟨goes, inside⟩ := X.here.throwing (g := F0 m pc ls rest) q
  refine Steps.head goes inside ?_
  rw [stepThread_throwing (frames_entered X.here.top _)]
  have step : (stepThrowing e ((T.setTop (F0 m pc ls rest)).pushFrame (.throwing q)) q (.java (F0 m pc ls rest) :: T.frames.tail)).1 = (((T.setTop (F0 m pc ls rest)).pushFrame (.throwing q)).setVm (T.vm.noted m.cls x.catchType (.cls kN))).setFrames (.java (F0 m x.handlerPc ls [.ref q]) :: T.frames.tail) := by
    have v1 : ((T.setTop (F0 m pc ls rest)).pushFrame (.throwing q)).vm = T.vm := Stand.throwing_vm T _ q
    have v2 : ((T.setTop (F0 m pc ls rest)).pushFrame (.throwing q)).heap = T.heap := Stand.throwing_heap T _ q
    have v3 : T.vm.method? m = some meth := X.method'
    generalize (T.setTop (F0 m pc ls rest)).pushFrame (.throwing q) = Z at v1 v2
    show (searchFrame e Z [] q (F0 m pc ls rest) (F0 m pc ls rest) T.frames.tail).1 = _
    simp only [searchFrame, vmDo]
    generalize hr : Sem.go _ e false [] Z = res
    obtain ⟨as, rfl, -⟩ := Sem.eq_ok_of hr (a := Handler.found x.handlerPc) (s' := Z.setVm (T.vm.noted m.cls x.catchType (.cls kN))) (acts' := [])
      (by simp [findHandler, findHandler.go, v1, v2, v3, X.code, htab, range, h0, r1, r2, hce, hvm', d3', d2', fits', VmOp.dirties, VmOp.acts])
    rfl
  rw [step]
  obtain ⟨g₀, fu⟩ := X.frames_eq
  have fT : (T.setVm (T.vm.noted m.cls x.catchType (.cls kN))).frames = .java g₀ :: below := fu
  rw [X.tail, State.setTop_of_frames _ fT, State.setTop_of_frames _ fu]
  show Steps p.tables e below ((((T.setFrames _).setFrames _).setFrames (.java (F0 m x.handlerPc ls [.ref q]) :: below)).setVm (T.vm.noted m.cls x.catchType (.cls kN))) _
  rw [State.setFrames_setFrames, State.setFrames_setFrames]
  exact Steps.refl _
/-- the step of 'invokestatic' itself -/
theorem in9S {own : String} {index : Nat} {y : MethodName} {mk : MethodId} {me : Method} {g : JFrame} {As : List Value} (hx : p.tables.exec = Jvm.exec) (ho : s.vm.findClass own = some m.cls) (hl : (Cond.methodLink own index y).before args s = true) (hstt : (Cond.static y).before args s = true) (hini : (Cond.initialized y.cls).before args s = true) (hy : y.cls ≠ "java/lang/invoke/MethodHandle" ∧ y.cls ≠ "java/lang/invoke/VarHandle")
    (hmk : s.methodNamed? y = some mk) (hme : s.vm.method? mk = some me) (hn : As.length = me.sig.parameters.length) (hg : g.method = m) (hstack : g.stack = As.reverse ++ rest) (hdg : decode c.code g.pc = .ok (.invokestatic index, 3)) (X : Stand p l e R s m args below meth c T locs cells slots) :
    ∃ vm₁, Stand p l e R s m args below meth c (T.setVm vm₁) locs cells slots ∧ ∀ target, (∀ acts : List Action, Steps p.tables e below (doInvoke e ((T.setVm vm₁).setTop { g with stack := rest }) acts mk As.toArray).1 target) → Steps p.tables e below (T.setTop g) target := by
  obtain ⟨k, k1, -⟩ := className_of_methodNamed hmk
  exact X.invokestatic hx ho hl hmk hme (Cond.static_spec hmk hme hstt) k1 (Cond.initialized_spec (findClass_of_methodNamed hmk) k1 hini) hy hg hn hstack hdg
/-- a call that throws, up to the note in the caller -/
theorem tMidV {y : MethodName} {bytes : ByteArray} {maxL nL index n : Nat} {ret : Option FieldType} {ws : List Cond} {rm : Room} {Pc : Array Value → State → Prop} {own C E : String} {b : Addr} {As : List Value} {Ts : List Cond}
    (S : CallFix p m c cc nL s args Ts own) (hM : tMet l y ws rm Pc E A1 B1) (cw : CallW R s args own C index y bytes maxL ret ws rm 1 6 n) (hp : PreV s H C b Pc As) (hn : As.length = n) (hsize : ls.size = nL) (hstack : st0 = As.reverse ++ .ref b :: rest) (hW : 2 * (F0 m pc ls rest).monitorRoom + (rest.map fun v => v.category).sum ≤ 8)
    (hdg : decode cc pc = .ok (.invokevirtual index, 3)) (hf : cells + 1 ≤ R.cells ∧ slots + 6 ≤ R.slots) (hT : T.heap = H) (X : Stand p l e R s m args below meth c T locs cells slots) :
    ∃ (q : Addr) (ce : Cell) (L : List Loc) (V : State), (Stand p l e R s m args below meth c V (locs ++ L) (cells + 1) (slots + 6) ∧ Steps p.tables e below (T.setTop (F0 m pc ls st0)) ((V.setTop (F0 m pc ls rest)).pushFrame (.throwing q))) ∧ (H.size ≤ q ∧ V.heap[q]? = some ce ∧ ce.vm = .none ∧ s.vm.findClass E = some ce.cls) ∧ (∀ x ∈ L, A1 x.base) ∧ B1 V.heap ∧ H.size ≤ V.heap.size ∧ ∀ z : Nat, z < H.size → (∀ x ∈ L, x.base ≠ z) → V.heap[z]? = H[z]? := by
  subst hT
  obtain ⟨mk, me, i1, i2, i3, i4⟩ := Cond.instanceMethod_spec cw.2.1
  obtain ⟨ks, kr, km, s1, s2, s3, s4, kk, s5, s6⟩ := Cond.selects_spec cw.2.2
  obtain ⟨-, -, -, -, -, -, code9, -, hy, hlen, link⟩ := cw.1
  obtain ⟨me', -, j1, -, -, -, -, -, -, j2⟩ := Cond.code_spec i1 code9
  cases j1.symm.trans i2
  obtain ⟨blind, ⟨ob, b1, b2, b3⟩, pre⟩ := hp
  cases s3.symm.trans i1
  cases s2.symm.trans (State.methodFound?_of_named i1 hy)
  cases s1.symm.trans b3
  obtain ⟨vm₁, X₁, go⟩ := X.invokevirtual S.1 S.2.2.2.1 link i1 i2 i3 s5 s6 hy b1 (fun z hz => by rw [hz] at b2; cases b2) (by rw [Launch.admits_selectMethod X.admits]; exact s4) i2 i4 s5 s6 (g := F0 m pc ls st0) rfl (hn.trans (hlen _ j2)) hstack (by rw [S.2.1]; exact hdg)
  obtain ⟨q, ce, L, V, ⟨XV, st⟩, more⟩ := tMid S hM cw.1 blind i1 hsize hW hdg hf X₁ (pre _ rfl X₁.warmed)
  exact ⟨q, ce, L, V, ⟨XV, go _ st⟩, more⟩
/-- and out of the caller, which has no handler -/
theorem tPassV {y : MethodName} {bytes : ByteArray} {maxL nL index n : Nat} {ret : Option FieldType} {ws : List Cond} {rm : Room} {Pc : Array Value → State → Prop} {own C E : String} {b : Addr} {As : List Value} {Ts : List Cond}
    (S : CallFix p m c cc nL s args Ts own) (hM : tMet l y ws rm Pc E A1 B1) (cw : CallW R s args own C index y bytes maxL ret ws rm 1 6 n) (hp : PreV s H C b Pc As) (hn : As.length = n) (hsize : ls.size = nL) (hstack : st0 = As.reverse ++ .ref b :: rest) (hW : 2 * (F0 m pc ls rest).monitorRoom + (rest.map fun v => v.category).sum ≤ 8)
    (hdg : decode cc pc = .ok (.invokevirtual index, 3)) (hf : 0 + 1 ≤ R.cells ∧ 0 + 6 ≤ R.slots) (hno : ∀ x ∈ c.exceptionTable.toList, False) (hlocks : meth.locks = false) (hS : va_S A s.heap H locs) (hA1 : ∀ x : Loc, A1 x.base → A x.base) (hB : ∀ H1, B1 H1 → B H1) :
    W p l e R s m args below meth c H locs 0 0 (tQ below s E A B) (F0 m pc ls st0) := by
  intro T hT X
  obtain ⟨q, ce, L, V, ⟨XV, st⟩, ⟨h1, h2, h3, h4⟩, h5, h6, -⟩ := tMidV S hM cw hp hn hsize hstack hW hdg hf hT X
  obtain ⟨l1, l2, l3, l4, l5⟩ := XV.leaveThrown q (g := F0 m pc ls rest) rfl rfl rfl (fun x hx => (hno x hx).elim)
  exact ⟨_, st.trans l1, .threw q, l2, l3, q, ce, locs ++ L, rfl, Nat.le_trans hS.1 h1, h2, h3, h4, l4, l5, fun x hx => (List.mem_append.mp hx).elim (hS.2.2 x) (fun z => hA1 x (h5 x z)), hB _ h6⟩
/-- or into the caller's one handler -/
theorem tCatchV {name : String} {y : MethodName} {bytes : ByteArray} {maxL nL index n : Nat} {ret : Option FieldType} {ws : List Cond} {rm : Room} {Pc : Array Value → State → Prop} {own C E : String} {b : Addr} {As : List Value} {Ts : List Cond}
    (S : CallFix p m c cc nL s args Ts own) (hM : tMet l y ws rm Pc E A1 B1) (cw : CallW R s args own C index y bytes maxL ret ws rm 1 6 n) (hp : PreV s H C b Pc As) (hn : As.length = n) (hsize : ls.size = nL) (hstack : st0 = As.reverse ++ .ref b :: rest) (hW : 2 * (F0 m pc ls rest).monitorRoom + (rest.map fun v => v.category).sum ≤ 8)
    (hdg : decode cc pc = .ok (.invokevirtual index, 3)) (hf : cells + 1 ≤ R.cells ∧ slots + 6 ≤ R.slots)
    {x : ExceptionTableEntry} (htab : c.exceptionTable.toList = [x]) (hcov : covers x pc = true) (h0 : x.catchType ≠ 0) (hlink : (Cond.classLink own x.catchType name).before args s = true) (hcast : (Cond.castable E name).before args s = true)
    (kk : ∀ (q : Nat) (L : List Loc) (H1 : Heap), H.size ≤ q → H.size ≤ H1.size → (∀ x ∈ L, A1 x.base) → B1 H1 → (∀ z : Nat, z < H.size → (∀ x ∈ L, x.base ≠ z) → H1[z]? = H[z]?) → W p l e R s m args below meth c H1 (locs ++ L) (cells + 1) (slots + 6) Q (F0 m x.handlerPc ls [.ref q])) :
    W p l e R s m args below meth c H locs cells slots Q (F0 m pc ls st0) := by
  intro T hT X
  obtain ⟨q, ce, L, V, ⟨XV, st⟩, ⟨h1, h2, h3, h4⟩, h5, h6, h7, h8⟩ := tMidV S hM cw hp hn hsize hstack hW hdg hf hT X
  obtain ⟨vm', X', go⟩ := tCat XV S.2.2.2.1 h2 h3 h4 htab hcov h0 hlink hcast
  obtain ⟨t, a1, b1⟩ := kk q L V.heap h1 h7 h5 h6 h8 (V.setVm vm') rfl X'
  exact ⟨t, (st.trans go).trans a1, b1⟩
/-- a call that throws, up to the note in the caller -/
theorem tMidS {y : MethodName} {bytes : ByteArray} {maxL nL index n : Nat} {ret : Option FieldType} {ws : List Cond} {rm : Room} {Pc : Array Value → State → Prop} {own E : String} {As : List Value} {Ts : List Cond}
    (S : CallFix p m c cc nL s args Ts own) (hM : tMet l y ws rm Pc E A1 B1) (cw : CallB R s args own index y bytes maxL ret ws rm 1 6 n ∧ (Cond.static y).before args s = true) (hp : PreS s H Pc As) (hn : As.length = n) (hsize : ls.size = nL) (hstack : st0 = As.reverse ++ rest) (hW : 2 * (F0 m pc ls rest).monitorRoom + (rest.map fun v => v.category).sum ≤ 8)
    (hdg : decode cc pc = .ok (.invokestatic index, 3)) (hf : cells + 1 ≤ R.cells ∧ slots + 6 ≤ R.slots) (hT : T.heap = H) (X : Stand p l e R s m args below meth c T locs cells slots) :
    ∃ (q : Addr) (ce : Cell) (L : List Loc) (V : State), (Stand p l e R s m args below meth c V (locs ++ L) (cells + 1) (slots + 6) ∧ Steps p.tables e below (T.setTop (F0 m pc ls st0)) ((V.setTop (F0 m pc ls rest)).pushFrame (.throwing q))) ∧ (H.size ≤ q ∧ V.heap[q]? = some ce ∧ ce.vm = .none ∧ s.vm.findClass E = some ce.cls) ∧ (∀ x ∈ L, A1 x.base) ∧ B1 V.heap ∧ H.size ≤ V.heap.size ∧ ∀ z : Nat, z < H.size → (∀ x ∈ L, x.base ≠ z) → V.heap[z]? = H[z]? := by
  subst hT
  obtain ⟨-, -, -, -, -, -, code9, ini, hy, hlen, link⟩ := cw.1
  obtain ⟨mk, i1⟩ := Cond.code_named code9
  obtain ⟨me, -, j1, -, -, -, -, -, -, j2⟩ := Cond.code_spec i1 code9
  obtain ⟨vm₁, X₁, go⟩ := in9S (g := F0 m pc ls st0) S.1 S.2.2.2.1 link cw.2 ini hy i1 j1 (hn.trans (hlen _ j2)) rfl hstack (by rw [S.2.1]; exact hdg) X
  obtain ⟨q, ce, L, V, ⟨XV, st⟩, more⟩ := tMid S hM cw.1 hp.1 i1 hsize hW hdg hf X₁ (hp.2 _ rfl X₁.warmed)
  exact ⟨q, ce, L, V, ⟨XV, go _ st⟩, more⟩
/-- and out of the caller, which has no handler -/
theorem tPassS {y : MethodName} {bytes : ByteArray} {maxL nL index n : Nat} {ret : Option FieldType} {ws : List Cond} {rm : Room} {Pc : Array Value → State → Prop} {own E : String} {As : List Value} {Ts : List Cond}
    (S : CallFix p m c cc nL s args Ts own) (hM : tMet l y ws rm Pc E A1 B1) (cw : CallB R s args own index y bytes maxL ret ws rm 1 6 n ∧ (Cond.static y).before args s = true) (hp : PreS s H Pc As) (hn : As.length = n) (hsize : ls.size = nL) (hstack : st0 = As.reverse ++ rest) (hW : 2 * (F0 m pc ls rest).monitorRoom + (rest.map fun v => v.category).sum ≤ 8)
    (hdg : decode cc pc = .ok (.invokestatic index, 3)) (hf : 0 + 1 ≤ R.cells ∧ 0 + 6 ≤ R.slots) (hno : ∀ x ∈ c.exceptionTable.toList, False) (hlocks : meth.locks = false) (hS : va_S A s.heap H locs) (hA1 : ∀ x : Loc, A1 x.base → A x.base) (hB : ∀ H1, B1 H1 → B H1) :
    W p l e R s m args below meth c H locs 0 0 (tQ below s E A B) (F0 m pc ls st0) := by
  intro T hT X
  obtain ⟨q, ce, L, V, ⟨XV, st⟩, ⟨h1, h2, h3, h4⟩, h5, h6, -⟩ := tMidS S hM cw hp hn hsize hstack hW hdg hf hT X
  obtain ⟨l1, l2, l3, l4, l5⟩ := XV.leaveThrown q (g := F0 m pc ls rest) rfl rfl rfl (fun x hx => (hno x hx).elim)
  exact ⟨_, st.trans l1, .threw q, l2, l3, q, ce, locs ++ L, rfl, Nat.le_trans hS.1 h1, h2, h3, h4, l4, l5, fun x hx => (List.mem_append.mp hx).elim (hS.2.2 x) (fun z => hA1 x (h5 x z)), hB _ h6⟩
/-- or into the caller's one handler -/
theorem tCatchS {name : String} {y : MethodName} {bytes : ByteArray} {maxL nL index n : Nat} {ret : Option FieldType} {ws : List Cond} {rm : Room} {Pc : Array Value → State → Prop} {own E : String} {As : List Value} {Ts : List Cond}
    (S : CallFix p m c cc nL s args Ts own) (hM : tMet l y ws rm Pc E A1 B1) (cw : CallB R s args own index y bytes maxL ret ws rm 1 6 n ∧ (Cond.static y).before args s = true) (hp : PreS s H Pc As) (hn : As.length = n) (hsize : ls.size = nL) (hstack : st0 = As.reverse ++ rest) (hW : 2 * (F0 m pc ls rest).monitorRoom + (rest.map fun v => v.category).sum ≤ 8)
    (hdg : decode cc pc = .ok (.invokestatic index, 3)) (hf : cells + 1 ≤ R.cells ∧ slots + 6 ≤ R.slots)
    {x : ExceptionTableEntry} (htab : c.exceptionTable.toList = [x]) (hcov : covers x pc = true) (h0 : x.catchType ≠ 0) (hlink : (Cond.classLink own x.catchType name).before args s = true) (hcast : (Cond.castable E name).before args s = true)
    (kk : ∀ (q : Nat) (L : List Loc) (H1 : Heap), H.size ≤ q → H.size ≤ H1.size → (∀ x ∈ L, A1 x.base) → B1 H1 → (∀ z : Nat, z < H.size → (∀ x ∈ L, x.base ≠ z) → H1[z]? = H[z]?) → W p l e R s m args below meth c H1 (locs ++ L) (cells + 1) (slots + 6) Q (F0 m x.handlerPc ls [.ref q])) :
    W p l e R s m args below meth c H locs cells slots Q (F0 m pc ls st0) := by
  intro T hT X
  obtain ⟨q, ce, L, V, ⟨XV, st⟩, ⟨h1, h2, h3, h4⟩, h5, h6, h7, h8⟩ := tMidS S hM cw hp hn hsize hstack hW hdg hf hT X
  obtain ⟨vm', X', go⟩ := tCat XV S.2.2.2.1 h2 h3 h4 htab hcov h0 hlink hcast
  obtain ⟨t, a1, b1⟩ := kk q L V.heap h1 h7 h5 h6 h8 (V.setVm vm') rfl X'
  exact ⟨t, (st.trans go).trans a1, b1⟩
end TC
