
section TC
variable {p : Program} {l : Launch} {e : Env} {R : Room} {s : State} {m : MethodId} {args : Array Value} {below : List Frame} {meth : Method} {c : Code} {H : Heap} {locs : List Loc} {cells slots : Nat} {Q : State → Prop} {cc : ByteArray} {pc : Nat} {ls : Array Slot} {rest st0 : List Value} {A A1 : Nat → Prop} {B B1 : Heap → Prop}
/-- a call that throws, up to the note in the caller -/
theorem tMidV {y : MethodName} {bytes : ByteArray} {maxL nL index n : Nat} {ret : Option FieldType} {ws : List Cond} {rm : Room} {Pc : Array Value → State → Prop} {own C E : String} {b : Addr} {As : List Value} {Ts : List Cond}
    (S : CallFix p m c cc nL s args Ts own) (hM : tMet l y ws rm Pc E A1 B1) (cw : CallW R s args own C index y bytes maxL ret ws rm 1 6 n) (hp : PreV s H C b Pc As) (hn : As.length = n) (hsize : ls.size = nL) (hstack : st0 = As.reverse ++ .ref b :: rest) (hW : 2 * (F0 m pc ls rest).monitorRoom + (rest.map fun v => v.category).sum ≤ 8)
    (hdg : decode cc pc = .ok (.invokevirtual index, 3)) (hf : cells + 1 ≤ R.cells ∧ slots + 6 ≤ R.slots) {T : State} (hT : T.heap = H) (X : Stand p l e R s m args below meth c T locs cells slots) :
    ∃ (q : Addr) (ce : Cell) (L : List Loc) (V : State), Stand p l e R s m args below meth c V (locs ++ L) (cells + 1) (slots + 6) ∧ Steps p.tables e below (T.setTop (F0 m pc ls st0)) ((V.setTop (F0 m pc ls rest)).pushFrame (.throwing q)) ∧ H.size ≤ q ∧ V.heap[q]? = some ce ∧ ce.vm = .none ∧ s.vm.findClass E = some ce.cls ∧ (∀ x ∈ L, A1 x.base) ∧ B1 V.heap ∧ H.size ≤ V.heap.size ∧ ∀ z : Nat, z < H.size → (∀ x ∈ L, x.base ≠ z) → V.heap[z]? = H[z]? := by
  obtain ⟨⟨hrc, hrs, hfr, hlo, hws, hcw, hcode, hini, hy, hlen, hl⟩, hin, hse⟩ := cw
  obtain ⟨hx, hb, hml, ho, -⟩ := S
  obtain ⟨hbl, ⟨cellB, hcB, hoB, hclB⟩, hPc⟩ := hp
  obtain ⟨mk, methM, hnamed, hmethM, hstM, habM⟩ := Cond.instanceMethod_spec hin
  obtain ⟨methM', cM, hmethM', -, -, -, -, -, -, hsigM⟩ := Cond.code_spec hnamed hcode
  cases hmethM.symm.trans hmethM'
  obtain ⟨c2, r2, m2, q1, q2, q3, q4, kP, hkP, hkPi⟩ := Cond.selects_spec hse
  cases hclB.symm.trans q1
  cases (State.methodFound?_of_named hnamed hy).symm.trans q2
  cases hnamed.symm.trans q3
  have hselP : selectMethod e.platform s.vm cellB.cls mk = .method mk := by rw [Launch.admits_selectMethod X.admits]; exact q4
  obtain ⟨vm₁, X₁, st₁⟩ := X.invokevirtual hx ho hl hnamed hmethM hstM hkP hkPi hy (a := b) (cell := cellB) (by rw [hT]; exact hcB) (fun z h => by rw [h] at hoB; cases hoB) hselP hmethM habM hkP hkPi (g := F0 m pc ls st0) rfl (argsL := As) (rest := rest) (hn.trans (hlen _ hsigM)) hstack (by rw [hb]; exact hdg)
  obtain ⟨a, ha⟩ : ∃ a, a = (Value.ref b :: As).toArray := ⟨_, rfl⟩
  rw [← ha] at st₁
  obtain ⟨U, hU⟩ : ∃ U, U = T.setVm vm₁ := ⟨_, rfl⟩
  rw [← hU] at X₁ st₁
  have hheap : U.heap = H := by rw [hU]; exact hT
  have hPU : Pc a (U.calling (F0 m pc ls rest) mk a) := hbl _ _ _ _ (by rw [ha]; exact hPc U hheap X₁.warmed)
  have hn1 : U.methodNamed? y = some mk := X₁.named hnamed
  have w1 : (headSpec ws rm).pre.before a U = true := atoms_intro fun w hw => hws w hw _ _ X₁.warmed
  have w2 : (Cond.code y bytes maxL ret).before a U = true := hws _ hcw _ _ X₁.warmed
  have w3 : (Cond.initialized y.cls).before a U = true := word_at X₁.warmed (Or.inl (by first | rfl | simp [Cond.onTables, Cond.keeps, Cond.steady])) hini
  obtain ⟨methY, cY, hmY, hcY, -, hlY, -, -, -, -⟩ := Cond.code_spec hn1 w2
  obtain ⟨kY, hkY, -⟩ := className_of_methodNamed hn1
  have hiY : kY.init = .initialized := Cond.initialized_spec (findClass_of_methodNamed hn1) hkY w3
  have hW9 : 2 * (F0 m pc ls rest).monitorRoom + ((F0 m pc ls rest).stack.map fun v => v.category).sum ≤ 8 := hW
  have hlo9 : 8 + (maxL + 11) + (headSpec ws rm).room.locals ≤ R.locals := hlo
  have happ : (headSpec ws rm).appliesLoose y e.platform (U.calling (F0 m pc ls rest) mk a) = true :=
    Spec.appliesLoose_calling (g := F0 m pc ls rest) X₁.here (by rw [hb]; exact hdg) hn1 hkY hiY
      (X₁.room_calling (g := F0 m pc ls rest) (R' := (headSpec ws rm).room) (hsize.trans hml.symm) hmY hcY hfr (by rw [hlY]; omega) (by rw [show (headSpec ws rm).room.cells = 1 from hrc]; exact hf.1) (by rw [show (headSpec ws rm).room.slots = 6 from hrs]; exact hf.2)) w1
  have hat : At U (F0 m pc ls rest).method c below := X₁.here
  obtain ⟨mid, hmid⟩ := hat.above
  have hfr2 : (U.setTop (F0 m pc ls rest)).frames = (.java (F0 m pc ls rest) :: mid) ++ below := by rw [State.frames_setTop' _ hat.top, hmid]; rfl
  obtain ⟨o, s₂, hsteps, -, hend, q, ce, L, rfl, hqs, hce, hcv, hcl, hW₂, hsm, hLA, hBB⟩ := Steps.callFree hM p X.admits X.cas X.clock (acts := []) hfr2 happ hPU trivial
  have hsm : (U.calling (F0 m pc ls rest) mk a).sameButNew ({ s₂ with vm := (U.calling (F0 m pc ls rest) mk a).vm } : State) L 1 6 := hsm
  have hW₂ : (U.calling (F0 m pc ls rest) mk a).WarmedH s₂.vm := hW₂
  rw [State.frames_setTop' _ hat.top] at hend
  obtain ⟨g₀, hg0⟩ := Option.isSome_iff_exists.mp hat.top
  obtain ⟨r, hr⟩ := State.topJava?_eq_some.mp hg0
  obtain ⟨k1, k2⟩ := sb_kept hsm
  have hW' : U.WarmedH s₂.vm := hW₂
  have hf₂ : s₂.frames = .throwing q :: .java (F0 m pc ls rest) :: U.frames.tail := hend
  obtain ⟨V, hV⟩ : ∃ V, V = (({ U with heap := s₂.heap, slotsUsed := s₂.slotsUsed } : State).setVm s₂.vm) := ⟨_, rfl⟩
  have hrV : V.frames = .java g₀ :: r := by rw [hV]; exact hr
  obtain ⟨e2, z2, z3, z4, z5, z6⟩ := id hsm
  have e3 : s₂ = ({ (U.calling (F0 m pc ls rest) mk a).setFrames s₂.frames with heap := s₂.heap, slotsUsed := s₂.slotsUsed } : State).setVm s₂.vm := by
    have h9 : s₂ = ({ s₂ with vm := (U.calling (F0 m pc ls rest) mk a).vm } : State).setVm s₂.vm := rfl
    rw [e2] at h9
    exact h9
  have hs₂ : s₂ = (V.setTop (F0 m pc ls rest)).pushFrame (.throwing q) := by
    refine e3.trans ?_
    rw [hf₂, State.calling_eq hat.top, State.setFrames_setFrames, State.pushFrame, State.frames_setTop _ hrV, State.setTop_of_frames _ hrV, State.setFrames_setFrames, hV, hr]
    rfl
  have hsame : U.sameButNew ({ U with heap := s₂.heap, slotsUsed := s₂.slotsUsed } : State) L 1 6 := by
    refine ⟨?_, z2, z3, z4, z5, z6⟩
    obtain ⟨t, ht, -⟩ := State.frames_cons hr
    show ({ U with heap := s₂.heap, slotsUsed := s₂.slotsUsed } : State) = { U.setFrames U.frames with heap := s₂.heap, slotsUsed := s₂.slotsUsed }
    rw [State.setFrames_self ht]
  have XV : Stand p l e R s m args below meth c V (locs ++ L) (cells + 1) (slots + 6) := by
    rw [hV]
    exact ⟨X₁.admits, X₁.cas, X₁.clock, X₁.frames, X₁.room, X₁.hears, X₁.method, X₁.code, (X₁.here.setHeapUsed s₂.heap s₂.slotsUsed).setVm hW'.alike, X₁.tail, State.WarmedH.trans X₁.warmed hW', X₁.limits, X₁.bytes, X₁.same.trans (hsame.setVm s.vm)⟩
  have hVh : V.heap = s₂.heap := by rw [hV]; rfl
  have hcome : Steps p.tables e below (T.setTop (F0 m pc ls st0)) ((V.setTop (F0 m pc ls rest)).pushFrame (.throwing q)) := by
    refine st₁ _ fun acts => ?_
    rw [doInvoke_state, ← hs₂]
    exact hsteps
  have hclE : s.vm.findClass E = some ce.cls := by
    have h1 : U.vm.findClass E = some ce.cls := hcl
    rw [X₁.warmed.alike.findClass] at h1
    exact h1
  refine ⟨q, ce, L, V, XV, hcome, by rw [← hheap]; exact hqs, by rw [hVh]; exact hce, hcv, hclE, hLA, by rw [hVh]; exact hBB, by rw [hVh, ← hheap]; exact k1, fun z hz hzL => ?_⟩
  rw [hVh]
  rw [← hheap] at hz ⊢
  exact k2 z hz hzL
/-- and out of the caller, which has no handler -/
theorem tPassV {y : MethodName} {bytes : ByteArray} {maxL nL index n : Nat} {ret : Option FieldType} {ws : List Cond} {rm : Room} {Pc : Array Value → State → Prop} {own C E : String} {b : Addr} {As : List Value} {Ts : List Cond}
    (S : CallFix p m c cc nL s args Ts own) (hM : tMet l y ws rm Pc E A1 B1) (cw : CallW R s args own C index y bytes maxL ret ws rm 1 6 n) (hp : PreV s H C b Pc As) (hn : As.length = n) (hsize : ls.size = nL) (hstack : st0 = As.reverse ++ .ref b :: rest) (hW : 2 * (F0 m pc ls rest).monitorRoom + (rest.map fun v => v.category).sum ≤ 8)
    (hdg : decode cc pc = .ok (.invokevirtual index, 3)) (hf : 0 + 1 ≤ R.cells ∧ 0 + 6 ≤ R.slots) (hno : ∀ x ∈ c.exceptionTable.toList, False) (hlocks : meth.locks = false) (hS : va_S A s.heap H locs) (hA1 : ∀ x : Loc, A1 x.base → A x.base) (hB : ∀ H1, B1 H1 → B H1) :
    W p l e R s m args below meth c H locs 0 0 (tQ below s E A B) (F0 m pc ls st0) := by
  intro T hT X
  obtain ⟨q, ce, L, V, XV, hcome, h1, h2, h3, h4, h5, h6, h7, -⟩ := tMidV S hM cw hp hn hsize hstack hW hdg hf hT X
  obtain ⟨l1, l2, l3, l4, l5⟩ := XV.leaveThrown q (g := F0 m pc ls rest) rfl rfl rfl (fun x hx => (hno x hx).elim)
  refine ⟨V.setFrames (.throwing q :: below), hcome.trans l1, .threw q, l2, l3, q, ce, locs ++ L, rfl, Nat.le_trans hS.1 h1, h2, h3, h4, l4, l5, ?_, hB _ h6⟩
  intro x hx
  rcases List.mem_append.mp hx with z | z
  · exact hS.2.2 x z
  · exact hA1 x (h5 x z)
/-- or into the caller's one handler -/
theorem tCatchV {name : String} {y : MethodName} {bytes : ByteArray} {maxL nL index n : Nat} {ret : Option FieldType} {ws : List Cond} {rm : Room} {Pc : Array Value → State → Prop} {own C E : String} {b : Addr} {As : List Value} {Ts : List Cond}
    (S : CallFix p m c cc nL s args Ts own) (hM : tMet l y ws rm Pc E A1 B1) (cw : CallW R s args own C index y bytes maxL ret ws rm 1 6 n) (hp : PreV s H C b Pc As) (hn : As.length = n) (hsize : ls.size = nL) (hstack : st0 = As.reverse ++ .ref b :: rest) (hW : 2 * (F0 m pc ls rest).monitorRoom + (rest.map fun v => v.category).sum ≤ 8)
    (hdg : decode cc pc = .ok (.invokevirtual index, 3)) (hf : cells + 1 ≤ R.cells ∧ slots + 6 ≤ R.slots)
    {x : ExceptionTableEntry} (htab : c.exceptionTable.toList = [x]) (hcov : covers x pc = true) (h0 : x.catchType ≠ 0) (hlink : (Cond.classLink own x.catchType name).before args s = true) (hcast : (Cond.castable E name).before args s = true)
    (kk : ∀ (q : Nat) (L : List Loc) (H1 : Heap), H.size ≤ q → H.size ≤ H1.size → (∀ x ∈ L, A1 x.base) → B1 H1 → (∀ z : Nat, z < H.size → (∀ x ∈ L, x.base ≠ z) → H1[z]? = H[z]?) → W p l e R s m args below meth c H1 (locs ++ L) (cells + 1) (slots + 6) Q (F0 m x.handlerPc ls [.ref q])) :
    W p l e R s m args below meth c H locs cells slots Q (F0 m pc ls st0) := by
  intro T hT X
  have ho := S.2.2.2.1
  obtain ⟨q, ce, L, V, XV, hcome, h1, h2, h3, h4, h5, h6, h7, h8⟩ := tMidV S hM cw hp hn hsize hstack hW hdg hf hT X
  have hpl : e.platform.magicAccessors = ({} : Platform).magicAccessors := by rw [X.admits.platform]
  obtain ⟨c3, c4, hc3, hc4, hasg⟩ := Cond.castable_spec hcast
  cases Option.some.inj (hc3.symm.trans h4)
  obtain ⟨c5, hc5, hcl5⟩ := Cond.classLink_spec ho hlink e.platform hpl
  cases Option.some.inj (hc4.symm.trans hc5)
  obtain ⟨vm', X', st⟩ := XV.thenCaughtThrough q (g := F0 m pc ls rest) rfl hcome h2 (by rw [h3]; rfl) (by obtain ⟨k9, h9, -⟩ := Vm.findClass_spec h4; exact ⟨k9, h9⟩) [] x [] (by rw [htab]; rfl) (fun z hz => nomatch hz) hcov (Or.inr ⟨h0, c4, hcl5, hasg⟩)
  obtain ⟨t, a1, b1⟩ := kk q L V.heap h1 h7 h5 h6 h8 (V.setVm vm') rfl X'
  exact ⟨t, st.trans a1, b1⟩
/-- a call that throws, up to the note in the caller -/
theorem tMidS {y : MethodName} {bytes : ByteArray} {maxL nL index n : Nat} {ret : Option FieldType} {ws : List Cond} {rm : Room} {Pc : Array Value → State → Prop} {own E : String} {As : List Value} {Ts : List Cond}
    (S : CallFix p m c cc nL s args Ts own) (hM : tMet l y ws rm Pc E A1 B1) (cw : CallB R s args own index y bytes maxL ret ws rm 1 6 n ∧ (Cond.static y).before args s = true) (hp : PreS s H Pc As) (hn : As.length = n) (hsize : ls.size = nL) (hstack : st0 = As.reverse ++ rest) (hW : 2 * (F0 m pc ls rest).monitorRoom + (rest.map fun v => v.category).sum ≤ 8)
    (hdg : decode cc pc = .ok (.invokestatic index, 3)) (hf : cells + 1 ≤ R.cells ∧ slots + 6 ≤ R.slots) {T : State} (hT : T.heap = H) (X : Stand p l e R s m args below meth c T locs cells slots) :
    ∃ (q : Addr) (ce : Cell) (L : List Loc) (V : State), Stand p l e R s m args below meth c V (locs ++ L) (cells + 1) (slots + 6) ∧ Steps p.tables e below (T.setTop (F0 m pc ls st0)) ((V.setTop (F0 m pc ls rest)).pushFrame (.throwing q)) ∧ H.size ≤ q ∧ V.heap[q]? = some ce ∧ ce.vm = .none ∧ s.vm.findClass E = some ce.cls ∧ (∀ x ∈ L, A1 x.base) ∧ B1 V.heap ∧ H.size ≤ V.heap.size ∧ ∀ z : Nat, z < H.size → (∀ x ∈ L, x.base ≠ z) → V.heap[z]? = H[z]? := by
  obtain ⟨⟨hrc, hrs, hfr, hlo, hws, hcw, hcode, hini, hy, hlen, hl⟩, hstt⟩ := cw
  obtain ⟨hx, hb, hml, ho, -⟩ := S
  obtain ⟨hbl, hPc⟩ := hp
  obtain ⟨mk, hnamed⟩ := Cond.code_named hcode
  obtain ⟨methM, cM, hmethM, -, -, -, -, -, -, hsigM⟩ := Cond.code_spec hnamed hcode
  have hstatic : methM.isStatic = true := Cond.static_spec hnamed hmethM hstt
  obtain ⟨kP, hkP, -⟩ := className_of_methodNamed hnamed
  have hinitP : kP.init = .initialized := Cond.initialized_spec (findClass_of_methodNamed hnamed) hkP hini
  obtain ⟨vm₁, X₁, st₁⟩ := X.invokestatic hx ho hl hnamed hmethM hstatic hkP hinitP hy (g := F0 m pc ls st0) rfl (argsL := As) (rest := rest) (hn.trans (hlen _ hsigM)) hstack (by rw [hb]; exact hdg)
  obtain ⟨a, ha⟩ : ∃ a, a = As.toArray := ⟨_, rfl⟩
  rw [← ha] at st₁
  obtain ⟨U, hU⟩ : ∃ U, U = T.setVm vm₁ := ⟨_, rfl⟩
  rw [← hU] at X₁ st₁
  have hheap : U.heap = H := by rw [hU]; exact hT
  have hPU : Pc a (U.calling (F0 m pc ls rest) mk a) := hbl _ _ _ _ (by rw [ha]; exact hPc U hheap X₁.warmed)
  have hn1 : U.methodNamed? y = some mk := X₁.named hnamed
  have w1 : (headSpec ws rm).pre.before a U = true := atoms_intro fun w hw => hws w hw _ _ X₁.warmed
  have w2 : (Cond.code y bytes maxL ret).before a U = true := hws _ hcw _ _ X₁.warmed
  have w3 : (Cond.initialized y.cls).before a U = true := word_at X₁.warmed (Or.inl (by first | rfl | simp [Cond.onTables, Cond.keeps, Cond.steady])) hini
  obtain ⟨methY, cY, hmY, hcY, -, hlY, -, -, -, -⟩ := Cond.code_spec hn1 w2
  obtain ⟨kY, hkY, -⟩ := className_of_methodNamed hn1
  have hiY : kY.init = .initialized := Cond.initialized_spec (findClass_of_methodNamed hn1) hkY w3
  have hW9 : 2 * (F0 m pc ls rest).monitorRoom + ((F0 m pc ls rest).stack.map fun v => v.category).sum ≤ 8 := hW
  have hlo9 : 8 + (maxL + 11) + (headSpec ws rm).room.locals ≤ R.locals := hlo
  have happ : (headSpec ws rm).appliesLoose y e.platform (U.calling (F0 m pc ls rest) mk a) = true :=
    Spec.appliesLoose_calling (g := F0 m pc ls rest) X₁.here (by rw [hb]; exact hdg) hn1 hkY hiY
      (X₁.room_calling (g := F0 m pc ls rest) (R' := (headSpec ws rm).room) (hsize.trans hml.symm) hmY hcY hfr (by rw [hlY]; omega) (by rw [show (headSpec ws rm).room.cells = 1 from hrc]; exact hf.1) (by rw [show (headSpec ws rm).room.slots = 6 from hrs]; exact hf.2)) w1
  have hat : At U (F0 m pc ls rest).method c below := X₁.here
  obtain ⟨mid, hmid⟩ := hat.above
  have hfr2 : (U.setTop (F0 m pc ls rest)).frames = (.java (F0 m pc ls rest) :: mid) ++ below := by rw [State.frames_setTop' _ hat.top, hmid]; rfl
  obtain ⟨o, s₂, hsteps, -, hend, q, ce, L, rfl, hqs, hce, hcv, hcl, hW₂, hsm, hLA, hBB⟩ := Steps.callFree hM p X.admits X.cas X.clock (acts := []) hfr2 happ hPU trivial
  have hsm : (U.calling (F0 m pc ls rest) mk a).sameButNew ({ s₂ with vm := (U.calling (F0 m pc ls rest) mk a).vm } : State) L 1 6 := hsm
  have hW₂ : (U.calling (F0 m pc ls rest) mk a).WarmedH s₂.vm := hW₂
  rw [State.frames_setTop' _ hat.top] at hend
  obtain ⟨g₀, hg0⟩ := Option.isSome_iff_exists.mp hat.top
  obtain ⟨r, hr⟩ := State.topJava?_eq_some.mp hg0
  obtain ⟨k1, k2⟩ := sb_kept hsm
  have hW' : U.WarmedH s₂.vm := hW₂
  have hf₂ : s₂.frames = .throwing q :: .java (F0 m pc ls rest) :: U.frames.tail := hend
  obtain ⟨V, hV⟩ : ∃ V, V = (({ U with heap := s₂.heap, slotsUsed := s₂.slotsUsed } : State).setVm s₂.vm) := ⟨_, rfl⟩
  have hrV : V.frames = .java g₀ :: r := by rw [hV]; exact hr
  obtain ⟨e2, z2, z3, z4, z5, z6⟩ := id hsm
  have e3 : s₂ = ({ (U.calling (F0 m pc ls rest) mk a).setFrames s₂.frames with heap := s₂.heap, slotsUsed := s₂.slotsUsed } : State).setVm s₂.vm := by
    have h9 : s₂ = ({ s₂ with vm := (U.calling (F0 m pc ls rest) mk a).vm } : State).setVm s₂.vm := rfl
    rw [e2] at h9
    exact h9
  have hs₂ : s₂ = (V.setTop (F0 m pc ls rest)).pushFrame (.throwing q) := by
    refine e3.trans ?_
    rw [hf₂, State.calling_eq hat.top, State.setFrames_setFrames, State.pushFrame, State.frames_setTop _ hrV, State.setTop_of_frames _ hrV, State.setFrames_setFrames, hV, hr]
    rfl
  have hsame : U.sameButNew ({ U with heap := s₂.heap, slotsUsed := s₂.slotsUsed } : State) L 1 6 := by
    refine ⟨?_, z2, z3, z4, z5, z6⟩
    obtain ⟨t, ht, -⟩ := State.frames_cons hr
    show ({ U with heap := s₂.heap, slotsUsed := s₂.slotsUsed } : State) = { U.setFrames U.frames with heap := s₂.heap, slotsUsed := s₂.slotsUsed }
    rw [State.setFrames_self ht]
  have XV : Stand p l e R s m args below meth c V (locs ++ L) (cells + 1) (slots + 6) := by
    rw [hV]
    exact ⟨X₁.admits, X₁.cas, X₁.clock, X₁.frames, X₁.room, X₁.hears, X₁.method, X₁.code, (X₁.here.setHeapUsed s₂.heap s₂.slotsUsed).setVm hW'.alike, X₁.tail, State.WarmedH.trans X₁.warmed hW', X₁.limits, X₁.bytes, X₁.same.trans (hsame.setVm s.vm)⟩
  have hVh : V.heap = s₂.heap := by rw [hV]; rfl
  have hcome : Steps p.tables e below (T.setTop (F0 m pc ls st0)) ((V.setTop (F0 m pc ls rest)).pushFrame (.throwing q)) := by
    refine st₁ _ fun acts => ?_
    rw [doInvoke_state, ← hs₂]
    exact hsteps
  have hclE : s.vm.findClass E = some ce.cls := by
    have h1 : U.vm.findClass E = some ce.cls := hcl
    rw [X₁.warmed.alike.findClass] at h1
    exact h1
  refine ⟨q, ce, L, V, XV, hcome, by rw [← hheap]; exact hqs, by rw [hVh]; exact hce, hcv, hclE, hLA, by rw [hVh]; exact hBB, by rw [hVh, ← hheap]; exact k1, fun z hz hzL => ?_⟩
  rw [hVh]
  rw [← hheap] at hz ⊢
  exact k2 z hz hzL
/-- and out of the caller, which has no handler -/
theorem tPassS {y : MethodName} {bytes : ByteArray} {maxL nL index n : Nat} {ret : Option FieldType} {ws : List Cond} {rm : Room} {Pc : Array Value → State → Prop} {own E : String} {As : List Value} {Ts : List Cond}
    (S : CallFix p m c cc nL s args Ts own) (hM : tMet l y ws rm Pc E A1 B1) (cw : CallB R s args own index y bytes maxL ret ws rm 1 6 n ∧ (Cond.static y).before args s = true) (hp : PreS s H Pc As) (hn : As.length = n) (hsize : ls.size = nL) (hstack : st0 = As.reverse ++ rest) (hW : 2 * (F0 m pc ls rest).monitorRoom + (rest.map fun v => v.category).sum ≤ 8)
    (hdg : decode cc pc = .ok (.invokestatic index, 3)) (hf : 0 + 1 ≤ R.cells ∧ 0 + 6 ≤ R.slots) (hno : ∀ x ∈ c.exceptionTable.toList, False) (hlocks : meth.locks = false) (hS : va_S A s.heap H locs) (hA1 : ∀ x : Loc, A1 x.base → A x.base) (hB : ∀ H1, B1 H1 → B H1) :
    W p l e R s m args below meth c H locs 0 0 (tQ below s E A B) (F0 m pc ls st0) := by
  intro T hT X
  obtain ⟨q, ce, L, V, XV, hcome, h1, h2, h3, h4, h5, h6, h7, -⟩ := tMidS S hM cw hp hn hsize hstack hW hdg hf hT X
  obtain ⟨l1, l2, l3, l4, l5⟩ := XV.leaveThrown q (g := F0 m pc ls rest) rfl rfl rfl (fun x hx => (hno x hx).elim)
  refine ⟨V.setFrames (.throwing q :: below), hcome.trans l1, .threw q, l2, l3, q, ce, locs ++ L, rfl, Nat.le_trans hS.1 h1, h2, h3, h4, l4, l5, ?_, hB _ h6⟩
  intro x hx
  rcases List.mem_append.mp hx with z | z
  · exact hS.2.2 x z
  · exact hA1 x (h5 x z)
/-- or into the caller's one handler -/
theorem tCatchS {name : String} {y : MethodName} {bytes : ByteArray} {maxL nL index n : Nat} {ret : Option FieldType} {ws : List Cond} {rm : Room} {Pc : Array Value → State → Prop} {own E : String} {As : List Value} {Ts : List Cond}
    (S : CallFix p m c cc nL s args Ts own) (hM : tMet l y ws rm Pc E A1 B1) (cw : CallB R s args own index y bytes maxL ret ws rm 1 6 n ∧ (Cond.static y).before args s = true) (hp : PreS s H Pc As) (hn : As.length = n) (hsize : ls.size = nL) (hstack : st0 = As.reverse ++ rest) (hW : 2 * (F0 m pc ls rest).monitorRoom + (rest.map fun v => v.category).sum ≤ 8)
    (hdg : decode cc pc = .ok (.invokestatic index, 3)) (hf : cells + 1 ≤ R.cells ∧ slots + 6 ≤ R.slots)
    {x : ExceptionTableEntry} (htab : c.exceptionTable.toList = [x]) (hcov : covers x pc = true) (h0 : x.catchType ≠ 0) (hlink : (Cond.classLink own x.catchType name).before args s = true) (hcast : (Cond.castable E name).before args s = true)
    (kk : ∀ (q : Nat) (L : List Loc) (H1 : Heap), H.size ≤ q → H.size ≤ H1.size → (∀ x ∈ L, A1 x.base) → B1 H1 → (∀ z : Nat, z < H.size → (∀ x ∈ L, x.base ≠ z) → H1[z]? = H[z]?) → W p l e R s m args below meth c H1 (locs ++ L) (cells + 1) (slots + 6) Q (F0 m x.handlerPc ls [.ref q])) :
    W p l e R s m args below meth c H locs cells slots Q (F0 m pc ls st0) := by
  intro T hT X
  have ho := S.2.2.2.1
  obtain ⟨q, ce, L, V, XV, hcome, h1, h2, h3, h4, h5, h6, h7, h8⟩ := tMidS S hM cw hp hn hsize hstack hW hdg hf hT X
  have hpl : e.platform.magicAccessors = ({} : Platform).magicAccessors := by rw [X.admits.platform]
  obtain ⟨c3, c4, hc3, hc4, hasg⟩ := Cond.castable_spec hcast
  cases Option.some.inj (hc3.symm.trans h4)
  obtain ⟨c5, hc5, hcl5⟩ := Cond.classLink_spec ho hlink e.platform hpl
  cases Option.some.inj (hc4.symm.trans hc5)
  obtain ⟨vm', X', st⟩ := XV.thenCaughtThrough q (g := F0 m pc ls rest) rfl hcome h2 (by rw [h3]; rfl) (by obtain ⟨k9, h9, -⟩ := Vm.findClass_spec h4; exact ⟨k9, h9⟩) [] x [] (by rw [htab]; rfl) (fun z hz => nomatch hz) hcov (Or.inr ⟨h0, c4, hcl5, hasg⟩)
  obtain ⟨t, a1, b1⟩ := kk q L V.heap h1 h7 h5 h6 h8 (V.setVm vm') rfl X'
  exact ⟨t, st.trans a1, b1⟩
end TC
