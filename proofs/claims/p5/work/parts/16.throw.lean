

/-! Throwing. B: what is known of the heap behind it; A: what may have been written. -/
def zA (n d : String) (S : Nat → Prop) (U : State) : Prop := ∃ (c : ClassId) (k : Class) (i : Nat) (f : Field) (a : Nat) (cell : Cell) (v : Value), (U.vm.findClass Bundle.tN = some c ∧ U.fieldFound? Bundle.tN n d = some (c, k, i, f) ∧ f.isStatic = true ∧ k.statics = some a) ∧ (U.heap[a]? = some cell ∧ cell.vm.isStatics = true ∧ cell.cls = c ∧ f.slot < cell.slots.size ∧ k.staticTypes[f.slot]? = some f.type) ∧ (cell.slots[f.slot]? = some v ∧ v.isRef = true) ∧ ¬ S a
theorem zA.to {n d : String} {S : Nat → Prop} {s U : State} (hvm : s.vm.Alike U.vm) (hh : ∀ q : Nat, q < s.heap.size → ¬ S q → U.heap[q]? = s.heap[q]?) (h : zA n d S s) : zA n d S U := by
  obtain ⟨c, k, i, f, a, cell, v, ⟨h1, h2, h3, h4⟩, ⟨h5, h6, h7, h8, h9⟩, ⟨h10, h11⟩, hs⟩ := h
  obtain ⟨k', hi', he⟩ := State.fieldFound?_setVm hvm h2
  exact ⟨c, k', i, f, a, cell, v, ⟨by rw [hvm.findClass]; exact h1, hi', h3, by rw [he]; exact h4⟩, ⟨by rw [hh a (Array.getElem?_eq_some_iff.mp h5).1 hs]; exact h5, h6, h7, h8, by rw [he]; exact h9⟩, ⟨h10, h11⟩, hs⟩
theorem zA.lays {n d : String} {S : Nat → Prop} {s : State} {args : Array Value} (h : zA n d S s) : (Cond.laysStatic Bundle.tN n d).before args s = true := by
  obtain ⟨c, k, i, f, a, cell, v, ⟨h1, h2, h3, h4⟩, ⟨h5, h6, h7, h8, h9⟩, -⟩ := h
  show (Cond.laysStatic Bundle.tN n d).holds args s none s [] = true
  exact Cond.laysStatic_of h1 h2 h3 h4 h5 h6 h7 h8 h9
theorem zA.isRef {n d : String} {S : Nat → Prop} {s : State} {args : Array Value} (h : zA n d S s) : (Cond.isRef (.static Bundle.tN n d)).before args s = true := by
  obtain ⟨c, k, i, f, a, cell, v, ⟨h1, h2, h3, h4⟩, ⟨h5, h6, h7, h8, h9⟩, ⟨h10, h11⟩, -⟩ := h
  have he : (Term.static Bundle.tN n d).eval args s none [] s = some v := by
    simp [Term.eval, State.fieldNamed?, h2, h3, h4, h5, h6, h10]
  simp only [Cond.before, Cond.holds, Cond.value, he]
  cases v <;> simp_all [Value.isRef]
theorem zA.of {n d : String} {S : Nat → Prop} {s : State} {args : Array Value} (hS : ∀ a : Nat, a < s.heap.size → ¬ S a) (hl : (Cond.laysStatic Bundle.tN n d).before args s = true) (hr : (Cond.isRef (.static Bundle.tN n d)).before args s = true) : zA n d S s := by
  obtain ⟨c, k, i, f, a, cell, h1, h2, h3, h4, h5, h6, h7, h8, h9⟩ := Cond.laysStatic_spec hl
  cases hv : (Term.static Bundle.tN n d).eval args s none [] s with
  | none => simp [Cond.before, Cond.holds, Cond.value, hv] at hr
  | some w =>
    obtain ⟨-, a', cell', ha', hc', -, hslot⟩ := Term.static_spec h2 hv
    cases h4.symm.trans ha'
    cases h5.symm.trans hc'
    refine ⟨c, k, i, f, a, cell, w, ⟨h1, h2, h3, h4⟩, ⟨h5, h6, h7, h8, h9⟩, ⟨hslot, ?_⟩, hS a (Array.getElem?_eq_some_iff.mp h5).1⟩
    simp only [Cond.before, Cond.holds, Cond.value, hv] at hr
    cases w <;> simp_all [Value.isRef]
abbrev nIX : String := "java/lang/IndexOutOfBoundsException"
abbrev nIS : String := "java/lang/IllegalStateException"
abbrev nRT : String := "java/lang/RuntimeException"
abbrev nEX : String := "java/lang/Exception"
/-- what a state must say so that an exception can be thrown there, beside the words of aw; S: the cells of the tables -/
def xE (S : Nat → Prop) (U : State) : Prop := va_Nw (.castable nIX nIX) U ∧ va_Nw (.castable nIS nIS) U ∧ va_Nw (.declares (Bundle.init0 nRT)) U ∧ va_Nw (.declares (Bundle.init0 nEX)) U ∧ va_Nw (.declares (Bundle.init0 Bundle.tN)) U ∧ zA "UNASSIGNED_STACK" Bundle.steD S U ∧ zA "SUPPRESSED_SENTINEL" Bundle.listD S U
theorem xE.same {S : Nat → Prop} {u U : State} (h : u.vm = U.vm) (hh : U.heap = u.heap) (hE : xE S u) : xE S U := by
  obtain ⟨h1, h0, h2, h3, h4, h5, h6⟩ := hE
  have ha : u.vm.Alike U.vm := by rw [h]; exact Vm.Alike.refl _
  exact ⟨va_Nw.same rfl h h1, va_Nw.same rfl h h0, va_Nw.same rfl h h2, va_Nw.same rfl h h3, va_Nw.same rfl h h4, h5.to ha (fun q _ _ => by rw [hh]), h6.to ha (fun q _ _ => by rw [hh])⟩
theorem xE.warm {S : Nat → Prop} {s U : State} (hW : s.WarmedH U.vm) (hh : ∀ q : Nat, q < s.heap.size → ¬ S q → U.heap[q]? = s.heap[q]?) (hE : xE S s) : xE S U := by
  obtain ⟨h1, h0, h2, h3, h4, h5, h6⟩ := hE
  exact ⟨va_Nw.warmC hW h1, va_Nw.warmC hW h0, va_Nw.warmD hW h2, va_Nw.warmD hW h3, va_Nw.warmD hW h4, h5.to hW.alike hh, h6.to hW.alike hh⟩
/-- how a method that throws ends -/
def tO (E : String) (A : Nat → Prop) (B : Heap → Prop) (st : State) (o : Outcome) (t : State) : Prop := ∃ (q : Addr) (ce : Cell) (L : List Loc), o = .threw q ∧ st.heap.size ≤ q ∧ t.heap[q]? = some ce ∧ ce.vm = .none ∧ st.vm.findClass E = some ce.cls ∧ st.WarmedH t.vm ∧ st.sameButNew ({ t with vm := st.vm } : State) L 1 6 ∧ (∀ x ∈ L, A x.base) ∧ B t.heap
def tMet (l : Launch) (y : MethodName) (ws : List Cond) (rm : Room) (Pc : Array Value → State → Prop) (E : String) (A : Nat → Prop) (B : Heap → Prop) : Prop := MetFree l y (headSpec ws rm) Pc (fun _ _ _ _ _ => True) (fun _ st o t => tO E A B st o t)
def tQ (below : List Frame) (s : State) (E : String) (A : Nat → Prop) (B : Heap → Prop) : State → Prop := fun t => ∃ o, t.status = .running ∧ Ended t below o ∧ tO E A B s o t
theorem tOfW {l : Launch} {y : MethodName} {ws ws' : List Cond} {rm : Room} {Pc : Array Value → State → Prop} {E : String} {A : Nat → Prop} {B : Heap → Prop} {cc : ByteArray} {maxL : Nat} {ret : Option FieldType} (hy : plainName y.cls = true) (hw : ws = Cond.code y cc maxL ret :: ws')
    (body : ∀ p e s m args below meth c s₁, BodyLoose p l y (headSpec ws rm) cc maxL ret e s m args below meth c s₁ → c.maxLocals = maxL → (∀ x ∈ c.exceptionTable.toList, False) → Pc args s →
      W p l e (headSpec ws rm).room s m args below meth c s.heap [] 0 0 (tQ below s E A B) (entryFrame m args maxL)) : tMet l y ws rm Pc E A B := by
  refine MetFree.of_bodyS (code := cc) (maxLocals := maxL) (ret := ret) hy ?_ ?_
  · intro args s m h hn
    obtain ⟨meth, c, h1, h2, h3, h4, h5, h6, -, -⟩ := Cond.code_spec hn (atoms_spec (ws := ws) h _ (by rw [hw]; exact List.mem_cons_self))
    exact ⟨meth, c, h1, h2, h3, h4, h5, h6⟩
  · intro p e s m args below meth c s₁ B hml hP _
    have hh0 : s₁.heap = s.heap := by rw [B.state]; rfl
    have hno : ∀ x ∈ c.exceptionTable.toList, False := by
      obtain ⟨meth9, c9, h1, h2, -, -, -, -, h7, -⟩ := Cond.code_spec B.named (atoms_spec (ws := ws) B.pre _ (by rw [hw]; exact List.mem_cons_self))
      cases Option.some.inj (h1.symm.trans B.method)
      cases Option.some.inj (h2.symm.trans (Stand.of_body B).code)
      intro x hx
      rw [Array.isEmpty_iff.mp h7] at hx
      cases hx
    obtain ⟨t, a1, o, b1, b2, b3⟩ := body p e s m args below meth c s₁ B hml hno hP s₁ hh0 (Stand.of_body B)
    exact ⟨t, o, a1, b1, b2, b3⟩
/-- the cells that no place of L names are as they were -/
theorem sb_kept {s U : State} {L : List Loc} {k n : Nat} (h : s.sameButNew ({ U with vm := s.vm } : State) L k n) : s.heap.size ≤ U.heap.size ∧ ∀ q : Nat, q < s.heap.size → (∀ x ∈ L, x.base ≠ q) → U.heap[q]? = s.heap[q]? := by
  obtain ⟨-, h2, -, -, -, h6⟩ := h
  refine ⟨h2, fun q hq hL => ?_⟩
  obtain ⟨c9, e1, e2, e3, e4⟩ := h6 q _ (Array.getElem?_eq_getElem hq)
  have hs : c9.slots = (s.heap[q]).slots := Array.ext_getElem? fun i => e4 i (fun hm => hL _ hm rfl)
  have h9 : c9 = s.heap[q] := by
    rw [hs] at e2
    exact e2
  have e5 : U.heap[q]? = some c9 := e1
  rw [e5, h9, Array.getElem?_eq_getElem hq]
section TH
variable {p : Program} {l : Launch} {e : Env} {R : Room} {s : State} {m : MethodId} {args : Array Value} {below : List Frame} {meth : Method} {c : Code} {H : Heap} {cc : ByteArray} {pc : Nat} {ls : Array Slot} {rest : List Value} {locs : List Loc} {T : State}
/-- the method's start, with what was written since -/
def reS (s T : State) : State := { s with heap := T.heap, slotsUsed := T.slotsUsed }
theorem reX (X : Stand p l e R s m args below meth c T locs 0 0) : Stand p l e R (reS s T) m args below meth c T [] 0 0 := by
  have hz : T.heap.size = s.heap.size := by
    have h1 : s.heap.size ≤ T.heap.size := X.same.2.1
    have h2 := X.heapSize
    omega
  have hu : T.slotsUsed = s.slotsUsed := by
    have h4 : T.slotsUsed = s.slotsUsed + ((T.heap.toList.drop s.heap.size).map (·.slots.size)).sum := X.same.2.2.2.1
    have h5 : ((T.heap.toList.drop s.heap.size).map (·.slots.size)).sum ≤ 0 := X.same.2.2.2.2.1
    omega
  refine ⟨X.admits, X.cas, X.clock, X.frames, ?_, X.hears, X.method, X.code, X.here, X.tail, X.warmed, X.limits, X.bytes, ?_⟩
  · have h0 := X.room
    have hb : (reS s T).slotsTrue = true := X.book
    unfold State.hasRoom at h0 ⊢
    simp only [Bool.and_eq_true] at h0 ⊢
    obtain ⟨⟨⟨⟨g1, g2⟩, g3⟩, g4⟩, g5⟩ := h0
    refine ⟨⟨⟨⟨g1, g2⟩, ?_⟩, ?_⟩, hb⟩
    · show decide (T.heap.size + R.cells ≤ e.platform.maxCells) = true
      rw [hz]; exact g3
    · show decide (T.slotsUsed + R.slots ≤ e.platform.maxSlots) = true
      rw [hu]; exact g4
  · have h1 := X.same.1
    have hd : T.heap.toList.drop T.heap.size = [] := List.drop_eq_nil_of_le (by simp)
    refine ⟨?_, Nat.le_refl _, Nat.le_refl _, ?_, ?_, fun a c9 hc => ⟨c9, hc, rfl, rfl, fun i _ => rfl⟩⟩
    · show T.setVm s.vm = { (reS s T).setFrames (T.setVm s.vm).frames with heap := T.heap, slotsUsed := T.slotsUsed }
      exact h1
    · show T.slotsUsed = T.slotsUsed + ((T.heap.toList.drop T.heap.size).map (·.slots.size)).sum
      rw [hd]; rfl
    · show ((T.heap.toList.drop T.heap.size).map (·.slots.size)).sum ≤ 0
      rw [hd]; exact Nat.le_refl _
/-- 'throw new E()', whatever was written before -/
theorem tThrow {A : Nat → Prop} {B : Heap → Prop} {S : Nat → Prop} (hexec : p.tables.exec = Jvm.exec) (hb : c.code = cc) (hl : l.stackTraces = false) {own cls : String} {names : List String} {ik ic : Nat} (hown : s.vm.findClass own = some m.cls) (hcls : Bundle.fit cls = true) (hnames : ∀ n ∈ names, Bundle.fit n = true)
    (hts : ∀ w ∈ aw, w.before args s = true) (hE : xE S s) (hS : va_S A s.heap H locs) (hSA : ∀ q, q < s.heap.size → A q → S q) (wk : Cond.classLink own ik cls ∈ aw) (wi : Cond.initialized cls ∈ aw) (h : ∀ U : State, (∀ w ∈ aw, w.before args U = true) → xE S U → ∀ w ∈ Bundle.ownAtoms0 own ic cls names, w.before args U = true) (hsize : ls.size = c.maxLocals)
    (d0 : decode cc pc = .ok (.new ik, 3)) (d3 : decode cc (pc + 3) = .ok (.dup, 1)) (d4 : decode cc (pc + 4) = .ok (.invokespecial ic, 3)) (d7 : decode cc (pc + 7) = .ok (.athrow, 1)) (hno : ∀ x ∈ c.exceptionTable.toList, False)
    (hRf : names.length + 3 < R.frames) (hRl : (rest.map fun v => v.category).sum + (13 * (names.length + 1) + 42) ≤ R.locals) (hRc : 0 + 1 ≤ R.cells) (hRs : 0 + 6 ≤ R.slots) (hlocks : meth.locks = false) (hB : ∀ H1 : Heap, H.size ≤ H1.size → (∀ q : Nat, q < H.size → H1[q]? = H[q]?) → B H1) :
    W p l e R s m args below meth c H locs 0 0 (tQ below s cls A B) (F0 m pc ls rest) := by
  intro T hT X0
  have htr : e.platform.stackTraces = false := (show e.platform.stackTraces = l.stackTraces by rw [X0.admits.platform]).trans hl
  have X := reX X0
  have hWr : s.WarmedH (reS s T).vm := State.WarmedH.refl s
  have hts' : ∀ w ∈ aw, w.before args (reS s T) = true := fun w hw => word_at (U := reS s T) hWr (aw_good hw) (hts w hw)
  have hE' : xE S (reS s T) := hE.warm (U := reS s T) hWr (fun q hq hn => by
    show T.heap[q]? = s.heap[q]?
    rw [hT]
    exact hS.2.1 q hq (fun z => hn (hSA q hq z)))
  have h9 := h (reS s T) hts' hE'
  have hown' : (reS s T).vm.findClass own = some m.cls := hown
  have hins : (Cond.instantiable cls 6).before args (reS s T) = true := h9 _ (by simp [Bundle.ownAtoms0])
  obtain ⟨vm₁, cX, kX, hfX, hkX, -, -, X₁, st1⟩ := X.newCold hexec (own := own) (C := cls) (index := ik) (n := 6) hown' (hts' _ wk) hins (hts' _ wi) (g := F0 m pc ls rest) rfl (by rw [hb]; exact d0) hRc hRs
  generalize hT1 : (T.setVm vm₁).pushCell { cls := cX, slots := kX.instanceTypes.map defaultValue, vm := .none } = T1 at X₁ st1
  have hcellA : T1.heap[T.heap.size]? = some (freshCell cX kX) := by rw [← hT1]; exact State.heap_pushCell_size _ _
  have d3' : decode c.code (pc + 3) = .ok (.dup, 1) := by rw [hb]; exact d3
  have hcat : (Value.ref T.heap.size).category = 1 := rfl
  obtain ⟨U, hsteps, hrun, hend, hW, hsame, ce, hce, hO⟩ := X₁.ctorThrow0 hexec htr (own := own) (cls := cls) (names := names) (ic := ic) hown' hcls hnames h9 (fun x hx => nomatch hx) hfX hkX hcellA (Nat.le_refl _)
    (g := { method := m, pc := pc + 4, locals := ls, stack := .ref T.heap.size :: .ref T.heap.size :: rest, locked := none }) rfl hsize rfl rfl (rest := rest) rfl
    (by rw [hb]; exact d4) (by rw [hb]; exact d7) (fun x hx => (hno x hx).elim) hRf (by simp only [List.map_cons, List.sum_cons, hcat]; omega) hlocks
  have hkp := sb_kept (s := reS s T) hsame
  have hsm : (T.setVm s.vm).sameButNew ({ U with vm := s.vm } : State) [] 1 6 := by
    obtain ⟨g1, g2, g3, g4, g5, g6⟩ := hsame
    refine ⟨?_, g2, g3, g4, g5, g6⟩
    refine Eq.trans g1 ?_
    have e := X0.same.1
    show ({ s.setFrames U.frames with heap := U.heap, slotsUsed := U.slotsUsed } : State) = { (T.setVm s.vm).setFrames U.frames with heap := U.heap, slotsUsed := U.slotsUsed }
    generalize T.setVm s.vm = G at e
    generalize G.frames = f0 at e
    generalize G.heap = hh at e
    generalize G.slotsUsed = uu at e
    subst e
    show _ = ({ (s.setFrames f0).setFrames U.frames with heap := U.heap, slotsUsed := U.slotsUsed } : State)
    rw [State.setFrames_setFrames]
  refine ⟨U, st1 _ ?_, .threw T.heap.size, hrun, hend, T.heap.size, ce, locs ++ [], rfl, X0.same.2.1, hce, hO.vm, hO.cls, hW, X0.same.trans hsm, ?_, ?_⟩
  · show Steps p.tables e below (T1.setTop { method := m, pc := pc + 3, locals := ls, stack := .ref T.heap.size :: rest, locked := none }) _
    jvm_step X₁.here [X₁.here.top, hexec, d3', Value.category]
    exact hsteps
  · intro x hx
    rw [List.append_nil] at hx
    exact hS.2.2 x hx
  · refine hB U.heap (by rw [← hT]; exact hkp.1) (fun q hq => ?_)
    rw [← hT] at hq ⊢
    exact hkp.2 q hq (fun x hx => nomatch hx)
end TH

