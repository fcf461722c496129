

/-! Throwing. B: what is known of the heap behind it; A: what may have been written. -/
def zA (n d : String) (S : Nat → Prop) (U : State) : Prop := ∃ (c : ClassId) (k : Class) (i : Nat) (f : Field) (a : Nat) (cell : Cell) (v : Value), (U.vm.findClass Bundle.tN = some c ∧ U.fieldFound? Bundle.tN n d = some (c, k, i, f) ∧ f.isStatic = true ∧ k.statics = some a) ∧ (U.heap[a]? = some cell ∧ cell.vm.isStatics = true ∧ cell.cls = c ∧ f.slot < cell.slots.size ∧ k.staticTypes[f.slot]? = some f.type) ∧ (cell.slots[f.slot]? = some v ∧ v.isRef = true) ∧ ¬ S a
theorem zA.to {n d : String} {S : Nat → Prop} {s U : State} (hvm : s.vm.Alike U.vm) (hh : ∀ q : Nat, q < s.heap.size → ¬ S q → U.heap[q]? = s.heap[q]?) (h : zA n d S s) : zA n d S U := by
  obtain ⟨c, k, i, f, a, cell, v, ⟨h1, h2, h3, h4⟩, ⟨h5, h6, h7, h8, h9⟩, ⟨h10, h11⟩, hs⟩ := h
  obtain ⟨k', hi', he⟩ := State.fieldFound?_setVm hvm h2
  exact ⟨c, k', i, f, a, cell, v, ⟨by rw [hvm.findClass]; exact h1, hi', h3, by rw [he]; exact h4⟩, ⟨by rw [hh a (Array.getElem?_eq_some_iff.mp h5).1 hs]; exact h5, h6, h7, h8, by rw [he]; exact h9⟩, ⟨h10, h11⟩, hs⟩
theorem zA.lays {n d : String} {S : Nat → Prop} {s : State} {args : Array Value} (h : zA n d S s) : (Cond.laysStatic Bundle.tN n d).before args s = true := by
  obtain ⟨c, k, i, f, a, cell, v, ⟨h1, h2, h3, h4⟩, ⟨h5, h6, h7, h8, h9⟩, -⟩ := h
  show (Cond.laysStatic Bundle.tN n d).holds args s none s [] = true
  exact Cond.laysStatic_of h1 h2 h3 h4 h5 h6 h7 h8 h9
theorem zA.isRef {n d : String} {S : Nat → Prop} {s : State} {args : Array Value} (h : zA n d S s) : (Cond.isRef (.static Bundle.tN n d)).before args s = true := by
  obtain ⟨c, k, i, f, a, cell, v, ⟨h1, h2, h3, h4⟩, ⟨h5, h6, h7, h8, h9⟩, ⟨h10, h11⟩, -⟩ := h
  have he : (Term.static Bundle.tN n d).eval args s none [] s = some v := by
    simp [Term.eval, State.fieldNamed?, h2, h3, h4, h5, h6, h10]
  simp only [Cond.before, Cond.holds, Cond.value, he]
  cases v <;> simp_all [Value.isRef]
theorem zA.of {n d : String} {S : Nat → Prop} {s : State} {args : Array Value} (hS : ∀ a : Nat, a < s.heap.size → ¬ S a) (hl : (Cond.laysStatic Bundle.tN n d).before args s = true) (hr : (Cond.isRef (.static Bundle.tN n d)).before args s = true) : zA n d S s := by
  obtain ⟨c, k, i, f, a, cell, h1, h2, h3, h4, h5, h6, h7, h8, h9⟩ := Cond.laysStatic_spec hl
  cases hv : (Term.static Bundle.tN n d).eval args s none [] s with
  | none => simp [Cond.before, Cond.holds, Cond.value, hv] at hr
  | some w =>
    obtain ⟨-, a', cell', ha', hc', -, hslot⟩ := Term.static_spec h2 hv
    cases h4.symm.trans ha'
    cases h5.symm.trans hc'
    refine ⟨c, k, i, f, a, cell, w, ⟨h1, h2, h3, h4⟩, ⟨h5, h6, h7, h8, h9⟩, ⟨hslot, ?_⟩, hS a (Array.getElem?_eq_some_iff.mp h5).1⟩
    simp only [Cond.before, Cond.holds, Cond.value, hv] at hr
    cases w <;> simp_all [Value.isRef]
abbrev nIX : String := "java/lang/IndexOutOfBoundsException"
abbrev nIS : String := "java/lang/IllegalStateException"
abbrev nRT : String := "java/lang/RuntimeException"
abbrev nEX : String := "java/lang/Exception"
/-- what a state must say so that an exception can be thrown there, beside the words of aw; S: the cells of the tables -/
def xE (S : Nat → Prop) (U : State) : Prop := va_Nw (.castable nIX nIX) U ∧ va_Nw (.castable nIS nIS) U ∧ va_Nw (.declares (Bundle.init0 nRT)) U ∧ va_Nw (.declares (Bundle.init0 nEX)) U ∧ va_Nw (.declares (Bundle.init0 Bundle.tN)) U ∧ zA "UNASSIGNED_STACK" Bundle.steD S U ∧ zA "SUPPRESSED_SENTINEL" Bundle.listD S U
theorem xE.same {S : Nat → Prop} {u U : State} (h : u.vm = U.vm) (hh : U.heap = u.heap) (hE : xE S u) : xE S U := by
  obtain ⟨h1, h0, h2, h3, h4, h5, h6⟩ := hE
  have ha : u.vm.Alike U.vm := by rw [h]; exact Vm.Alike.refl _
  exact ⟨va_Nw.same rfl h h1, va_Nw.same rfl h h0, va_Nw.same rfl h h2, va_Nw.same rfl h h3, va_Nw.same rfl h h4, h5.to ha (fun q _ _ => by rw [hh]), h6.to ha (fun q _ _ => by rw [hh])⟩
theorem xE.warm {S : Nat → Prop} {s U : State} (hW : s.WarmedH U.vm) (hh : ∀ q : Nat, q < s.heap.size → ¬ S q → U.heap[q]? = s.heap[q]?) (hE : xE S s) : xE S U := by
  obtain ⟨h1, h0, h2, h3, h4, h5, h6⟩ := hE
  exact ⟨va_Nw.warmC hW h1, va_Nw.warmC hW h0, va_Nw.warmD hW h2, va_Nw.warmD hW h3, va_Nw.warmD hW h4, h5.to hW.alike hh, h6.to hW.alike hh⟩
/-- how a method that throws ends -/
def tO (E : String) (A : Nat → Prop) (B : Heap → Prop) (st : State) (o : Outcome) (t : State) : Prop := ∃ (q : Addr) (ce : Cell) (L : List Loc), o = .threw q ∧ st.heap.size ≤ q ∧ t.heap[q]? = some ce ∧ ce.vm = .none ∧ st.vm.findClass E = some ce.cls ∧ st.WarmedH t.vm ∧ st.sameButNew ({ t with vm := st.vm } : State) L 1 6 ∧ (∀ x ∈ L, A x.base) ∧ B t.heap
def tMet (l : Launch) (y : MethodName) (ws : List Cond) (rm : Room) (Pc : Array Value → State → Prop) (E : String) (A : Nat → Prop) (B : Heap → Prop) : Prop := MetFree l y (headSpec ws rm) Pc (fun _ _ _ _ _ => True) (fun _ st o t => tO E A B st o t)
def tQ (below : List Frame) (s : State) (E : String) (A : Nat → Prop) (B : Heap → Prop) : State → Prop := fun t => ∃ o, t.status = .running ∧ Ended t below o ∧ tO E A B s o t
/-- a contract of a method that throws, out of a walk of its body -/
theorem tOfW {l : Launch} {y : MethodName} {ws ws' : List Cond} {rm : Room} {Pc : Array Value → State → Prop} {E : String} {A : Nat → Prop} {B : Heap → Prop} {cc : ByteArray} {maxL : Nat} {ret : Option FieldType} (hy : plainName y.cls = true) (hw : ws = Cond.code y cc maxL ret :: ws')
    (body : ∀ p e s m args below meth c s₁, BodyLoose p l y (headSpec ws rm) cc maxL ret e s m args below meth c s₁ → c.maxLocals = maxL → (∀ x ∈ c.exceptionTable.toList, False) → Pc args s →
      W p l e (headSpec ws rm).room s m args below meth c s.heap [] 0 0 (tQ below s E A B) (entryFrame m args maxL)) : tMet l y ws rm Pc E A B := by
  have word : ∀ (args : Array Value) (s : State), (headSpec ws rm).pre.before args s = true → (Cond.code y cc maxL ret).before args s = true := fun args s h => atoms_spec h _ (hw ▸ List.mem_cons_self)
  refine MetFree.of_bodyS (code := cc) (maxLocals := maxL) (ret := ret) hy (fun args s m h hm => ?_) (fun p e s m args below meth c s₁ B hml hP _ => ?_)
  · obtain ⟨me, co, i1, i2, i3, i4, i5, i6, -⟩ := Cond.code_spec hm (word args s h)
    exact ⟨me, co, i1, i2, i3, i4, i5, i6⟩
  · have X := Stand.of_body B
    have empty : c.exceptionTable = #[] := by
      obtain ⟨me, co, i1, i2, -, -, -, -, i7, -⟩ := Cond.code_spec B.named (word args s B.pre)
      rw [X.method] at i1
      cases i1
      rw [X.code] at i2
      cases i2
      exact Array.isEmpty_iff.mp i7
    obtain ⟨t, st, o, fin⟩ := body p e s m args below meth c s₁ B hml (fun x hx => by simp [empty] at hx) hP s₁ (by rw [B.state]; rfl) X
    exact ⟨t, o, st, fin⟩
/-- the cells that no place of L names are as they were -/
theorem sb_kept {s U : State} {L : List Loc} {k n : Nat} (h : s.sameButNew ({ U with vm := s.vm } : State) L k n) : s.heap.size ≤ U.heap.size ∧ ∀ q : Nat, q < s.heap.size → (∀ x ∈ L, x.base ≠ q) → U.heap[q]? = s.heap[q]? := by
  refine ⟨h.2.1, fun q hq hL => ?_⟩
  rw [Array.getElem?_eq_getElem hq]
  exact kept_of_same (keep := fun z => z = q) h (fun x hx => hL x hx) q _ rfl (Array.getElem?_eq_getElem hq)
section TH
variable {p : Program} {l : Launch} {e : Env} {R : Room} {s : State} {m : MethodId} {args : Array Value} {below : List Frame} {meth : Method} {c : Code} {H : Heap} {cc : ByteArray} {pc : Nat} {ls : Array Slot} {rest : List Value} {locs : List Loc} {T : State}
/-- the method's start, with what was written since -/
def reS (s T : State) : State := { s with heap := T.heap, slotsUsed := T.slotsUsed }
theorem reX (X : Stand p l e R s m args below meth c T locs 0 0) : Stand p l e R (reS s T) m args below meth c T [] 0 0 := by
  have hz : T.heap.size = s.heap.size := by
    have h1 : s.heap.size ≤ T.heap.size := X.same.2.1
    have h2 := X.heapSize
    omega
  have hu : T.slotsUsed = s.slotsUsed := by
    have h4 : T.slotsUsed = s.slotsUsed + ((T.heap.toList.drop s.heap.size).map (·.slots.size)).sum := X.same.2.2.2.1
    have h5 : ((T.heap.toList.drop s.heap.size).map (·.slots.size)).sum ≤ 0 := X.same.2.2.2.2.1
    omega
  refine ⟨X.admits, X.cas, X.clock, X.frames, ?_, X.hears, X.method, X.code, X.here, X.tail, X.warmed, X.limits, X.bytes, ?_⟩
  · have h0 := X.room
    have hb : (reS s T).slotsTrue = true := X.book
    unfold State.hasRoom at h0 ⊢
    simp only [Bool.and_eq_true] at h0 ⊢
    obtain ⟨⟨⟨⟨g1, g2⟩, g3⟩, g4⟩, g5⟩ := h0
    refine ⟨⟨⟨⟨g1, g2⟩, ?_⟩, ?_⟩, hb⟩
    · show decide (T.heap.size + R.cells ≤ e.platform.maxCells) = true
      rw [hz]; exact g3
    · show decide (T.slotsUsed + R.slots ≤ e.platform.maxSlots) = true
      rw [hu]; exact g4
  · have h1 := X.same.1
    have hd : T.heap.toList.drop T.heap.size = [] := List.drop_eq_nil_of_le (by simp)
    refine ⟨?_, Nat.le_refl _, Nat.le_refl _, ?_, ?_, fun a c9 hc => ⟨c9, hc, rfl, rfl, fun i _ => rfl⟩⟩
    · show T.setVm s.vm = { (reS s T).setFrames (T.setVm s.vm).frames with heap := T.heap, slotsUsed := T.slotsUsed }
      exact h1
    · show T.slotsUsed = T.slotsUsed + ((T.heap.toList.drop T.heap.size).map (·.slots.size)).sum
      rw [hd]; rfl
    · show ((T.heap.toList.drop T.heap.size).map (·.slots.size)).sum ≤ 0
      rw [hd]; exact Nat.le_refl _
/-- where the walk stands, over what has happened since a state with its heap -/
theorem reS_same (X : Stand p l e R s m args below meth c T locs 0 0) {U : State} (h : (reS s T).sameButNew ({ U with vm := s.vm } : State) [] 1 6) : s.sameButNew ({ U with vm := s.vm } : State) locs 1 6 := by
  have h2 : (T.setVm s.vm).sameButNew ({ U with vm := s.vm } : State) [] 1 6 := by
    refine ⟨h.1.trans ?_, h.2⟩
    have back : T.setVm s.vm = ({ s.setFrames T.frames with heap := T.heap, slotsUsed := T.slotsUsed } : State) := X.same.1
    rw [back]
    show ({ s.setFrames U.frames with heap := U.heap, slotsUsed := U.slotsUsed } : State) = { (s.setFrames T.frames).setFrames U.frames with heap := U.heap, slotsUsed := U.slotsUsed }
    rw [State.setFrames_setFrames]
  have h3 := X.same.trans h2
  rw [List.append_nil] at h3
  exact h3
/-- 'throw new E()', whatever was written before: the walk is taken up at a start that has the heap of now (reX); 'new' lays the cell, 'dup' is the kit's row, the constructor and 'athrow' are the library's -/
theorem tThrow {A : Nat → Prop} {B : Heap → Prop} {S : Nat → Prop} (hexec : p.tables.exec = Jvm.exec) (hb : c.code = cc) (hl : l.stackTraces = false) {own cls : String} {names : List String} {ik ic : Nat} (hown : s.vm.findClass own = some m.cls) (hcls : Bundle.fit cls = true) (hnames : ∀ n ∈ names, Bundle.fit n = true)
    (hts : ∀ w ∈ aw, w.before args s = true) (hE : xE S s) (hS : va_S A s.heap H locs) (hSA : ∀ q, q < s.heap.size → A q → S q) (wk : Cond.classLink own ik cls ∈ aw) (wi : Cond.initialized cls ∈ aw) (h : ∀ U : State, (∀ w ∈ aw, w.before args U = true) → xE S U → ∀ w ∈ Bundle.ownAtoms0 own ic cls names, w.before args U = true) (hsize : ls.size = c.maxLocals)
    (d0 : decode cc pc = .ok (.new ik, 3)) (d3 : decode cc (pc + 3) = .ok (.dup, 1)) (d4 : decode cc (pc + 4) = .ok (.invokespecial ic, 3)) (d7 : decode cc (pc + 7) = .ok (.athrow, 1)) (hno : ∀ x ∈ c.exceptionTable.toList, False)
    (hRf : names.length + 3 < R.frames) (hRl : (rest.map fun v => v.category).sum + (13 * (names.length + 1) + 42) ≤ R.locals) (hRc : 0 + 1 ≤ R.cells) (hRs : 0 + 6 ≤ R.slots) (hlocks : meth.locks = false) (hB : ∀ H1 : Heap, H.size ≤ H1.size → (∀ q : Nat, q < H.size → H1[q]? = H[q]?) → B H1) :
    W p l e R s m args below meth c H locs 0 0 (tQ below s cls A B) (F0 m pc ls rest) := by
  intro T hT X0
  subst hT
  have X := reX X0
  have warm : s.WarmedH (reS s T).vm := State.WarmedH.refl s
  have words : ∀ w ∈ aw, w.before args (reS s T) = true := fun w hw => word_at (U := reS s T) warm (aw_good hw) (hts w hw)
  have atoms := h (reS s T) words (hE.warm (U := reS s T) warm (fun q hq hn => hS.2.1 q hq (fun z => hn (hSA q hq z))))
  obtain ⟨vm₁, k, kk, f1, f2, -, -, X1, go⟩ := X.newCold hexec (own := own) (C := cls) (index := ik) (n := 6) hown (words _ wk) (atoms _ (by simp [Bundle.ownAtoms0])) (words _ wi) (g := F0 m pc ls rest) rfl (by rw [hb]; exact d0) hRc hRs
  have rest2 : W p l e R (reS s T) m args below meth c ((T.setVm vm₁).pushCell (freshCell k kk)).heap [] (0 + 1) (0 + 6) (tQ below s cls A B) (F0 m (pc + 3) ls (.ref T.heap.size :: rest)) := by
    refine lv_dup hexec hb d3 rfl (fun T2 hT2 X2 => ?_)
    obtain ⟨U, st, run, fin, w, same, ce, c1, c2⟩ := X2.ctorThrow0 hexec ((congrArg Platform.stackTraces X.admits.platform).trans hl) (names := names) hown hcls hnames atoms (fun x hx => nomatch hx) f1 f2 (by rw [hT2]; exact State.heap_pushCell_size _ _) (Nat.le_refl _) (g := F0 m (pc + 4) ls (.ref T.heap.size :: .ref T.heap.size :: rest)) rfl hsize rfl rfl (rest := rest) rfl
      (by rw [hb]; exact d4) (by rw [hb]; exact d7) (fun x hx => (hno x hx).elim) hRf (show 0 + (1 + (rest.map fun v => v.category).sum) + (13 * (names.length + 1) + 41) ≤ R.locals by omega) hlocks
    have kept := sb_kept (s := reS s T) same
    exact ⟨U, st, .threw T.heap.size, run, fin, T.heap.size, ce, locs, rfl, X0.same.2.1, c1, c2.vm, c2.cls, w, reS_same X0 same, hS.2.2, hB U.heap kept.1 (fun q hq => kept.2 q hq (fun x hx => nomatch hx))⟩
  obtain ⟨t, st, q⟩ := rest2 _ rfl X1
  exact ⟨t, go _ st, q⟩
end TH

