/-! A method that always throws an exception of class E, having written nothing; its call in the scope of one handler. -/
/-- what a state must say of a static of Throwable: where it lies, and that it holds a reference or null -/
def zS (n d : String) (U : State) : Prop := ∃ (c : ClassId) (k : Class) (i : Nat) (f : Field) (a : Nat) (cell : Cell) (v : Value), U.vm.findClass Bundle.tN = some c ∧ U.fieldFound? Bundle.tN n d = some (c, k, i, f) ∧ f.isStatic = true ∧ k.statics = some a ∧ U.heap[a]? = some cell ∧ cell.vm.isStatics = true ∧ cell.cls = c ∧ f.slot < cell.slots.size ∧ k.staticTypes[f.slot]? = some f.type ∧ cell.slots[f.slot]? = some v ∧ v.isRef = true
theorem zS.to {n d : String} {s U : State} (hvm : s.vm.Alike U.vm) (hh : ∀ q : Nat, q < s.heap.size → U.heap[q]? = s.heap[q]?) (h : zS n d s) : zS n d U := by
  obtain ⟨c, k, i, f, a, cell, v, h1, h2, h3, h4, h5, h6, h7, h8, h9, h10, h11⟩ := h
  obtain ⟨k', hi', he⟩ := State.fieldFound?_setVm hvm h2
  exact ⟨c, k', i, f, a, cell, v, by rw [hvm.findClass]; exact h1, hi', h3, by rw [he]; exact h4, by rw [hh a (Array.getElem?_eq_some_iff.mp h5).1]; exact h5, h6, h7, h8, by rw [he]; exact h9, h10, h11⟩
theorem zS.lays {n d : String} {s : State} {args : Array Value} (h : zS n d s) : (Cond.laysStatic Bundle.tN n d).before args s = true := by
  obtain ⟨c, k, i, f, a, cell, v, h1, h2, h3, h4, h5, h6, h7, h8, h9, -⟩ := h
  show (Cond.laysStatic Bundle.tN n d).holds args s none s [] = true
  exact Cond.laysStatic_of h1 h2 h3 h4 h5 h6 h7 h8 h9
theorem zS.isRef {n d : String} {s : State} {args : Array Value} (h : zS n d s) : (Cond.isRef (.static Bundle.tN n d)).before args s = true := by
  obtain ⟨c, k, i, f, a, cell, v, h1, h2, h3, h4, h5, h6, h7, h8, h9, h10, h11⟩ := h
  have he : (Term.static Bundle.tN n d).eval args s none [] s = some v := by
    simp [Term.eval, State.fieldNamed?, h2, h3, h4, h5, h6, h10]
  simp only [Cond.before, Cond.holds, Cond.value, he]
  cases v <;> simp_all [Value.isRef]
theorem zS.of {n d : String} {s : State} {args : Array Value} (hl : (Cond.laysStatic Bundle.tN n d).before args s = true) (hr : (Cond.isRef (.static Bundle.tN n d)).before args s = true) : zS n d s := by
  obtain ⟨c, k, i, f, a, cell, h1, h2, h3, h4, h5, h6, h7, h8, h9⟩ := Cond.laysStatic_spec hl
  cases hv : (Term.static Bundle.tN n d).eval args s none [] s with
  | none => simp [Cond.before, Cond.holds, Cond.value, hv] at hr
  | some w =>
    obtain ⟨-, a', cell', ha', hc', -, hslot⟩ := Term.static_spec h2 hv
    cases h4.symm.trans ha'
    cases h5.symm.trans hc'
    refine ⟨c, k, i, f, a, cell, w, h1, h2, h3, h4, h5, h6, h7, h8, h9, hslot, ?_⟩
    simp only [Cond.before, Cond.holds, Cond.value, hv] at hr
    cases w <;> simp_all [Value.isRef]
abbrev nIX : String := "java/lang/IndexOutOfBoundsException"
abbrev nRT : String := "java/lang/RuntimeException"
abbrev nEX : String := "java/lang/Exception"
/-- what a state must say so that 'new IndexOutOfBoundsException()' can be thrown there, beside the words of aw -/
def xE (U : State) : Prop := va_Nw (.castable nIX nIX) U ∧ va_Nw (.declares (Bundle.init0 nRT)) U ∧ va_Nw (.declares (Bundle.init0 nEX)) U ∧ va_Nw (.declares (Bundle.init0 Bundle.tN)) U ∧ zS "UNASSIGNED_STACK" Bundle.steD U ∧ zS "SUPPRESSED_SENTINEL" Bundle.listD U
theorem xE_same {u U : State} (h : u.vm = U.vm) (hh : U.heap = u.heap) (hE : xE u) : xE U := by
  obtain ⟨h1, h2, h3, h4, h5, h6⟩ := hE
  have ha : u.vm.Alike U.vm := by rw [h]; exact Vm.Alike.refl _
  exact ⟨va_Nw.same rfl h h1, va_Nw.same rfl h h2, va_Nw.same rfl h h3, va_Nw.same rfl h h4, h5.to ha (fun q _ => by rw [hh]), h6.to ha (fun q _ => by rw [hh])⟩
theorem xE_warm {s U : State} (hW : s.WarmedH U.vm) (hh : ∀ q : Nat, q < s.heap.size → U.heap[q]? = s.heap[q]?) (hE : xE s) : xE U := by
  obtain ⟨h1, h2, h3, h4, h5, h6⟩ := hE
  exact ⟨va_Nw.warmC hW h1, va_Nw.warmD hW h2, va_Nw.warmD hW h3, va_Nw.warmD hW h4, h5.to hW.alike hh, h6.to hW.alike hh⟩
/-- how a method that throws ends -/
def tO (E : String) (st : State) (o : Outcome) (t : State) : Prop := ∃ (q : Addr) (ce : Cell), o = .threw q ∧ t.heap[q]? = some ce ∧ ce.vm = .none ∧ st.vm.findClass E = some ce.cls ∧ st.WarmedH t.vm ∧ st.sameButNew ({ t with vm := st.vm } : State) [] 1 6
def tMet (l : Launch) (y : MethodName) (ws : List Cond) (rm : Room) (Pc : Array Value → State → Prop) (E : String) : Prop := MetFree l y (headSpec ws rm) Pc (fun _ _ _ _ _ => True) (fun _ st o t => tO E st o t)
def tQ (below : List Frame) (s : State) (E : String) : State → Prop := fun t => ∃ o, t.status = .running ∧ Ended t below o ∧ tO E s o t
/-- a contract of a method that throws, out of a walk of its body -/
theorem tOfW {l : Launch} {y : MethodName} {ws ws' : List Cond} {rm : Room} {Pc : Array Value → State → Prop} {E : String} {cc : ByteArray} {maxL : Nat} {ret : Option FieldType} (hy : plainName y.cls = true) (hw : ws = Cond.code y cc maxL ret :: ws')
    (body : ∀ p e s m args below meth c s₁, BodyLoose p l y (headSpec ws rm) cc maxL ret e s m args below meth c s₁ → c.maxLocals = maxL → (∀ x ∈ c.exceptionTable.toList, False) → Pc args s →
      W p l e (headSpec ws rm).room s m args below meth c s.heap [] 0 0 (tQ below s E) (entryFrame m args maxL)) : tMet l y ws rm Pc E := by
  have word : ∀ (args : Array Value) (s : State), (headSpec ws rm).pre.before args s = true → (Cond.code y cc maxL ret).before args s = true := fun args s h => atoms_spec h _ (hw ▸ List.mem_cons_self)
  refine MetFree.of_bodyS (code := cc) (maxLocals := maxL) (ret := ret) hy (fun args s m h hm => ?_) (fun p e s m args below meth c s₁ B hml hP _ => ?_)
  · obtain ⟨me, co, i1, i2, i3, i4, i5, i6, -⟩ := Cond.code_spec hm (word args s h)
    exact ⟨me, co, i1, i2, i3, i4, i5, i6⟩
  · have X := Stand.of_body B
    have empty : c.exceptionTable = #[] := by
      obtain ⟨me, co, i1, i2, -, -, -, -, i7, -⟩ := Cond.code_spec B.named (word args s B.pre)
      rw [X.method] at i1
      cases i1
      rw [X.code] at i2
      cases i2
      exact Array.isEmpty_iff.mp i7
    obtain ⟨t, st, o, fin⟩ := body p e s m args below meth c s₁ B hml (fun x hx => by simp [empty] at hx) hP s₁ (by rw [B.state]; rfl) X
    exact ⟨t, o, st, fin⟩
section TH
variable {p : Program} {l : Launch} {e : Env} {R : Room} {s : State} {m : MethodId} {args : Array Value} {below : List Frame} {meth : Method} {c : Code} {H : Heap} {cc : ByteArray} {pc : Nat} {ls : Array Slot} {rest : List Value}
/-- 'throw new E()' where nothing was written or made before -/
theorem tThrow (hexec : p.tables.exec = Jvm.exec) (hb : c.code = cc) (hl : l.stackTraces = false) {own cls : String} {names : List String} {ik ic : Nat} (hown : s.vm.findClass own = some m.cls) (hcls : Bundle.fit cls = true) (hnames : ∀ n ∈ names, Bundle.fit n = true)
    (hk : (Cond.classLink own ik cls).before args s = true) (hini : (Cond.initialized cls).before args s = true) (h : ∀ w ∈ Bundle.ownAtoms0 own ic cls names, w.before args s = true) (hsize : ls.size = c.maxLocals)
    (d0 : decode cc pc = .ok (.new ik, 3)) (d3 : decode cc (pc + 3) = .ok (.dup, 1)) (d4 : decode cc (pc + 4) = .ok (.invokespecial ic, 3)) (d7 : decode cc (pc + 7) = .ok (.athrow, 1)) (hno : ∀ x ∈ c.exceptionTable.toList, False)
    (hRf : names.length + 3 < R.frames) (hRl : (rest.map fun v => v.category).sum + (13 * (names.length + 1) + 42) ≤ R.locals) (hRc : 0 + 1 ≤ R.cells) (hRs : 0 + 6 ≤ R.slots) (hlocks : meth.locks = false) (hH : H = s.heap) :
    W p l e R s m args below meth c H [] 0 0 (tQ below s cls) (F0 m pc ls rest) := by
  intro T hT X
  obtain ⟨vm₁, k, kk, f1, f2, -, -, X1, go⟩ := X.newCold hexec (own := own) (C := cls) (index := ik) (n := 6) hown hk (h _ (by simp [Bundle.ownAtoms0])) hini (g := F0 m pc ls rest) rfl (by rw [hb]; exact d0) hRc hRs
  have rest2 : W p l e R s m args below meth c ((T.setVm vm₁).pushCell (freshCell k kk)).heap [] (0 + 1) (0 + 6) (tQ below s cls) (F0 m (pc + 3) ls (.ref T.heap.size :: rest)) := by
    refine lv_dup hexec hb d3 rfl (fun T2 hT2 X2 => ?_)
    obtain ⟨U, st, run, fin, w, same, ce, c1, c2⟩ := X2.ctorThrow0 hexec ((congrArg Platform.stackTraces X.admits.platform).trans hl) (names := names) hown hcls hnames h (fun x hx => nomatch hx) f1 f2 (by rw [hT2]; exact State.heap_pushCell_size _ _) (by rw [hT, hH]; exact Nat.le_refl _) (g := F0 m (pc + 4) ls (.ref T.heap.size :: .ref T.heap.size :: rest)) rfl hsize rfl rfl (rest := rest) rfl
      (by rw [hb]; exact d4) (by rw [hb]; exact d7) (fun x hx => (hno x hx).elim) hRf (show 0 + (1 + (rest.map fun v => v.category).sum) + (13 * (names.length + 1) + 41) ≤ R.locals by omega) hlocks
    exact ⟨U, st, .threw T.heap.size, run, fin, T.heap.size, ce, rfl, c1, c2.vm, c2.cls, w, same⟩
  obtain ⟨t, st, q⟩ := rest2 _ rfl X1
  exact ⟨t, go _ st, q⟩
end TH
/-- the cells that were there are as they were -/
theorem sb_kept {s U : State} {k n : Nat} (h : s.sameButNew ({ U with vm := s.vm } : State) [] k n) : s.heap.size ≤ U.heap.size ∧ ∀ q : Nat, q < s.heap.size → U.heap[q]? = s.heap[q]? := by
  refine ⟨h.2.1, fun q hq => ?_⟩
  rw [Array.getElem?_eq_getElem hq]
  exact kept_of_same (keep := fun z => z = q) h (fun x hx => nomatch hx) q _ rfl (Array.getElem?_eq_getElem hq)
