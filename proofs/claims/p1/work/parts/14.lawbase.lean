/-! THE CLAIM OUT OF ONE WALK OF THE LAW'S BODY. Your part is whole_start (and what it stands on); all else here is the same for every law, but numbers. -/
def R_law : String := "DrawingVaultLaw"
def lw_P (b : Addr) (xs : List Int32) (args : Array Value) (s : State) : Prop := args = #[.ref b] ∧ s.IntsAt b xs ∧ xs.length ≤ 6 ∧ (Jvm.Cond.and given_1 narrow_1).before args s = true
def lw_Q (_ : Array Value) (s : State) (o : Outcome) (t : State) : Prop := o = .returned (some (.int 1)) ∧ Framed s o t [] 600002 7302232
def lw_Z (below : List Frame) (a : Array Value) (s : State) : State → Prop := fun t => ∃ o, t.status = .running ∧ Ended t below o ∧ lw_Q a s o t
/-- the law's own end, with 1 on the stack, nothing written that was there before, its room as the claim has it -/
theorem lw_ret {p : Program} {l : Launch} {e : Env} {s : State} {m : MethodId} {below : List Frame} {meth : Method} {c : Code} {b : Nat} (hx : p.tables.exec = Jvm.exec) (hb : c.code = code) (hr : meth.sig.returnType = ret) (hlocks : meth.locks = false) {pc : Nat} {H : Heap} {ls : Array Slot} (hdg : decode code pc = .ok (.ireturn, 1)) : W p l e room_1 s m #[Value.ref b] below meth c H [] 600002 7302232 (lw_Z below #[Value.ref b] s) (F0 m pc ls [.int 1]) := by
  intro T hT X
  obtain ⟨fs, hret, hrun, hended, hW, hframe⟩ := X.leave (v := some (.int 1)) (hlocks := hlocks) (fun h => by rw [hr] at h; cases h)
  have hmeth' : T.vm.method? m = some meth := X.method'
  refine ⟨T.setFrames fs, ?_, .returned (some (.int 1)), hrun, hended, rfl, ⟨_, rfl⟩, hW, hframe⟩
  jvm_step X.here [X.here.top, hx, hb, hdg, hmeth', hr, ret, narrow_b1]
  (try refine ⟨rfl, ?_⟩); (try refine ⟨rfl, ?_⟩)
  first | (intro acts; rw [hret _ acts rfl rfl rfl]) | rw [hret _ _ rfl rfl rfl]
  exact Steps.refl _
/-- what holds at the law's entry: the machine, the code, the tables' words (any of lw_tbl by 'hts w (by decide +kernel)'), the script of L ints xs at the cell b, what the Statement gives of the start (any of its parts by flat_of_before) -/
def lw_At (p : Program) (s : State) (m : MethodId) (meth : Method) (c : Code) (b L : Nat) (xs : Nat → Int32) : Prop :=
  p.tables.exec = Jvm.exec ∧ c.code = code ∧ meth.sig.returnType = ret ∧ c.maxLocals = 7 ∧ s.vm.findClass R_law = some m.cls ∧ (∀ w ∈ lw_tbl, w.before #[Value.ref b] s = true) ∧ va_X b L xs s s.heap ∧ b < s.heap.size ∧ meth.locks = false ∧ (Jvm.Cond.and given_1 narrow_1).before #[Value.ref b] s = true

theorem gt7 {r : Int32} : (7 : Int32) < r ↔ (8 : Int32) ≤ r := by
  rw [Int32.lt_iff_toInt_lt, Int32.le_iff_toInt_le]
  have h7 : (7 : Int32).toInt = 7 := by decide
  have h8 : (8 : Int32).toInt = 8 := by decide
  omega
theorem per_10 {p r : Int32} (h : ¬ p < 0 ∧ ¬ (16 : Int32) ≤ p ∧ ¬ r < 0 ∧ ¬ (7 : Int32) < r) (h2 : p < 0 ∨ (16 : Int32) ≤ p ∨ r < 0 ∨ (8 : Int32) ≤ r) : False := by
  rw [gt7] at h
  rcases h2 with q | q | q | q
  · exact h.1 q
  · exact h.2.1 q
  · exact h.2.2.1 q
  · exact h.2.2.2 q
theorem per_01 {p r : Int32} (h : p < 0 ∨ (16 : Int32) ≤ p ∨ r < 0 ∨ (7 : Int32) < r) (h2 : ¬ p < 0 ∧ ¬ (16 : Int32) ≤ p ∧ ¬ r < 0 ∧ ¬ (8 : Int32) ≤ r) : False := by
  rw [gt7] at h
  rcases h with q | q | q | q
  · exact h2.1 q
  · exact h2.2.1 q
  · exact h2.2.2.1 q
  · exact h2.2.2.2 q
def lawS (p : Program) (l : Launch) (s : State) (m : MethodId) (meth : Method) (c : Code) (b : Nat) (xs : Nat → Int32) (dC : Nat → ClassId) (dI : Nat → Nat → Nat) (A : Nat → Prop) (q1 : Nat) (rt4 : Nat) (dr5 : Nat) (bs6 : Nat) (df7 : Nat) (ch8 : Nat) (pg9 : Nat) (cR14 : ClassId) (cB15 : ClassId) (dv10 : Nat) (do911 : Nat) (cF16 : ClassId) (fv17 : Nat → Int32) (cp12 : Nat) (cn13 : Nat) (q19 : Nat) (nw22 : Nat) (kp23 : Nat) (mk24 : Nat) (co25 : Nat) (se26 : Nat) (cN27 : ClassId) (cK28 : ClassId) (fk29 : Nat → Int32) (q31 : Nat) (cA32 : ClassId) (H : Heap) (locs : List Loc) (ls : Array Slot) : Prop :=
  p.tables.exec = Jvm.exec ∧ c.code = code ∧ meth.sig.returnType = ret ∧ c.maxLocals = 7 ∧ s.vm.findClass RL = some m.cls ∧ (∀ w ∈ aw, w.before #[Value.ref b] s = true) ∧ va_X b 6 xs s s.heap ∧ b < s.heap.size ∧ ¬ A b ∧ meth.locks = false ∧ (∀ q, s.heap.size ≤ q → A q) ∧ (∀ q, A q → s.heap.size ≤ q) ∧ va_P (dC, dI) kCl [(q1, .inr (0, [.ref rt4, .ref dr5, .int 0, .int 0, .ref bs6, .ref df7, .ref ch8, .ref pg9, .int 0])), (rt4, .inl (cR14, 16, .inl (fun _ => 0))), (pg9, .inr (3, [.int 400, .int 0, .int 0, .int 0, .int 0, .int 0])), (bs6, .inl (cB15, 10, .inr (.inr (.inr (.inr (fun _ => none)))))), (df7, .inr (1, [.ref dv10, .ref do911, .int 0])), (dv10, .inl (cF16, 24, .inl fv17)), (ch8, .inr (2, [.ref cp12, .ref cn13, .int 0])), (q19, .inr (4, [.int 0, .int 0, .ref nw22, .ref kp23, .int 0, .int (-1), .ref mk24, .ref co25, .int 0, .int 0, .ref se26])), (nw22, .inl (cN27, 25240, .inl now0)), (kp23, .inl (cK28, 25240, .inl fk29)), (q31, .inl (cA32, 1, .inr (.inl (fun _ => 0))))] H ∧ va_D A [(q1, .inr (0, [.ref rt4, .ref dr5, .int 0, .int 0, .ref bs6, .ref df7, .ref ch8, .ref pg9, .int 0])), (rt4, .inl (cR14, 16, .inl (fun _ => 0))), (pg9, .inr (3, [.int 400, .int 0, .int 0, .int 0, .int 0, .int 0])), (bs6, .inl (cB15, 10, .inr (.inr (.inr (.inr (fun _ => none)))))), (df7, .inr (1, [.ref dv10, .ref do911, .int 0])), (dv10, .inl (cF16, 24, .inl fv17)), (ch8, .inr (2, [.ref cp12, .ref cn13, .int 0])), (q19, .inr (4, [.int 0, .int 0, .ref nw22, .ref kp23, .int 0, .int (-1), .ref mk24, .ref co25, .int 0, .int 0, .ref se26])), (nw22, .inl (cN27, 25240, .inl now0)), (kp23, .inl (cK28, 25240, .inl fk29)), (q31, .inl (cA32, 1, .inr (.inl (fun _ => 0))))] ∧ va_K (dC, dI) kCl [(cR14, .int), (cB15, .object "DrawingVault$Baseline"), (cF16, .int), (cN27, .int), (cK28, .int), (cA32, .long)] s ∧ va_S A s.heap H locs ∧ lv_has ls 7 [(4, .int 0), (3, .ref q31), (2, .ref q19), (1, .ref q1), (0, .ref b)] ∧ xE s ∧ l.stackTraces = false ∧ fk29 16 = 0
set_option maxHeartbeats 4000000 in
set_option maxRecDepth 100000 in
theorem law_tail {p : Program} {l : Launch} {e : Env} {s : State} {m : MethodId} {below : List Frame} {meth : Method} {c : Code} {b : Nat} {xs : Nat → Int32} {A : Nat → Prop} {H : Heap} {locs : List Loc} {ls : Array Slot} {kc ks : Nat} (hx : p.tables.exec = Jvm.exec) (hb : c.code = code) (hr : meth.sig.returnType = ret) (hlocks : meth.locks = false) (hX : va_X b 6 xs s s.heap) (hbl : b < s.heap.size) (hbA : ¬ A b) (hA2 : ∀ q, A q → s.heap.size ≤ q) (hS : va_S A s.heap H locs) (hl : lv_has ls 7 [(4, .int 0), (0, .ref b)]) (hkc : kc ≤ 600002) (hks : ks ≤ 7302232) : W p l e room_1 s m #[Value.ref b] below meth c H locs kc ks (lw_Z below #[Value.ref b] s) (F0 m 1763 ls []) := by
  refine lv_iinc (pc := 1763) (v := 6) hx hb dL_law_1763 hl (k := 0) rfl (by decide) (by decide) rfl (fun ls hl => ?_)
  have hl : lv_has ls 7 [(4, .int 6), (0, .ref b)] := hl
  refine lv_goto (pc := 1766) (tgt := 23) hx hb dL_law_1766 rfl ?_
  refine lv_iload (pc := 23) hx hb dL_law_23 (lv_at hl 0 rfl) ?_
  refine lv_aload_n (pc := 25) hx hb dL_law_25 rfl (lv_at hl 1 rfl) ?_
  refine va_slen (A := A) (pc := 26) hx hb hX hbl hbA hS dL_law_26 ?_
  refine W.eq (g2 := F0 m 27 ls [.int 6, .int 6]) rfl ?_
  refine lv_bipush (pc := 27) (v := 6) hx hb dL_law_27 (by decide) ?_
  refine lv_isub (pc := 29) hx hb dL_law_29 ?_
  refine lv_topi (fun z1 hz2 => ?_)
  obtain rfl : z1 = 0 := hz2.trans (by decide)
  refine lv_icmp_gt (pc := 30) (tgt := 1769) hx hb dL_law_30 rfl (fun h3 => ?_) (fun h3 => absurd h3 (by decide))
  refine lv_iconst (pc := 1769) (v := 1) hx hb dL_law_1769 (by decide) ?_
  refine va_forget (fun q hq => hA2 _ (hS.2.2 q hq)) ?_
  refine W.widen (k := 600002) (n := 7302232) hkc hks ?_
  exact lw_ret hx hb hr hlocks (pc := 1770) dL_law_1770
