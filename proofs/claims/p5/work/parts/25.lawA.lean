abbrev cL_law : ByteArray := code
abbrev yL_law : MethodName := ⟨"DrawingVaultLaw", "law", "([I)Z"⟩
theorem dL_law_148 : decode cL_law 148 = .ok (.aload_n 1, 1) := by decide +kernel
theorem dL_law_149 : decode cL_law 149 = .ok (.aload_n 0, 1) := by decide +kernel
theorem dL_law_150 : decode cL_law 150 = .ok (.iload 4, 2) := by decide +kernel
theorem dL_law_152 : decode cL_law 152 = .ok (.iconst 1, 1) := by decide +kernel
theorem dL_law_153 : decode cL_law 153 = .ok (.iadd, 1) := by decide +kernel
theorem dL_law_154 : decode cL_law 154 = .ok (.iaload, 1) := by decide +kernel
theorem dL_law_155 : decode cL_law 155 = .ok (.aload_n 0, 1) := by decide +kernel
theorem dL_law_156 : decode cL_law 156 = .ok (.iload 4, 2) := by decide +kernel
theorem dL_law_158 : decode cL_law 158 = .ok (.iconst 2, 1) := by decide +kernel
theorem dL_law_159 : decode cL_law 159 = .ok (.iadd, 1) := by decide +kernel
theorem dL_law_160 : decode cL_law 160 = .ok (.iaload, 1) := by decide +kernel
theorem dL_law_161 : decode cL_law 161 = .ok (.aload_n 3, 1) := by decide +kernel
theorem dL_law_162 : decode cL_law 162 = .ok (.invokestatic 79, 3) := by decide +kernel
theorem dL_law_165 : decode cL_law 165 = .ok (.istore 5, 2) := by decide +kernel
theorem dL_law_167 : decode cL_law 167 = .ok (.aload_n 2, 1) := by decide +kernel
theorem dL_law_168 : decode cL_law 168 = .ok (.aload_n 0, 1) := by decide +kernel
theorem dL_law_169 : decode cL_law 169 = .ok (.iload 4, 2) := by decide +kernel
theorem dL_law_171 : decode cL_law 171 = .ok (.iconst 1, 1) := by decide +kernel
theorem dL_law_172 : decode cL_law 172 = .ok (.iadd, 1) := by decide +kernel
theorem dL_law_173 : decode cL_law 173 = .ok (.iaload, 1) := by decide +kernel
theorem dL_law_174 : decode cL_law 174 = .ok (.aload_n 0, 1) := by decide +kernel
theorem dL_law_175 : decode cL_law 175 = .ok (.iload 4, 2) := by decide +kernel
theorem dL_law_177 : decode cL_law 177 = .ok (.iconst 2, 1) := by decide +kernel
theorem dL_law_178 : decode cL_law 178 = .ok (.iadd, 1) := by decide +kernel
theorem dL_law_179 : decode cL_law 179 = .ok (.iaload, 1) := by decide +kernel
theorem dL_law_180 : decode cL_law 180 = .ok (.invokevirtual 84, 3) := by decide +kernel
theorem dL_law_183 : decode cL_law 183 = .ok (.istore 6, 2) := by decide +kernel
theorem dL_law_185 : decode cL_law 185 = .ok (.goto 1039, 3) := by decide +kernel
theorem wd_774 : (.codeWith ⟨"DrawingVaultLaw", "person", "(LDrawingVault;II[J)I"⟩ method_3_code 5 (Option.some .int) [(0, 17, 20, 13)] : Cond) ∈ aw := aw_in (tb_1 (List.mem_of_getElem? (i := 238) rfl)) rfl
theorem wd_775 : (.methodLink "DrawingVaultLaw" 79 ⟨"DrawingVaultLaw", "person", "(LDrawingVault;II[J)I"⟩ : Cond) ∈ aw := aw_in (tb_1 (List.mem_of_getElem? (i := 236) rfl)) rfl
theorem wd_776 : (.static ⟨"DrawingVaultLaw", "person", "(LDrawingVault;II[J)I"⟩ : Cond) ∈ aw := aw_in (tb_1 (List.mem_of_getElem? (i := 237) rfl)) rfl
theorem wd_777 : (.initialized "DrawingVaultLaw" : Cond) ∈ aw := aw_in (tb_1 (List.mem_of_getElem? (i := 0) rfl)) rfl
theorem wd_778 : (.code ⟨"DrawingVaultModel", "person", "(II)Z"⟩ prog_9_method_31_code 4 (Option.some .boolean) : Cond) ∈ aw := aw_in (tb_4 (List.mem_of_getElem? (i := 72) rfl)) rfl
theorem wd_779 : (.methodLink "DrawingVaultLaw" 84 ⟨"DrawingVaultModel", "person", "(II)Z"⟩ : Cond) ∈ aw := aw_in (tb_4 (List.mem_of_getElem? (i := 69) rfl)) rfl
theorem wd_780 : (.instanceMethod ⟨"DrawingVaultModel", "person", "(II)Z"⟩ : Cond) ∈ aw := aw_in (tb_4 (List.mem_of_getElem? (i := 70) rfl)) rfl
theorem wd_781 : (.selects "DrawingVaultModel" ⟨"DrawingVaultModel", "person", "(II)Z"⟩ ⟨"DrawingVaultModel", "person", "(II)Z"⟩ : Cond) ∈ aw := aw_in (tb_4 (List.mem_of_getElem? (i := 71) rfl)) rfl

def R_law : String := "DrawingVaultLaw"
/-- what the law's start gives for the whole run -/
def lawH (p : Program) (s : State) (m : MethodId) (meth : Method) (c : Code) (b L : Nat) (xs : Nat → Int32) (A : Nat → Prop) : Prop :=
  p.tables.exec = Jvm.exec ∧ c.code = code ∧ meth.sig.returnType = ret ∧ c.maxLocals = 7 ∧ s.vm.findClass RL = some m.cls ∧ (∀ w ∈ aw, w.before #[Value.ref b] s = true) ∧ va_X b L xs s s.heap ∧ b < s.heap.size ∧ ¬ A b ∧ meth.locks = false ∧ (∀ q, s.heap.size ≤ q → A q) ∧ (∀ q, A q → s.heap.size ≤ q) ∧ eG s ∧ xE (fun q => s.heap.size ≤ q) s

/-- a static call of a method that has handlers -/
theorem hxR {p : Program} {l : Launch} {e : Env} {R : Room} {s : State} {m : MethodId} {args : Array Value} {below : List Frame} {meth : Method} {c : Code} {H : Heap} {locs : List Loc} {cells slots : Nat} {y : MethodName} {bytes cc : ByteArray} {maxL nL mc ms index : Nat} {ret : Option FieldType} {hh : List (Nat × Nat × Nat × Nat)} {rm : Room} {Pc : Array Value → State → Prop} {Qc : Array Value → State → Outcome → State → Prop} {free : Addr → Prop} {own : String} {As rest : List Value} {g : JFrame}
    (S : CallFix p m c cc nL s args aw own) (hM : Met l y (Cond.codeWith y bytes maxL ret hh :: aw) rm Pc Qc mc ms free) (n : Nat) (h1 : Cond.methodLink own index y ∈ aw) (h2 : Cond.static y ∈ aw) (h3 : Cond.initialized y.cls ∈ aw) (h4 : Cond.codeWith y bytes maxL ret hh ∈ aw) (hrc : rm.cells = mc) (hrs : rm.slots = ms) (hR : rm.frames + 1 ≤ R.frames ∧ 8 + (maxL + 11) + rm.locals ≤ R.locals)
    (hd : y.cls ≠ "java/lang/invoke/MethodHandle" ∧ y.cls ≠ "java/lang/invoke/VarHandle" ∧ (parseMethodDescriptor y.desc).map (fun d => d.parameters.length) = some n) (hp : PreS s H Pc As)
    (hg : g.method = m) (hn : As.length = n) (hsize : g.locals.size = nL) (hstack : g.stack = As.reverse ++ rest) (hW : 2 * g.monitorRoom + (rest.map fun v => v.category).sum ≤ 8) (hdg : decode cc g.pc = .ok (.invokestatic index, 3)) (hf : cells + mc ≤ R.cells ∧ slots + ms ≤ R.slots) :
    va_Run p l e R s m args below meth c H locs cells slots mc ms g rest (Qc As.toArray) free := by
  obtain ⟨hx, hb, hml, ho, hts⟩ := S
  obtain ⟨mk, me, co, i1, i2, -, -, -, -, -, -, sig9⟩ := Cond.codeWith_spec (hts _ h4)
  have len : As.length = me.sig.parameters.length := by simpa [sig9, hn] using hd.2.2.symm
  have back : Back l R p e below s args y 3 8 (PreOf R mc ms Pc) (PostOf Qc mc ms free) := va_backW (hh := hh) (bytes := bytes) (maxL := maxL) (ret := ret) hM hp.1 hrc hrs hR.1 hR.2 (pay_in hts (gI h4)) List.mem_cons_self (fun a' U hW => word_at hW (aw_good h3) (hts _ h3))
  intro T hT X
  obtain ⟨vm₁, X₁, go⟩ := in9S hx ho (hts _ h1) (hts _ h2) (hts _ h3) ⟨hd.1, hd.2.1⟩ i1 i2 len hg hstack (by rw [hb]; exact hdg) X
  obtain ⟨v, ⟨U, lU, cU, sU⟩, XU, ⟨g', mk', t, L, u1, u2, post, ⟨⟩, inL, ⟨⟩, ⟨⟩⟩, st⟩ := back m meth c ⟨T.setVm vm₁, locs, cells, slots⟩ { g with stack := rest } (.invokestatic index) mk As.toArray X₁ hg (hsize.trans hml.symm) (by rw [hb]; exact hdg) hW (X₁.named i1) ⟨hf.1, hf.2, hp.2 (T.setVm vm₁) hT X₁.warmed⟩
  refine ⟨v, (T.setVm vm₁).calling g' mk' As.toArray, t, U, L, hT, XU, inL, u1, u2, post, fun target h => go target fun acts => ?_⟩
  rw [doInvoke_state]
  exact st.trans h
def LC_0 (n : Nat) (σ : hT) (v1 v2 v3 v4 v5 : Int32) : Option (Int32 × hT) := Option.bind (L_person n σ v1 v2) fun ⟨y1, σ2⟩ => Option.bind (M_person n σ2 v1 v2) fun ⟨y4, σ5⟩ => some (1, σ5)
set_option maxHeartbeats 4000000 in
set_option maxRecDepth 100000 in
theorem lawc_0 {p : Program} {l : Launch} {e : Env} {s : State} {m : MethodId} {below : List Frame} {meth : Method} {c : Code} {b L : Nat} {xs : Nat → Int32} {A : Nat → Prop} {H : Heap} {locs : List Loc} {ls : Array Slot} {dC : Nat → ClassId} {dI : Nat → Nat → Nat} {Q : State → Prop} {kc ks : Nat} (hfl : l.stackTraces = false) (C : lawH p s m meth c b L xs A) (ad : Nat → Nat → Nat) (ca : Nat → Nat → ClassId) (dom : List (Nat × Nat)) (σ : hT) (i : Int32) (n : Nat) (v1 v2 v3 v4 v5 : Int32)
    (hv1 : vp_in (i + 1) L) (hv2 : vp_in (i + 2) L) (hv3 : vp_in (i + 3) L) (hv4 : vp_in (i + 4) L) (hv5 : vp_in (i + 5) L) (e1 : xs (i + 1).toNatClampNeg = v1) (e2 : xs (i + 2).toNatClampNeg = v2) (e3 : xs (i + 3).toNatClampNeg = v3) (e4 : xs (i + 4).toNatClampNeg = v4) (e5 : xs (i + 5).toNatClampNeg = v5)
    (hmV : (0, 0) ∈ dom) (hmM : (4, 0) ∈ dom) (hmO : (24, 0) ∈ dom) (hN : dom.Nodup) (hC : clo dom σ.2.2) (hP : va_P (dC, dI) kCl (w9 ad ca dom σ) H) (hD : va_D A (w9 ad ca dom σ)) (hK : hkt (dC, dI) ca dom s) (hS : va_S A s.heap H locs) (hl : lv_has ls 7 [(4, .int i), (3, .ref (ad 24 0)), (2, .ref (ad 4 0)), (1, .ref (ad 0 0)), (0, .ref b)]) (hkc : kc + 16 ≤ 601024) (hks : ks + 101 ≤ 7293033) (σ' : hT) (hf : LC_0 n σ v1 v2 v3 v4 v5 = some (1, σ'))
    (kk : ∀ (ad' : Nat → Nat → Nat) (ca' : Nat → Nat → ClassId) (dom' : List (Nat × Nat)) (H' : Heap) (locs' : List Loc) (ls' : Array Slot), dom' = dom → dom'.Nodup → clo dom' σ'.2.2 → va_P (dC, dI) kCl (w9 ad' ca' dom' σ') H' → va_D A (w9 ad' ca' dom' σ') → hkt (dC, dI) ca' dom' s → va_S A s.heap H' locs' → lv_has ls' 7 [(4, .int i), (3, .ref (ad' 24 0)), (2, .ref (ad' 4 0)), (1, .ref (ad' 0 0)), (0, .ref b)] → W p l e room_1 s m #[Value.ref b] below meth c H' locs' (kc + 16) (ks + 101) Q (F0 m 1224 ls' [])) :
    W p l e room_1 s m #[Value.ref b] below meth c H locs kc ks Q (F0 m 148 ls []) := by
  obtain ⟨hx, hb, hr, hml, hown, hts, hX, hbl, hbA, hlocks, hA, hA2, hG, hE0⟩ := C
  unfold LC_0 at hf
  refine lv_aload_n (pc := 148) hx hb dL_law_148 rfl (lv_at hl 3 rfl) ?_
  refine lv_aload_n (pc := 149) hx hb dL_law_149 rfl (lv_at hl 4 rfl) ?_
  refine lv_iload (pc := 150) hx hb dL_law_150 (lv_at hl 0 rfl) ?_
  refine lv_iconst (pc := 152) (v := 1) hx hb dL_law_152 (by decide) ?_
  refine lv_iadd (pc := 153) hx hb dL_law_153 ?_
  refine va_sld (A := A) (pc := 154) hx hb hX hbl hbA hS hv1 dL_law_154 ?_
  refine W.eq (g2 := F0 m 155 ls [.int v1, .ref (ad 0 0)]) (by rw [e1]) ?_
  refine lv_aload_n (pc := 155) hx hb dL_law_155 rfl (lv_at hl 4 rfl) ?_
  refine lv_iload (pc := 156) hx hb dL_law_156 (lv_at hl 0 rfl) ?_
  refine lv_iconst (pc := 158) (v := 2) hx hb dL_law_158 (by decide) ?_
  refine lv_iadd (pc := 159) hx hb dL_law_159 ?_
  refine va_sld (A := A) (pc := 160) hx hb hX hbl hbA hS hv2 dL_law_160 ?_
  refine W.eq (g2 := F0 m 161 ls [.int v2, .int v1, .ref (ad 0 0)]) (by rw [e2]) ?_
  refine lv_aload_n (pc := 161) hx hb dL_law_161 rfl (lv_at hl 1 rfl) ?_
  obtain ⟨⟨y1, σ2⟩, hy1, hf⟩ := ob hf
  have hE := xE.mono hE0 (fun q z => hA2 q (w9_xA hD z))
  have hSA : ∀ q : Nat, q < s.heap.size → A q → xS ad dom q := fun q h z => absurd (hA2 q z) (Nat.not_le.mpr h)
  have hFc := w9_free hD hS hA
  refine va_calli (pc := 162) (hxR (As := [.ref (ad 0 0), .int v1, .int v2, .ref (ad 24 0)]) (rest := []) ⟨hx, hb, hml, hown, hts⟩ (t_L_person l dC dI ad ca dom H.size n σ v1 v2 hmV hmO hN hC hfl y1 σ2 hy1) 4 wd_775 wd_776 wd_777 wd_774 rfl rfl ⟨Nat.le_of_ble_eq_true rfl, Nat.le_of_ble_eq_true rfl⟩ (by decide +kernel) ⟨hX_blind, hX_pre hP hK hD hG hE hS hSA⟩ rfl rfl hl.1 rfl (lv_room (Nat.le_of_ble_eq_true rfl)) dL_law_162 ⟨show kc + 0 + 1 ≤ 601024 by omega, show ks + 0 + 6 ≤ 7293033 by omega⟩) hS (fun q _ h => hFc q h) hFc (fun r9 u t H1 locs ht hvm hr9 hB hz1 hk1 hS => ?_)
  obtain ⟨hP, hD, hC⟩ := hB
  rw [ht] at hP
  replace hD := hD.weaken (fun _ _ _ h => hFc _ h)
  generalize H1 = H at hP hS ⊢
  refine W.widen (k := (kc + 1)) (n := (ks + 6)) (by omega) (by omega) ?_
  refine W.eq (g2 := F0 m 165 ls [.int y1]) (by rw [hr9]) ?_
  refine lv_istore (pc := 165) hx hb dL_law_165 hl (by decide) rfl (fun ls hl => ?_)
  have hl : lv_has ls 7 [(5, .int y1), (4, .int i), (3, .ref (ad 24 0)), (2, .ref (ad 4 0)), (1, .ref (ad 0 0)), (0, .ref b)] := hl
  refine lv_aload_n (pc := 167) hx hb dL_law_167 rfl (lv_at hl 3 rfl) ?_
  refine lv_aload_n (pc := 168) hx hb dL_law_168 rfl (lv_at hl 5 rfl) ?_
  refine lv_iload (pc := 169) hx hb dL_law_169 (lv_at hl 1 rfl) ?_
  refine lv_iconst (pc := 171) (v := 1) hx hb dL_law_171 (by decide) ?_
  refine lv_iadd (pc := 172) hx hb dL_law_172 ?_
  refine va_sld (A := A) (pc := 173) hx hb hX hbl hbA hS hv1 dL_law_173 ?_
  refine W.eq (g2 := F0 m 174 ls [.int v1, .ref (ad 4 0)]) (by rw [e1]) ?_
  refine lv_aload_n (pc := 174) hx hb dL_law_174 rfl (lv_at hl 5 rfl) ?_
  refine lv_iload (pc := 175) hx hb dL_law_175 (lv_at hl 1 rfl) ?_
  refine lv_iconst (pc := 177) (v := 2) hx hb dL_law_177 (by decide) ?_
  refine lv_iadd (pc := 178) hx hb dL_law_178 ?_
  refine va_sld (A := A) (pc := 179) hx hb hX hbl hbA hS hv2 dL_law_179 ?_
  refine W.eq (g2 := F0 m 180 ls [.int v2, .int v1, .ref (ad 4 0)]) (by rw [e2]) ?_
  obtain ⟨q3, hq3, eq3⟩ := at_4 (ad := ad) (ca := ca) (σ := σ2) hmM
  obtain ⟨⟨y4, σ5⟩, hy4, hf⟩ := ob hf
  have hFc := w9_free hD hS hA
  refine va_calli (pc := 180) (va_runV (As := [.int v1, .int v2]) (rest := []) ⟨hx, hb, hml, hown, hts⟩ (t_M_person l dC dI ad ca dom H.size n σ2 v1 v2 hmM hN hC y4 σ5 hy4) (cwV 2 hts (gV wd_779 wd_780 wd_781 wd_50 wd_778) rfl rfl rfl (by decide +kernel) ⟨Nat.le_of_ble_eq_true rfl, Nat.le_of_ble_eq_true rfl⟩) ⟨hW_blind, va_recv (q := (RM, TM, 11)) (q0 := q3) (ci := 4) hK.1 hP rfl eq3, hW_pre hP hK hD hG⟩ rfl rfl hl.1 rfl (lv_room (Nat.le_of_ble_eq_true rfl)) dL_law_180 ⟨show kc + 1 + 0 ≤ 601024 by omega, show ks + 6 + 0 ≤ 7293033 by omega⟩) hS (fun q _ h => hFc q h) hFc (fun r9 u t H1 locs ht hvm hr9 hB hz1 hk1 hS => ?_)
  obtain ⟨hP, hD, hC⟩ := hB
  rw [ht] at hP
  replace hD := hD.weaken (fun _ _ _ h => hFc _ h)
  generalize H1 = H at hP hS ⊢
  refine W.eq (g2 := F0 m 183 ls [.int y4]) (by rw [hr9]) ?_
  refine lv_istore (pc := 183) hx hb dL_law_183 hl (by decide) rfl (fun ls hl => ?_)
  have hl : lv_has ls 7 [(6, .int y4), (5, .int y1), (4, .int i), (3, .ref (ad 24 0)), (2, .ref (ad 4 0)), (1, .ref (ad 0 0)), (0, .ref b)] := hl
  refine lv_goto (pc := 185) (tgt := 1224) hx hb dL_law_185 rfl ?_
  obtain ⟨-, h9⟩ := Prod.mk.inj (Option.some.inj hf)
  subst h9
  have hl := lv_sub hl (l' := [(4, .int i), (3, .ref (ad 24 0)), (2, .ref (ad 4 0)), (1, .ref (ad 0 0)), (0, .ref b)]) [2, 3, 4, 5, 6] rfl
  refine W.widen (k := kc + 16) (n := ks + 101) (by omega) (by omega) ?_
  exact kk ad ca dom H _ ls rfl hN hC hP hD hK hS hl
