theorem dL_law_23 : decode cL_law 23 = .ok (.iload 4, 2) := by decide +kernel
theorem dL_law_25 : decode cL_law 25 = .ok (.aload_n 0, 1) := by decide +kernel
theorem dL_law_26 : decode cL_law 26 = .ok (.arraylength, 1) := by decide +kernel
theorem dL_law_27 : decode cL_law 27 = .ok (.bipush 6, 2) := by decide +kernel
theorem dL_law_29 : decode cL_law 29 = .ok (.isub, 1) := by decide +kernel
theorem dL_law_30 : decode cL_law 30 = .ok (.if_icmp .gt 1193, 3) := by decide +kernel
theorem dL_law_33 : decode cL_law 33 = .ok (.aload_n 0, 1) := by decide +kernel
theorem dL_law_34 : decode cL_law 34 = .ok (.iload 4, 2) := by decide +kernel
theorem dL_law_36 : decode cL_law 36 = .ok (.iaload, 1) := by decide +kernel
theorem dL_law_37 : decode cL_law 37 = .ok (.bipush 31, 2) := by decide +kernel
theorem dL_law_39 : decode cL_law 39 = .ok (.iand, 1) := by decide +kernel
theorem dL_law_40 : decode cL_law 40 = .ok (.tableswitch 1177 0 22 #[108, 148, 176, 216, 256, 320, 372, 448, 500, 540, 592, 644, 696, 736, 749, 801, 865, 905, 957, 1022, 1114, 1139, 1152], 108) := by decide +kernel
theorem dL_law_1217 : decode cL_law 1217 = .ok (.iinc 4 6, 3) := by decide +kernel
theorem dL_law_1220 : decode cL_law 1220 = .ok (.goto (-1197), 3) := by decide +kernel
theorem dL_law_1223 : decode cL_law 1223 = .ok (.iconst 1, 1) := by decide +kernel
theorem dL_law_1224 : decode cL_law 1224 = .ok (.ireturn, 1) := by decide +kernel
def lw_P (b : Addr) (xs : List Int32) (args : Array Value) (s : State) : Prop := args = #[.ref b] ∧ s.IntsAt b xs ∧ xs.length ≤ 3072 ∧ (Jvm.Cond.and given_1 narrow_1).before args s = true
def lw_Q (_ : Array Value) (s : State) (o : Outcome) (t : State) : Prop := o = .returned (some (.int 1)) ∧ Framed s o t [] 601024 7293033
def lw_Z (below : List Frame) (a : Array Value) (s : State) : State → Prop := fun t => ∃ o, t.status = .running ∧ Ended t below o ∧ lw_Q a s o t
/-- the law's own end, with 1 on the stack, nothing written that was there before, its room as the claim has it -/
theorem lw_ret {p : Program} {l : Launch} {e : Env} {s : State} {m : MethodId} {below : List Frame} {meth : Method} {c : Code} {b : Nat} (hx : p.tables.exec = Jvm.exec) (hb : c.code = code) (hr : meth.sig.returnType = ret) (hlocks : meth.locks = false) {pc : Nat} {H : Heap} {ls : Array Slot} (hdg : decode code pc = .ok (.ireturn, 1)) : W p l e room_1 s m #[Value.ref b] below meth c H [] 601024 7293033 (lw_Z below #[Value.ref b] s) (F0 m pc ls [.int 1]) := by
  intro T hT X
  obtain ⟨fs, hret, hrun, hended, hW, hframe⟩ := X.leave (v := some (.int 1)) (hlocks := hlocks) (fun h => by rw [hr] at h; cases h)
  have hmeth' : T.vm.method? m = some meth := X.method'
  refine ⟨T.setFrames fs, ?_, .returned (some (.int 1)), hrun, hended, rfl, ⟨_, rfl⟩, hW, hframe⟩
  jvm_step X.here [X.here.top, hx, hb, hdg, hmeth', hr, ret, narrow_b1]
  (try refine ⟨rfl, ?_⟩); (try refine ⟨rfl, ?_⟩)
  first | (intro acts; rw [hret _ acts rfl rfl rfl]) | rw [hret _ _ rfl rfl rfl]
  exact Steps.refl _
/-- what holds at the law's entry: the machine, the code, the tables' words (any of lw_tbl by 'hts w (by decide +kernel)'), the script of L ints xs at the cell b, what the Statement gives of the start (any of its parts by flat_of_before) -/
def lw_At (p : Program) (s : State) (m : MethodId) (meth : Method) (c : Code) (b L : Nat) (xs : Nat → Int32) : Prop :=
  p.tables.exec = Jvm.exec ∧ c.code = code ∧ meth.sig.returnType = ret ∧ c.maxLocals = 7 ∧ s.vm.findClass R_law = some m.cls ∧ (∀ w ∈ lw_tbl, w.before #[Value.ref b] s = true) ∧ va_X b L xs s s.heap ∧ b < s.heap.size ∧ meth.locks = false ∧ (Jvm.Cond.and given_1 narrow_1).before #[Value.ref b] s = true

theorem nI_z (n : Nat) : nI n = zI n := by
  unfold nI zI
  first | exact (Int32.ofInt_eq_ofNat).symm | rfl
theorem law_gt {a L : Nat} (ha : a < 10000) (hL : L < 10000) (h : ¬ Int32.ofNat L - 6 < nI a) : a + 6 ≤ L := by
  rw [show Int32.ofNat L = nI L from rfl, nI_z, nI_z, show (6 : Int32) = zI 6 from rfl, zI_sub, zI_lt (by omega) (by omega) (by omega) (by omega)] at h
  omega
/-- one case of the law keeps the relation RR -/
def stp (RR : hT → List (Nat × Nat) → Prop) (F : Nat → hT → Int32 → Int32 → Int32 → Int32 → Int32 → Option (Int32 × hT)) : Prop := ∀ (σ : hT) (dom : List (Nat × Nat)) (v1 v2 v3 v4 v5 : Int32), RR σ dom → ∃ (n : Nat) (σ' : hT), F n σ v1 v2 v3 v4 v5 = some (1, σ') ∧ RR σ' dom
def stp1 (RR : hT → List (Nat × Nat) → Prop) : Prop := ∀ (σ : hT) (dom : List (Nat × Nat)) (v1 v2 v3 v4 v5 : Int32), RR σ dom → ∃ (n nw : Nat) (σ' : hT), (∀ r ∈ row6 nw, r ∉ dom) ∧ (∀ r ∈ row7 (12 * nw), r ∉ dom) ∧ LC_1 n σ v1 v2 v3 v4 v5 nw = some (1, σ') ∧ ∀ y σ1, L_drawing n σ v1 nw = some (y, σ1) → RR σ' (dmL y (xL σ1 24 0 0) dom (row6 nw ++ row7 (12 * nw)))
def stp8 (RR : hT → List (Nat × Nat) → Prop) : Prop := ∀ (σ : hT) (dom : List (Nat × Nat)) (v1 v2 v3 v4 v5 : Int32), RR σ dom → ∃ (n nw : Nat) (σ' : hT), (∀ r ∈ row7 nw, r ∉ dom) ∧ LC_8 n σ v1 v2 v3 v4 v5 nw = some (1, σ') ∧ ∀ y σ1, L_checkIn n σ v1 v2 nw = some (y, σ1) → RR σ' (dmL y (xL σ1 24 0 0) dom (row7 nw))
def stp12 (RR : hT → List (Nat × Nat) → Prop) : Prop := ∀ (σ : hT) (dom : List (Nat × Nat)) (v1 v2 v3 v4 v5 : Int32), RR σ dom → ∃ (n nw : Nat) (σ' : hT), (∀ r ∈ row1 nw, r ∉ dom) ∧ LC_12 n σ v1 v2 v3 v4 v5 nw = some (1, σ') ∧ ∀ y σ1, L_baseline n σ v1 v2 nw = some (y, σ1) → RR σ' (dmL y (xL σ1 24 0 0) dom (row1 nw))
def lawP (RR : hT → List (Nat × Nat) → Prop) : Prop := stp RR LC_0 ∧ stp1 RR ∧ stp RR LC_2 ∧ stp RR LC_3 ∧ stp RR LC_4 ∧ stp RR LC_5 ∧ stp RR LC_6 ∧ stp RR LC_7 ∧ stp8 RR ∧ stp RR LC_9 ∧ stp RR LC_10 ∧ stp RR LC_11 ∧ stp12 RR ∧ stp RR LC_13 ∧ stp RR LC_14 ∧ stp RR LC_15 ∧ stp RR LC_16 ∧ stp RR LC_17 ∧ stp RR LC_18 ∧ stp RR LC_19 ∧ stp RR LC_20 ∧ stp RR LC_21 ∧ stp RR LC_22
set_option maxHeartbeats 4000000 in
set_option maxRecDepth 100000 in
theorem law_step {p : Program} {l : Launch} {e : Env} {s : State} {m : MethodId} {below : List Frame} {meth : Method} {c : Code} {b L : Nat} {xs : Nat → Int32} {A : Nat → Prop} {dC : Nat → ClassId} {dI : Nat → Nat → Nat} (hfl : l.stackTraces = false) (C : lawH p s m meth c b L xs A) (hL : L ≤ 3072) (RR : hT → List (Nat × Nat) → Prop) (hRR : lawP RR) (k : Nat) (hk : 6 * k ≤ L + 6)
    (next : 6 * k + 6 ≤ L → ∀ (ad' : Nat → Nat → Nat) (ca' : Nat → Nat → ClassId) (dom' : List (Nat × Nat)) (σ' : hT) (H' : Heap) (locs' : List Loc) (ls' : Array Slot), RR σ' dom' → (0, 0) ∈ dom' → (4, 0) ∈ dom' → (24, 0) ∈ dom' → dom'.Nodup → clo dom' σ'.2.2 → va_P (dC, dI) kCl (w9 ad' ca' dom' σ') H' → va_D A (w9 ad' ca' dom' σ') → hkt (dC, dI) ca' dom' s → va_S A s.heap H' locs' → lv_has ls' 7 [(4, .int (nI (6 * (k + 1)))), (3, .ref (ad' 24 0)), (2, .ref (ad' 4 0)), (1, .ref (ad' 0 0)), (0, .ref b)] → W p l e room_1 s m #[Value.ref b] below meth c H' locs' (18 + 16 * (k + 1)) (52931 + 101 * (k + 1)) (lw_Z below #[Value.ref b] s) (F0 m 23 ls' []))
    : ∀ (ad : Nat → Nat → Nat) (ca : Nat → Nat → ClassId) (dom : List (Nat × Nat)) (σ : hT) (H : Heap) (locs : List Loc) (ls : Array Slot), RR σ dom → (0, 0) ∈ dom → (4, 0) ∈ dom → (24, 0) ∈ dom → dom.Nodup → clo dom σ.2.2 → va_P (dC, dI) kCl (w9 ad ca dom σ) H → va_D A (w9 ad ca dom σ) → hkt (dC, dI) ca dom s → va_S A s.heap H locs → lv_has ls 7 [(4, .int (nI (6 * k))), (3, .ref (ad 24 0)), (2, .ref (ad 4 0)), (1, .ref (ad 0 0)), (0, .ref b)] → W p l e room_1 s m #[Value.ref b] below meth c H locs (18 + 16 * k) (52931 + 101 * k) (lw_Z below #[Value.ref b] s) (F0 m 23 ls []) := by
  intro ad ca dom σ H locs ls hR hmV hmM hmO hN hC hP hD hK hS hl
  obtain ⟨hx, hb, hr, hml, hown, hts, hX, hbl, hbA, hlocks, hA, hA2, hG, hE0⟩ := id C
  refine lv_iload (pc := 23) hx hb dL_law_23 (lv_at hl 0 rfl) ?_
  refine lv_aload_n (pc := 25) hx hb dL_law_25 rfl (lv_at hl 4 rfl) ?_
  refine va_slen (A := A) (pc := 26) hx hb hX hbl hbA hS dL_law_26 ?_
  refine lv_bipush (pc := 27) (v := 6) hx hb dL_law_27 (by decide) ?_
  refine lv_isub (pc := 29) hx hb dL_law_29 ?_
  refine lv_icmp_gt (pc := 30) (tgt := 1223) hx hb dL_law_30 rfl (fun h => ?_) (fun h => ?_)
  · refine lv_iconst (pc := 1223) (v := 1) hx hb dL_law_1223 (by decide) ?_
    refine va_forget (fun q hq => hA2 _ (hS.2.2 q hq)) ?_
    refine W.widen (k := 601024) (n := 7293033) (by omega) (by omega) ?_
    exact lw_ret hx hb hr hlocks (pc := 1224) dL_law_1224
  · have hc : 6 * k + 6 ≤ L := law_gt (by omega) (by omega) h
    have kl : ∀ (ad' : Nat → Nat → Nat) (ca' : Nat → Nat → ClassId) (dom' : List (Nat × Nat)) (σ' : hT) (H' : Heap) (locs' : List Loc) (ls' : Array Slot), RR σ' dom' → (0, 0) ∈ dom' → (4, 0) ∈ dom' → (24, 0) ∈ dom' → dom'.Nodup → clo dom' σ'.2.2 → va_P (dC, dI) kCl (w9 ad' ca' dom' σ') H' → va_D A (w9 ad' ca' dom' σ') → hkt (dC, dI) ca' dom' s → va_S A s.heap H' locs' → lv_has ls' 7 [(4, .int (nI (6 * k))), (3, .ref (ad' 24 0)), (2, .ref (ad' 4 0)), (1, .ref (ad' 0 0)), (0, .ref b)] → W p l e room_1 s m #[Value.ref b] below meth c H' locs' (18 + 16 * k + 16) (52931 + 101 * k + 101) (lw_Z below #[Value.ref b] s) (F0 m 1217 ls' []) := by
      intro ad' ca' dom' σ' H' locs' ls' hR' a1 a2 a3 hN' hC' hP' hD' hK' hS' hl'
      refine lv_iinc (pc := 1217) (v := nI (6 * (k + 1))) hx hb dL_law_1217 hl' (k := 0) rfl (by rw [show Int32.ofInt 6 = nI 6 from rfl, nI_add, show 6 * k + 6 = 6 * (k + 1) by omega]) (by decide) rfl (fun ls9 hl9 => ?_)
      have hl9 : lv_has ls9 7 [(4, .int (nI (6 * (k + 1)))), (3, .ref (ad' 24 0)), (2, .ref (ad' 4 0)), (1, .ref (ad' 0 0)), (0, .ref b)] := hl9
      refine lv_goto (pc := 1220) (tgt := 23) hx hb dL_law_1220 rfl ?_
      exact next hc ad' ca' dom' σ' H' locs' ls9 hR' a1 a2 a3 hN' hC' hP' hD' hK' hS' hl9
    have hv1 : vp_in (nI (6 * k) + 1) L := by rw [show (1 : Int32) = nI 1 from rfl, nI_add]; exact vp_in_nI (by omega) (by omega)
    have hv2 : vp_in (nI (6 * k) + 2) L := by rw [show (2 : Int32) = nI 2 from rfl, nI_add]; exact vp_in_nI (by omega) (by omega)
    have hv3 : vp_in (nI (6 * k) + 3) L := by rw [show (3 : Int32) = nI 3 from rfl, nI_add]; exact vp_in_nI (by omega) (by omega)
    have hv4 : vp_in (nI (6 * k) + 4) L := by rw [show (4 : Int32) = nI 4 from rfl, nI_add]; exact vp_in_nI (by omega) (by omega)
    have hv5 : vp_in (nI (6 * k) + 5) L := by rw [show (5 : Int32) = nI 5 from rfl, nI_add]; exact vp_in_nI (by omega) (by omega)
    refine lv_aload_n (pc := 33) hx hb dL_law_33 rfl (lv_at hl 4 rfl) ?_
    refine lv_iload (pc := 34) hx hb dL_law_34 (lv_at hl 0 rfl) ?_
    refine va_sld (A := A) (pc := 36) hx hb hX hbl hbA hS (vp_in_nI (by omega) (by omega)) dL_law_36 ?_
    refine lv_bipush (pc := 37) (v := 31) hx hb dL_law_37 (by decide) ?_
    refine lv_iand (pc := 39) hx hb dL_law_39 ?_
    refine lv_topi (fun z hz => ?_)
    have kd : W p l e room_1 s m #[Value.ref b] below meth c H locs (18 + 16 * k) (52931 + 101 * k) (lw_Z below #[Value.ref b] s) (F0 m 1217 ls []) := by
      refine W.widen (k := 18 + 16 * k + 16) (n := 52931 + 101 * k + 101) (by omega) (by omega) ?_
      exact kl ad ca dom σ H locs ls hR hmV hmM hmO hN hC hP hD hK hS hl
    rcases pk_ix z (n := 23) (by decide) with h9 | h9 | ⟨j, hj, rfl⟩
    · refine lv_tableOut (pc := 40) (tgt := 1217) hx hb dL_law_40 (Or.inl (tsw_lo h9)) rfl ?_
      exact kd
    · refine lv_tableOut (pc := 40) (tgt := 1217) hx hb dL_law_40 (Or.inr (tsw_hi (n := 22) (by decide) h9)) rfl ?_
      exact kd
    · rcases (show j = 0 ∨ j = 1 ∨ j = 2 ∨ j = 3 ∨ j = 4 ∨ j = 5 ∨ j = 6 ∨ j = 7 ∨ j = 8 ∨ j = 9 ∨ j = 10 ∨ j = 11 ∨ j = 12 ∨ j = 13 ∨ j = 14 ∨ j = 15 ∨ j = 16 ∨ j = 17 ∨ j = 18 ∨ j = 19 ∨ j = 20 ∨ j = 21 ∨ j = 22 by omega) with rfl | rfl | rfl | rfl | rfl | rfl | rfl | rfl | rfl | rfl | rfl | rfl | rfl | rfl | rfl | rfl | rfl | rfl | rfl | rfl | rfl | rfl | rfl
      · refine lv_tableIn (pc := 40) (tgt := 148) (off := 108) hx hb dL_law_40 (by decide) (by decide) (by decide) rfl ?_
        obtain ⟨n, σ', hf, hR'⟩ := hRR.1 σ dom _ _ _ _ _ hR
        exact lawc_0 hfl C ad ca dom σ (nI (6 * k)) n _ _ _ _ _ hv1 hv2 hv3 hv4 hv5 rfl rfl rfl rfl rfl hmV hmM hmO hN hC hP hD hK hS hl (by omega) (by omega) σ' hf (fun ad' ca' dom' H' locs' ls' hd hN' hC' hP' hD' hK' hS' hl' => by
          subst hd
          exact kl ad' ca' _ σ' H' locs' ls' hR' hmV hmM hmO hN' hC' hP' hD' hK' hS' hl')
      · refine lv_tableIn (pc := 40) (tgt := 188) (off := 148) hx hb dL_law_40 (by decide) (by decide) (by decide) rfl ?_
        obtain ⟨n, nw, σ', hfr6, hfr7, hf, hq⟩ := hRR.2.1 σ dom _ _ _ _ _ hR
        exact lawc_1 hfl C ad ca dom σ (nI (6 * k)) n _ _ _ _ _ nw hfr6 hfr7 hv1 hv2 hv3 hv4 hv5 rfl rfl rfl rfl rfl hmV hmM hmO hN hC hP hD hK hS hl (by omega) (by omega) σ' hf (fun ad' ca' dom' H' locs' ls' hd hN' hC' hP' hD' hK' hS' hl' => by
          obtain ⟨y, σ1, hy, hd⟩ := hd
          subst hd
          exact kl ad' ca' _ σ' H' locs' ls' (hq y σ1 hy) (dmL_m hmV) (dmL_m hmM) (dmL_m hmO) hN' hC' hP' hD' hK' hS' hl')
      · refine lv_tableIn (pc := 40) (tgt := 216) (off := 176) hx hb dL_law_40 (by decide) (by decide) (by decide) rfl ?_
        obtain ⟨n, σ', hf, hR'⟩ := hRR.2.2.1 σ dom _ _ _ _ _ hR
        exact lawc_2 hfl C ad ca dom σ (nI (6 * k)) n _ _ _ _ _ hv1 hv2 hv3 hv4 hv5 rfl rfl rfl rfl rfl hmV hmM hmO hN hC hP hD hK hS hl (by omega) (by omega) σ' hf (fun ad' ca' dom' H' locs' ls' hd hN' hC' hP' hD' hK' hS' hl' => by
          subst hd
          exact kl ad' ca' _ σ' H' locs' ls' hR' hmV hmM hmO hN' hC' hP' hD' hK' hS' hl')
      · refine lv_tableIn (pc := 40) (tgt := 256) (off := 216) hx hb dL_law_40 (by decide) (by decide) (by decide) rfl ?_
        obtain ⟨n, σ', hf, hR'⟩ := hRR.2.2.2.1 σ dom _ _ _ _ _ hR
        exact lawc_3 hfl C ad ca dom σ (nI (6 * k)) n _ _ _ _ _ hv1 hv2 hv3 hv4 hv5 rfl rfl rfl rfl rfl hmV hmM hmO hN hC hP hD hK hS hl (by omega) (by omega) σ' hf (fun ad' ca' dom' H' locs' ls' hd hN' hC' hP' hD' hK' hS' hl' => by
          subst hd
          exact kl ad' ca' _ σ' H' locs' ls' hR' hmV hmM hmO hN' hC' hP' hD' hK' hS' hl')
      · refine lv_tableIn (pc := 40) (tgt := 296) (off := 256) hx hb dL_law_40 (by decide) (by decide) (by decide) rfl ?_
        obtain ⟨n, σ', hf, hR'⟩ := hRR.2.2.2.2.1 σ dom _ _ _ _ _ hR
        exact lawc_4 hfl C ad ca dom σ (nI (6 * k)) n _ _ _ _ _ hv1 hv2 hv3 hv4 hv5 rfl rfl rfl rfl rfl hmV hmM hmO hN hC hP hD hK hS hl (by omega) (by omega) σ' hf (fun ad' ca' dom' H' locs' ls' hd hN' hC' hP' hD' hK' hS' hl' => by
          subst hd
          exact kl ad' ca' _ σ' H' locs' ls' hR' hmV hmM hmO hN' hC' hP' hD' hK' hS' hl')
      · refine lv_tableIn (pc := 40) (tgt := 360) (off := 320) hx hb dL_law_40 (by decide) (by decide) (by decide) rfl ?_
        obtain ⟨n, σ', hf, hR'⟩ := hRR.2.2.2.2.2.1 σ dom _ _ _ _ _ hR
        exact lawc_5 hfl C ad ca dom σ (nI (6 * k)) n _ _ _ _ _ hv1 hv2 hv3 hv4 hv5 rfl rfl rfl rfl rfl hmV hmM hmO hN hC hP hD hK hS hl (by omega) (by omega) σ' hf (fun ad' ca' dom' H' locs' ls' hd hN' hC' hP' hD' hK' hS' hl' => by
          subst hd
          exact kl ad' ca' _ σ' H' locs' ls' hR' hmV hmM hmO hN' hC' hP' hD' hK' hS' hl')
      · refine lv_tableIn (pc := 40) (tgt := 412) (off := 372) hx hb dL_law_40 (by decide) (by decide) (by decide) rfl ?_
        obtain ⟨n, σ', hf, hR'⟩ := hRR.2.2.2.2.2.2.1 σ dom _ _ _ _ _ hR
        exact lawc_6 hfl C ad ca dom σ (nI (6 * k)) n _ _ _ _ _ hv1 hv2 hv3 hv4 hv5 rfl rfl rfl rfl rfl hmV hmM hmO hN hC hP hD hK hS hl (by omega) (by omega) σ' hf (fun ad' ca' dom' H' locs' ls' hd hN' hC' hP' hD' hK' hS' hl' => by
          subst hd
          exact kl ad' ca' _ σ' H' locs' ls' hR' hmV hmM hmO hN' hC' hP' hD' hK' hS' hl')
      · refine lv_tableIn (pc := 40) (tgt := 488) (off := 448) hx hb dL_law_40 (by decide) (by decide) (by decide) rfl ?_
        obtain ⟨n, σ', hf, hR'⟩ := hRR.2.2.2.2.2.2.2.1 σ dom _ _ _ _ _ hR
        exact lawc_7 hfl C ad ca dom σ (nI (6 * k)) n _ _ _ _ _ hv1 hv2 hv3 hv4 hv5 rfl rfl rfl rfl rfl hmV hmM hmO hN hC hP hD hK hS hl (by omega) (by omega) σ' hf (fun ad' ca' dom' H' locs' ls' hd hN' hC' hP' hD' hK' hS' hl' => by
          subst hd
          exact kl ad' ca' _ σ' H' locs' ls' hR' hmV hmM hmO hN' hC' hP' hD' hK' hS' hl')
      · refine lv_tableIn (pc := 40) (tgt := 540) (off := 500) hx hb dL_law_40 (by decide) (by decide) (by decide) rfl ?_
        obtain ⟨n, nw, σ', hfr7, hf, hq⟩ := hRR.2.2.2.2.2.2.2.2.1 σ dom _ _ _ _ _ hR
        exact lawc_8 hfl C ad ca dom σ (nI (6 * k)) n _ _ _ _ _ nw hfr7 hv1 hv2 hv3 hv4 hv5 rfl rfl rfl rfl rfl hmV hmM hmO hN hC hP hD hK hS hl (by omega) (by omega) σ' hf (fun ad' ca' dom' H' locs' ls' hd hN' hC' hP' hD' hK' hS' hl' => by
          obtain ⟨y, σ1, hy, hd⟩ := hd
          subst hd
          exact kl ad' ca' _ σ' H' locs' ls' (hq y σ1 hy) (dmL_m hmV) (dmL_m hmM) (dmL_m hmO) hN' hC' hP' hD' hK' hS' hl')
      · refine lv_tableIn (pc := 40) (tgt := 580) (off := 540) hx hb dL_law_40 (by decide) (by decide) (by decide) rfl ?_
        obtain ⟨n, σ', hf, hR'⟩ := hRR.2.2.2.2.2.2.2.2.2.1 σ dom _ _ _ _ _ hR
        exact lawc_9 hfl C ad ca dom σ (nI (6 * k)) n _ _ _ _ _ hv1 hv2 hv3 hv4 hv5 rfl rfl rfl rfl rfl hmV hmM hmO hN hC hP hD hK hS hl (by omega) (by omega) σ' hf (fun ad' ca' dom' H' locs' ls' hd hN' hC' hP' hD' hK' hS' hl' => by
          subst hd
          exact kl ad' ca' _ σ' H' locs' ls' hR' hmV hmM hmO hN' hC' hP' hD' hK' hS' hl')
      · refine lv_tableIn (pc := 40) (tgt := 632) (off := 592) hx hb dL_law_40 (by decide) (by decide) (by decide) rfl ?_
        obtain ⟨n, σ', hf, hR'⟩ := hRR.2.2.2.2.2.2.2.2.2.2.1 σ dom _ _ _ _ _ hR
        exact lawc_10 hfl C ad ca dom σ (nI (6 * k)) n _ _ _ _ _ hv1 hv2 hv3 hv4 hv5 rfl rfl rfl rfl rfl hmV hmM hmO hN hC hP hD hK hS hl (by omega) (by omega) σ' hf (fun ad' ca' dom' H' locs' ls' hd hN' hC' hP' hD' hK' hS' hl' => by
          subst hd
          exact kl ad' ca' _ σ' H' locs' ls' hR' hmV hmM hmO hN' hC' hP' hD' hK' hS' hl')
      · refine lv_tableIn (pc := 40) (tgt := 684) (off := 644) hx hb dL_law_40 (by decide) (by decide) (by decide) rfl ?_
        obtain ⟨n, σ', hf, hR'⟩ := hRR.2.2.2.2.2.2.2.2.2.2.2.1 σ dom _ _ _ _ _ hR
        exact lawc_11 hfl C ad ca dom σ (nI (6 * k)) n _ _ _ _ _ hv1 hv2 hv3 hv4 hv5 rfl rfl rfl rfl rfl hmV hmM hmO hN hC hP hD hK hS hl (by omega) (by omega) σ' hf (fun ad' ca' dom' H' locs' ls' hd hN' hC' hP' hD' hK' hS' hl' => by
          subst hd
          exact kl ad' ca' _ σ' H' locs' ls' hR' hmV hmM hmO hN' hC' hP' hD' hK' hS' hl')
      · refine lv_tableIn (pc := 40) (tgt := 736) (off := 696) hx hb dL_law_40 (by decide) (by decide) (by decide) rfl ?_
        obtain ⟨n, nw, σ', hfr1, hf, hq⟩ := hRR.2.2.2.2.2.2.2.2.2.2.2.2.1 σ dom _ _ _ _ _ hR
        exact lawc_12 hfl C ad ca dom σ (nI (6 * k)) n _ _ _ _ _ nw hfr1 hv1 hv2 hv3 hv4 hv5 rfl rfl rfl rfl rfl hmV hmM hmO hN hC hP hD hK hS hl (by omega) (by omega) σ' hf (fun ad' ca' dom' H' locs' ls' hd hN' hC' hP' hD' hK' hS' hl' => by
          obtain ⟨y, σ1, hy, hd⟩ := hd
          subst hd
          exact kl ad' ca' _ σ' H' locs' ls' (hq y σ1 hy) (dmL_m hmV) (dmL_m hmM) (dmL_m hmO) hN' hC' hP' hD' hK' hS' hl')
      · refine lv_tableIn (pc := 40) (tgt := 776) (off := 736) hx hb dL_law_40 (by decide) (by decide) (by decide) rfl ?_
        obtain ⟨n, σ', hf, hR'⟩ := hRR.2.2.2.2.2.2.2.2.2.2.2.2.2.1 σ dom _ _ _ _ _ hR
        exact lawc_13 hfl C ad ca dom σ (nI (6 * k)) n _ _ _ _ _ hv1 hv2 hv3 hv4 hv5 rfl rfl rfl rfl rfl hmV hmM hmO hN hC hP hD hK hS hl (by omega) (by omega) σ' hf (fun ad' ca' dom' H' locs' ls' hd hN' hC' hP' hD' hK' hS' hl' => by
          subst hd
          exact kl ad' ca' _ σ' H' locs' ls' hR' hmV hmM hmO hN' hC' hP' hD' hK' hS' hl')
      · refine lv_tableIn (pc := 40) (tgt := 789) (off := 749) hx hb dL_law_40 (by decide) (by decide) (by decide) rfl ?_
        obtain ⟨n, σ', hf, hR'⟩ := hRR.2.2.2.2.2.2.2.2.2.2.2.2.2.2.1 σ dom _ _ _ _ _ hR
        exact lawc_14 hfl C ad ca dom σ (nI (6 * k)) n _ _ _ _ _ hv1 hv2 hv3 hv4 hv5 rfl rfl rfl rfl rfl hmV hmM hmO hN hC hP hD hK hS hl (by omega) (by omega) σ' hf (fun ad' ca' dom' H' locs' ls' hd hN' hC' hP' hD' hK' hS' hl' => by
          subst hd
          exact kl ad' ca' _ σ' H' locs' ls' hR' hmV hmM hmO hN' hC' hP' hD' hK' hS' hl')
      · refine lv_tableIn (pc := 40) (tgt := 841) (off := 801) hx hb dL_law_40 (by decide) (by decide) (by decide) rfl ?_
        obtain ⟨n, σ', hf, hR'⟩ := hRR.2.2.2.2.2.2.2.2.2.2.2.2.2.2.2.1 σ dom _ _ _ _ _ hR
        exact lawc_15 hfl C ad ca dom σ (nI (6 * k)) n _ _ _ _ _ hv1 hv2 hv3 hv4 hv5 rfl rfl rfl rfl rfl hmV hmM hmO hN hC hP hD hK hS hl (by omega) (by omega) σ' hf (fun ad' ca' dom' H' locs' ls' hd hN' hC' hP' hD' hK' hS' hl' => by
          subst hd
          exact kl ad' ca' _ σ' H' locs' ls' hR' hmV hmM hmO hN' hC' hP' hD' hK' hS' hl')
      · refine lv_tableIn (pc := 40) (tgt := 905) (off := 865) hx hb dL_law_40 (by decide) (by decide) (by decide) rfl ?_
        obtain ⟨n, σ', hf, hR'⟩ := hRR.2.2.2.2.2.2.2.2.2.2.2.2.2.2.2.2.1 σ dom _ _ _ _ _ hR
        exact lawc_16 hfl C ad ca dom σ (nI (6 * k)) n _ _ _ _ _ hv1 hv2 hv3 hv4 hv5 rfl rfl rfl rfl rfl hmV hmM hmO hN hC hP hD hK hS hl (by omega) (by omega) σ' hf (fun ad' ca' dom' H' locs' ls' hd hN' hC' hP' hD' hK' hS' hl' => by
          subst hd
          exact kl ad' ca' _ σ' H' locs' ls' hR' hmV hmM hmO hN' hC' hP' hD' hK' hS' hl')
      · refine lv_tableIn (pc := 40) (tgt := 945) (off := 905) hx hb dL_law_40 (by decide) (by decide) (by decide) rfl ?_
        obtain ⟨n, σ', hf, hR'⟩ := hRR.2.2.2.2.2.2.2.2.2.2.2.2.2.2.2.2.2.1 σ dom _ _ _ _ _ hR
        exact lawc_17 hfl C ad ca dom σ (nI (6 * k)) n _ _ _ _ _ hv1 hv2 hv3 hv4 hv5 rfl rfl rfl rfl rfl hmV hmM hmO hN hC hP hD hK hS hl (by omega) (by omega) σ' hf (fun ad' ca' dom' H' locs' ls' hd hN' hC' hP' hD' hK' hS' hl' => by
          subst hd
          exact kl ad' ca' _ σ' H' locs' ls' hR' hmV hmM hmO hN' hC' hP' hD' hK' hS' hl')
      · refine lv_tableIn (pc := 40) (tgt := 997) (off := 957) hx hb dL_law_40 (by decide) (by decide) (by decide) rfl ?_
        obtain ⟨n, σ', hf, hR'⟩ := hRR.2.2.2.2.2.2.2.2.2.2.2.2.2.2.2.2.2.2.1 σ dom _ _ _ _ _ hR
        exact lawc_18 hfl C ad ca dom σ (nI (6 * k)) n _ _ _ _ _ hv1 hv2 hv3 hv4 hv5 rfl rfl rfl rfl rfl hmV hmM hmO hN hC hP hD hK hS hl (by omega) (by omega) σ' hf (fun ad' ca' dom' H' locs' ls' hd hN' hC' hP' hD' hK' hS' hl' => by
          subst hd
          exact kl ad' ca' _ σ' H' locs' ls' hR' hmV hmM hmO hN' hC' hP' hD' hK' hS' hl')
      · refine lv_tableIn (pc := 40) (tgt := 1062) (off := 1022) hx hb dL_law_40 (by decide) (by decide) (by decide) rfl ?_
        obtain ⟨n, σ', hf, hR'⟩ := hRR.2.2.2.2.2.2.2.2.2.2.2.2.2.2.2.2.2.2.2.1 σ dom _ _ _ _ _ hR
        exact lawc_19 hfl C ad ca dom σ (nI (6 * k)) n _ _ _ _ _ hv1 hv2 hv3 hv4 hv5 rfl rfl rfl rfl rfl hmV hmM hmO hN hC hP hD hK hS hl (by omega) (by omega) σ' hf (fun ad' ca' dom' H' locs' ls' hd hN' hC' hP' hD' hK' hS' hl' => by
          subst hd
          exact kl ad' ca' _ σ' H' locs' ls' hR' hmV hmM hmO hN' hC' hP' hD' hK' hS' hl')
      · refine lv_tableIn (pc := 40) (tgt := 1154) (off := 1114) hx hb dL_law_40 (by decide) (by decide) (by decide) rfl ?_
        obtain ⟨n, σ', hf, hR'⟩ := hRR.2.2.2.2.2.2.2.2.2.2.2.2.2.2.2.2.2.2.2.2.1 σ dom _ _ _ _ _ hR
        exact lawc_20 hfl C ad ca dom σ (nI (6 * k)) n _ _ _ _ _ hv1 hv2 hv3 hv4 hv5 rfl rfl rfl rfl rfl hmV hmM hmO hN hC hP hD hK hS hl (by omega) (by omega) σ' hf (fun ad' ca' dom' H' locs' ls' hd hN' hC' hP' hD' hK' hS' hl' => by
          subst hd
          exact kl ad' ca' _ σ' H' locs' ls' hR' hmV hmM hmO hN' hC' hP' hD' hK' hS' hl')
      · refine lv_tableIn (pc := 40) (tgt := 1179) (off := 1139) hx hb dL_law_40 (by decide) (by decide) (by decide) rfl ?_
        obtain ⟨n, σ', hf, hR'⟩ := hRR.2.2.2.2.2.2.2.2.2.2.2.2.2.2.2.2.2.2.2.2.2.1 σ dom _ _ _ _ _ hR
        exact lawc_21 hfl C ad ca dom σ (nI (6 * k)) n _ _ _ _ _ hv1 hv2 hv3 hv4 hv5 rfl rfl rfl rfl rfl hmV hmM hmO hN hC hP hD hK hS hl (by omega) (by omega) σ' hf (fun ad' ca' dom' H' locs' ls' hd hN' hC' hP' hD' hK' hS' hl' => by
          subst hd
          exact kl ad' ca' _ σ' H' locs' ls' hR' hmV hmM hmO hN' hC' hP' hD' hK' hS' hl')
      · refine lv_tableIn (pc := 40) (tgt := 1192) (off := 1152) hx hb dL_law_40 (by decide) (by decide) (by decide) rfl ?_
        obtain ⟨n, σ', hf, hR'⟩ := hRR.2.2.2.2.2.2.2.2.2.2.2.2.2.2.2.2.2.2.2.2.2.2 σ dom _ _ _ _ _ hR
        exact lawc_22 hfl C ad ca dom σ (nI (6 * k)) n _ _ _ _ _ hv1 hv2 hv3 hv4 hv5 rfl rfl rfl rfl rfl hmV hmM hmO hN hC hP hD hK hS hl (by omega) (by omega) σ' hf (fun ad' ca' dom' H' locs' ls' hd hN' hC' hP' hD' hK' hS' hl' => by
          subst hd
          exact kl ad' ca' _ σ' H' locs' ls' hR' hmV hmM hmO hN' hC' hP' hD' hK' hS' hl')
theorem law_loop {p : Program} {l : Launch} {e : Env} {s : State} {m : MethodId} {below : List Frame} {meth : Method} {c : Code} {b L : Nat} {xs : Nat → Int32} {A : Nat → Prop} {dC : Nat → ClassId} {dI : Nat → Nat → Nat} (hfl : l.stackTraces = false) (C : lawH p s m meth c b L xs A) (hL : L ≤ 3072) (RR : hT → List (Nat × Nat) → Prop) (hRR : lawP RR) (r : Nat) : ∀ (k : Nat), L ≤ 6 * k + r → 6 * k ≤ L + 6 → ∀ (ad : Nat → Nat → Nat) (ca : Nat → Nat → ClassId) (dom : List (Nat × Nat)) (σ : hT) (H : Heap) (locs : List Loc) (ls : Array Slot), RR σ dom → (0, 0) ∈ dom → (4, 0) ∈ dom → (24, 0) ∈ dom → dom.Nodup → clo dom σ.2.2 → va_P (dC, dI) kCl (w9 ad ca dom σ) H → va_D A (w9 ad ca dom σ) → hkt (dC, dI) ca dom s → va_S A s.heap H locs → lv_has ls 7 [(4, .int (nI (6 * k))), (3, .ref (ad 24 0)), (2, .ref (ad 4 0)), (1, .ref (ad 0 0)), (0, .ref b)] → W p l e room_1 s m #[Value.ref b] below meth c H locs (18 + 16 * k) (52931 + 101 * k) (lw_Z below #[Value.ref b] s) (F0 m 23 ls []) := by
  induction r with
  | zero => intro k h1 h2; exact law_step hfl C hL RR hRR k h2 (fun z => by omega)
  | succ r ih => intro k h1 h2; exact law_step hfl C hL RR hRR k h2 (fun z => ih (k + 1) (by omega) (by omega))
