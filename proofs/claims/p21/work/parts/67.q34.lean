theorem CA.cp {σ σ' : hT} {u u' : Int → Int} {g : Nat} {d : Int} (hC : CA σ u g) (hw : wf u) (d0 : 0 ≤ d) (d1 : d < u 16) (ho : 0 < u (20 + 80 * d + 1)) (hf : frC (3 * d.toNat) σ σ') (hc : ct σ' (3 * d.toNat) u' (20 + 80 * d)) (hv : ∀ k, ¬ (20 + 80 * d + 2 ≤ k ∧ k < 20 + 80 * d + 80) → u' k = u k) : CA σ' u' g := by
  have h16 := hw.1
  have hD := hw.2.2.2.1 d d0 d1
  have hm := hD.1
  have cD := hC.2.2.2.1 d d0 d1
  have ot : ∀ f j, f ≠ 601 → f ≠ 604 → f ≠ 21 → f ≠ 22 → σ'.1 f j = σ.1 f j := fun f j a b c dd => hf.1 f j (by omega)
  refine hC.upd hw d0 d1 (hf.o (by omega)) (fun k h1 h2 => hv k (by omega)) (hC.allR (ot 103 0 (by decide) (by decide) (by decide) (by decide)) (hv 16 (by omega)) (fun e e0 e1 => hv _ (by omega))) ⟨?_, ?_, ?_, ⟨fun z => hc, fun z => ?_⟩, fun r r0 r1 => ?_⟩
  · rw [hf.2.2]; exact cD.1
  · rw [ot 701 _ (by decide) (by decide) (by decide) (by decide), hv _ (by omega)]; exact cD.2.1
  · rw [ot 702 _ (by decide) (by decide) (by decide) (by decide), hv _ (by omega)]; exact cD.2.2.1
  · rw [hv _ (by omega)] at z; omega
  · rw [hv _ (by omega)] at r1
    have c := cD.2.2.2.2 r r0 r1
    have hsr := sn_v (d := d) (r := r) d0 r0
    refine cRv.v (v := u) ⟨by rw [hf.2.2]; exact c.1, by rw [ot 801 _ (by decide) (by decide) (by decide) (by decide)]; exact c.2.1, by rw [ot 802 _ (by decide) (by decide) (by decide) (by decide)]; exact c.2.2.1, (hf.eq (by omega)).ct c.2.2.2⟩ (hD.2.2.2 r r0 r1).2.2.1 (fun k k0 k1 => hv _ (by omega))
theorem ClsH.off {ok : Prop} {f : (Int → Int) → Int → Int} {s : zT} {g : Nat} {σ : hT} {V : Option (Option Int32 × hT)} (h : s.2.2.1 = 1) (hS : CaS σ s g) (hV : V = some (none, σ)) : ClsH ok f s g σ V :=
  ⟨1, 0, s, σ, Or.inl ⟨h, rfl, rfl, rfl⟩, hV, hS, fun _ _ _ => rfl⟩
theorem ClsH.mk {ok : Prop} {f : (Int → Int) → Int → Int} {s : zT} {g : Nat} {σ : hT} {V : Option (Option Int32 × hT)} (h : s.2.2.1 = 0) (hS : CaS σ s g) (ho : okS s) {d : Int} {why : Int} (hy : 0 ≤ why) (hy8 : why ≤ 8) (hok : ok ↔ why = 0)
    (F : Int32 × hT → Option (Option Int32 × hT)) (hV : V = Option.bind (V_allowed σ (zI why)) F)
    (hno : ∀ σ1, F (zI 0, σ1) = some (some (zI 0), σ1))
    (hk : ok → 0 ≤ d ∧ d < s.1 16 ∧ 0 < s.1 (20 + 80 * d + 1))
    (hv : ok → ∀ k, ¬ (20 + 80 * d + 2 ≤ k ∧ k < 20 + 80 * d + 80) → f s.1 k = s.1 k)
    (hyes : ok → ∀ σ1, ct σ1 (3 * d.toNat) s.1 (20 + 80 * d) → ∃ σ2 , F (zI 1, σ1) = some (some (zI 1), σ2) ∧ frC (3 * d.toNat) σ1 σ2 ∧ ct σ2 (3 * d.toNat) (f s.1) (20 + 80 * d)) : ClsH ok f s g σ V := by
  obtain ⟨v, w, fl, pl⟩ := s
  dsimp only at *
  subst h
  obtain ⟨hw, hfl, hp1, hp2⟩ := ho
  dsimp only at *
  subst hV
  have h8 : f108 σ (sI σ 108 0 0 (zI why)) := f108.s
  have hS1 : CaS (sI σ 108 0 0 (zI why)) (v, w, 0, pl) g := hS.fr h8.v (fun f a b => h8.2 f 0 (by omega))
  rw [eV_allowed hy hy8, Option.bind_some]
  by_cases e : why = 0
  · rw [if_pos e]
    have hk1 := hok.mpr e
    obtain ⟨d0, d1, d2⟩ := hk hk1
    have hvv := hv hk1
    obtain ⟨σ2, q1, q2, q3⟩ := hyes hk1 _ ((hS1.1.2.2.2.1 d d0 d1).2.2.2.1.1 d2)
    refine ⟨0, 1, _, σ2, Or.inr (Or.inr ⟨rfl, hk1, rfl, rfl, rfl⟩), q1, ⟨hS1.1.cp hw d0 d1 d2 q2 q3 hvv, fun e e0 e1 => ?_, ?_⟩, h8.f.tr (fun f j z => q2.1 f j (by omega))⟩
    · have e2 : e < f v 16 := e1
      rw [hvv 16 (by omega)] at e2
      exact (q2.eq (by omega)).cp (hS1.2.1 e e0 e2)
    · have := hS1.2.2
      have e17 := hvv 17 (by omega)
      have e18 := hvv 18 (by omega)
      have e19 := hvv 19 (by omega)
      have q := this.fr (σ' := σ2) (fun f a b => q2.1 f 0 (by omega))
      obtain ⟨g0, g1, g2, g3⟩ := q
      exact ⟨by show _ = zI (f v 17); rw [e17]; exact g0, by show _ = zI (f v 18); rw [e18]; exact g1, by show _ = zI (f v 19); rw [e19]; exact g2, g3⟩
  · rw [if_neg e]
    exact ⟨0, 0, _, _, Or.inr (Or.inl ⟨rfl, fun z => e (hok.mp z), rfl, rfl, rfl⟩), hno _, hS1, h8.f⟩
theorem cpO_k {v : Int → Int} {d p : Int} (hw : wf v) (h : cpOk v d p) : 0 ≤ d ∧ d < v 16 ∧ 0 < v (20 + 80 * d + 1) := by
  obtain ⟨a, b, c, e, f, g⟩ := cpOk_cw hw h
  exact ⟨a, b, e⟩
abbrev oT : Type := Option (Option Int32 × hT)
theorem cpO_n {v : Int → Int} {d p : Int} (h : rts v p = 0 ∨ v (20 + 80 * d + 1) - 1 ≠ p) : ¬ cpOk v d p := fun z => h.elim (fun y => z.1 y) (fun y => y z.2.2.2)
theorem kV_copy {σ : hT} {v : Int → Int} {g : Nat} (hC : CA σ v g) (hw : wf v) {d p : Int} (hp : i32 p) (h : 0 ≤ d ∧ d < v 16) (Y : Int32 → oT) : (¬ cpOk v d p ∧ ∃ why, Option.bind (V_copyRefusal σ (some d.toNat) (zI p)) Y = Y (zI why) ∧ (why = 1 ∨ why = 2)) ∨ (cpOk v d p ∧ Option.bind (V_copyRefusal σ (some d.toNat) (zI p)) Y = Y (zI 0)) := by
  rw [eV_copyS hC hw hp h.1 h.2, Option.bind_some]
  by_cases hr : rts v p = 0
  · exact Or.inl ⟨cpO_n (Or.inl hr), 1, by rw [if_pos hr], Or.inl rfl⟩
  · by_cases h2 : v (20 + 80 * d + 1) - 1 = p
    · exact Or.inr ⟨⟨hr, h.1, h.2, h2⟩, by rw [if_neg hr, if_pos h2]⟩
    · exact Or.inl ⟨cpO_n (Or.inr h2), 2, by rw [if_neg hr, if_neg h2], Or.inr rfl⟩
theorem kV_copyN {σ : hT} {v : Int → Int} {g : Nat} (hC : CA σ v g) (hw : wf v) {p : Int} (hp : i32 p) (Y : Int32 → oT) : ∃ why, Option.bind (V_copyRefusal σ none (zI p)) Y = Y (zI why) ∧ (why = 1 ∨ why = 7) := by
  rw [eV_copyN hC hw hp, Option.bind_some]
  by_cases hr : rts v p = 0
  · exact ⟨1, by rw [if_pos hr], Or.inl rfl⟩
  · exact ⟨7, by rw [if_neg hr], Or.inr rfl⟩
def gPut (j : Nat) (a3 a4 : Int32) : Int32 × hT → oT := fun ⟨y29, σ30⟩ => if y29 = 0 then some (some 0, σ30) else Option.bind (C_setByte σ30 (3 * j) a3 a4) fun ⟨y34, σ35⟩ => some (some 1, σ35)
def g0 : Int32 × hT → oT := fun ⟨y14, σ15⟩ => if y14 = 0 then some (some 0, σ15) else none
theorem sV_put {σ : hT} {a1 a2 a3 a4 : Int32} {o : Option Nat} (h1 : V_needPower σ = some (some (), σ)) (h2 : V_drawingAt σ a1 = some o) : V_put σ a1 a2 a3 a4 = hq o (Option.bind (V_copyRefusal σ none a2) fun y10 => if y10 = 0 then none else Option.bind (V_allowed σ y10) g0) (fun j8 => Option.bind (V_copyRefusal σ (some j8) a2) (fun y19 => (fun X : Int32 → oT => if y19 = 0 then if (C_hasByte σ (3 * j8) a3) = 0 then X 7 else if a4 < 0 then X 7 else if a4 ≤ 255 then X y19 else X 7 else X y19) (fun q21 => Option.bind (V_allowed σ q21) (gPut j8 a3 a4)))) := by
  unfold V_put
  rw [h1]
  show Option.bind (V_drawingAt σ a1) _ = _
  rw [h2]
  rfl
theorem zI_n0 {w : Int} (h : w = 1 ∨ w = 2 ∨ w = 7) : zI w ≠ 0 := by rcases h with rfl | rfl | rfl <;> decide
theorem eV_put {σ : hT} {s : zT} {g : Nat} (hS : CaS σ s g) (ho : okS s) {d p i x : Int} (hd : i32 d) (hp : i32 p) (hi : i32 i) (hx : i32 x) :
    ClsH (putOk s.1 d p i x) (fun u => uv u (20 + 80 * d + 16 + i) x) s g σ (V_put σ (zI d) (zI p) (zI i) (zI x)) := by
  have hpw := hS.2.2.2.2.2.1
  have hi' := hi
  obtain ⟨i1, i2⟩ := hi'
  obtain ⟨x1, x2⟩ := hx
  rcases ho.2.1 with hf | hf
  · rw [hf] at hpw
    have hk : putOk s.1 d p i x → 0 ≤ d ∧ d < s.1 16 ∧ 0 < s.1 (20 + 80 * d + 1) := fun z => cpO_k ho.1 z.1
    have hv : putOk s.1 d p i x → ∀ k, ¬ (20 + 80 * d + 2 ≤ k ∧ k < 20 + 80 * d + 80) → uv s.1 (20 + 80 * d + 16 + i) x k = s.1 k := fun z k hk => uv_n (by have := (cpOk_cw ho.1 z.1).2.2.2.2.1.1; have := z.2; omega)
    rw [sV_put (nP0 hpw) (eV_drawingAt hS.1 ho.1 hd)]
    by_cases h : 0 ≤ d ∧ d < s.1 16
    · rw [if_pos h]
      have cD := hS.1.2.2.2.1 d h.1 h.2
      rcases kV_copy hS.1 ho.1 hp h (fun y19 => (fun X : Int32 → oT => if y19 = 0 then if (C_hasByte σ (3 * d.toNat) (zI i)) = 0 then X 7 else if (zI x) < 0 then X 7 else if (zI x) ≤ 255 then X y19 else X 7 else X y19) (fun q21 => Option.bind (V_allowed σ q21) (gPut d.toNat (zI i) (zI x)))) with ⟨hn, why, q1, q2⟩ | ⟨hcp, q1⟩
      · refine ClsH.mk hf hS ho (d := d) (why := why) (by omega) (by omega) ⟨fun z => absurd z.1 hn, fun z => by omega⟩ (gPut d.toNat (zI i) (zI x)) (q1.trans (if_neg (zI_n0 (by omega)))) (fun σ1 => rfl) hk hv (fun z => absurd z.1 hn)
      · have hcw := (cpOk_cw ho.1 hcp).2.2.2.2.1
        have hb := hcw.1
        have hct := cD.2.2.2.1.1 (cpOk_cw ho.1 hcp).2.2.2.1
        refine ClsH.mk hf hS ho (d := d) (why := if 0 ≤ i ∧ i < s.1 (20 + 80 * d + 2) ∧ 0 ≤ x ∧ x < 256 then 0 else 7) (by split <;> omega) (by split <;> omega) ⟨fun z => by rw [if_pos z.2], fun z => by split at z; exact ⟨hcp, by assumption⟩; omega⟩ (gPut d.toNat (zI i) (zI x)) (q1.trans ?_) (fun σ1 => rfl) hk hv (fun z σ1 hc1 => ?_)
        · have e9 := eC_hasByte hct.1 hb hi
          show (fun X : Int32 → oT => if zI 0 = 0 then if (C_hasByte σ (3 * d.toNat) (zI i)) = 0 then X 7 else if (zI x) < 0 then X 7 else if (zI x) ≤ 255 then X (zI 0) else X 7 else X (zI 0)) (fun q21 => Option.bind (V_allowed σ q21) (gPut d.toNat (zI i) (zI x))) = (fun q21 => Option.bind (V_allowed σ q21) (gPut d.toNat (zI i) (zI x))) _
          generalize (fun q21 => Option.bind (V_allowed σ q21) (gPut d.toNat (zI i) (zI x))) = X
          dsimp only
          by_cases g1 : 0 ≤ i ∧ i < s.1 (20 + 80 * d + 2)
          · by_cases g2 : 0 ≤ x
            · by_cases g3 : x < 256
              · simp (disch := omega) only [l0, l1, l2, l3, l4, l5, l6, l7, l8, l10, l12, l16, l20, l24, l26, l40, l64, l80, l100, l255, l256, l288, l312, l400, l992, l1940, l24980, l25240, xI, xL, xR, zI_neg, zI_add, zI_sub, zI_mul, zI_le, zI_lt, zI_eq, zI_in, zI_nat, Option.bind_some, lt9, hq, Int.add_zero, Int.sub_self, true_or, or_true, true_and, and_true, false_or, or_false, Int.cast_ofNat_Int, ↓reduceIte, e9, if_pos, if_neg]
              · simp (disch := omega) only [l0, l1, l2, l3, l4, l5, l6, l7, l8, l10, l12, l16, l20, l24, l26, l40, l64, l80, l100, l255, l256, l288, l312, l400, l992, l1940, l24980, l25240, xI, xL, xR, zI_neg, zI_add, zI_sub, zI_mul, zI_le, zI_lt, zI_eq, zI_in, zI_nat, Option.bind_some, lt9, hq, Int.add_zero, Int.sub_self, true_or, or_true, true_and, and_true, false_or, or_false, Int.cast_ofNat_Int, ↓reduceIte, e9, if_pos, if_neg]
            · simp (disch := omega) only [l0, l1, l2, l3, l4, l5, l6, l7, l8, l10, l12, l16, l20, l24, l26, l40, l64, l80, l100, l255, l256, l288, l312, l400, l992, l1940, l24980, l25240, xI, xL, xR, zI_neg, zI_add, zI_sub, zI_mul, zI_le, zI_lt, zI_eq, zI_in, zI_nat, Option.bind_some, lt9, hq, Int.add_zero, Int.sub_self, true_or, or_true, true_and, and_true, false_or, or_false, Int.cast_ofNat_Int, ↓reduceIte, e9, if_pos, if_neg]
          · simp (disch := omega) only [l0, l1, l2, l3, l4, l5, l6, l7, l8, l10, l12, l16, l20, l24, l26, l40, l64, l80, l100, l255, l256, l288, l312, l400, l992, l1940, l24980, l25240, xI, xL, xR, zI_neg, zI_add, zI_sub, zI_mul, zI_le, zI_lt, zI_eq, zI_in, zI_nat, Option.bind_some, lt9, hq, Int.add_zero, Int.sub_self, true_or, or_true, true_and, and_true, false_or, or_false, Int.cast_ofNat_Int, ↓reduceIte, e9, if_pos, if_neg]
        · obtain ⟨σ2, q1, q2, q3⟩ := eC_setByte_ct hc1 hcw z.2.1 z.2.2.1 z.2.2.2.1 (show x ≤ 255 by have := z.2.2.2.2; omega)
          refine ⟨σ2, ?_, q2, q3⟩
          show Option.bind (C_setByte σ1 (3 * d.toNat) (zI i) (zI x)) _ = _
          rw [q1]; rfl
    · rw [if_neg h]
      obtain ⟨why, q1, q2⟩ := kV_copyN hS.1 ho.1 hp (fun y10 => if y10 = 0 then none else Option.bind (V_allowed σ y10) g0)
      exact ClsH.mk hf hS ho (d := d) (why := why) (by omega) (by omega) ⟨fun z => absurd ⟨z.1.2.1, z.1.2.2.1⟩ h, fun z => by omega⟩ g0 (q1.trans (if_neg (zI_n0 (by omega)))) (fun σ1 => rfl) hk hv (fun z => absurd ⟨z.1.2.1, z.1.2.2.1⟩ h)
  · rw [hf] at hpw
    exact ClsH.off hf hS (by unfold V_put; rw [nP1 hpw]; rfl)
