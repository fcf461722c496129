theorem sn_v {d r : Int} (d0 : 0 ≤ d) (r0 : 0 ≤ r) : ((sn d r : Nat) : Int) = 12 * d + r := Int.toNat_of_nonneg (by omega)
abbrev inDw (d j : Nat) : Prop := j = 3 * d ∨ j = 3 * d + 1 ∨ (j % 3 = 2 ∧ j / 3 / 12 = d)
abbrev pO (d f j : Nat) : Prop := ((f = 701 ∨ f = 702) ∧ j = d) ∨ ((f = 801 ∨ f = 802) ∧ j / 12 = d) ∨ ((f = 601 ∨ f = 604 ∨ f = 21 ∨ f = 22) ∧ inDw d j) ∨ f = 103
def fO (d : Nat) (σ σ' : hT) : Prop := (∀ f j, ¬ (f = 23 ∧ j = d) → σ'.2.2 f j = σ.2.2 f j) ∧ (∀ j, ¬ inDw d j → σ'.2.1 20 j = σ.2.1 20 j) ∧ ∀ f j, ¬ pO d f j → σ'.1 f j = σ.1 f j
theorem fO.rf {d : Nat} {σ : hT} : fO d σ σ := ⟨fun _ _ _ => rfl, fun _ _ => rfl, fun _ _ _ => rfl⟩
theorem fO.tr {d : Nat} {σ σ1 σ2 : hT} (h : fO d σ σ1) (h2 : fO d σ1 σ2) : fO d σ σ2 := ⟨fun f j n => (h2.1 f j n).trans (h.1 f j n), fun j n => (h2.2.1 j n).trans (h.2.1 j n), fun f j n => (h2.2.2 f j n).trans (h.2.2 f j n)⟩
theorem fO.i {d : Nat} {σ σ1 : hT} (h : fO d σ σ1) {f j k : Nat} {x : Int32} (hf : pO d f j) : fO d σ (sI σ1 f j k x) := ⟨h.1, h.2.1, fun f' j' n => (show (sI σ1 f j k x).1 f' j' = _ from r3_ne (fun z => n (by rw [z.1, z.2]; exact hf))).trans (h.2.2 f' j' n)⟩
theorem fO.i9 {d : Nat} {σ σ1 : hT} (h : fO d σ σ1) {f j : Nat} {x : Nat → Int32} (hf : pO d f j) : fO d σ (sI9 σ1 f j x) := ⟨h.1, h.2.1, fun f' j' n => (show (sI9 σ1 f j x).1 f' j' = _ from r3_ne (fun z => n (by rw [z.1, z.2]; exact hf))).trans (h.2.2 f' j' n)⟩
theorem fO.l9 {d : Nat} {σ σ1 : hT} (h : fO d σ σ1) {j : Nat} {x : Nat → Int64} (hf : inDw d j) : fO d σ (sL9 σ1 20 j x) := ⟨h.1, fun j' n => (show (sL9 σ1 20 j x).2.1 20 j' = _ from r3_ne (fun z => n (by rw [z.2]; exact hf))).trans (h.2.1 j' n), h.2.2⟩
theorem fO.r {d : Nat} {σ σ1 : hT} (h : fO d σ σ1) {k : Nat} {x : Option Nat} : fO d σ (sR σ1 23 d k x) := ⟨fun f' j' n => (show (sR σ1 23 d k x).2.2 f' j' = _ from r3_ne (fun z => n z)).trans (h.1 f' j' n), h.2.1, h.2.2⟩
theorem frC.o {d c : Nat} {σ σ' : hT} (h : frC c σ σ') (hc : inDw d c) : fO d σ σ' := ⟨fun f j n => by rw [h.2.2], fun j n => h.2.1 20 j (fun z => n (by rw [z.2]; exact hc)), fun f j n => h.1 f j (fun z => n (Or.inr (Or.inr (Or.inl ⟨z.1, by rw [z.2]; exact hc⟩))))⟩
theorem fO.eq {d c : Nat} {σ σ' : hT} (h : fO d σ σ') (hc : ¬ inDw d c) : eqC σ σ' c := ⟨h.2.2 601 c (by omega), h.2.2 604 c (by omega), h.2.2 21 c (by omega), h.2.2 22 c (by omega), h.2.1 c hc⟩
theorem fO.f {d : Nat} {σ σ' : hT} (h : fO d σ σ') : f15 σ σ' := fun f j z => h.2.2 f j (by omega)
theorem fO.p {d : Nat} {σ σ' : hT} (h : fO d σ σ') : ∀ f, 400 ≤ f → f ≤ 405 → σ'.1 f 0 = σ.1 f 0 := fun f a b => h.2.2 f 0 (by omega)
theorem cDr.o {σ σ' : hT} {v v' : Int → Int} {d : Nat} {e : Int} (h : cDr σ v e) (hO : fO d σ σ') (e0 : 0 ≤ e) (he : e ≠ d) (hw : wfD v e) (hv : ∀ k, 0 ≤ k → k < 80 → v' (20 + 80 * e + k) = v (20 + 80 * e + k)) (hr : ∀ r k, 0 ≤ r → r < v (20 + 80 * e) → 0 ≤ k → k < 80 → v' (1940 + 80 * (12 * e + r) + k) = v (1940 + 80 * (12 * e + r) + k)) : cDr σ' v' e := by
  have h12 := hw.1
  refine cDr.v (v := v) ⟨?_, ?_, ?_, ?_, ?_⟩ hw hv hr
  · rw [hO.1 9 0 (by omega)]; exact h.1
  · rw [hO.2.2 701 _ (by omega)]; exact h.2.1
  · rw [hO.2.2 702 _ (by omega)]; exact h.2.2.1
  · exact (hO.eq (by omega)).cp h.2.2.2.1
  · intro r r0 r1
    have q := h.2.2.2.2 r r0 r1
    have hsn := sn_v e0 r0
    refine ⟨by rw [hO.1 23 _ (by omega)]; exact q.1, by rw [hO.2.2 801 _ (by omega)]; exact q.2.1, by rw [hO.2.2 802 _ (by omega)]; exact q.2.2.1, (hO.eq (by omega)).ct q.2.2.2⟩
theorem CA.upd {σ σ' : hT} {v v' : Int → Int} {g : Nat} {d : Int} (h : CA σ v g) (hw : wf v) (d0 : 0 ≤ d) (d1 : d < v 16) (hO : fO d.toNat σ σ') (hv : ∀ k, ¬ (20 + 80 * d ≤ k ∧ k < 20 + 80 * d + 80) → ¬ (1940 + 960 * d ≤ k ∧ k < 1940 + 960 * d + 960) → v' k = v k) (h103 : σ'.1 103 0 0 = zI (allR v' (v' 16).toNat)) (hd : cDr σ' v' d) : CA σ' v' g := by
  have h16 := hw.1
  have e16 := hv 16 (by omega) (by omega)
  refine ⟨fun p p0 p1 => ?_, ?_, h103, fun e e0 e1 => ?_, fun b b0 b1 => ?_, ?_⟩
  · rw [hO.2.2 8 0 (by omega), hv p (by omega) (by omega)]; exact h.1 p p0 p1
  · rw [hO.2.2 102 0 (by omega), e16]; exact h.2.1
  · rw [e16] at e1
    by_cases ee : e = d
    · subst ee; exact hd
    · exact (h.2.2.2.1 e e0 e1).o hO e0 (by omega) (hw.2.2.2.1 e e0 e1) (fun k k0 k1 => hv _ (by omega) (by omega)) (fun r k r0 r1 k0 k1 => hv _ (by have := (hw.2.2.2.1 e e0 e1).1; omega) (by have := (hw.2.2.2.1 e e0 e1).1; omega))
  · refine cBl.v (v := v) ?_ (fun k k0 k1 => hv _ (by omega) (by omega))
    rcases h.2.2.2.2.1 b b0 b1 with ⟨h1, h2⟩ | ⟨h1, j, h2, h3, h4, h5⟩
    · exact Or.inl ⟨h1, by rw [hO.1 10 0 (by omega)]; exact h2⟩
    · exact Or.inr ⟨h1, j, h2, by rw [hO.1 10 0 (by omega)]; exact h3, by rw [hO.2.2 202 _ (by omega)]; exact h4, fun k k0 k1 => by rw [hO.2.2 11 _ (by omega)]; exact h5 k k0 k1⟩
  · rw [hO.1 105 0 (by omega)]; exact h.2.2.2.2.2
theorem CA.allR {σ σ' : hT} {v v' : Int → Int} {g : Nat} (h : CA σ v g) (h1 : σ'.1 103 0 = σ.1 103 0) (e16 : v' 16 = v 16) (he : ∀ d, 0 ≤ d → d < v 16 → v' (20 + 80 * d) = v (20 + 80 * d)) : σ'.1 103 0 0 = zI (allR v' (v' 16).toNat) := by
  rw [h1, e16, allR_c _ (fun d d0 d1 => he d d0 (by omega))]; exact h.2.2.1
theorem eV_person {σ : hT} {s : zT} {g : Nat} (hS : CaS σ s g) (ho : okS s) {p r : Int} (hp : i32 p) (hr : i32 r) {n : Nat} (hn : 993 ≤ n) :
    ClsC (0 ≤ p ∧ p < 16 ∧ 0 ≤ r ∧ r < 8) 1 (fun u => uv u p r) s g g σ (V_person n σ (zI p) (zI r)) (fun acc => acc) := by
  have hp' := hp
  obtain ⟨p1, p2⟩ := hp
  obtain ⟨r1, r2⟩ := hr
  have hpw := hS.2.2.2.2.2.1
  rcases ho.2.1 with hf | hf
  · rw [hf] at hpw
    refine ClsC.mk hf hS ho (fun _ _ _ => rfl) (why := if 0 ≤ p ∧ p < 16 ∧ 0 ≤ r ∧ r < 8 then 0 else 7) (by split <;> omega) (by split <;> omega) (by split <;> omega) (by omega) (by omega) (fun ⟨y13o, σ14⟩ => ex9 y13o σ14 fun y13 => if y13 = 0 then some (some 0, σ14) else if in9 (zI p) 16 then lt9 (sI σ14 8 0 (zI p).toNatClampNeg (zI r)) fun σ17 => Option.bind (V_finish n σ17 1) fun ⟨y21, σ22⟩ => some (some 1, σ22) else none) ?_ (fun σ1 => rfl) (fun σ1 => rfl) ?_
    · unfold V_person
      rw [nP0 hpw]
      by_cases h1 : 0 ≤ p ∧ p < 16
      · by_cases h2 : 0 ≤ r
        · by_cases h3 : r < 8
          · simp (disch := omega) only [l0, l1, l2, l3, l4, l5, l6, l7, l8, l10, l12, l16, l20, l24, l26, l40, l64, l80, l100, l255, l256, l288, l312, l400, l992, l1940, l24980, l25240, xI, xL, xR, zI_neg, zI_add, zI_sub, zI_mul, zI_le, zI_lt, zI_eq, zI_in, zI_nat, Option.bind_some, lt9, hq, Int.add_zero, Int.sub_self, true_or, or_true, true_and, and_true, false_or, or_false, Int.cast_ofNat_Int, ↓reduceIte, eV_isPerson hp', ex9, if_pos, if_neg]
          · simp (disch := omega) only [l0, l1, l2, l3, l4, l5, l6, l7, l8, l10, l12, l16, l20, l24, l26, l40, l64, l80, l100, l255, l256, l288, l312, l400, l992, l1940, l24980, l25240, xI, xL, xR, zI_neg, zI_add, zI_sub, zI_mul, zI_le, zI_lt, zI_eq, zI_in, zI_nat, Option.bind_some, lt9, hq, Int.add_zero, Int.sub_self, true_or, or_true, true_and, and_true, false_or, or_false, Int.cast_ofNat_Int, ↓reduceIte, eV_isPerson hp', ex9, if_pos, if_neg]
        · simp (disch := omega) only [l0, l1, l2, l3, l4, l5, l6, l7, l8, l10, l12, l16, l20, l24, l26, l40, l64, l80, l100, l255, l256, l288, l312, l400, l992, l1940, l24980, l25240, xI, xL, xR, zI_neg, zI_add, zI_sub, zI_mul, zI_le, zI_lt, zI_eq, zI_in, zI_nat, Option.bind_some, lt9, hq, Int.add_zero, Int.sub_self, true_or, or_true, true_and, and_true, false_or, or_false, Int.cast_ofNat_Int, ↓reduceIte, eV_isPerson hp', ex9, if_pos, if_neg]
      · simp (disch := omega) only [l0, l1, l2, l3, l4, l5, l6, l7, l8, l10, l12, l16, l20, l24, l26, l40, l64, l80, l100, l255, l256, l288, l312, l400, l992, l1940, l24980, l25240, xI, xL, xR, zI_neg, zI_add, zI_sub, zI_mul, zI_le, zI_lt, zI_eq, zI_in, zI_nat, Option.bind_some, lt9, hq, Int.add_zero, Int.sub_self, true_or, or_true, true_and, and_true, false_or, or_false, Int.cast_ofNat_Int, ↓reduceIte, eV_isPerson hp', ex9, if_pos, if_neg]
    · intro hk h17 hpl σ1 hC hP h8
      have hu := wf_person ho.1 h17 hk
      have hC2 : CA (sI σ1 8 0 p.toNat (zI r)) (uv (mv s.1 1) p r) g := by
        refine ⟨fun q q0 q1 => ?_, ?_, ?_, fun d d0 d1 => ?_, fun b b0 b1 => ?_, hC.2.2.2.2.2⟩
        · by_cases e : q = p
          · subst e; rw [rS, uv_s]
          · rw [rK (by omega), uv_n e]; exact hC.1 q q0 q1
        · rw [rO (by decide), uv_n (by omega)]; exact hC.2.1
        · refine hC.allR (rO (by decide)) (uv_n (by omega)) (fun d d0 d1 => uv_n (by omega))
        · rw [uv_n (by omega)] at d1
          have hw := wf_mv (c := 1) ho.1 (by omega) h17
          have q := hC.2.2.2.1 d d0 d1
          refine cDr.v (v := mv s.1 1) ⟨q.1, ?_, ?_, ?_, ?_⟩ (hw.2.2.2.1 d d0 d1) (fun k k0 k1 => uv_n (by omega)) (fun r k r0 r1 k0 k1 => uv_n (by omega))
          · rw [rO (by decide)]; exact q.2.1
          · rw [rO (by decide)]; exact q.2.2.1
          · exact q.2.2.2.1
          · exact q.2.2.2.2
        · exact (hC.2.2.2.2.1 b b0 b1).v (fun k k0 k1 => uv_n (by omega))
      have hP2 : cPg (sI σ1 8 0 p.toNat (zI r)) s.1 0 s.2.2.2 := hP.fr (fun f a b => rO (by omega))
      obtain ⟨σ2, q1, q2, q3, q4, q5⟩ := eV_finish hC2 hu hP2 hpl (by omega) (by rw [uv_n (by omega), mv_17]) (by rw [uv_n (by omega)]; exact uv_s) (by rw [uv_n (by omega), mv_at (by omega) (by omega)]) hn
      refine ⟨σ2, ?_, ⟨q2, q3, q4⟩, f15.tr (fun f j z => rO (by omega)) q5.f⟩
      simp (disch := omega) only [l0, l1, l2, l3, l4, l5, l6, l7, l8, l10, l12, l16, l20, l24, l26, l40, l64, l80, l100, l255, l256, l288, l312, l400, l992, l1940, l24980, l25240, xI, xL, xR, zI_neg, zI_add, zI_sub, zI_mul, zI_le, zI_lt, zI_eq, zI_in, zI_nat, Option.bind_some, lt9, hq, Int.add_zero, Int.sub_self, true_or, or_true, true_and, and_true, false_or, or_false, Int.cast_ofNat_Int, ↓reduceIte, ex9, if_pos, if_neg]
      rw [q1]
      rfl
  · rw [hf] at hpw
    exact ClsC.off hf hS (by unfold V_person; rw [nP1 hpw]; rfl)
