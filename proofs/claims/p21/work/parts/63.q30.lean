theorem CA.fc {σ σ' : hT} {v : Int → Int} {g k : Nat} (h : CA σ v g) (hf : frC (3 * k + 1) σ σ') : CA σ' v g := by
  have o : ∀ f j, f ≠ 601 → f ≠ 604 → f ≠ 21 → f ≠ 22 → σ'.1 f j = σ.1 f j := fun f j a b c d => hf.1 f j (by omega)
  refine ⟨fun p p0 p1 => by rw [o 8 0 (by decide) (by decide) (by decide) (by decide)]; exact h.1 p p0 p1, by rw [o 102 0 (by decide) (by decide) (by decide) (by decide)]; exact h.2.1, by rw [o 103 0 (by decide) (by decide) (by decide) (by decide)]; exact h.2.2.1, fun d d0 d1 => ?_, fun b b0 b1 => ?_, by rw [hf.2.2]; exact h.2.2.2.2.2⟩
  · have hd := h.2.2.2.1 d d0 d1
    refine ⟨by rw [hf.2.2]; exact hd.1, by rw [o 701 _ (by decide) (by decide) (by decide) (by decide)]; exact hd.2.1, by rw [o 702 _ (by decide) (by decide) (by decide) (by decide)]; exact hd.2.2.1, (hf.eq (by omega)).cp hd.2.2.2.1, fun r r0 r1 => ?_⟩
    have hr := hd.2.2.2.2 r r0 r1
    exact ⟨by rw [hf.2.2]; exact hr.1, by rw [o 801 _ (by decide) (by decide) (by decide) (by decide)]; exact hr.2.1, by rw [o 802 _ (by decide) (by decide) (by decide) (by decide)]; exact hr.2.2.1, (hf.eq (by omega)).ct hr.2.2.2⟩
  · rcases h.2.2.2.2.1 b b0 b1 with ⟨h1, h2⟩ | ⟨h1, j, h2, h3, h4, h5⟩
    · exact Or.inl ⟨h1, by rw [hf.2.2]; exact h2⟩
    · exact Or.inr ⟨h1, j, h2, by rw [hf.2.2]; exact h3, by rw [o 202 _ (by decide) (by decide) (by decide) (by decide)]; exact h4, fun k k0 k1 => by rw [o 11 _ (by decide) (by decide) (by decide) (by decide)]; exact h5 k k0 k1⟩
def fF (σ σ' : hT) : Prop := σ'.2.2 = σ.2.2 ∧ ∀ f j, ¬ ((400 ≤ f ∧ f ≤ 405) ∨ f = 14 ∨ f = 302 ∨ f = 601 ∨ f = 604 ∨ f = 21 ∨ f = 22) → σ'.1 f j = σ.1 f j
theorem fF.rf {σ : hT} : fF σ σ := ⟨rfl, fun _ _ _ => rfl⟩
theorem fF.tr {σ σ1 σ2 : hT} (h : fF σ σ1) (h2 : fF σ1 σ2) : fF σ σ2 := ⟨h2.1.trans h.1, fun f j n => (h2.2 f j n).trans (h.2 f j n)⟩
theorem fF.i {σ σ1 : hT} (h : fF σ σ1) {f j k : Nat} {x : Int32} (hf : 400 ≤ f ∧ f ≤ 405) : fF σ (sI σ1 f j k x) := ⟨h.1, fun f' j' n => (show (sI σ1 f j k x).1 f' j' = _ from r3_ne (fun z => n (by omega))).trans (h.2 f' j' n)⟩
theorem fK.f {σ σ' : hT} (h : fK σ σ') : fF σ σ' := ⟨h.1, fun f j n => h.2.2 f j (by omega) (by omega)⟩
theorem frC.f {c : Nat} {σ σ' : hT} (h : frC c σ σ') : fF σ σ' := ⟨h.2.2, fun f j n => h.1 f j (by omega)⟩
theorem eV_fin_L {u : Int → Int} {g : Nat} (hw : wf u) {n : Nat} (kx : hT → Int32 → Int32 → Option (Unit × hT)) (x : Int32) (K : Nat) : ∀ (σ : hT) (d : Nat), CA σ u g → (∀ e : Int, 0 ≤ e → e < d → cCp σ (3 * e.toNat + 1) u e) → (d : Int) ≤ u 16 → u 16 - d < K →
    ∃ σ', V_finish_L10 n kx K σ (zI d) x = kx σ' (zI (u 16)) x ∧ CA σ' u g ∧ cW σ' u u ∧ fF σ σ' ∧ ∀ f, 400 ≤ f → f ≤ 405 → σ'.1 f 0 = σ.1 f 0 := by
  have h16 := hw.1
  induction K with
  | zero => intro σ d _ _ _ h; omega
  | succ K ih =>
    intro σ d hC hI hd hK
    by_cases hx : u 16 ≤ d
    · have e : u 16 = d := by omega
      refine ⟨σ, ?_, hC, fun k k0 k1 => hI k k0 (by omega), fF.rf, fun _ _ _ => rfl⟩
      unfold V_finish_L10
      simp (disch := omega) only [l0, l1, l2, l3, l4, l5, l6, l7, l8, l10, l12, l16, l20, l24, l26, l40, l64, l80, l100, l255, l256, l288, l312, l400, l992, l1940, l24980, l25240, xI, xL, xR, zI_neg, zI_add, zI_sub, zI_mul, zI_le, zI_lt, zI_eq, zI_in, zI_nat, Option.bind_some, lt9, hq, Int.add_zero, Int.sub_self, true_or, or_true, true_and, and_true, false_or, or_false, Int.cast_ofNat_Int, ↓reduceIte, hC.2.1, if_pos, if_neg]
      rw [e]
    · have hD := hw.2.2.2.1 d (by omega) (by omega)
      have cD := hC.2.2.2.1 d (by omega) (by omega)
      have c1 := cD.1
      have c4 := cD.2.2.2.1
      rw [Int.toNat_natCast] at c1 c4
      obtain ⟨σ1, q1, q2, q3, q4⟩ := eC_takeFrom (σ := σ) (c := 3 * d + 1) (c1 := 3 * d) (by omega)
      obtain ⟨σ2, r1, r2, r3, r4, r5⟩ := ih σ1 (d + 1) (hC.fc q2) (fun e e0 e1 => by
        by_cases ee : e = d
        · subst ee
          rw [Int.toNat_natCast]
          exact ⟨fun z => q3 u _ (hD.2.2.1 z) (c4.1 z), fun z => q4 (c4.2 z)⟩
        · exact (q2.eq (by omega)).cp (hI e e0 (by omega))) (by omega) (by omega)
      refine ⟨σ2, ?_, r2, r3, q2.f.tr r4, fun f a b => (r5 f a b).trans (q2.1 f 0 (by omega))⟩
      rw [← r1]
      conv => lhs; unfold V_finish_L10
      rw [Int.natCast_add, Int.cast_ofNat_Int]
      simp (disch := omega) only [l0, l1, l2, l3, l4, l5, l6, l7, l8, l10, l12, l16, l20, l24, l26, l40, l64, l80, l100, l255, l256, l288, l312, l400, l992, l1940, l24980, l25240, xI, xL, xR, zI_neg, zI_add, zI_sub, zI_mul, zI_le, zI_lt, zI_eq, zI_in, zI_nat, Option.bind_some, lt9, hq, Int.add_zero, Int.sub_self, true_or, or_true, true_and, and_true, false_or, or_false, Int.cast_ofNat_Int, ↓reduceIte, hC.2.1, Int.toNat_natCast, c1, q1, if_pos, if_neg]
theorem eP_write {σ : hT} {u s0 : Int → Int} (g : Nat) {pl c : Int} (hP : cPg σ s0 0 pl) (hpl : pl = -1 ∨ c ≤ pl) (hc0 : 0 ≤ c) (h17 : u 17 = s0 17 - c) (h18 : u 18 = s0 18 + 1) (h19 : u 19 = s0 19) : ∃ σ1, P_write σ (zI c) = some ((), σ1) ∧ cPg σ1 u 0 (if pl = -1 then -1 else pl - c) ∧ fV g σ σ1 ∧ fF σ σ1 := by
  obtain ⟨g0, g1, g2, g3, g4, g5⟩ := hP
  unfold P_write
  by_cases e : pl = -1
  · rw [if_pos e] at g4
    refine ⟨sI (sI σ 400 0 0 (zI (u 17))) 401 0 0 (zI (u 18)), ?_, ⟨?_, ?_, ?_, ?_, ?_, ?_⟩, (fV.rf.i (by omega)).i (by omega), (fF.rf.i (by omega)).i (by omega)⟩
    · simp (disch := omega) only [l0, l1, l2, l3, l4, l5, l6, l7, l8, l10, l12, l16, l20, l24, l26, l40, l64, l80, l100, l255, l256, l288, l312, l400, l992, l1940, l24980, l25240, xI, xL, xR, zI_neg, zI_add, zI_sub, zI_mul, zI_le, zI_lt, zI_eq, zI_in, zI_nat, Option.bind_some, lt9, hq, Int.add_zero, Int.sub_self, true_or, or_true, true_and, and_true, false_or, or_false, Int.cast_ofNat_Int, ↓reduceIte, g0, rO, g1, g4, h17, h18, if_pos, if_neg]
    · simp (disch := first | decide | omega) only [rS, rO, rK, rJ, lS, lK, lO, lJ, lI, lI9, lR, lR9, rL, rL9, rS9, rO9, rJ9, lS9, lO9, lJ9, uv_s, uv_n]
    · simp (disch := first | decide | omega) only [rS, rO, rK, rJ, lS, lK, lO, lJ, lI, lI9, lR, lR9, rL, rL9, rS9, rO9, rJ9, lS9, lO9, lJ9, uv_s, uv_n]
    · simp (disch := first | decide | omega) only [rS, rO, rK, rJ, lS, lK, lO, lJ, lI, lI9, lR, lR9, rL, rL9, rS9, rO9, rJ9, lS9, lO9, lJ9, uv_s, uv_n]; rw [g2, h19]
    · simp (disch := first | decide | omega) only [rS, rO, rK, rJ, lS, lK, lO, lJ, lI, lI9, lR, lR9, rL, rL9, rS9, rO9, rJ9, lS9, lO9, lJ9, uv_s, uv_n]; exact g3
    · simp (disch := first | decide | omega) only [rS, rO, rK, rJ, lS, lK, lO, lJ, lI, lI9, lR, lR9, rL, rL9, rS9, rO9, rJ9, lS9, lO9, lJ9, uv_s, uv_n]; rw [g4, if_pos e]; rfl
    · intro z; exact absurd (if_pos e) z
  · rw [if_neg e] at g4
    have g5' := g5 e
    refine ⟨sI (sI (sI σ 400 0 0 (zI (u 17))) 401 0 0 (zI (u 18))) 405 0 0 (zI (pl - c)), ?_, ⟨?_, ?_, ?_, ?_, ?_, ?_⟩, ((fV.rf.i (by omega)).i (by omega)).i (by omega), ((fF.rf.i (by omega)).i (by omega)).i (by omega)⟩
    · simp (disch := omega) only [l0, l1, l2, l3, l4, l5, l6, l7, l8, l10, l12, l16, l20, l24, l26, l40, l64, l80, l100, l255, l256, l288, l312, l400, l992, l1940, l24980, l25240, xI, xL, xR, zI_neg, zI_add, zI_sub, zI_mul, zI_le, zI_lt, zI_eq, zI_in, zI_nat, Option.bind_some, lt9, hq, Int.add_zero, Int.sub_self, true_or, or_true, true_and, and_true, false_or, or_false, Int.cast_ofNat_Int, ↓reduceIte, g0, rO, g1, g4, g5', h17, h18, if_pos, if_neg]
    · simp (disch := first | decide | omega) only [rS, rO, rK, rJ, lS, lK, lO, lJ, lI, lI9, lR, lR9, rL, rL9, rS9, rO9, rJ9, lS9, lO9, lJ9, uv_s, uv_n]
    · simp (disch := first | decide | omega) only [rS, rO, rK, rJ, lS, lK, lO, lJ, lI, lI9, lR, lR9, rL, rL9, rS9, rO9, rJ9, lS9, lO9, lJ9, uv_s, uv_n]
    · simp (disch := first | decide | omega) only [rS, rO, rK, rJ, lS, lK, lO, lJ, lI, lI9, lR, lR9, rL, rL9, rS9, rO9, rJ9, lS9, lO9, lJ9, uv_s, uv_n]; rw [g2, h19]
    · simp (disch := first | decide | omega) only [rS, rO, rK, rJ, lS, lK, lO, lJ, lI, lI9, lR, lR9, rL, rL9, rS9, rO9, rJ9, lS9, lO9, lJ9, uv_s, uv_n]; exact g3
    · simp (disch := first | decide | omega) only [rS, rO, rK, rJ, lS, lK, lO, lJ, lI, lI9, lR, lR9, rL, rL9, rS9, rO9, rJ9, lS9, lO9, lJ9, uv_s, uv_n]; rw [g4, if_neg e, if_neg (by omega)]
    · intro z; simp (disch := first | decide | omega) only [rS, rO, rK, rJ, lS, lK, lO, lJ, lI, lI9, lR, lR9, rL, rL9, rS9, rO9, rJ9, lS9, lO9, lJ9, uv_s, uv_n]; rw [if_neg e]
theorem eV_finish {σ : hT} {u s0 : Int → Int} {g : Nat} {pl c : Int} (hC : CA σ u g) (hw : wf u) (hP : cPg σ s0 0 pl) (hpl : pl = -1 ∨ c ≤ pl) (hc0 : 0 ≤ c) (h17 : u 17 = s0 17 - c) (h18 : u 18 = s0 18 + 1) (h19 : u 19 = s0 19) {n : Nat} (hn : 993 ≤ n) :
    ∃ σ', V_finish n σ (zI c) = some ((), σ') ∧ CA σ' (cls u) g ∧ cW σ' (cls u) (cls u) ∧ cPg σ' (cls u) 0 (if pl = -1 then -1 else pl - c) ∧ fF σ σ' := by
  have h16 := hw.1
  have hn1 := need_rng hw
  have p17 := hw.2.2.1
  obtain ⟨σ1, a1, a2, a3, a4⟩ := eP_write (u := u) g hP hpl hc0 h17 h18 h19
  obtain ⟨σ2, b1, b2, b3, b4, b5⟩ := eV_fin_L hw (n := n) (fun (σ5 : hT) (p6 : Int32) (p7 : Int32) => if (P_areLow σ5) = 0 then some ((), σ5) else Option.bind (V_pagesOfTheSame n σ5) fun ⟨y34, σ35⟩ => Option.bind (P_copyForward σ35 y34) fun ⟨y37, σ38⟩ => some ((), σ38)) (zI c) n σ1 0 (hC.fr a3) (fun e e0 e1 => by omega) (by omega) (by omega)
  have hP2 := a2.fr b5
  have e0 : V_finish n σ (zI c) = if (P_areLow σ2) = 0 then some ((), σ2) else Option.bind (V_pagesOfTheSame n σ2) fun ⟨y34, σ35⟩ => Option.bind (P_copyForward σ35 y34) fun ⟨y37, σ38⟩ => some ((), σ38) := by
    unfold V_finish
    rw [a1]
    exact b1
  rw [e0]
  have ea : P_areLow σ2 = zI (if u 17 < 40 then 1 else 0) := by
    unfold P_areLow
    by_cases z : u 17 < 40
    · simp (disch := omega) only [l0, l1, l2, l3, l4, l5, l6, l7, l8, l10, l12, l16, l20, l24, l26, l40, l64, l80, l100, l255, l256, l288, l312, l400, l992, l1940, l24980, l25240, xI, xL, xR, zI_neg, zI_add, zI_sub, zI_mul, zI_le, zI_lt, zI_eq, zI_in, zI_nat, Option.bind_some, lt9, hq, Int.add_zero, Int.sub_self, true_or, or_true, true_and, and_true, false_or, or_false, Int.cast_ofNat_Int, ↓reduceIte, hP2.1, if_pos, if_neg]
    · simp (disch := omega) only [l0, l1, l2, l3, l4, l5, l6, l7, l8, l10, l12, l16, l20, l24, l26, l40, l64, l80, l100, l255, l256, l288, l312, l400, l992, l1940, l24980, l25240, xI, xL, xR, zI_neg, zI_add, zI_sub, zI_mul, zI_le, zI_lt, zI_eq, zI_in, zI_nat, Option.bind_some, lt9, hq, Int.add_zero, Int.sub_self, true_or, or_true, true_and, and_true, false_or, or_false, Int.cast_ofNat_Int, ↓reduceIte, hP2.1, if_pos, if_neg]
  rw [ea]
  by_cases z : u 17 < 40
  · rw [if_pos z, if_neg (by decide)]
    obtain ⟨σ3, d1, d2⟩ := eV_pagesOfTheSame b2 hw hn
    have hP3 : cPg σ3 u 0 (if pl = -1 then -1 else pl - c) := hP2.fr (fun f x y => d2.2.2 f 0 (by omega) (by omega))
    rw [d1]
    by_cases y : 400 - need u < 40
    · have ec : cls u = u := by unfold cls; rw [if_neg (by omega)]
      rw [ec]
      refine ⟨σ3, ?_, b2.fr d2.v, b3.fr (d2.v (g := g)), hP3, (a4.tr b4).tr d2.f⟩
      unfold P_copyForward
      simp (disch := omega) only [l0, l1, l2, l3, l4, l5, l6, l7, l8, l10, l12, l16, l20, l24, l26, l40, l64, l80, l100, l255, l256, l288, l312, l400, l992, l1940, l24980, l25240, xI, xL, xR, zI_neg, zI_add, zI_sub, zI_mul, zI_le, zI_lt, zI_eq, zI_in, zI_nat, Option.bind_some, lt9, hq, Int.add_zero, Int.sub_self, true_or, or_true, true_and, and_true, false_or, or_false, Int.cast_ofNat_Int, ↓reduceIte, if_pos, if_neg]
    · have ec : cls u = uv (uv u 17 (400 - need u)) 19 (u 19 + 1) := by unfold cls; rw [if_pos (by omega)]
      have hv : ∀ k, k ≠ 17 → k ≠ 18 → k ≠ 19 → cls u k = u k := fun k h1 h2 h3 => by rw [ec, uv_n h3, uv_n h1]
      have fv : fV g σ3 (sI (sI σ3 400 0 0 (zI (400 - need u))) 402 0 0 (zI (u 19 + 1))) := (fV.rf.i (by omega)).i (by omega)
      refine ⟨sI (sI σ3 400 0 0 (zI (400 - need u))) 402 0 0 (zI (u 19 + 1)), ?_, ((b2.fr d2.v).fr fv).v hw hv, ?_, ?_, ((a4.tr b4).tr d2.f).tr ((fF.rf.i (by omega)).i (by omega))⟩
      · unfold P_copyForward
        simp (disch := omega) only [l0, l1, l2, l3, l4, l5, l6, l7, l8, l10, l12, l16, l20, l24, l26, l40, l64, l80, l100, l255, l256, l288, l312, l400, l992, l1940, l24980, l25240, xI, xL, xR, zI_neg, zI_add, zI_sub, zI_mul, zI_le, zI_lt, zI_eq, zI_in, zI_nat, Option.bind_some, lt9, hq, Int.add_zero, Int.sub_self, true_or, or_true, true_and, and_true, false_or, or_false, Int.cast_ofNat_Int, ↓reduceIte, rO, hP3.2.2.1, if_pos, if_neg]
      · intro d d0 d1
        rw [hv 16 (by omega) (by omega) (by omega)] at d1
        have := (b3.fr (d2.v (g := g))).fr fv d d0 d1
        exact this.v (hw.2.2.2.1 d d0 d1).2.2.1 (fun k k0 k1 => hv _ (by omega) (by omega) (by omega))
      · obtain ⟨g0, g1, g2, g3, g4, g5⟩ := hP3
        rw [ec]
        refine ⟨?_, ?_, ?_, ?_, ?_, ?_⟩
        · simp (disch := first | decide | omega) only [rS, rO, rK, rJ, lS, lK, lO, lJ, lI, lI9, lR, lR9, rL, rL9, rS9, rO9, rJ9, lS9, lO9, lJ9, uv_s, uv_n]
        · simp (disch := first | decide | omega) only [rS, rO, rK, rJ, lS, lK, lO, lJ, lI, lI9, lR, lR9, rL, rL9, rS9, rO9, rJ9, lS9, lO9, lJ9, uv_s, uv_n]; exact g1
        · simp (disch := first | decide | omega) only [rS, rO, rK, rJ, lS, lK, lO, lJ, lI, lI9, lR, lR9, rL, rL9, rS9, rO9, rJ9, lS9, lO9, lJ9, uv_s, uv_n]
        · simp (disch := first | decide | omega) only [rS, rO, rK, rJ, lS, lK, lO, lJ, lI, lI9, lR, lR9, rL, rL9, rS9, rO9, rJ9, lS9, lO9, lJ9, uv_s, uv_n]; exact g3
        · simp (disch := first | decide | omega) only [rS, rO, rK, rJ, lS, lK, lO, lJ, lI, lI9, lR, lR9, rL, rL9, rS9, rO9, rJ9, lS9, lO9, lJ9, uv_s, uv_n]; exact g4
        · intro zz; simp (disch := first | decide | omega) only [rS, rO, rK, rJ, lS, lK, lO, lJ, lI, lI9, lR, lR9, rL, rL9, rS9, rO9, rJ9, lS9, lO9, lJ9, uv_s, uv_n]; exact g5 zz
  · have ec : cls u = u := by unfold cls; rw [if_neg (by omega)]
    rw [if_neg z, if_pos (show zI 0 = 0 from rfl), ec]
    exact ⟨σ2, rfl, b2, b3, hP2, a4.tr b4⟩
theorem nP0 {σ : hT} (h : σ.1 403 0 0 = zI 0) : V_needPower σ = some (some (), σ) := by
  unfold V_needPower
  simp (disch := omega) only [l0, l1, l2, l3, l4, l5, l6, l7, l8, l10, l12, l16, l20, l24, l26, l40, l64, l80, l100, l255, l256, l288, l312, l400, l992, l1940, l24980, l25240, xI, xL, xR, zI_neg, zI_add, zI_sub, zI_mul, zI_le, zI_lt, zI_eq, zI_in, zI_nat, Option.bind_some, lt9, hq, Int.add_zero, Int.sub_self, true_or, or_true, true_and, and_true, false_or, or_false, Int.cast_ofNat_Int, ↓reduceIte, h, if_pos, if_neg]
theorem nP1 {σ : hT} (h : σ.1 403 0 0 = zI 1) : V_needPower σ = some (none, σ) := by
  unfold V_needPower
  simp (disch := omega) only [l0, l1, l2, l3, l4, l5, l6, l7, l8, l10, l12, l16, l20, l24, l26, l40, l64, l80, l100, l255, l256, l288, l312, l400, l992, l1940, l24980, l25240, xI, xL, xR, zI_neg, zI_add, zI_sub, zI_mul, zI_le, zI_lt, zI_eq, zI_in, zI_nat, Option.bind_some, lt9, hq, Int.add_zero, Int.sub_self, true_or, or_true, true_and, and_true, false_or, or_false, Int.cast_ofNat_Int, ↓reduceIte, h, if_pos, if_neg]
def f108 (σ σ' : hT) : Prop := σ'.2 = σ.2 ∧ ∀ f j, f ≠ 108 → σ'.1 f j = σ.1 f j
theorem f108.v {g : Nat} {σ σ' : hT} (h : f108 σ σ') : fV g σ σ' := ⟨by rw [h.1], fun j => by rw [h.1], fun f j n => h.2 f j (by omega)⟩
theorem f108.s {σ : hT} {x : Int32} : f108 σ (sI σ 108 0 0 x) := ⟨rfl, fun f j n => rO n⟩
theorem eV_allowed {σ : hT} {x : Int} (h0 : 0 ≤ x) (h1 : x ≤ 8) : V_allowed σ (zI x) = some (zI (if x = 0 then 1 else 0), sI σ 108 0 0 (zI x)) := by
  unfold V_allowed
  by_cases e : x = 0
  · simp (disch := omega) only [l0, l1, l2, l3, l4, l5, l6, l7, l8, l10, l12, l16, l20, l24, l26, l40, l64, l80, l100, l255, l256, l288, l312, l400, l992, l1940, l24980, l25240, xI, xL, xR, zI_neg, zI_add, zI_sub, zI_mul, zI_le, zI_lt, zI_eq, zI_in, zI_nat, Option.bind_some, lt9, hq, Int.add_zero, Int.sub_self, true_or, or_true, true_and, and_true, false_or, or_false, Int.cast_ofNat_Int, ↓reduceIte, if_pos, if_neg]
  · simp (disch := omega) only [l0, l1, l2, l3, l4, l5, l6, l7, l8, l10, l12, l16, l20, l24, l26, l40, l64, l80, l100, l255, l256, l288, l312, l400, l992, l1940, l24980, l25240, xI, xL, xR, zI_neg, zI_add, zI_sub, zI_mul, zI_le, zI_lt, zI_eq, zI_in, zI_nat, Option.bind_some, lt9, hq, Int.add_zero, Int.sub_self, true_or, or_true, true_and, and_true, false_or, or_false, Int.cast_ofNat_Int, ↓reduceIte, if_pos, if_neg]
theorem eV_mayWrite {σ : hT} {v : Int → Int} {pl : Int} (hP : cPg σ v 0 pl) (hw : wf v) (hp1 : -1 ≤ pl) (hp2 : pl < 2147483648) {ok : Prop} {why c : Int} (hy : 0 ≤ why) (hy8 : why ≤ 8) (hok : ok ↔ why = 0) (hc : 0 ≤ c) (hc4 : c ≤ 400) :
    ((¬ ok ∨ v 17 < c) ∧ ∃ σ1, V_mayWrite σ (zI why) (zI c) = some (some (zI 0), σ1) ∧ f108 σ σ1) ∨
    (ok ∧ c ≤ v 17 ∧ pl ≠ -1 ∧ pl < c ∧ V_mayWrite σ (zI why) (zI c) = some (none, sI σ 403 0 0 1)) ∨
    (ok ∧ c ≤ v 17 ∧ (pl = -1 ∨ c ≤ pl) ∧ ∃ σ1, V_mayWrite σ (zI why) (zI c) = some (some (zI 1), σ1) ∧ f108 σ σ1) := by
  have p17 := hw.2.2.1
  obtain ⟨g0, g1, g2, g3, g4, g5⟩ := hP
  rw [hok]
  unfold V_mayWrite
  have or1 : (zI 0 = zI 0 ∨ zI 0 = zI 1) := Or.inl rfl
  have or2 : (zI 1 = zI 0 ∨ zI 1 = zI 1) := Or.inr rfl
  by_cases e : why = 0
  · subst e
    by_cases h : c ≤ v 17
    · have ef : P_failsBy σ (zI c) = zI (if pl ≠ -1 ∧ pl < c then 1 else 0) := by
        unfold P_failsBy
        by_cases z : pl = -1
        · rw [if_pos z] at g4
          rw [if_neg (show ¬ (pl ≠ -1 ∧ pl < c) by omega)]
          simp (disch := omega) only [l0, l1, l2, l3, l4, l5, l6, l7, l8, l10, l12, l16, l20, l24, l26, l40, l64, l80, l100, l255, l256, l288, l312, l400, l992, l1940, l24980, l25240, xI, xL, xR, zI_neg, zI_add, zI_sub, zI_mul, zI_le, zI_lt, zI_eq, zI_in, zI_nat, Option.bind_some, lt9, hq, Int.add_zero, Int.sub_self, true_or, or_true, true_and, and_true, false_or, or_false, Int.cast_ofNat_Int, ↓reduceIte, g4, if_pos, if_neg]
        · rw [if_neg z] at g4
          have g5' := g5 z
          by_cases y : pl < c
          · rw [if_pos (show pl ≠ -1 ∧ pl < c from ⟨z, y⟩)]
            simp (disch := omega) only [l0, l1, l2, l3, l4, l5, l6, l7, l8, l10, l12, l16, l20, l24, l26, l40, l64, l80, l100, l255, l256, l288, l312, l400, l992, l1940, l24980, l25240, xI, xL, xR, zI_neg, zI_add, zI_sub, zI_mul, zI_le, zI_lt, zI_eq, zI_in, zI_nat, Option.bind_some, lt9, hq, Int.add_zero, Int.sub_self, true_or, or_true, true_and, and_true, false_or, or_false, Int.cast_ofNat_Int, ↓reduceIte, g4, g5', if_pos, if_neg]
          · rw [if_neg (show ¬ (pl ≠ -1 ∧ pl < c) by omega)]
            simp (disch := omega) only [l0, l1, l2, l3, l4, l5, l6, l7, l8, l10, l12, l16, l20, l24, l26, l40, l64, l80, l100, l255, l256, l288, l312, l400, l992, l1940, l24980, l25240, xI, xL, xR, zI_neg, zI_add, zI_sub, zI_mul, zI_le, zI_lt, zI_eq, zI_in, zI_nat, Option.bind_some, lt9, hq, Int.add_zero, Int.sub_self, true_or, or_true, true_and, and_true, false_or, or_false, Int.cast_ofNat_Int, ↓reduceIte, g4, g5', if_pos, if_neg]
      by_cases z : pl ≠ -1 ∧ pl < c
      · refine Or.inr (Or.inl ⟨rfl, h, z.1, z.2, ?_⟩)
        rw [if_pos z] at ef
        simp (disch := omega) only [l0, l1, l2, l3, l4, l5, l6, l7, l8, l10, l12, l16, l20, l24, l26, l40, l64, l80, l100, l255, l256, l288, l312, l400, l992, l1940, l24980, l25240, xI, xL, xR, zI_neg, zI_add, zI_sub, zI_mul, zI_le, zI_lt, zI_eq, zI_in, zI_nat, Option.bind_some, lt9, hq, Int.add_zero, Int.sub_self, true_or, or_true, true_and, and_true, false_or, or_false, Int.cast_ofNat_Int, ↓reduceIte, g0, ef, if_pos, if_neg]
      · refine Or.inr (Or.inr ⟨rfl, h, by omega, sI σ 108 0 0 (zI 0), ?_, f108.s⟩)
        rw [if_neg z] at ef
        simp (disch := omega) only [l0, l1, l2, l3, l4, l5, l6, l7, l8, l10, l12, l16, l20, l24, l26, l40, l64, l80, l100, l255, l256, l288, l312, l400, l992, l1940, l24980, l25240, xI, xL, xR, zI_neg, zI_add, zI_sub, zI_mul, zI_le, zI_lt, zI_eq, zI_in, zI_nat, Option.bind_some, lt9, hq, Int.add_zero, Int.sub_self, true_or, or_true, true_and, and_true, false_or, or_false, Int.cast_ofNat_Int, ↓reduceIte, g0, ef, eV_allowed, if_pos, if_neg]
    · refine Or.inl ⟨Or.inr (by omega), sI σ 108 0 0 (zI 8), ?_, f108.s⟩
      simp (disch := omega) only [l0, l1, l2, l3, l4, l5, l6, l7, l8, l10, l12, l16, l20, l24, l26, l40, l64, l80, l100, l255, l256, l288, l312, l400, l992, l1940, l24980, l25240, xI, xL, xR, zI_neg, zI_add, zI_sub, zI_mul, zI_le, zI_lt, zI_eq, zI_in, zI_nat, Option.bind_some, lt9, hq, Int.add_zero, Int.sub_self, true_or, or_true, true_and, and_true, false_or, or_false, Int.cast_ofNat_Int, ↓reduceIte, g0, eV_allowed, if_pos, if_neg]
  · refine Or.inl ⟨Or.inl e, sI σ 108 0 0 (zI why), ?_, f108.s⟩
    simp (disch := omega) only [l0, l1, l2, l3, l4, l5, l6, l7, l8, l10, l12, l16, l20, l24, l26, l40, l64, l80, l100, l255, l256, l288, l312, l400, l992, l1940, l24980, l25240, xI, xL, xR, zI_neg, zI_add, zI_sub, zI_mul, zI_le, zI_lt, zI_eq, zI_in, zI_nat, Option.bind_some, lt9, hq, Int.add_zero, Int.sub_self, true_or, or_true, true_and, and_true, false_or, or_false, Int.cast_ofNat_Int, ↓reduceIte, eV_allowed, if_pos, if_neg]
abbrev f15 (σ σ' : hT) : Prop := ∀ f j, (15 ≤ f ∧ f ≤ 19 ∨ 500 ≤ f ∧ f < 600) → σ'.1 f j = σ.1 f j
theorem f108.f {σ σ' : hT} (h : f108 σ σ') : f15 σ σ' := fun f j z => h.2 f j (by omega)
theorem fF.f {σ σ' : hT} (h : fF σ σ') : f15 σ σ' := fun f j z => h.2 f j (by omega)
theorem f15.tr {σ σ1 σ2 : hT} (h : f15 σ σ1) (h2 : f15 σ1 σ2) : f15 σ σ2 := fun f j z => (h2 f j z).trans (h f j z)
def CaS (σ : hT) (s : zT) (g : Nat) : Prop := CA σ s.1 g ∧ cW σ s.1 s.2.1 ∧ cPg σ s.1 s.2.2.1 s.2.2.2
def ClsC (ok : Prop) (c : Int) (f : (Int → Int) → Int → Int) (s : zT) (g gn : Nat) (σ : hT) (V : Option (Option Int32 × hT)) (ans : Int → Int) : Prop :=
  ∃ th acc s' σ', Cm ok c f s th acc s' ∧ V = some (if th = 1 then none else some (zI (ans acc)), σ') ∧ CaS σ' s' (if acc = 1 then gn else g) ∧ f15 σ σ'
def ClsH (ok : Prop) (f : (Int → Int) → Int → Int) (s : zT) (g : Nat) (σ : hT) (V : Option (Option Int32 × hT)) : Prop :=
  ∃ th acc s' σ', Hm ok f s th acc s' ∧ V = some (if th = 1 then none else some (zI acc), σ') ∧ CaS σ' s' g ∧ f15 σ σ'
theorem CaS.fr {σ σ' : hT} {s : zT} {g : Nat} (h : CaS σ s g) (hf : fV g σ σ') (h4 : ∀ f, 400 ≤ f → f ≤ 405 → σ'.1 f 0 = σ.1 f 0) : CaS σ' s g := ⟨h.1.fr hf, h.2.1.fr hf, h.2.2.fr h4⟩
theorem ClsC.off {ok : Prop} {c : Int} {f : (Int → Int) → Int → Int} {s : zT} {g gn : Nat} {σ : hT} {V : Option (Option Int32 × hT)} {ans : Int → Int} (h : s.2.2.1 = 1) (hS : CaS σ s g) (hV : V = some (none, σ)) : ClsC ok c f s g gn σ V ans :=
  ⟨1, 0, s, σ, Or.inl ⟨h, rfl, rfl, rfl⟩, hV, hS, fun _ _ _ => rfl⟩
theorem ClsC.mk {ok : Prop} {c : Int} {f : (Int → Int) → Int → Int} {s : zT} {g gn : Nat} {σ σ0 : hT} {V : Option (Option Int32 × hT)} {ans : Int → Int} (h : s.2.2.1 = 0) (hS : CaS σ s g) (ho : okS s) (h15 : f15 σ0 σ) {why : Int} (hy : 0 ≤ why) (hy8 : why ≤ 8) (hok : ok ↔ why = 0) (hc : 0 ≤ c) (hc4 : c ≤ 400)
    (F : Option Int32 × hT → Option (Option Int32 × hT)) (hV : V = Option.bind (V_mayWrite σ (zI why) (zI c)) F)
    (hno : ∀ σ1, F (some (zI 0), σ1) = some (some (zI (ans 0)), σ1)) (hth : ∀ σ1, F (none, σ1) = some (none, σ1))
    (hyes : ok → c ≤ s.1 17 → (s.2.2.2 = -1 ∨ c ≤ s.2.2.2) → ∀ σ1, CA σ1 (mv s.1 c) g → cPg σ1 s.1 0 s.2.2.2 → f108 σ σ1 → ∃ σ2 , F (some (zI 1), σ1) = some (some (zI (ans 1)), σ2) ∧ CaS σ2 (cls (f (mv s.1 c)), cls (f (mv s.1 c)), 0, if s.2.2.2 = -1 then -1 else s.2.2.2 - c) gn ∧ f15 σ1 σ2) : ClsC ok c f s g gn σ0 V ans := by
  obtain ⟨v, w, fl, pl⟩ := s
  dsimp only at *
  subst h
  obtain ⟨hw, hfl, hp1, hp2⟩ := ho
  dsimp only at *
  subst hV
  rcases eV_mayWrite hS.2.2 hw hp1 hp2 hy hy8 hok hc hc4 with ⟨h1, σ1, q1, q2⟩ | ⟨h1, h2, h3, h4, q1⟩ | ⟨h1, h2, h3, σ1, q1, q2⟩
  · exact ⟨0, 0, _, σ1, Or.inr (Or.inl ⟨rfl, h1, rfl, rfl, rfl⟩), by rw [q1]; exact hno σ1, hS.fr q2.v (fun f a b => q2.2 f 0 (by omega)), h15.tr q2.f⟩
  · refine ⟨1, 0, _, sI σ 403 0 0 1, Or.inr (Or.inr (Or.inl ⟨rfl, h1, h2, h3, h4, rfl, rfl, rfl⟩)), by rw [q1]; exact hth _, ?_, h15.tr (fun f j z => rO (by omega))⟩
    have fv : fV g σ (sI σ 403 0 0 1) := fV.rf.i (by omega)
    refine ⟨hS.1.fr fv, hS.2.1.fr fv, ?_⟩
    obtain ⟨g0, g1, g2, g3, g4, g5⟩ := hS.2.2
    refine ⟨?_, ?_, ?_, ?_, ?_, ?_⟩
    · simp (disch := first | decide | omega) only [rS, rO, rK, rJ, lS, lK, lO, lJ, lI, lI9, lR, lR9, rL, rL9, rS9, rO9, rJ9, lS9, lO9, lJ9, uv_s, uv_n]; exact g0
    · simp (disch := first | decide | omega) only [rS, rO, rK, rJ, lS, lK, lO, lJ, lI, lI9, lR, lR9, rL, rL9, rS9, rO9, rJ9, lS9, lO9, lJ9, uv_s, uv_n]; exact g1
    · simp (disch := first | decide | omega) only [rS, rO, rK, rJ, lS, lK, lO, lJ, lI, lI9, lR, lR9, rL, rL9, rS9, rO9, rJ9, lS9, lO9, lJ9, uv_s, uv_n]; exact g2
    · simp (disch := first | decide | omega) only [rS, rO, rK, rJ, lS, lK, lO, lJ, lI, lI9, lR, lR9, rL, rL9, rS9, rO9, rJ9, lS9, lO9, lJ9, uv_s, uv_n]; rfl
    · simp (disch := first | decide | omega) only [rS, rO, rK, rJ, lS, lK, lO, lJ, lI, lI9, lR, lR9, rL, rL9, rS9, rO9, rJ9, lS9, lO9, lJ9, uv_s, uv_n]; exact g4
    · intro z; simp (disch := first | decide | omega) only [rS, rO, rK, rJ, lS, lK, lO, lJ, lI, lI9, lR, lR9, rL, rL9, rS9, rO9, rJ9, lS9, lO9, lJ9, uv_s, uv_n]; exact g5 z
  · have hmv : ∀ k, k ≠ 17 → k ≠ 18 → k ≠ 19 → mv v c k = v k := fun k a b _ => mv_at a b
    obtain ⟨σ2, r1, r2, r3⟩ := hyes h1 h2 h3 σ1 ((hS.1.fr q2.v).v hw hmv) (hS.2.2.fr (fun f a b => q2.2 f 0 (by omega))) q2
    exact ⟨0, 1, _, σ2, Or.inr (Or.inr (Or.inr ⟨rfl, h1, h2, h3, rfl, rfl, rfl⟩)), by rw [q1]; exact r1, r2, (h15.tr q2.f).tr r3⟩
