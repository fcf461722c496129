abbrev fM (σ σ' : hT) : Prop := σ'.2 = σ.2 ∧ ∀ g j, (g < 15 ∨ 19 < g ∧ g < 500 ∨ 600 ≤ g) → σ'.1 g j = σ.1 g j
theorem fM.rf {σ : hT} : fM σ σ := ⟨rfl, fun _ _ _ => rfl⟩
theorem fM.tr {σ σ1 σ2 : hT} (h : fM σ σ1) (h2 : fM σ1 σ2) : fM σ σ2 := ⟨h2.1.trans h.1, fun f j n => (h2.2 f j n).trans (h.2 f j n)⟩
theorem fM.i {σ σ1 : hT} (h : fM σ σ1) {f j k : Nat} {x : Int32} (hf : 15 ≤ f ∧ f ≤ 19 ∨ 500 ≤ f ∧ f < 600) : fM σ (sI σ1 f j k x) := ⟨h.1, fun f' j' n => (rO (σ := σ1) (f := f) (f' := f') (by omega)).trans (h.2 f' j' n)⟩
def RefQ (q : Option Int) (s' : zT) (σ : hT) (M : Option (Int32 × hT)) : Prop := ∃ σ', M = some (zI (q.getD 0), σ') ∧ MSt σ' s' ∧ fM σ σ' ∧ σ'.1 500 0 0 = zI (if q = none then 1 else 0)
def ClsQ (q : Option Int) (s' : zT) (g : Nat) (σ : hT) (V : oT) : Prop := ∃ σ', V = some (q.map zI, σ') ∧ CaS σ' s' g ∧ f15 σ σ'
def ClsN (q : Int) (s' : zT) (g : Nat) (σ : hT) (V : Option (Int32 × hT)) : Prop := ∃ σ', V = some (zI q, σ') ∧ CaS σ' s' g ∧ f15 σ σ'
theorem MSt.o {σ : hT} {s : zT} (h : MSt σ s) {f j k : Nat} {x : Int32} (h1 : f ≠ 15) (h2 : f ≠ 16) (h3 : f ≠ 504) (h4 : f ≠ 505) : MSt (sI σ f j k x) s := ⟨mN_o h.1 h1, mK_o h.2.1 h2, by rw [rO (Ne.symm h3)]; exact h.2.2.1, by rw [rO (Ne.symm h4)]; exact h.2.2.2⟩
theorem MSt.r5 {σ : hT} {s : zT} (h : MSt σ s) {x : Int32} : MSt (sI σ 500 0 0 x) s := MSt.o h (by decide) (by decide) (by decide) (by decide)
def qFail (s : zT) (x : Int) : Int := if 0 ≤ x ∧ s.2.2.1 = 0 then 1 else 0
def sFail (s : zT) (x : Int) : zT := if 0 ≤ x ∧ s.2.2.1 = 0 then (s.1, s.2.1, s.2.2.1, x) else s
theorem eM_failAfter {σ : hT} {s : zT} (hs : MSt σ s) (ho : okS s) {x : Int} (hx : i32 x) : RefQ (some (qFail s x)) (sFail s x) σ (M_failAfter σ (zI x)) := by
  obtain ⟨x1, x2⟩ := hx
  have h4 : (sI σ 500 0 0 (zI 0)).1 504 0 0 = zI s.2.2.1 := by rw [rO (by decide)]; exact hs.2.2.1
  unfold M_failAfter qFail sFail
  by_cases h : 0 ≤ x
  · rcases ho.2.1 with hf | hf
    · rw [if_pos ⟨h, hf⟩, if_pos ⟨h, hf⟩]
      refine ⟨sI (sI σ 500 0 0 (zI 0)) 505 0 0 (zI x), ?_, ⟨mN_o (mN_o hs.1 (by decide)) (by decide), mK_o (mK_o hs.2.1 (by decide)) (by decide), by rw [rO (by decide)]; exact h4, rS⟩, (fM.rf.i (by omega)).i (by omega), by rw [rO (by decide), rS]; rfl⟩
      rw [hf] at h4
      simp (disch := omega) only [l0, l1, l2, l3, l4, l5, l6, l7, l8, l10, l12, l16, l20, l24, l26, l40, l64, l80, l100, l255, l256, l288, l312, l400, l992, l1940, l24980, l25240, xI, xL, xR, zI_neg, zI_add, zI_sub, zI_mul, zI_le, zI_lt, zI_eq, zI_in, zI_nat, Option.bind_some, lt9, hq, Int.add_zero, Int.sub_self, true_or, or_true, true_and, and_true, false_or, or_false, Int.cast_ofNat_Int, ↓reduceIte, h4, if_pos, if_neg]
      rfl
    · rw [if_neg (by omega), if_neg (by omega)]
      refine ⟨sI σ 500 0 0 (zI 0), ?_, MSt.r5 hs, fM.rf.i (by omega), by rw [rS]; rfl⟩
      rw [hf] at h4
      simp (disch := omega) only [l0, l1, l2, l3, l4, l5, l6, l7, l8, l10, l12, l16, l20, l24, l26, l40, l64, l80, l100, l255, l256, l288, l312, l400, l992, l1940, l24980, l25240, xI, xL, xR, zI_neg, zI_add, zI_sub, zI_mul, zI_le, zI_lt, zI_eq, zI_in, zI_nat, Option.bind_some, lt9, hq, Int.add_zero, Int.sub_self, true_or, or_true, true_and, and_true, false_or, or_false, Int.cast_ofNat_Int, ↓reduceIte, h4, if_pos, if_neg]
      rfl
  · rw [if_neg (by omega), if_neg (by omega)]
    refine ⟨sI σ 500 0 0 (zI 0), ?_, MSt.r5 hs, fM.rf.i (by omega), by rw [rS]; rfl⟩
    simp (disch := omega) only [l0, l1, l2, l3, l4, l5, l6, l7, l8, l10, l12, l16, l20, l24, l26, l40, l64, l80, l100, l255, l256, l288, l312, l400, l992, l1940, l24980, l25240, xI, xL, xR, zI_neg, zI_add, zI_sub, zI_mul, zI_le, zI_lt, zI_eq, zI_in, zI_nat, Option.bind_some, lt9, hq, Int.add_zero, Int.sub_self, true_or, or_true, true_and, and_true, false_or, or_false, Int.cast_ofNat_Int, ↓reduceIte, if_pos, if_neg]
    rfl
theorem eV_failAfter {σ : hT} {s : zT} {g : Nat} (hS : CaS σ s g) (ho : okS s) {x : Int} (hx : i32 x) : ClsN (qFail s x) (sFail s x) g σ (V_failAfter σ (zI x)) := by
  obtain ⟨x1, x2⟩ := hx
  obtain ⟨g0, g1, g2, g3, g4, g5⟩ := hS.2.2
  unfold V_failAfter qFail sFail
  by_cases h : 0 ≤ x
  · rcases ho.2.1 with hf | hf
    · rw [if_pos ⟨h, hf⟩, if_pos ⟨h, hf⟩]
      have fv : fV g σ (sI (sI σ 404 0 0 (zI 1)) 405 0 0 (zI x)) := (fV.rf.i (by omega)).i (by omega)
      refine ⟨sI (sI σ 404 0 0 (zI 1)) 405 0 0 (zI x), ?_, ⟨hS.1.fr fv, hS.2.1.fr fv, ?_, ?_, ?_, ?_, ?_, ?_⟩, fun f j z => by rw [rO (by omega), rO (by omega)]⟩
      · rw [hf] at g3
        unfold P_failAhead
        simp (disch := omega) only [l0, l1, l2, l3, l4, l5, l6, l7, l8, l10, l12, l16, l20, l24, l26, l40, l64, l80, l100, l255, l256, l288, l312, l400, l992, l1940, l24980, l25240, xI, xL, xR, zI_neg, zI_add, zI_sub, zI_mul, zI_le, zI_lt, zI_eq, zI_in, zI_nat, Option.bind_some, lt9, hq, Int.add_zero, Int.sub_self, true_or, or_true, true_and, and_true, false_or, or_false, Int.cast_ofNat_Int, ↓reduceIte, g3, if_pos, if_neg]
      · simp (disch := first | decide | omega) only [rS, rO, rK, rJ, lS, lK, lO, lJ, lI, lI9, lR, lR9, rL, rL9, rS9, rO9, rJ9, lS9, lO9, lJ9, uv_s, uv_n]; exact g0
      · simp (disch := first | decide | omega) only [rS, rO, rK, rJ, lS, lK, lO, lJ, lI, lI9, lR, lR9, rL, rL9, rS9, rO9, rJ9, lS9, lO9, lJ9, uv_s, uv_n]; exact g1
      · simp (disch := first | decide | omega) only [rS, rO, rK, rJ, lS, lK, lO, lJ, lI, lI9, lR, lR9, rL, rL9, rS9, rO9, rJ9, lS9, lO9, lJ9, uv_s, uv_n]; exact g2
      · simp (disch := first | decide | omega) only [rS, rO, rK, rJ, lS, lK, lO, lJ, lI, lI9, lR, lR9, rL, rL9, rS9, rO9, rJ9, lS9, lO9, lJ9, uv_s, uv_n]; exact g3
      · simp (disch := first | decide | omega) only [rS, rO, rK, rJ, lS, lK, lO, lJ, lI, lI9, lR, lR9, rL, rL9, rS9, rO9, rJ9, lS9, lO9, lJ9, uv_s, uv_n]; rw [if_neg (by omega)]
      · intro _; simp (disch := first | decide | omega) only [rS, rO, rK, rJ, lS, lK, lO, lJ, lI, lI9, lR, lR9, rL, rL9, rS9, rO9, rJ9, lS9, lO9, lJ9, uv_s, uv_n]
    · rw [if_neg (by omega), if_neg (by omega)]
      refine ⟨σ, ?_, hS, fun _ _ _ => rfl⟩
      rw [hf] at g3
      simp (disch := omega) only [l0, l1, l2, l3, l4, l5, l6, l7, l8, l10, l12, l16, l20, l24, l26, l40, l64, l80, l100, l255, l256, l288, l312, l400, l992, l1940, l24980, l25240, xI, xL, xR, zI_neg, zI_add, zI_sub, zI_mul, zI_le, zI_lt, zI_eq, zI_in, zI_nat, Option.bind_some, lt9, hq, Int.add_zero, Int.sub_self, true_or, or_true, true_and, and_true, false_or, or_false, Int.cast_ofNat_Int, ↓reduceIte, g3, if_pos, if_neg]
  · rw [if_neg (by omega), if_neg (by omega)]
    refine ⟨σ, ?_, hS, fun _ _ _ => rfl⟩
    simp (disch := omega) only [l0, l1, l2, l3, l4, l5, l6, l7, l8, l10, l12, l16, l20, l24, l26, l40, l64, l80, l100, l255, l256, l288, l312, l400, l992, l1940, l24980, l25240, xI, xL, xR, zI_neg, zI_add, zI_sub, zI_mul, zI_le, zI_lt, zI_eq, zI_in, zI_nat, Option.bind_some, lt9, hq, Int.add_zero, Int.sub_self, true_or, or_true, true_and, and_true, false_or, or_false, Int.cast_ofNat_Int, ↓reduceIte, if_pos, if_neg]
theorem eM_st_L19 {w : Int → Int} {n : Nat} (kx : hT → Int32 → Option (Int32 × hT)) (K : Nat) : ∀ (σ : hT) (i : Nat), mK σ w → (∀ k : Int, 0 ≤ k → k < i → σ.1 15 0 k.toNat = zI (w k)) → i ≤ 25240 → 25240 - i < K →
    ∃ σ', M_start_L19 n kx K σ (zI i) = kx σ' (zI 25240) ∧ mN σ' w ∧ fr (fun f => f = 15) σ σ' := by
  induction K with
  | zero => intro σ i _ _ _ h; omega
  | succ K ih =>
    intro σ i hK hI hi hlt
    by_cases hc : 25240 ≤ i
    · obtain rfl : i = 25240 := by omega
      refine ⟨σ, ?_, fun k k0 k1 => hI k k0 (by omega), fr.rf⟩
      unfold M_start_L19
      simp (disch := omega) only [l0, l1, l2, l3, l4, l5, l6, l7, l8, l10, l12, l16, l20, l24, l26, l40, l64, l80, l100, l255, l256, l288, l312, l400, l992, l1940, l24980, l25240, xI, xL, xR, zI_neg, zI_add, zI_sub, zI_mul, zI_le, zI_lt, zI_eq, zI_in, zI_nat, Option.bind_some, lt9, hq, Int.add_zero, Int.sub_self, true_or, or_true, true_and, and_true, false_or, or_false, Int.cast_ofNat_Int, ↓reduceIte, if_pos, if_neg]
    · have hv := hK i (by omega) (by omega)
      rw [Int.toNat_natCast] at hv
      obtain ⟨σ', q1, q2, q3⟩ := ih (sI σ 15 0 i (zI (w i))) (i + 1) (mK_o hK (by decide)) (fun k k0 k1 => by
        by_cases e : k = i
        · subst e; rw [Int.toNat_natCast, rS]
        · rw [rK (by omega)]; exact hI k k0 (by omega)) (by omega) (by omega)
      refine ⟨σ', ?_, q2, (fr.rf.s (P := fun f => f = 15) rfl).tr q3⟩
      rw [← q1]
      conv => lhs; unfold M_start_L19
      rw [Int.natCast_add, Int.cast_ofNat_Int]
      simp (disch := omega) only [l0, l1, l2, l3, l4, l5, l6, l7, l8, l10, l12, l16, l20, l24, l26, l40, l64, l80, l100, l255, l256, l288, l312, l400, l992, l1940, l24980, l25240, xI, xL, xR, zI_neg, zI_add, zI_sub, zI_mul, zI_le, zI_lt, zI_eq, zI_in, zI_nat, Option.bind_some, lt9, hq, Int.add_zero, Int.sub_self, true_or, or_true, true_and, and_true, false_or, or_false, Int.cast_ofNat_Int, ↓reduceIte, Int.toNat_natCast, hv, if_pos, if_neg]
theorem eM_st_L46 {w : Int → Int} (hw : wf w) {σ : hT} (hN : mN σ w) {n : Nat} (kx : hT → Int32 → Int32 → Option (Int32 × hT)) (K : Nat) : ∀ (i : Nat), (i : Int) ≤ w 16 → w 16 - i < K → M_start_L46 n kx K σ (zI i) (zI (cntO w i)) = kx σ (zI (w 16)) (zI (cntO w (w 16).toNat)) := by
  have h16 := hw.1
  induction K with
  | zero => intro i _ h; omega
  | succ K ih =>
    intro i hi hK
    conv => lhs; unfold M_start_L46
    by_cases hx : w 16 ≤ i
    · have e : w 16 = i := by omega
      simp (disch := omega) only [l0, l1, l2, l3, l4, l5, l6, l7, l8, l10, l12, l16, l20, l24, l26, l40, l64, l80, l100, l255, l256, l288, l312, l400, l992, l1940, l24980, l25240, xI, xL, xR, zI_neg, zI_add, zI_sub, zI_mul, zI_le, zI_lt, zI_eq, zI_in, zI_nat, Option.bind_some, lt9, hq, Int.add_zero, Int.sub_self, true_or, or_true, true_and, and_true, false_or, or_false, Int.cast_ofNat_Int, ↓reduceIte, hN.lit, if_pos, if_neg]
      rw [e, Int.toNat_natCast]
    · have hD := (hw.2.2.2.1 i (by omega) (by omega)).2.1
      have := ih (i + 1) (by omega) (by omega)
      simp only [cntO, Int.natCast_add, Int.cast_ofNat_Int] at this
      by_cases e : w (20 + 80 * i + 1) - 1 < 0
      · rw [if_pos e] at this
        simp (disch := omega) only [l0, l1, l2, l3, l4, l5, l6, l7, l8, l10, l12, l16, l20, l24, l26, l40, l64, l80, l100, l255, l256, l288, l312, l400, l992, l1940, l24980, l25240, xI, xL, xR, zI_neg, zI_add, zI_sub, zI_mul, zI_le, zI_lt, zI_eq, zI_in, zI_nat, Option.bind_some, lt9, hq, Int.add_zero, Int.sub_self, true_or, or_true, true_and, and_true, false_or, or_false, Int.cast_ofNat_Int, ↓reduceIte, hN.lit, eM_with hN, if_pos, if_neg]
        rw [Int.add_zero] at this
        exact this
      · rw [if_neg e] at this
        simp (disch := omega) only [l0, l1, l2, l3, l4, l5, l6, l7, l8, l10, l12, l16, l20, l24, l26, l40, l64, l80, l100, l255, l256, l288, l312, l400, l992, l1940, l24980, l25240, xI, xL, xR, zI_neg, zI_add, zI_sub, zI_mul, zI_le, zI_lt, zI_eq, zI_in, zI_nat, Option.bind_some, lt9, hq, Int.add_zero, Int.sub_self, true_or, or_true, true_and, and_true, false_or, or_false, Int.cast_ofNat_Int, ↓reduceIte, hN.lit, eM_with hN, if_pos, if_neg]
        exact this
theorem eM_start {σ : hT} {s : zT} (hs : MSt σ s) (hw : wf s.2.1) {n : Nat} (hn : 25241 ≤ n) : RefQ (some (cntO s.2.1 (s.2.1 16).toNat)) (s.2.1, s.2.1, 0, -1) σ (M_start n σ) := by
  have h16 := hw.1
  obtain ⟨σ1, q1, q2, q3⟩ := eM_st_L19 (w := s.2.1) (n := n) (fun (σ7 : hT) (p8 : Int32) => lt9 (α := hT → Int32 → Int32 → Option (Int32 × hT)) (fun (σ19 : hT) (p20 : Int32) (p21 : Int32) => some (p21, σ19)) fun kx22 => M_start_L46 n kx22 n (σ7) (zI 0) (zI 0)) n (sI (sI (sI σ 500 0 0 (zI 0)) 504 0 0 (zI 0)) 505 0 0 (zI (-1))) 0 (mK_o (mK_o (mK_o hs.2.1 (by decide)) (by decide)) (by decide)) (fun k a b => by omega) (by omega) (by omega)
  refine ⟨σ1, ?_, ⟨q2, ?_, ?_, ?_⟩, ?_, ?_⟩
  · unfold M_start
    simp (disch := omega) only [l0, l1, l2, l3, l4, l5, l6, l7, l8, l10, l12, l16, l20, l24, l26, l40, l64, l80, l100, l255, l256, l288, l312, l400, l992, l1940, l24980, l25240, xI, xL, xR, zI_neg, zI_add, zI_sub, zI_mul, zI_le, zI_lt, zI_eq, zI_in, zI_nat, Option.bind_some, lt9, hq, Int.add_zero, Int.sub_self, true_or, or_true, true_and, and_true, false_or, or_false, Int.cast_ofNat_Int, ↓reduceIte]
    refine Eq.trans q1 ?_
    exact eM_st_L46 hw q2 (fun (σ19 : hT) (p20 : Int32) (p21 : Int32) => some (p21, σ19)) n 0 (by omega) (by omega)
  · intro k k0 k1
    rw [q3.2 16 0 (by decide), rO (by decide), rO (by decide), rO (by decide)]; exact hs.2.1 k k0 k1
  · rw [q3.2 504 0 (by decide), rO (by decide), rS]
  · rw [q3.2 505 0 (by decide), rS]
  · exact (((fM.rf.i (by omega)).i (by omega)).i (by omega)).tr (frW q3 (fun f z => by omega))
  · rw [q3.2 500 0 (by decide), rO (by decide), rO (by decide), rS]; rfl
def rlW (v w : Int → Int) : Prop := wf w ∧ ∀ k, (k < 20 ∨ 1940 ≤ k ∨ (k - 20) % 80 < 2) → w k = v k
theorem rlW.rf {v : Int → Int} (h : wf v) : rlW v v := ⟨h, fun _ _ => rfl⟩
def fS (σ σ' : hT) : Prop := σ'.2.2 = σ.2.2 ∧ (∀ j, j % 3 ≠ 0 → σ'.2.1 20 j = σ.2.1 20 j) ∧ ∀ f j, ¬ ((f = 601 ∨ f = 604 ∨ f = 21 ∨ f = 22) ∧ j % 3 = 0) → σ'.1 f j = σ.1 f j
theorem fS.rf {σ : hT} : fS σ σ := ⟨rfl, fun _ _ => rfl, fun _ _ _ => rfl⟩
theorem fS.tr {σ σ1 σ2 : hT} (h : fS σ σ1) (h2 : fS σ1 σ2) : fS σ σ2 := ⟨h2.1.trans h.1, fun j n => (h2.2.1 j n).trans (h.2.1 j n), fun f j n => (h2.2.2 f j n).trans (h.2.2 f j n)⟩
theorem frC.s {c : Nat} {σ σ' : hT} (h : frC c σ σ') (hc : c % 3 = 0) : fS σ σ' := ⟨h.2.2, fun j n => h.2.1 20 j (fun z => n (by rw [z.2]; exact hc)), fun f j n => h.1 f j (fun z => n ⟨z.1, by rw [z.2]; exact hc⟩)⟩
theorem fS.eq {c : Nat} {σ σ' : hT} (h : fS σ σ') (hc : c % 3 ≠ 0) : eqC σ σ' c := ⟨h.2.2 601 c (by omega), h.2.2 604 c (by omega), h.2.2 21 c (by omega), h.2.2 22 c (by omega), h.2.1 c hc⟩
theorem CA.mx {σ σ' : hT} {v v' : Int → Int} {g : Nat} (h : CA σ v g) (hw : wf v) (hf : fS σ σ') (he : ∀ k, (k < 20 ∨ 1940 ≤ k ∨ (k - 20) % 80 < 2) → v' k = v k) (hc : ∀ d, 0 ≤ d → d < v 16 → cCp σ' (3 * d.toNat) v' d) : CA σ' v' g := by
  have h16 := hw.1
  refine ⟨fun p p0 p1 => by rw [hf.2.2 8 0 (by omega), he p (by omega)]; exact h.1 p p0 p1, by rw [hf.2.2 102 0 (by omega), he 16 (by omega)]; exact h.2.1, ?_, fun d d0 d1 => ?_, fun b b0 b1 => ?_, by rw [hf.1]; exact h.2.2.2.2.2⟩
  · rw [hf.2.2 103 0 (by omega), he 16 (by omega), allR_c _ (fun d d0 d1 => he _ (by omega))]; exact h.2.2.1
  · rw [he 16 (by omega)] at d1
    have q := h.2.2.2.1 d d0 d1
    have hD := hw.2.2.2.1 d d0 d1
    refine ⟨by rw [hf.1]; exact q.1, by rw [hf.2.2 701 _ (by omega), he _ (by omega)]; exact q.2.1, by rw [hf.2.2 702 _ (by omega), he _ (by omega)]; exact q.2.2.1, hc d d0 d1, fun r r0 r1 => ?_⟩
    rw [he _ (by omega)] at r1
    have qq := q.2.2.2.2 r r0 r1
    exact cRv.v (v := v) ⟨by rw [hf.1]; exact qq.1, by rw [hf.2.2 801 _ (by omega)]; exact qq.2.1, by rw [hf.2.2 802 _ (by omega)]; exact qq.2.2.1, (hf.eq (by omega)).ct qq.2.2.2⟩ (hD.2.2.2 r r0 r1).2.2.1 (fun k k0 k1 => he _ (by omega))
  · refine cBl.v (v := v) ?_ (fun k k0 k1 => he _ (by omega))
    rcases h.2.2.2.2.1 b b0 b1 with ⟨h1, h2⟩ | ⟨h1, j, h2, h3, h4, h5⟩
    · exact Or.inl ⟨h1, by rw [hf.1]; exact h2⟩
    · exact Or.inr ⟨h1, j, h2, by rw [hf.1]; exact h3, by rw [hf.2.2 202 _ (by omega)]; exact h4, fun k k0 k1 => by rw [hf.2.2 11 _ (by omega)]; exact h5 k k0 k1⟩
theorem eV_st_L {v w : Int → Int} {g : Nat} (hw : wf v) (hr : rlW v w) {σ0 : hT} (hC : CA σ0 v g) (hW : cW σ0 v w) {n : Nat} (kx : hT → Int32 → Option (Int32 × hT)) (K : Nat) : ∀ (σ : hT) (d : Nat), fS σ0 σ → (∀ e : Int, 0 ≤ e → e < d → cCp σ (3 * e.toNat) w e) → (d : Int) ≤ v 16 → v 16 - d < K →
    ∃ σ', V_start_L2 n kx K σ (zI d) = kx σ' (zI (v 16)) ∧ fS σ0 σ' ∧ ∀ e : Int, 0 ≤ e → e < v 16 → cCp σ' (3 * e.toNat) w e := by
  have h16 := hw.1
  induction K with
  | zero => intro σ d _ _ _ h; omega
  | succ K ih =>
    intro σ d hf hI hd hK
    have e102 : σ.1 102 0 0 = zI (v 16) := by rw [hf.2.2 102 0 (by omega)]; exact hC.2.1
    by_cases hx : v 16 ≤ d
    · refine ⟨σ, ?_, hf, fun e e0 e1 => hI e e0 (by omega)⟩
      unfold V_start_L2
      simp (disch := omega) only [l0, l1, l2, l3, l4, l5, l6, l7, l8, l10, l12, l16, l20, l24, l26, l40, l64, l80, l100, l255, l256, l288, l312, l400, l992, l1940, l24980, l25240, xI, xL, xR, zI_neg, zI_add, zI_sub, zI_mul, zI_le, zI_lt, zI_eq, zI_in, zI_nat, Option.bind_some, lt9, hq, Int.add_zero, Int.sub_self, true_or, or_true, true_and, and_true, false_or, or_false, Int.cast_ofNat_Int, ↓reduceIte, e102, if_pos, if_neg]
      rw [show v 16 = d by omega]
    · have c1 := (hC.2.2.2.1 d (by omega) (by omega)).1
      rw [← hf.1, Int.toNat_natCast] at c1
      have hwd := hW d (by omega) (by omega)
      rw [Int.toNat_natCast] at hwd
      have hwd' := (hf.eq (c := 3 * d + 1) (by omega)).cp hwd
      have hDw := (hr.1.2.2.2.1 d (by omega) (by rw [hr.2 16 (by omega)]; omega)).2.2.1
      obtain ⟨σ1, q1, q2, q3, q4⟩ := eC_takeFrom (σ := σ) (c := 3 * d) (c1 := 3 * d + 1) (by omega)
      obtain ⟨σ2, r1, r2, r3⟩ := ih σ1 (d + 1) (hf.tr (q2.s (by omega))) (fun e e0 e1 => by
        by_cases ee : e = d
        · subst ee
          rw [Int.toNat_natCast]
          exact ⟨fun z => q3 w _ (hDw z) (hwd'.1 z), fun z => q4 (hwd'.2 z)⟩
        · exact (q2.eq (by omega)).cp (hI e e0 (by omega))) (by omega) (by omega)
      refine ⟨σ2, ?_, r2, r3⟩
      rw [← r1]
      conv => lhs; unfold V_start_L2
      rw [Int.natCast_add, Int.cast_ofNat_Int]
      simp (disch := omega) only [l0, l1, l2, l3, l4, l5, l6, l7, l8, l10, l12, l16, l20, l24, l26, l40, l64, l80, l100, l255, l256, l288, l312, l400, l992, l1940, l24980, l25240, xI, xL, xR, zI_neg, zI_add, zI_sub, zI_mul, zI_le, zI_lt, zI_eq, zI_in, zI_nat, Option.bind_some, lt9, hq, Int.add_zero, Int.sub_self, true_or, or_true, true_and, and_true, false_or, or_false, Int.cast_ofNat_Int, ↓reduceIte, e102, Int.toNat_natCast, c1, q1, if_pos, if_neg]
theorem eV_start {σ : hT} {s : zT} {g : Nat} (hS : CaS σ s g) (ho : okS s) (hr : rlW s.1 s.2.1) {n : Nat} (hn : 25 ≤ n) : ClsN (cntO s.2.1 (s.2.1 16).toNat) (s.2.1, s.2.1, 0, -1) g σ (V_start n σ) := by
  have h16 := ho.1.1
  have hw16 := hr.1.1
  obtain ⟨σ1, q1, q2, q3⟩ := eV_st_L ho.1 hr hS.1 hS.2.1 (n := n) (fun (σ1 : hT) (p2 : Int32) => Option.bind (P_switchOn σ1) fun ⟨y26, σ27⟩ => Option.bind (V_drawingsOut n σ27) fun y29 => some (y29, σ27)) n σ 0 fS.rf (fun e a b => by omega) (by omega) (by omega)
  have hC1 : CA σ1 s.2.1 g := hS.1.mx ho.1 q2 hr.2 q3
  obtain ⟨σ2, hσ2⟩ : ∃ σ2, σ2 = sI (sI σ1 403 0 0 (zI 0)) 404 0 0 (zI 0) := ⟨_, rfl⟩
  have fv : fV g σ1 σ2 := by rw [hσ2]; exact (fV.rf.i (by omega)).i (by omega)
  have hC2 := hC1.fr fv
  have e16 : s.2.1 16 = s.1 16 := hr.2 16 (by omega)
  refine ⟨σ2, ?_, ⟨hC2, ?_, ?_⟩, fun f j z => ?_⟩
  · unfold V_start
    refine Eq.trans q1 ?_
    show Option.bind (V_drawingsOut n (sI (sI σ1 403 0 0 (zI 0)) 404 0 0 (zI 0))) (fun y29 => some (y29, sI (sI σ1 403 0 0 (zI 0)) 404 0 0 (zI 0))) = _
    rw [← hσ2, eV_drawingsOut hC2 hr.1 hn]; rfl
  · intro e e0 e1
    have e1' : e < s.2.1 16 := e1
    rw [e16] at e1'
    exact fv.eq.cp ((q2.eq (by omega)).cp (hS.2.1 e e0 e1'))
  · obtain ⟨g0, g1, g2, g3, g4, g5⟩ := hS.2.2
    rw [hσ2]
    refine ⟨?_, ?_, ?_, ?_, ?_, fun z => absurd rfl z⟩
    · simp (disch := first | decide | omega) only [rS, rO, rK, rJ, lS, lK, lO, lJ, lI, lI9, lR, lR9, rL, rL9, rS9, rO9, rJ9, lS9, lO9, lJ9, uv_s, uv_n]; rw [q2.2.2 400 0 (by omega), g0, hr.2 17 (by omega)]
    · simp (disch := first | decide | omega) only [rS, rO, rK, rJ, lS, lK, lO, lJ, lI, lI9, lR, lR9, rL, rL9, rS9, rO9, rJ9, lS9, lO9, lJ9, uv_s, uv_n]; rw [q2.2.2 401 0 (by omega), g1, hr.2 18 (by omega)]
    · simp (disch := first | decide | omega) only [rS, rO, rK, rJ, lS, lK, lO, lJ, lI, lI9, lR, lR9, rL, rL9, rS9, rO9, rJ9, lS9, lO9, lJ9, uv_s, uv_n]; rw [q2.2.2 402 0 (by omega), g2, hr.2 19 (by omega)]
    · simp (disch := first | decide | omega) only [rS, rO, rK, rJ, lS, lK, lO, lJ, lI, lI9, lR, lR9, rL, rL9, rS9, rO9, rJ9, lS9, lO9, lJ9, uv_s, uv_n]
    · simp (disch := first | decide | omega) only [rS, rO, rK, rJ, lS, lK, lO, lJ, lI, lI9, lR, lR9, rL, rL9, rS9, rO9, rJ9, lS9, lO9, lJ9, uv_s, uv_n]; rfl
  · rw [hσ2, rO (by omega), rO (by omega)]; exact q2.2.2 f j (by omega)
