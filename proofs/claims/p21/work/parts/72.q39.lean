def fD (g : Nat) (σ σ' : hT) : Prop := σ'.2 = σ.2 ∧ ∀ f j, ¬ ((f = 11 ∨ f = 12 ∨ f = 202) ∧ j = g) → σ'.1 f j = σ.1 f j
theorem fD.rf {g : Nat} {σ : hT} : fD g σ σ := ⟨rfl, fun _ _ _ => rfl⟩
theorem fD.tr {g : Nat} {σ σ1 σ2 : hT} (h : fD g σ σ1) (h2 : fD g σ1 σ2) : fD g σ σ2 := ⟨h2.1.trans h.1, fun f j n => (h2.2 f j n).trans (h.2 f j n)⟩
theorem fD.i {g : Nat} {σ σ1 : hT} (h : fD g σ σ1) {f k : Nat} {x : Int32} (hf : f = 11 ∨ f = 12 ∨ f = 202) : fD g σ (sI σ1 f g k x) := ⟨h.1, fun f' j' n => (show (sI σ1 f g k x).1 f' j' = _ from r3_ne (fun z => n ⟨by rw [z.1]; exact hf, z.2⟩)).trans (h.2 f' j' n)⟩
theorem fD.v {g : Nat} {σ σ' : hT} (h : fD g σ σ') : fV g σ σ' := ⟨by rw [h.1], fun j => by rw [h.1], fun f j n => h.2 f j (by omega)⟩
def dS (v : Int → Int) (s0 : Int) (g : Nat) (σ : hT) (c : Int → Int) (m : Int) (o : Int → Int) : Prop := (∀ e : Int, 0 ≤ e → e < 24 → σ.1 11 g e.toNat = zI (c e)) ∧ σ.1 202 g 0 = zI m ∧ (∀ i : Int, 0 ≤ i → i < m → σ.1 12 g i.toNat = zI (o i)) ∧ m = cntC c 24 ∧ (∀ e, 0 ≤ e → e < 24 → c e = -1 ∨ (0 ≤ c e ∧ c e < 12 ∧ rch v s0 (12 * e + c e))) ∧ (∀ i, 0 ≤ i → i < m → 0 ≤ o i ∧ o i < 24 ∧ 0 ≤ c (o i)) ∧ (∀ e, 0 ≤ e → e < 24 → 0 ≤ c e → ∃ i, 0 ≤ i ∧ i < m ∧ o i = e)
def exD (c : Int → Int) (m : Int) (o : Int → Int) (c' : Int → Int) (m' : Int) (o' : Int → Int) : Prop := m ≤ m' ∧ (∀ i, 0 ≤ i → i < m → o' i = o i) ∧ ∀ e, 0 ≤ e → e < 24 → c e ≠ -1 → c' e = c e
theorem exD.rf {c : Int → Int} {m : Int} {o : Int → Int} : exD c m o c m o := ⟨Int.le_refl _, fun _ _ _ => rfl, fun _ _ _ _ => rfl⟩
theorem exD.tr {c c1 c2 : Int → Int} {m m1 m2 : Int} {o o1 o2 : Int → Int} (h : exD c m o c1 m1 o1) (h2 : exD c1 m1 o1 c2 m2 o2) : exD c m o c2 m2 o2 := ⟨Int.le_trans h.1 h2.1, fun i a b => (h2.2.1 i a (by have := h.1; omega)).trans (h.2.1 i a b), fun e a b z => (h2.2.2 e a b (by rw [h.2.2 e a b z]; exact z)).trans (h.2.2 e a b z)⟩
theorem cntC_u {c : Int → Int} {d r : Int} (hd : c d < 0) (hr : 0 ≤ r) (d0 : 0 ≤ d) (n : Nat) : cntC (uv c d r) n = cntC c n + if d < n then 1 else 0 := by
  induction n with
  | zero => rw [if_neg (by omega)]; rfl
  | succ n ih =>
    show cntC (uv c d r) n + (if uv c d r n < 0 then 0 else 1) = cntC c n + (if c n < 0 then 0 else 1) + _
    rw [ih]
    by_cases e : d = n
    · subst e
      rw [uv_s, if_neg (by omega), if_neg (by omega), if_pos hd, if_pos (by omega)]
    · rw [uv_n (by omega)]
      by_cases h : d < n
      · rw [if_pos h, if_pos (show d < ((n + 1 : Nat) : Int) by omega)]; omega
      · rw [if_neg h, if_neg (show ¬ d < ((n + 1 : Nat) : Int) by omega)]; omega
theorem eB_takes {v : Int → Int} {s0 : Int} {g : Nat} {σ : hT} {c : Int → Int} {m : Int} {o : Int → Int} (h : dS v s0 g σ c m o) {d r : Int} (d0 : 0 ≤ d) (d1 : d < 24) (r0 : 0 ≤ r) (r1 : r < 12) (hr : rch v s0 (12 * d + r)) :
    (∃ σ' c' m' o', B_takes σ g (zI d) (zI r) = some (zI 1, σ') ∧ dS v s0 g σ' c' m' o' ∧ exD c m o c' m' o' ∧ fD g σ σ' ∧ c' d = r) ∨ (B_takes σ g (zI d) (zI r) = some (zI 0, σ) ∧ c d ≠ -1 ∧ c d ≠ r) := by
  obtain ⟨h1, h2, h3, h4, h5, h6, h7⟩ := h
  have hm := cntC_rng c 24
  have hc := h5 d d0 d1
  by_cases e : c d = -1
  · refine Or.inl ⟨sI (sI (sI σ 11 g d.toNat (zI r)) 12 g m.toNat (zI d)) 202 g 0 (zI (m + 1)), uv c d r, m + 1, uv o m d, ?_, ⟨fun k k0 k1 => ?_, rS, fun i i0 i1 => ?_, ?_, fun k k0 k1 => ?_, fun i i0 i1 => ?_, fun k k0 k1 z => ?_⟩, ⟨by omega, fun i i0 i1 => uv_n (by omega), fun k k0 k1 z => uv_n (fun y => z (by rw [y]; exact e))⟩, ((fD.rf.i (by omega)).i (by omega)).i (by omega), uv_s⟩
    · have hlt : m < 24 := by
        have := cntC_u (c := c) (d := d) (r := r) (by omega) r0 d0 24
        rw [if_pos (by omega)] at this
        have := cntC_rng (uv c d r) 24
        omega
      unfold B_takes
      simp (disch := omega) only [l0, l1, l2, l3, l4, l5, l6, l7, l8, l10, l12, l16, l20, l24, l26, l40, l64, l80, l100, l255, l256, l288, l312, l400, l992, l1940, l24980, l25240, xI, xL, xR, zI_neg, zI_add, zI_sub, zI_mul, zI_le, zI_lt, zI_eq, zI_in, zI_nat, Option.bind_some, lt9, hq, Int.add_zero, Int.sub_self, true_or, or_true, true_and, and_true, false_or, or_false, Int.cast_ofNat_Int, ↓reduceIte, h1 d d0 d1, rO, h2, rS, if_pos, if_neg]
    · by_cases ee : k = d
      · subst ee
        simp (disch := first | decide | omega) only [rS, rO, rK, rJ, lS, lK, lO, lJ, lI, lI9, lR, lR9, rL, rL9, rS9, rO9, rJ9, lS9, lO9, lJ9, uv_s, uv_n]
      · simp (disch := first | decide | omega) only [rS, rO, rK, rJ, lS, lK, lO, lJ, lI, lI9, lR, lR9, rL, rL9, rS9, rO9, rJ9, lS9, lO9, lJ9, uv_s, uv_n]
        exact h1 k k0 k1
    · by_cases ee : i = m
      · subst ee
        simp (disch := first | decide | omega) only [rS, rO, rK, rJ, lS, lK, lO, lJ, lI, lI9, lR, lR9, rL, rL9, rS9, rO9, rJ9, lS9, lO9, lJ9, uv_s, uv_n]
      · simp (disch := first | decide | omega) only [rS, rO, rK, rJ, lS, lK, lO, lJ, lI, lI9, lR, lR9, rL, rL9, rS9, rO9, rJ9, lS9, lO9, lJ9, uv_s, uv_n]
        exact h3 i i0 (by omega)
    · rw [cntC_u (by omega) r0 d0, if_pos (by omega), h4]
    · by_cases ee : k = d
      · subst ee
        rw [uv_s]
        exact Or.inr ⟨r0, r1, hr⟩
      · rw [uv_n ee]
        exact h5 k k0 k1
    · by_cases ee : i = m
      · subst ee
        rw [uv_s, uv_s]
        exact ⟨d0, d1, r0⟩
      · have q := h6 i i0 (by omega)
        rw [uv_n ee, uv_n (fun y => by have := q.2.2; rw [y] at this; omega)]
        exact q
    · by_cases ee : k = d
      · subst ee
        exact ⟨m, by omega, by omega, uv_s⟩
      · rw [uv_n ee] at z
        obtain ⟨i, i0, i1, i2⟩ := h7 k k0 k1 z
        exact ⟨i, i0, by omega, by rw [uv_n (by omega)]; exact i2⟩
  · by_cases e2 : c d = r
    · refine Or.inl ⟨σ, c, m, o, ?_, ⟨h1, h2, h3, h4, h5, h6, h7⟩, exD.rf, fD.rf, e2⟩
      unfold B_takes
      simp (disch := omega) only [l0, l1, l2, l3, l4, l5, l6, l7, l8, l10, l12, l16, l20, l24, l26, l40, l64, l80, l100, l255, l256, l288, l312, l400, l992, l1940, l24980, l25240, xI, xL, xR, zI_neg, zI_add, zI_sub, zI_mul, zI_le, zI_lt, zI_eq, zI_in, zI_nat, Option.bind_some, lt9, hq, Int.add_zero, Int.sub_self, true_or, or_true, true_and, and_true, false_or, or_false, Int.cast_ofNat_Int, ↓reduceIte, h1 d d0 d1, if_pos e2, if_pos, if_neg]
    · refine Or.inr ⟨?_, e, e2⟩
      unfold B_takes
      simp (disch := omega) only [l0, l1, l2, l3, l4, l5, l6, l7, l8, l10, l12, l16, l20, l24, l26, l40, l64, l80, l100, l255, l256, l288, l312, l400, l992, l1940, l24980, l25240, xI, xL, xR, zI_neg, zI_add, zI_sub, zI_mul, zI_le, zI_lt, zI_eq, zI_in, zI_nat, Option.bind_some, lt9, hq, Int.add_zero, Int.sub_self, true_or, or_true, true_and, and_true, false_or, or_false, Int.cast_ofNat_Int, ↓reduceIte, h1 d d0 d1, if_neg e2, if_pos, if_neg]
theorem prt_of {v : Int → Int} {s0 d r q : Int} (d0 : 0 ≤ d) (d1 : d < 24) (r0 : 0 ≤ r) (r1 : r < 12) (q0 : 0 ≤ q) (q1 : q < 12) (hne : r ≠ q) (h1 : rch v s0 (12 * d + r)) (h2 : rch v s0 (12 * d + q)) : prtR v s0 := by
  by_cases h : r < q
  · exact ⟨12 * d + r, 12 * d + q, by omega, by omega, by omega, by omega, h1, h2⟩
  · exact ⟨12 * d + q, 12 * d + r, by omega, by omega, by omega, by omega, h2, h1⟩
theorem eV_fol_L {v : Int → Int} (hw : wf v) {s0 s : Int} (hv : vR v s) (hs : rch v s0 s) {g : Nat} {n : Nat} (hn : 13 ≤ n) (kx : hT → Int32 → Int32 → Nat → Option (Int32 × hT)) (hk : ∀ a b c d, kx a b c d = some (c, a)) (K : Nat) : ∀ (σ : hT) (k : Int) (c : Int → Int) (m : Int) (o : Int → Int) (p : Int), CA σ v g → dS v s0 g σ c m o → 0 ≤ k → k ≤ v (1940 + 80 * s + 3) → (p = 0 ∨ p = 4) → v (1940 + 80 * s + 3) - k < K →
    ∃ y σ' c' m' o', V_follow_L10 n kx K σ (zI k) (zI p) s.toNat = some (zI y, σ') ∧ dS v s0 g σ' c' m' o' ∧ exD c m o c' m' o' ∧ fD g σ σ' ∧ ((y = 2 ∧ prtR v s0) ∨ ((y = 0 ∨ y = 4) ∧ (y = 4 ↔ p = 4 ∨ ∃ i, k ≤ i ∧ i < v (1940 + 80 * s + 3) ∧ ¬ isRel v (1940 + 80 * s) i) ∧ ∀ i, k ≤ i → i < v (1940 + 80 * s + 3) → isRel v (1940 + 80 * s) i → c' (v (1940 + 80 * s + 4 + 2 * i)) = resv v (1940 + 80 * s) i)) := by
  obtain ⟨hcw, hfx⟩ := vR_c hw hv
  have h3 := hcw.2.1
  have h16 := hw.1
  obtain ⟨s1, s2, s3, s4⟩ := hv
  induction K with
  | zero => intro σ k c m o p _ _ _ _ _ h; omega
  | succ K ih =>
    intro σ k c m o p hC hS k0 k1 hp hK
    have cR := (hC.2.2.2.1 _ s3.1 s3.2.1).2.2.2.2 _ s3.2.2.1 s3.2.2.2
    have hct := cR.2.2.2
    have esn : sn (s / 12) (s % 12) = s.toNat := by show (12 * (s / 12) + s % 12).toNat = _; omega
    rw [esn, show 12 * (s / 12) + s % 12 = s by omega] at hct
    by_cases hx : v (1940 + 80 * s + 3) ≤ k
    · refine ⟨p, σ, c, m, o, ?_, hS, exD.rf, fD.rf, Or.inr ⟨hp, ⟨Or.inl, fun z => z.elim id (fun z => absurd z (ex_end (P := fun i => ¬ isRel v (1940 + 80 * s) i) hx))⟩, fun i a b => by omega⟩⟩
      unfold V_follow_L10
      simp (disch := omega) only [l0, l1, l2, l3, l4, l5, l6, l7, l8, l10, l12, l16, l20, l24, l26, l40, l64, l80, l100, l255, l256, l288, l312, l400, l992, l1940, l24980, l25240, xI, xL, xR, zI_neg, zI_add, zI_sub, zI_mul, zI_le, zI_lt, zI_eq, zI_in, zI_nat, Option.bind_some, lt9, hq, Int.add_zero, Int.sub_self, true_or, or_true, true_and, and_true, false_or, or_false, Int.cast_ofNat_Int, ↓reduceIte, hct.2.1, if_pos, if_neg]
      exact hk _ _ _ _
    · have hki := hcw.2.2.1 k k0 (by omega)
      have hk1 := hct.2.2.1 k k0 (by omega)
      have e1 := eV_resolved hC hw hcw hfx k0 (by omega) hn
      have e2 := eV_relOf hC hw hcw hfx k0 (by omega)
      by_cases hr : isRel v (1940 + 80 * s) k
      · rw [if_pos hr] at e2
        have hrr := resv_rng hw hcw hfx k0 (by omega)
        have hm := (hw.2.2.2.1 _ hki.1 hki.2.1).1
        have hrc : rch v s0 (12 * v (1940 + 80 * s + 4 + 2 * k) + resv v (1940 + 80 * s) k) := hs.go ⟨k, k0, by omega, hr, rfl⟩
        have e105 := hC.2.2.2.2.2
        rcases eB_takes hS hki.1 (show v (1940 + 80 * s + 4 + 2 * k) < 24 by omega) hr.1 (by omega) hrc with ⟨σ1, c1, m1, o1, t1, t2, t3, t4, t5⟩ | ⟨t1, t2, t3⟩
        · obtain ⟨y, σ', c', m', o', q1, q2, q3, q4, q5⟩ := ih σ1 (k + 1) c1 m1 o1 p (hC.fr t4.v) t2 (by omega) (by omega) hp (by omega)
          refine ⟨y, σ', c', m', o', ?_, q2, t3.tr q3, t4.tr q4, ?_⟩
          · rw [← q1]
            conv => lhs; unfold V_follow_L10
            simp (disch := omega) only [l0, l1, l2, l3, l4, l5, l6, l7, l8, l10, l12, l16, l20, l24, l26, l40, l64, l80, l100, l255, l256, l288, l312, l400, l992, l1940, l24980, l25240, xI, xL, xR, zI_neg, zI_add, zI_sub, zI_mul, zI_le, zI_lt, zI_eq, zI_in, zI_nat, Option.bind_some, lt9, hq, Int.add_zero, Int.sub_self, true_or, or_true, true_and, and_true, false_or, or_false, Int.cast_ofNat_Int, ↓reduceIte, hct.2.1, hk1.1, hk1.2, e1, e2, e105, t1, if_pos, if_neg]
          · rcases q5 with z | ⟨z1, z2, z3⟩
            · exact Or.inl z
            · refine Or.inr ⟨z1, z2.trans ?_, fun i a b cc => ?_⟩
              · rw [ex_step (P := fun i => ¬ isRel v (1940 + 80 * s) i) (show k < v (1940 + 80 * s + 3) by omega)]
                exact ⟨fun z => z.imp id Or.inr, fun z => z.imp id (fun z => z.elim (fun z => absurd hr z) id)⟩
              · by_cases ee : i = k
                · subst ee
                  rw [q3.2.2 _ hki.1 (by omega) (by omega), t5]
                · exact z3 i (by omega) b cc
        · have hcc := hS.2.2.2.2.1 _ hki.1 (show v (1940 + 80 * s + 4 + 2 * k) < 24 by omega)
          refine ⟨2, σ, c, m, o, ?_, hS, exD.rf, fD.rf, Or.inl ⟨rfl, ?_⟩⟩
          · conv => lhs; unfold V_follow_L10
            simp (disch := omega) only [l0, l1, l2, l3, l4, l5, l6, l7, l8, l10, l12, l16, l20, l24, l26, l40, l64, l80, l100, l255, l256, l288, l312, l400, l992, l1940, l24980, l25240, xI, xL, xR, zI_neg, zI_add, zI_sub, zI_mul, zI_le, zI_lt, zI_eq, zI_in, zI_nat, Option.bind_some, lt9, hq, Int.add_zero, Int.sub_self, true_or, or_true, true_and, and_true, false_or, or_false, Int.cast_ofNat_Int, ↓reduceIte, hct.2.1, hk1.1, hk1.2, e1, e2, e105, t1, if_pos, if_neg]
          · rcases hcc with z | ⟨z1, z2, z3⟩
            · exact absurd z t2
            · exact prt_of hki.1 (by omega) z1 z2 hr.1 (by omega) t3 z3 hrc
      · rw [if_neg hr] at e2
        obtain ⟨y, σ', c', m', o', q1, q2, q3, q4, q5⟩ := ih σ (k + 1) c m o 4 hC hS (by omega) (by omega) (Or.inr rfl) (by omega)
        refine ⟨y, σ', c', m', o', ?_, q2, q3, q4, ?_⟩
        · rw [← q1]
          conv => lhs; unfold V_follow_L10
          simp (disch := omega) only [l0, l1, l2, l3, l4, l5, l6, l7, l8, l10, l12, l16, l20, l24, l26, l40, l64, l80, l100, l255, l256, l288, l312, l400, l992, l1940, l24980, l25240, xI, xL, xR, zI_neg, zI_add, zI_sub, zI_mul, zI_le, zI_lt, zI_eq, zI_in, zI_nat, Option.bind_some, lt9, hq, Int.add_zero, Int.sub_self, true_or, or_true, true_and, and_true, false_or, or_false, Int.cast_ofNat_Int, ↓reduceIte, hct.2.1, hk1.1, hk1.2, e1, e2, if_pos, if_neg]
        · rcases q5 with z | ⟨z1, z2, z3⟩
          · exact Or.inl z
          · refine Or.inr ⟨z1, ⟨fun _ => Or.inr ⟨k, by omega, by omega, hr⟩, fun _ => z2.mpr (Or.inl rfl)⟩, fun i a b cc => ?_⟩
            by_cases ee : i = k
            · subst ee; exact absurd cc hr
            · exact z3 i (by omega) b cc
theorem eV_follow {v : Int → Int} (hw : wf v) {s0 s : Int} (hv : vR v s) (hs : rch v s0 s) {g : Nat} {n : Nat} (hn : 13 ≤ n) {σ : hT} {c : Int → Int} {m : Int} {o : Int → Int} (hC : CA σ v g) (hS : dS v s0 g σ c m o) :
    ∃ y σ' c' m' o', V_follow n σ (some s.toNat) = some (zI y, σ') ∧ dS v s0 g σ' c' m' o' ∧ exD c m o c' m' o' ∧ fD g σ σ' ∧ ((y = 2 ∧ prtR v s0) ∨ (y = 4 ∧ badR v s ∧ ∀ t, edge v s t → c' (t / 12) = t % 12) ∨ (y = 0 ∧ ¬ badR v s ∧ ∀ t, edge v s t → c' (t / 12) = t % 12)) := by
  obtain ⟨hcw, hfx⟩ := vR_c hw hv
  have h3 := hcw.2.1
  have h16 := hw.1
  obtain ⟨y, σ', c', m', o', q1, q2, q3, q4, q5⟩ := eV_fol_L hw hv hs hn (fun (σ3 : hT) (p4 : Int32) (p5 : Int32) (j6 : Nat) => some (p5, σ3)) (fun _ _ _ _ => rfl) n σ 0 c m o 0 hC hS (by omega) (by omega) (Or.inl rfl) (by omega)
  refine ⟨y, σ', c', m', o', q1, q2, q3, q4, ?_⟩
  rcases q5 with z | ⟨z1, z2, z3⟩
  · exact Or.inl z
  · have he : ∀ t, edge v s t → c' (t / 12) = t % 12 := by
      rintro t ⟨i, i0, i1, i2, rfl⟩
      have hki := hcw.2.2.1 i i0 i1
      have hrr := resv_rng hw hcw hfx i0 i1
      have hm := (hw.2.2.2.1 _ hki.1 hki.2.1).1
      have := z3 i i0 i1 i2
      have i20 := i2.1
      unfold tgt
      rw [show (12 * v (1940 + 80 * s + 4 + 2 * i) + resv v (1940 + 80 * s) i) / 12 = v (1940 + 80 * s + 4 + 2 * i) by omega, show (12 * v (1940 + 80 * s + 4 + 2 * i) + resv v (1940 + 80 * s) i) % 12 = resv v (1940 + 80 * s) i by omega]
      exact this
    rcases z1 with rfl | rfl
    · exact Or.inr (Or.inr ⟨rfl, fun z => absurd (z2.mpr (Or.inr z)) (by decide), he⟩)
    · exact Or.inr (Or.inl ⟨rfl, (z2.mp rfl).elim (fun z => absurd z (by decide)) id, he⟩)
