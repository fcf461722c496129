theorem eV_fill_L {v : Int → Int} (hw : wf v) {s0 : Int} (h0 : vR v s0) {g : Nat} {n : Nat} (hn : 13 ≤ n) (kx : hT → Int32 → Int32 → Int32 → Int32 → Option (Int32 × hT)) (hk : ∀ a b c d e, kx a b c d e = some (c, a)) (x1 x2 : Int32) (K : Nat) : ∀ (σ : hT) (i : Int) (c : Int → Int) (m : Int) (o : Int → Int) (p : Int), CA σ v g → dS v s0 g σ c m o → 0 ≤ i → i ≤ m → (p = 0 ∨ p = 4) → (p = 4 → opnR v s0) → (∀ j, 0 ≤ j → j < i → (p = 0 → ¬ badR v (12 * o j + c (o j))) ∧ ∀ t, edge v (12 * o j + c (o j)) t → c (t / 12) = t % 12) → 24 - i < K →
    ∃ y σ' c' m' o', V_fillDraft_L22 n kx K σ (zI i) (zI p) x1 x2 = some (zI y, σ') ∧ dS v s0 g σ' c' m' o' ∧ exD c m o c' m' o' ∧ fD g σ σ' ∧ ((y = 2 ∧ prtR v s0) ∨ (y = 4 ∧ opnR v s0) ∨ (y = 0 ∧ ∀ j, 0 ≤ j → j < m' → ¬ badR v (12 * o' j + c' (o' j)) ∧ ∀ t, edge v (12 * o' j + c' (o' j)) t → c' (t / 12) = t % 12)) := by
  induction K with
  | zero =>
    intro σ i c m o p _ hS _ hi _ _ _ h
    have := hS.2.2.2.1
    have := cntC_rng c 24
    omega
  | succ K ih =>
    intro σ i c m o p hC hS i0 i1 hp hp4 hI hK
    have hm := hS.2.2.2.1
    have hmr := cntC_rng c 24
    have e105 := hC.2.2.2.2.2
    by_cases hx : m ≤ i
    · refine ⟨p, σ, c, m, o, ?_, hS, exD.rf, fD.rf, ?_⟩
      · conv => lhs; unfold V_fillDraft_L22
        simp (disch := omega) only [l0, l1, l2, l3, l4, l5, l6, l7, l8, l10, l12, l16, l20, l24, l26, l40, l64, l80, l100, l255, l256, l288, l312, l400, l992, l1940, l24980, l25240, xI, xL, xR, zI_neg, zI_add, zI_sub, zI_mul, zI_le, zI_lt, zI_eq, zI_in, zI_nat, Option.bind_some, lt9, hq, Int.add_zero, Int.sub_self, true_or, or_true, true_and, and_true, false_or, or_false, Int.cast_ofNat_Int, ↓reduceIte, e105, hS.2.1, if_pos, if_neg]
        exact hk _ _ _ _ _
      · rcases hp with rfl | rfl
        · exact Or.inr (Or.inr ⟨rfl, fun j j0 j1 => ⟨(hI j j0 (by omega)).1 rfl, (hI j j0 (by omega)).2⟩⟩)
        · exact Or.inr (Or.inl ⟨rfl, hp4 rfl⟩)
    · obtain ⟨o0, o1, o2⟩ := hS.2.2.2.2.2.1 i i0 (by omega)
      have hci := hS.2.2.2.2.1 (o i) o0 o1
      obtain ⟨c0, c1, c2⟩ : 0 ≤ c (o i) ∧ c (o i) < 12 ∧ rch v s0 (12 * o i + c (o i)) := by
        rcases hci with z | z
        · omega
        · exact z
      have hv := rch.v hw h0 c2
      have hrv : isRv v (o i) (c (o i)) := by
        have := hv.2.2.1
        rw [show (12 * o i + c (o i)) / 12 = o i by omega, show (12 * o i + c (o i)) % 12 = c (o i) by omega] at this
        exact this
      have t1 := hS.2.2.1 i i0 (by omega)
      have t2 := hS.1 (o i) o0 o1
      have t3 := eV_revisionAt hC hw (d := o i) (r := c (o i)) ⟨by omega, by omega⟩ ⟨by omega, by omega⟩
      rw [if_pos hrv] at t3
      have t3' : V_revisionAt σ (zI (o i)) (zI (c (o i))) = some (some (12 * o i + c (o i)).toNat) := t3
      obtain ⟨y, σ1, c1', m1, o1', q1, q2, q3, q4, q5⟩ := eV_follow hw hv c2 hn hC hS
      have keep : ∀ j, 0 ≤ j → j < m → o1' j = o j ∧ c1' (o j) = c (o j) := fun j j0 j1 => by
        have hj := hS.2.2.2.2.2.1 j j0 j1
        exact ⟨q3.2.1 j j0 j1, q3.2.2 _ hj.1 hj.2.1 (by omega)⟩
      have kee : ∀ j, 0 ≤ j → j < i → (∀ t, edge v (12 * o1' j + c1' (o1' j)) t → c1' (t / 12) = t % 12) := fun j j0 j1 t ht => by
        obtain ⟨k1, k2⟩ := keep j j0 (by omega)
        rw [k1, k2] at ht
        have hj := (hI j j0 j1).2 t ht
        have hvt := rch.v hw h0 (rch.go (show rch v s0 (12 * o j + c (o j)) from by
          have hj := hS.2.2.2.2.2.1 j j0 (by omega)
          rcases hS.2.2.2.2.1 (o j) hj.1 hj.2.1 with z | z
          · omega
          · exact z.2.2) ht)
        have hb := hvt.1
        have hb2 := hvt.2.1
        rw [q3.2.2 (t / 12) (by omega) (by omega) (by omega)]
        exact hj
      have go : ∀ p', V_fillDraft_L22 n kx (K + 1) σ (zI i) (zI p) x1 x2 = V_fillDraft_L22 n kx K σ1 (zI (i + 1)) (zI p') x1 x2 → (p' = 0 ∨ p' = 4) → (p' = 4 → opnR v s0) → (p' = 0 → p = 0 ∧ ¬ badR v (12 * o i + c (o i))) → (∀ t, edge v (12 * o i + c (o i)) t → c1' (t / 12) = t % 12) → ∃ y σ' c' m' o', V_fillDraft_L22 n kx (K + 1) σ (zI i) (zI p) x1 x2 = some (zI y, σ') ∧ dS v s0 g σ' c' m' o' ∧ exD c m o c' m' o' ∧ fD g σ σ' ∧ ((y = 2 ∧ prtR v s0) ∨ (y = 4 ∧ opnR v s0) ∨ (y = 0 ∧ ∀ j, 0 ≤ j → j < m' → ¬ badR v (12 * o' j + c' (o' j)) ∧ ∀ t, edge v (12 * o' j + c' (o' j)) t → c' (t / 12) = t % 12)) := by
        intro p' e1 e2 e3 e4 e5
        obtain ⟨z, σ2, c2', m2, o2', r1, r2, r3, r4, r5⟩ := ih σ1 (i + 1) c1' m1 o1' p' (hC.fr q4.v) q2 (by omega) (by have := q3.1; omega) e2 e3 (fun j j0 j1 => by
          by_cases ej : j = i
          · subst ej
            obtain ⟨k1, k2⟩ := keep j j0 (by omega)
            rw [k1, k2]
            exact ⟨fun z => (e4 z).2, e5⟩
          · refine ⟨fun z => ?_, kee j j0 (by omega)⟩
            obtain ⟨k1, k2⟩ := keep j j0 (by omega)
            rw [k1, k2]
            exact (hI j j0 (by omega)).1 (e4 z).1) (by omega)
        exact ⟨z, σ2, c2', m2, o2', by rw [e1]; exact r1, r2, q3.tr r3, q4.tr r4, r5⟩
      rcases q5 with ⟨rfl, hpr⟩ | ⟨rfl, hb, he⟩ | ⟨rfl, hb, he⟩
      · refine ⟨2, σ1, c1', m1, o1', ?_, q2, q3, q4, Or.inl ⟨rfl, hpr⟩⟩
        conv => lhs; unfold V_fillDraft_L22
        simp (disch := omega) only [l0, l1, l2, l3, l4, l5, l6, l7, l8, l10, l12, l16, l20, l24, l26, l40, l64, l80, l100, l255, l256, l288, l312, l400, l992, l1940, l24980, l25240, xI, xL, xR, zI_neg, zI_add, zI_sub, zI_mul, zI_le, zI_lt, zI_eq, zI_in, zI_nat, Option.bind_some, lt9, hq, Int.add_zero, Int.sub_self, true_or, or_true, true_and, and_true, false_or, or_false, Int.cast_ofNat_Int, ↓reduceIte, e105, hS.2.1, t1, t2, t3', q1, if_pos, if_neg]
      · refine go 4 ?_ (Or.inr rfl) (fun _ => ⟨_, c2, hb⟩) (fun z => absurd z (by decide)) he
        conv => lhs; unfold V_fillDraft_L22
        rcases hp with rfl | rfl
        · simp (disch := omega) only [l0, l1, l2, l3, l4, l5, l6, l7, l8, l10, l12, l16, l20, l24, l26, l40, l64, l80, l100, l255, l256, l288, l312, l400, l992, l1940, l24980, l25240, xI, xL, xR, zI_neg, zI_add, zI_sub, zI_mul, zI_le, zI_lt, zI_eq, zI_in, zI_nat, Option.bind_some, lt9, hq, Int.add_zero, Int.sub_self, true_or, or_true, true_and, and_true, false_or, or_false, Int.cast_ofNat_Int, ↓reduceIte, e105, hS.2.1, t1, t2, t3', q1, if_pos, if_neg]
        · simp (disch := omega) only [l0, l1, l2, l3, l4, l5, l6, l7, l8, l10, l12, l16, l20, l24, l26, l40, l64, l80, l100, l255, l256, l288, l312, l400, l992, l1940, l24980, l25240, xI, xL, xR, zI_neg, zI_add, zI_sub, zI_mul, zI_le, zI_lt, zI_eq, zI_in, zI_nat, Option.bind_some, lt9, hq, Int.add_zero, Int.sub_self, true_or, or_true, true_and, and_true, false_or, or_false, Int.cast_ofNat_Int, ↓reduceIte, e105, hS.2.1, t1, t2, t3', q1, if_pos, if_neg]
      · refine go p ?_ hp hp4 (fun z => ⟨z, hb⟩) he
        conv => lhs; unfold V_fillDraft_L22
        rcases hp with rfl | rfl
        · simp (disch := omega) only [l0, l1, l2, l3, l4, l5, l6, l7, l8, l10, l12, l16, l20, l24, l26, l40, l64, l80, l100, l255, l256, l288, l312, l400, l992, l1940, l24980, l25240, xI, xL, xR, zI_neg, zI_add, zI_sub, zI_mul, zI_le, zI_lt, zI_eq, zI_in, zI_nat, Option.bind_some, lt9, hq, Int.add_zero, Int.sub_self, true_or, or_true, true_and, and_true, false_or, or_false, Int.cast_ofNat_Int, ↓reduceIte, e105, hS.2.1, t1, t2, t3', q1, if_pos, if_neg]
        · simp (disch := omega) only [l0, l1, l2, l3, l4, l5, l6, l7, l8, l10, l12, l16, l20, l24, l26, l40, l64, l80, l100, l255, l256, l288, l312, l400, l992, l1940, l24980, l25240, xI, xL, xR, zI_neg, zI_add, zI_sub, zI_mul, zI_le, zI_lt, zI_eq, zI_in, zI_nat, Option.bind_some, lt9, hq, Int.add_zero, Int.sub_self, true_or, or_true, true_and, and_true, false_or, or_false, Int.cast_ofNat_Int, ↓reduceIte, e105, hS.2.1, t1, t2, t3', q1, if_pos, if_neg]
theorem eV_fillDraft {v : Int → Int} (hw : wf v) {d : Int} (d0 : 0 ≤ d) (d1 : d < v 16) (hr : 0 ≤ rel v d) {g : Nat} {n : Nat} (hn : 25 ≤ n) {σ : hT} {o : Int → Int} (hC : CA σ v g) (hS : dS v (12 * d + rel v d) g σ (fun _ => -1) 0 o) :
    ∃ y σ' c' m' o', V_fillDraft n σ (zI d) (zI (rel v d)) = some (zI y, σ') ∧ dS v (12 * d + rel v d) g σ' c' m' o' ∧ fD g σ σ' ∧ ((y = 2 ∨ y = 4) ∧ ¬ (¬ prtR v (12 * d + rel v d) ∧ ¬ opnR v (12 * d + rel v d)) ∨ (y = 0 ∧ ¬ prtR v (12 * d + rel v d) ∧ ¬ opnR v (12 * d + rel v d) ∧ ∀ e, 0 ≤ e → e < 24 → c' e = cmF v (12 * d + rel v d) e)) := by
  have h16 := hw.1
  have h0 := rel_v hw d0 d1 hr
  have hrr := rel_rng hw d0 d1
  have hm := (hw.2.2.2.1 d d0 d1).1
  have e105 := hC.2.2.2.2.2
  rcases eB_takes hS d0 (show d < 24 by omega) hr (by omega) rch.st with ⟨σ1, c1, m1, o1, t1, t2, t3, t4, t5⟩ | ⟨t1, t2, t3⟩
  · obtain ⟨y, σ', c', m', o', q1, q2, q3, q4, q5⟩ := eV_fill_L hw h0 (show 13 ≤ n by omega) (fun (σ9 : hT) (p10 : Int32) (p11 : Int32) (p12 : Int32) (p13 : Int32) => some (p11, σ9)) (fun _ _ _ _ _ => rfl) (zI d) (zI (rel v d)) n σ1 0 c1 m1 o1 0 (hC.fr t4.v) t2 (by omega) (by have := t2.2.2.2.1; have := cntC_rng c1 24; omega) (Or.inl rfl) (fun z => absurd z (by decide)) (fun j a b => by omega) (by omega)
    refine ⟨y, σ', c', m', o', ?_, q2, t4.tr q4, ?_⟩
    · unfold V_fillDraft
      simp (disch := omega) only [l0, l1, l2, l3, l4, l5, l6, l7, l8, l10, l12, l16, l20, l24, l26, l40, l64, l80, l100, l255, l256, l288, l312, l400, l992, l1940, l24980, l25240, xI, xL, xR, zI_neg, zI_add, zI_sub, zI_mul, zI_le, zI_lt, zI_eq, zI_in, zI_nat, Option.bind_some, lt9, hq, Int.add_zero, Int.sub_self, true_or, or_true, true_and, and_true, false_or, or_false, Int.cast_ofNat_Int, ↓reduceIte, e105, t1, if_pos, if_neg]
      exact q1
    · rcases q5 with ⟨rfl, z⟩ | ⟨rfl, z⟩ | ⟨rfl, z⟩
      · exact Or.inl ⟨Or.inl rfl, fun y => y.1 z⟩
      · exact Or.inl ⟨Or.inr rfl, fun y => y.2 z⟩
      · have hin : ∀ t, rch v (12 * d + rel v d) t → (0 ≤ t ∧ t < 288) ∧ c' (t / 12) = t % 12 := by
          intro t ht
          have hcd : c' d = rel v d := by rw [q3.2.2 d d0 (by omega) (by omega)]; exact t5
          refine ht (fun t => (0 ≤ t ∧ t < 288) ∧ c' (t / 12) = t % 12) ⟨⟨by omega, by omega⟩, by rw [show (12 * d + rel v d) / 12 = d by omega, show (12 * d + rel v d) % 12 = rel v d by omega]; exact hcd⟩ ?_
          rintro s t ⟨⟨s1, s2⟩, s3⟩ he
          obtain ⟨i, i0, i1, i2⟩ := q2.2.2.2.2.2.2 (s / 12) (by omega) (by omega) (by omega)
          have hz := z i i0 i1
          rw [i2, s3, show 12 * (s / 12) + s % 12 = s by omega] at hz
          have hrs : rch v (12 * d + rel v d) s := by
            rcases q2.2.2.2.2.1 (s / 12) (by omega) (by omega) with y | y
            · omega
            · have := y.2.2
              rw [s3, show 12 * (s / 12) + s % 12 = s by omega] at this
              exact this
          have hvt := rch.v hw h0 (hrs.go he)
          exact ⟨⟨hvt.1, hvt.2.1⟩, hz.2 t he⟩
        have hp : ¬ prtR v (12 * d + rel v d) := by
          rintro ⟨s, t, a, b, cc, e, hs, ht⟩
          have h1 := (hin s hs).2
          have h2 := (hin t ht).2
          rw [e] at h1
          omega
        have ho : ¬ opnR v (12 * d + rel v d) := by
          rintro ⟨s, hs, hb⟩
          obtain ⟨⟨s1, s2⟩, s3⟩ := hin s hs
          obtain ⟨i, i0, i1, i2⟩ := q2.2.2.2.2.2.2 (s / 12) (by omega) (by omega) (by omega)
          have hz := z i i0 i1
          rw [i2, s3, show 12 * (s / 12) + s % 12 = s by omega] at hz
          exact hz.1 hb
        refine Or.inr ⟨rfl, hp, ho, fun e e0 e1 => cmF_eq (fun e e0 e1 => ?_) hp e e0 e1⟩
        rcases q2.2.2.2.2.1 e e0 e1 with y | y
        · refine Or.inl ⟨y, fun s s0 s1 s2 hs => ?_⟩
          have := (hin s hs).2
          rw [s2] at this
          omega
        · exact Or.inr y
  · exact absurd rfl t2
theorem eA_fillI_L {n g : Nat} (kx : hT → Int32 → Nat → Int32 → Option (Unit × hT)) (K : Nat) : ∀ (σ : hT) (i : Nat), (∀ k : Int, 0 ≤ k → k < i → σ.1 11 g k.toNat = zI (-1)) → i ≤ 24 → 24 - i < K →
    ∃ σ' e, A_fillI_L5 n kx K σ (zI i) g (zI (-1)) = kx σ' e g (zI (-1)) ∧ (∀ k : Int, 0 ≤ k → k < 24 → σ'.1 11 g k.toNat = zI (-1)) ∧ fD g σ σ' := by
  induction K with
  | zero => intro σ i _ _ h; omega
  | succ K ih =>
    intro σ i hI hi hK
    by_cases hx : 24 ≤ i
    · refine ⟨σ, zI i, ?_, fun k k0 k1 => hI k k0 (by omega), fD.rf⟩
      unfold A_fillI_L5
      simp (disch := omega) only [l0, l1, l2, l3, l4, l5, l6, l7, l8, l10, l12, l16, l20, l24, l26, l40, l64, l80, l100, l255, l256, l288, l312, l400, l992, l1940, l24980, l25240, xI, xL, xR, zI_neg, zI_add, zI_sub, zI_mul, zI_le, zI_lt, zI_eq, zI_in, zI_nat, Option.bind_some, lt9, hq, Int.add_zero, Int.sub_self, true_or, or_true, true_and, and_true, false_or, or_false, Int.cast_ofNat_Int, ↓reduceIte, if_pos, if_neg]
    · obtain ⟨σ', e, q1, q2, q3⟩ := ih (sI σ 11 g i (zI (-1))) (i + 1) (fun k k0 k1 => by
        by_cases ee : k = i
        · subst ee; rw [Int.toNat_natCast, rS]
        · rw [rK (by omega)]; exact hI k k0 (by omega)) (by omega) (by omega)
      refine ⟨σ', e, ?_, q2, (fD.rf.i (by omega)).tr q3⟩
      rw [← q1]
      conv => lhs; unfold A_fillI_L5
      rw [Int.natCast_add, Int.cast_ofNat_Int]
      simp (disch := omega) only [l0, l1, l2, l3, l4, l5, l6, l7, l8, l10, l12, l16, l20, l24, l26, l40, l64, l80, l100, l255, l256, l288, l312, l400, l992, l1940, l24980, l25240, xI, xL, xR, zI_neg, zI_add, zI_sub, zI_mul, zI_le, zI_lt, zI_eq, zI_in, zI_nat, Option.bind_some, lt9, hq, Int.add_zero, Int.sub_self, true_or, or_true, true_and, and_true, false_or, or_false, Int.cast_ofNat_Int, ↓reduceIte, Int.toNat_natCast, if_pos, if_neg]
theorem eB_clear {n g : Nat} (hn : 25 ≤ n) {σ : hT} : ∃ σ', B_clear n σ g = some ((), σ') ∧ fD g σ σ' ∧ (∀ k : Int, 0 ≤ k → k < 24 → σ'.1 11 g k.toNat = zI (-1)) ∧ σ'.1 202 g 0 = zI 0 := by
  obtain ⟨σ1, e, q1, q2, q3⟩ := eA_fillI_L (n := n) (g := g) (fun (σ2 : hT) (p3 : Int32) (j4 : Nat) (p6 : Int32) => some ((), σ2)) n σ 0 (fun k a b => by omega) (by omega) (by omega)
  refine ⟨sI σ1 202 g 0 (zI 0), ?_, q3.tr (fD.rf.i (by omega)), fun k k0 k1 => by rw [rO (by decide)]; exact q2 k k0 k1, rS⟩
  unfold B_clear A_fillI
  refine Eq.trans (congrArg (fun z => Option.bind z _) q1) ?_
  rfl
theorem cntC_neg (n : Nat) : cntC (fun _ => -1) n = 0 := by
  induction n with
  | zero => rfl
  | succ n ih => show cntC (fun _ => -1) n + (if (-1 : Int) < 0 then 0 else 1) = 0; rw [ih, if_pos (by decide)]; rfl
theorem dS_0 {v : Int → Int} {s0 : Int} {g : Nat} {σ : hT} (h1 : ∀ k : Int, 0 ≤ k → k < 24 → σ.1 11 g k.toNat = zI (-1)) (h2 : σ.1 202 g 0 = zI 0) : dS v s0 g σ (fun _ => -1) 0 (fun _ => 0) :=
  ⟨h1, h2, fun i a b => by omega, by rw [cntC_neg], fun _ _ _ => Or.inl rfl, fun i a b => by omega, fun e _ _ z => absurd (show (0 : Int) ≤ -1 from z) (by decide)⟩
theorem eV_basR {v : Int → Int} (hw : wf v) {b d : Int} (hb : i32 b) (hd : i32 d) {g : Nat} {n : Nat} (hn : 25 ≤ n) {σ : hT} (hC : CA σ v g) :
    ∃ why σ' m, V_baselineRefusal n σ (zI b) (zI d) = some (zI why, σ') ∧ fD g σ σ' ∧ 0 ≤ why ∧ why ≤ 8 ∧ (basOk v b d ↔ why = 0) ∧ σ'.1 202 g 0 = zI m ∧ 0 ≤ m ∧ m ≤ 24 ∧ (why = 0 → m = cntC (cmF v (12 * d + rel v d)) 24 ∧ ∀ e, 0 ≤ e → e < 24 → σ'.1 11 g e.toNat = zI (cmF v (12 * d + rel v d) e)) := by
  obtain ⟨b1, b2⟩ := hb
  obtain ⟨σ1, q1, q2, q3, q4⟩ := eB_clear (g := g) hn (σ := σ)
  have hC1 := hC.fr q2.v
  have e105 := hC.2.2.2.2.2
  have eb := eV_baselineAt hC1 (b := b) ⟨b1, b2⟩
  have hbl : (∃ j, V_baselineAt σ1 (zI b) = some (some j)) ∧ ¬ basOk v b d ∨ V_baselineAt σ1 (zI b) = some none ∧ ((0 ≤ b ∧ b < 10) → v (24980 + 26 * b) ≤ 0) := by
    rw [eb]
    by_cases h : 0 ≤ b ∧ b < 10
    · rw [if_pos h]
      rcases hC1.2.2.2.2.1 b h.1 h.2 with ⟨h1, h2⟩ | ⟨h1, j, h2, h3, h4⟩
      · exact Or.inr ⟨by rw [h2], fun _ => by omega⟩
      · exact Or.inl ⟨⟨j, by rw [h3]⟩, fun z => by have := z.2.2.1; omega⟩
    · rw [if_neg h]
      exact Or.inr ⟨rfl, fun z => absurd z h⟩
  unfold V_baselineRefusal
  rw [eV_drawingAt hC hw hd]
  by_cases h : 0 ≤ d ∧ d < v 16
  · rw [if_pos h]
    rcases hbl with ⟨⟨j, hj⟩, hno⟩ | ⟨hj, hv⟩
    · refine ⟨2, σ1, 0, ?_, q2, by omega, by omega, ⟨fun z => absurd z hno, fun z => absurd z (by decide)⟩, q4, by omega, by omega, fun z => absurd z (by decide)⟩
      simp (disch := omega) only [l0, l1, l2, l3, l4, l5, l6, l7, l8, l10, l12, l16, l20, l24, l26, l40, l64, l80, l100, l255, l256, l288, l312, l400, l992, l1940, l24980, l25240, xI, xL, xR, zI_neg, zI_add, zI_sub, zI_mul, zI_le, zI_lt, zI_eq, zI_in, zI_nat, Option.bind_some, lt9, hq, Int.add_zero, Int.sub_self, true_or, or_true, true_and, and_true, false_or, or_false, Int.cast_ofNat_Int, ↓reduceIte, e105, q1, hj, if_pos, if_neg]
    · have el := eD_latestReleased hC1 hw h.1 h.2 (show 13 ≤ n by omega)
      have hrr := rel_rng hw h.1 h.2
      have hm := (hw.2.2.2.1 d h.1 h.2).1
      by_cases hr : 0 ≤ rel v d
      · obtain ⟨y, σ2, c', m', o', r1, r2, r3, r4⟩ := eV_fillDraft hw h.1 h.2 hr hn hC1 (dS_0 q3 q4)
        have hm' := r2.2.2.2.1
        have hmr := cntC_rng c' 24
        rcases r4 with ⟨z1, z2⟩ | ⟨rfl, z1, z2, z3⟩
        · refine ⟨y, σ2, m', ?_, q2.tr r3, by omega, by omega, ⟨fun z => absurd ⟨z.2.2.2.2.1, z.2.2.2.2.2⟩ z2, fun z => by omega⟩, r2.2.1, by omega, by omega, fun z => by omega⟩
          rcases z1 with rfl | rfl
          · simp (disch := omega) only [l0, l1, l2, l3, l4, l5, l6, l7, l8, l10, l12, l16, l20, l24, l26, l40, l64, l80, l100, l255, l256, l288, l312, l400, l992, l1940, l24980, l25240, xI, xL, xR, zI_neg, zI_add, zI_sub, zI_mul, zI_le, zI_lt, zI_eq, zI_in, zI_nat, Option.bind_some, lt9, hq, Int.add_zero, Int.sub_self, true_or, or_true, true_and, and_true, false_or, or_false, Int.cast_ofNat_Int, ↓reduceIte, e105, q1, hj, el, r1, if_pos, if_neg]
          · simp (disch := omega) only [l0, l1, l2, l3, l4, l5, l6, l7, l8, l10, l12, l16, l20, l24, l26, l40, l64, l80, l100, l255, l256, l288, l312, l400, l992, l1940, l24980, l25240, xI, xL, xR, zI_neg, zI_add, zI_sub, zI_mul, zI_le, zI_lt, zI_eq, zI_in, zI_nat, Option.bind_some, lt9, hq, Int.add_zero, Int.sub_self, true_or, or_true, true_and, and_true, false_or, or_false, Int.cast_ofNat_Int, ↓reduceIte, e105, q1, hj, el, r1, if_pos, if_neg]
        · have hcc : ∀ e, 0 ≤ e → e < 24 → σ2.1 11 g e.toNat = zI (cmF v (12 * d + rel v d) e) := fun e e0 e1 => by rw [← z3 e e0 e1]; exact r2.1 e e0 e1
          have hmm : m' = cntC (cmF v (12 * d + rel v d)) 24 := by rw [hm']; exact cntC_c 24 (fun e e0 e1 => z3 e e0 (by omega))
          by_cases hbb : 0 ≤ b ∧ b < 10
          · refine ⟨0, σ2, m', ?_, q2.tr r3, by omega, by omega, ⟨fun _ => rfl, fun _ => ⟨hbb, h, hv hbb, hr, z1, z2⟩⟩, r2.2.1, by omega, by omega, fun _ => ⟨hmm, hcc⟩⟩
            simp (disch := omega) only [l0, l1, l2, l3, l4, l5, l6, l7, l8, l10, l12, l16, l20, l24, l26, l40, l64, l80, l100, l255, l256, l288, l312, l400, l992, l1940, l24980, l25240, xI, xL, xR, zI_neg, zI_add, zI_sub, zI_mul, zI_le, zI_lt, zI_eq, zI_in, zI_nat, Option.bind_some, lt9, hq, Int.add_zero, Int.sub_self, true_or, or_true, true_and, and_true, false_or, or_false, Int.cast_ofNat_Int, ↓reduceIte, e105, q1, hj, el, r1, if_pos, if_neg]
          · refine ⟨7, σ2, m', ?_, q2.tr r3, by omega, by omega, ⟨fun z => absurd z.1 hbb, fun z => absurd z (by decide)⟩, r2.2.1, by omega, by omega, fun z => absurd z (by decide)⟩
            by_cases hb0 : b < 0
            · simp (disch := omega) only [l0, l1, l2, l3, l4, l5, l6, l7, l8, l10, l12, l16, l20, l24, l26, l40, l64, l80, l100, l255, l256, l288, l312, l400, l992, l1940, l24980, l25240, xI, xL, xR, zI_neg, zI_add, zI_sub, zI_mul, zI_le, zI_lt, zI_eq, zI_in, zI_nat, Option.bind_some, lt9, hq, Int.add_zero, Int.sub_self, true_or, or_true, true_and, and_true, false_or, or_false, Int.cast_ofNat_Int, ↓reduceIte, e105, q1, hj, el, r1, if_pos, if_neg]
            · simp (disch := omega) only [l0, l1, l2, l3, l4, l5, l6, l7, l8, l10, l12, l16, l20, l24, l26, l40, l64, l80, l100, l255, l256, l288, l312, l400, l992, l1940, l24980, l25240, xI, xL, xR, zI_neg, zI_add, zI_sub, zI_mul, zI_le, zI_lt, zI_eq, zI_in, zI_nat, Option.bind_some, lt9, hq, Int.add_zero, Int.sub_self, true_or, or_true, true_and, and_true, false_or, or_false, Int.cast_ofNat_Int, ↓reduceIte, e105, q1, hj, el, r1, if_pos, if_neg]
      · have hr1 : rel v d = -1 := by omega
        refine ⟨2, σ1, 0, ?_, q2, by omega, by omega, ⟨fun z => absurd z.2.2.2.1 hr, fun z => absurd z (by decide)⟩, q4, by omega, by omega, fun z => absurd z (by decide)⟩
        have ef : V_fillDraft n σ1 (zI d) (zI (-1)) = some (zI 2, σ1) := by
          unfold V_fillDraft
          rw [if_pos (show zI (-1) = -1 from rfl)]; rfl
        rw [hr1] at el
        simp (disch := omega) only [l0, l1, l2, l3, l4, l5, l6, l7, l8, l10, l12, l16, l20, l24, l26, l40, l64, l80, l100, l255, l256, l288, l312, l400, l992, l1940, l24980, l25240, xI, xL, xR, zI_neg, zI_add, zI_sub, zI_mul, zI_le, zI_lt, zI_eq, zI_in, zI_nat, Option.bind_some, lt9, hq, Int.add_zero, Int.sub_self, true_or, or_true, true_and, and_true, false_or, or_false, Int.cast_ofNat_Int, ↓reduceIte, e105, q1, hj, el, ef, if_pos, if_neg]
  · rw [if_neg h]
    rcases hbl with ⟨⟨j, hj⟩, hno⟩ | ⟨hj, hv⟩
    · refine ⟨2, σ1, 0, ?_, q2, by omega, by omega, ⟨fun z => absurd z.2.1 h, fun z => absurd z (by decide)⟩, q4, by omega, by omega, fun z => absurd z (by decide)⟩
      simp (disch := omega) only [l0, l1, l2, l3, l4, l5, l6, l7, l8, l10, l12, l16, l20, l24, l26, l40, l64, l80, l100, l255, l256, l288, l312, l400, l992, l1940, l24980, l25240, xI, xL, xR, zI_neg, zI_add, zI_sub, zI_mul, zI_le, zI_lt, zI_eq, zI_in, zI_nat, Option.bind_some, lt9, hq, Int.add_zero, Int.sub_self, true_or, or_true, true_and, and_true, false_or, or_false, Int.cast_ofNat_Int, ↓reduceIte, e105, q1, hj, if_pos, if_neg]
    · refine ⟨7, σ1, 0, ?_, q2, by omega, by omega, ⟨fun z => absurd z.2.1 h, fun z => absurd z (by decide)⟩, q4, by omega, by omega, fun z => absurd z (by decide)⟩
      simp (disch := omega) only [l0, l1, l2, l3, l4, l5, l6, l7, l8, l10, l12, l16, l20, l24, l26, l40, l64, l80, l100, l255, l256, l288, l312, l400, l992, l1940, l24980, l25240, xI, xL, xR, zI_neg, zI_add, zI_sub, zI_mul, zI_le, zI_lt, zI_eq, zI_in, zI_nat, Option.bind_some, lt9, hq, Int.add_zero, Int.sub_self, true_or, or_true, true_and, and_true, false_or, or_false, Int.cast_ofNat_Int, ↓reduceIte, e105, q1, hj, if_pos, if_neg]
