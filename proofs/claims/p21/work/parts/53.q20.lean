theorem ub_t {ν : Int → Bool} {k : Int} : ub ν k true k = true := if_pos rfl
theorem eM_pass {v : Int → Int} (hw : wf v) {n : Nat} (hn : 13 ≤ n) {s0 : Int} (h0 : vR v s0) (x1 : Int32) (kx : hT → Int32 → Int32 → Int32 → Option (Unit × hT)) (K : Nat) : ∀ (σ : hT) (ν : Int → Bool) (k m o : Int), mN σ v → sk σ ν → σ.1 509 0 0 = zI o → (o = 0 ∨ o = 1) → (m = 0 ∨ m = 1) → (∀ x, ν x = true → rch v s0 x) → 0 ≤ k → k ≤ 288 → 288 - k < K →
    ∃ σ' ν' m' o' e, M_reach_L79 n kx K σ (zI k) (zI m) x1 = kx σ' e (zI m') x1 ∧ mN σ' v ∧ sk σ' ν' ∧ σ'.1 509 0 0 = zI o' ∧ (o' = 0 ∨ o' = 1) ∧ (m' = 0 ∨ m' = 1) ∧ fr p19 σ σ' ∧
      (∀ x, ν x = true → ν' x = true) ∧ (∀ x, ν' x = true → rch v s0 x) ∧ (m' = 0 → m = 0 ∧ (∀ x, ν' x = true → ν x = true) ∧ ∀ s, k ≤ s → s < 288 → ν s = true → ∀ t, edge v s t → ν t = true) ∧ (m' = 1 → m = 1 ∨ ∃ x, 0 ≤ x ∧ x < 288 ∧ ν' x = true ∧ ¬ ν x = true) ∧ (o = 1 → o' = 1) ∧ (o' = 1 → o = 1 ∨ ∃ s, rch v s0 s ∧ badR v s) ∧ (∀ s, k ≤ s → s < 288 → ν s = true → badR v s → o' = 1) := by
  induction K with
  | zero => intro σ ν k m o _ _ _ _ _ _ _ _ h; omega
  | succ K ih =>
    intro σ ν k m o hN hk ho ho01 hm01 hsd k0 k1 hK
    by_cases hx : 288 ≤ k
    · refine ⟨σ, ν, m, o, zI k, ?_, hN, hk, ho, ho01, hm01, fr.rf, fun x z => z, hsd, fun z => ⟨z, fun x y => y, fun s a b => by omega⟩, Or.inl, id, Or.inl, fun s a b => by omega⟩
      unfold M_reach_L79
      simp (disch := omega) only [l0, l1, l2, l3, l4, l5, l6, l7, l8, l10, l12, l16, l20, l24, l26, l40, l64, l80, l100, l255, l256, l288, l312, l400, l992, l1940, l24980, l25240, xI, xL, xR, zI_neg, zI_add, zI_sub, zI_mul, zI_le, zI_lt, zI_eq, zI_in, zI_nat, Option.bind_some, lt9, hq, Int.add_zero, Int.sub_self, true_or, or_true, true_and, and_true, false_or, or_false, Int.cast_ofNat_Int, ↓reduceIte, if_pos, if_neg]
    · have hq := hk k k0 (by omega)
      by_cases hb : ν k = true
      · rw [zB_t hb] at hq
        have hv := (hsd k hb).v hw h0
        obtain ⟨σ1, ν1, m1, o1, a1, a2, a3, a4, a5, a6, a7, a8, a9, a10, a11, a12⟩ := eM_spread hw hn hv hN hk hb ho ho01
        obtain ⟨σ', ν', m', o', e, q1, q2, q3, q4, q5, q6, q7, q8, q9, q10, q11, q12, q13, q14⟩ := ih σ1 ν1 (k + 1) (if m = 1 then 1 else m1) o1 a2 a3 a4 a5 (by split <;> omega) (fun x z => (a9 x z).elim (hsd x) (fun z => (hsd k hb).go z)) (by omega) (by omega) (by omega)
        refine ⟨σ', ν', m', o', e, ?_, q2, q3, q4, q5, q6, a7.tr q7, fun x z => q8 x (a8 x z), q9, fun z => ?_, fun z => ?_, fun z => q12 (a12.mpr (Or.inl z)), fun z => ?_, fun s b1 b2 b3 b4 => ?_⟩
        · rw [← q1]
          conv => lhs; unfold M_reach_L79
          rcases a6 with rfl | rfl <;> rcases hm01 with rfl | rfl <;> simp (disch := omega) only [l0, l1, l2, l3, l4, l5, l6, l7, l8, l10, l12, l16, l20, l24, l26, l40, l64, l80, l100, l255, l256, l288, l312, l400, l992, l1940, l24980, l25240, xI, xL, xR, zI_neg, zI_add, zI_sub, zI_mul, zI_le, zI_lt, zI_eq, zI_in, zI_nat, Option.bind_some, lt9, hq, Int.add_zero, Int.sub_self, true_or, or_true, true_and, and_true, false_or, or_false, Int.cast_ofNat_Int, ↓reduceIte, hq, a1, if_pos, if_neg]
        · obtain ⟨z1, z2, z3⟩ := q10 z
          have hm : m = 0 ∧ m1 = 0 := by
            rcases hm01 with h | h
            · rw [if_neg (by rw [h]; decide)] at z1; exact ⟨h, z1⟩
            · rw [if_pos h] at z1; exact absurd z1 (by decide)
          have same : ∀ x, ν1 x = true → ν x = true := fun x y => by
            apply Classical.byContradiction
            intro w
            have hxv := ((a9 x y).elim (hsd x) (fun z => (hsd k hb).go z)).v hw h0
            exact absurd (a11.mpr ⟨x, hxv.1, hxv.2.1, y, w⟩) (by rw [hm.2]; decide)
          refine ⟨hm.1, fun x y => same x (z2 x y), fun s b1 b2 b3 t he => ?_⟩
          by_cases es : s = k
          · subst es; exact same t (a10 t he)
          · exact same t (z3 s (by omega) b2 (a8 s b3) t he)
        · rcases q11 z with y | ⟨x, y0, y1, y2, y3⟩
          · split at y
            · rename_i h; exact Or.inl h
            · obtain ⟨x, y0, y1, y2, y3⟩ := a11.mp y
              exact Or.inr ⟨x, y0, y1, q8 x y2, y3⟩
          · exact Or.inr ⟨x, y0, y1, y2, fun w => y3 (a8 x w)⟩
        · rcases q13 z with y | y
          · rcases a12.mp y with y | y
            · exact Or.inl y
            · exact Or.inr ⟨k, hsd k hb, y⟩
          · exact Or.inr y
        · by_cases es : s = k
          · subst es; exact q12 (a12.mpr (Or.inr b4))
          · exact q14 s (by omega) b2 (a8 s b3) b4
      · rw [zB_f hb] at hq
        obtain ⟨σ', ν', m', o', e, q1, q2, q3, q4, q5, q6, q7, q8, q9, q10, q11, q12, q13, q14⟩ := ih σ ν (k + 1) m o hN hk ho ho01 hm01 hsd (by omega) (by omega) (by omega)
        refine ⟨σ', ν', m', o', e, ?_, q2, q3, q4, q5, q6, q7, q8, q9, fun z => ?_, q11, q12, q13, fun s b1 b2 b3 b4 => ?_⟩
        · rw [← q1]
          conv => lhs; unfold M_reach_L79
          rcases hm01 with rfl | rfl <;> simp (disch := omega) only [l0, l1, l2, l3, l4, l5, l6, l7, l8, l10, l12, l16, l20, l24, l26, l40, l64, l80, l100, l255, l256, l288, l312, l400, l992, l1940, l24980, l25240, xI, xL, xR, zI_neg, zI_add, zI_sub, zI_mul, zI_le, zI_lt, zI_eq, zI_in, zI_nat, Option.bind_some, lt9, hq, Int.add_zero, Int.sub_self, true_or, or_true, true_and, and_true, false_or, or_false, Int.cast_ofNat_Int, ↓reduceIte, hq, if_pos, if_neg]
        · obtain ⟨z1, z2, z3⟩ := q10 z
          refine ⟨z1, z2, fun s b1 b2 b3 t he => ?_⟩
          by_cases es : s = k
          · subst es; exact absurd b3 hb
          · exact z3 s (by omega) b2 b3 t he
        · by_cases es : s = k
          · subst es; exact absurd b3 hb
          · exact q14 s (by omega) b2 b3 b4
theorem eM_while {v : Int → Int} (hw : wf v) {n : Nat} (hn : 290 ≤ n) {s0 : Int} (h0 : vR v s0) (x1 : Int32) (kx : hT → Int32 → Int32 → Option (Unit × hT)) (K : Nat) : ∀ (σ : hT) (ν : Int → Bool) (m o : Int), mN σ v → sk σ ν → σ.1 509 0 0 = zI o → (o = 0 ∨ o = 1) → (m = 0 ∨ m = 1) → (∀ x, ν x = true → rch v s0 x) → ν s0 = true → (o = 1 → ∃ s, rch v s0 s ∧ badR v s) → (m = 0 → (∀ s t, ν s = true → edge v s t → ν t = true) ∧ ∀ s, ν s = true → badR v s → o = 1) → 290 ≤ cntU ν 288 + K + (1 - m) →
    ∃ σ' ν' o' e, M_reach_L71 n kx K σ (zI m) x1 = kx σ' e x1 ∧ mN σ' v ∧ sk σ' ν' ∧ σ'.1 509 0 0 = zI o' ∧ (o' = 0 ∨ o' = 1) ∧ fr p19 σ σ' ∧ (∀ x, ν' x = true ↔ rch v s0 x) ∧ (o' = 1 ↔ ∃ s, rch v s0 s ∧ badR v s) := by
  induction K with
  | zero =>
    intro σ ν m o _ _ _ _ hm _ _ _ _ h
    have := cntU_le ν 288
    omega
  | succ K ih =>
    intro σ ν m o hN hk ho ho01 hm01 hsd hs0 hos hcl hK
    rcases hm01 with rfl | rfl
    · obtain ⟨c1, c2⟩ := hcl rfl
      have hall : ∀ x, rch v s0 x → ν x = true := fun x h => h (fun x => ν x = true) hs0 c1
      refine ⟨σ, ν, o, zI 0, ?_, hN, hk, ho, ho01, fr.rf, fun x => ⟨hsd x, hall x⟩, ⟨hos, fun ⟨s, a, b⟩ => c2 s (hall s a) b⟩⟩
      unfold M_reach_L71
      simp (disch := omega) only [l0, l1, l2, l3, l4, l5, l6, l7, l8, l10, l12, l16, l20, l24, l26, l40, l64, l80, l100, l255, l256, l288, l312, l400, l992, l1940, l24980, l25240, xI, xL, xR, zI_neg, zI_add, zI_sub, zI_mul, zI_le, zI_lt, zI_eq, zI_in, zI_nat, Option.bind_some, lt9, hq, Int.add_zero, Int.sub_self, true_or, or_true, true_and, and_true, false_or, or_false, Int.cast_ofNat_Int, ↓reduceIte, if_pos, if_neg]
    · obtain ⟨σ1, ν1, m1, o1, e, q1, q2, q3, q4, q5, q6, q7, q8, q9, q10, q11, q12, q13, q14⟩ := eM_pass hw (show 13 ≤ n by omega) h0 x1 (fun (σ37 : hT) (p38 : Int32) (p39 : Int32) (p40 : Int32) => M_reach_L71 n kx K (σ37) p39 p40) n σ ν 0 0 o hN hk ho ho01 (Or.inl rfl) hsd (by omega) (by omega) (by omega)
      have hcnt : cntU ν 288 ≤ cntU ν1 288 := cntU_mono (fun k _ _ z => q8 k z)
      obtain ⟨σ', ν', o', e', r1, r2, r3, r4, r5, r6, r7, r8⟩ := ih σ1 ν1 m1 o1 q2 q3 q4 q5 q6 q9 (q8 s0 hs0) (fun z => (q13 z).elim hos id) (fun z => by
        obtain ⟨-, z2, z3⟩ := q10 z
        refine ⟨fun s t a b => ?_, fun s a b => ?_⟩
        · have hv := (q9 s a).v hw h0
          exact q8 t (z3 s hv.1 hv.2.1 (z2 s a) t b)
        · have hv := (q9 s a).v hw h0
          exact q14 s hv.1 hv.2.1 (z2 s a) b) (by
        rcases q6 with rfl | rfl
        · omega
        · rcases q11 rfl with z | ⟨x, y0, y1, y2, y3⟩
          · omega
          · have := cntU_lt (μ := ν) (ν := ν1) (n := 288) (fun k _ _ z => q8 k z) y0 (by omega) y3 y2
            omega)
      refine ⟨σ', ν', o', e', ?_, r2, r3, r4, r5, q7.tr r6, r7, r8⟩
      conv => lhs; unfold M_reach_L71
      simp (disch := omega) only [l0, l1, l2, l3, l4, l5, l6, l7, l8, l10, l12, l16, l20, l24, l26, l40, l64, l80, l100, l255, l256, l288, l312, l400, l992, l1940, l24980, l25240, xI, xL, xR, zI_neg, zI_add, zI_sub, zI_mul, zI_le, zI_lt, zI_eq, zI_in, zI_nat, Option.bind_some, lt9, hq, Int.add_zero, Int.sub_self, true_or, or_true, true_and, and_true, false_or, or_false, Int.cast_ofNat_Int, ↓reduceIte, if_pos, if_neg]
      exact q1.trans r1
def cmR (σ : hT) (c : Int → Int) : Prop := ∀ k : Int, 0 ≤ k → k < 24 → σ.1 18 0 k.toNat = zI (c k)
theorem cmR_s {σ : hT} {c : Int → Int} (h : cmR σ c) {k x : Int} (h0 : 0 ≤ k) : cmR (sI σ 18 0 k.toNat (zI x)) (uv c k x) := by
  intro i hi hi2
  by_cases e : i = k
  · subst e; rw [rS, uv_s]
  · rw [rK (by omega), uv_n e]; exact h i hi hi2
theorem cmR_o {σ : hT} {c : Int → Int} (h : cmR σ c) {f j k : Nat} {x : Int32} (hf : f ≠ 18) : cmR (sI σ f j k x) c := by
  intro i hi hi2
  rw [rO (Ne.symm hf)]; exact h i hi hi2
abbrev p124 (f : Nat) : Prop := f = 18 ∨ f = 508
theorem zI_mod12 {k : Int} (h0 : 0 ≤ k) (h1 : k < 288) : zI k / zI 12 = zI (k / 12) := zI_div (by omega) (by omega) (by omega) (by omega)
theorem eM_come_L {n : Nat} (ν : Int → Bool) (v : Int → Int) (x1 x2 : Int32) (kx : hT → Int32 → Int32 → Int32 → Option (Unit × hT)) (K : Nat) : ∀ (σ : hT) (c : Int → Int) (k p : Int), mN σ v → sk σ ν → cmR σ c → σ.1 508 0 0 = zI p → (p = 0 ∨ p = 1) → 0 ≤ k → k ≤ 288 → 288 - k < K →
    (∀ e, 0 ≤ e → e < 24 → (c e = -1 ∧ ∀ s, 0 ≤ s → s < k → s / 12 = e → ¬ ν s = true) ∨ (0 ≤ c e ∧ c e < 12 ∧ 12 * e + c e < k ∧ ν (12 * e + c e) = true)) → (p = 1 ↔ ∃ s t, 0 ≤ s ∧ s < t ∧ t < k ∧ s / 12 = t / 12 ∧ ν s = true ∧ ν t = true) →
    ∃ σ' c' p' e, M_reach_L124 n kx K σ (zI k) x1 x2 = kx σ' e x1 x2 ∧ mN σ' v ∧ cmR σ' c' ∧ σ'.1 508 0 0 = zI p' ∧ (p' = 0 ∨ p' = 1) ∧ fr p124 σ σ' ∧
      (∀ e, 0 ≤ e → e < 24 → (c' e = -1 ∧ ∀ s, 0 ≤ s → s < 288 → s / 12 = e → ¬ ν s = true) ∨ (0 ≤ c' e ∧ c' e < 12 ∧ ν (12 * e + c' e) = true)) ∧ (p' = 1 ↔ ∃ s t, 0 ≤ s ∧ s < t ∧ t < 288 ∧ s / 12 = t / 12 ∧ ν s = true ∧ ν t = true) := by
  induction K with
  | zero => intro σ c k p _ _ _ _ _ _ _ h; omega
  | succ K ih =>
    intro σ c k p hN hk hc hp hp01 k0 k1 hK hI hJ
    by_cases hx : 288 ≤ k
    · obtain rfl : k = 288 := by omega
      refine ⟨σ, c, p, zI 288, ?_, hN, hc, hp, hp01, fr.rf, fun e a b => (hI e a b).elim Or.inl (fun ⟨h1, h2, h3, h4⟩ => Or.inr ⟨h1, h2, h4⟩), hJ⟩
      unfold M_reach_L124
      simp (disch := omega) only [l0, l1, l2, l3, l4, l5, l6, l7, l8, l10, l12, l16, l20, l24, l26, l40, l64, l80, l100, l255, l256, l288, l312, l400, l992, l1940, l24980, l25240, xI, xL, xR, zI_neg, zI_add, zI_sub, zI_mul, zI_le, zI_lt, zI_eq, zI_in, zI_nat, Option.bind_some, lt9, hq, Int.add_zero, Int.sub_self, true_or, or_true, true_and, and_true, false_or, or_false, Int.cast_ofNat_Int, ↓reduceIte, if_pos, if_neg]
    · have hq := hk k k0 (by omega)
      have ed := zI_mod12 k0 (show k < 288 by omega)
      by_cases hb : ν k = true
      · rw [zB_t hb] at hq
        have hcv := hc (k / 12) (by omega) (by omega)
        have hIk := hI (k / 12) (by omega) (by omega)
        have em : k - k / 12 * 12 = k % 12 := by omega
        have hp' : ∃ p', (∀ σ9, σ9 = sI (sI σ 508 0 0 (zI p')) 18 0 (k / 12).toNat (zI (k % 12)) → M_reach_L124 n kx (K + 1) σ (zI k) x1 x2 = M_reach_L124 n kx K σ9 (zI (k + 1)) x1 x2) ∧ (p' = 0 ∨ p' = 1) ∧ (p' = 1 ↔ p = 1 ∨ 0 ≤ c (k / 12)) := by
          rcases hp01 with rfl | rfl
          · by_cases hc0 : c (k / 12) < 0
            · refine ⟨0, ?_, Or.inl rfl, ⟨fun z => absurd z (by decide), fun z => by omega⟩⟩
              rintro σ9 rfl
              conv => lhs; unfold M_reach_L124
              simp (disch := omega) only [l0, l1, l2, l3, l4, l5, l6, l7, l8, l10, l12, l16, l20, l24, l26, l40, l64, l80, l100, l255, l256, l288, l312, l400, l992, l1940, l24980, l25240, xI, xL, xR, zI_neg, zI_add, zI_sub, zI_mul, zI_le, zI_lt, zI_eq, zI_in, zI_nat, Option.bind_some, lt9, hq, Int.add_zero, Int.sub_self, true_or, or_true, true_and, and_true, false_or, or_false, Int.cast_ofNat_Int, ↓reduceIte, hq, hp, ed, hcv, em, if_pos, if_neg]
            · refine ⟨1, ?_, Or.inr rfl, ⟨fun z => by omega, fun z => rfl⟩⟩
              rintro σ9 rfl
              conv => lhs; unfold M_reach_L124
              simp (disch := omega) only [l0, l1, l2, l3, l4, l5, l6, l7, l8, l10, l12, l16, l20, l24, l26, l40, l64, l80, l100, l255, l256, l288, l312, l400, l992, l1940, l24980, l25240, xI, xL, xR, zI_neg, zI_add, zI_sub, zI_mul, zI_le, zI_lt, zI_eq, zI_in, zI_nat, Option.bind_some, lt9, hq, Int.add_zero, Int.sub_self, true_or, or_true, true_and, and_true, false_or, or_false, Int.cast_ofNat_Int, ↓reduceIte, hq, hp, ed, hcv, em, if_pos, if_neg]
          · refine ⟨1, ?_, Or.inr rfl, ⟨fun z => Or.inl rfl, fun z => rfl⟩⟩
            rintro σ9 rfl
            conv => lhs; unfold M_reach_L124
            simp (disch := omega) only [l0, l1, l2, l3, l4, l5, l6, l7, l8, l10, l12, l16, l20, l24, l26, l40, l64, l80, l100, l255, l256, l288, l312, l400, l992, l1940, l24980, l25240, xI, xL, xR, zI_neg, zI_add, zI_sub, zI_mul, zI_le, zI_lt, zI_eq, zI_in, zI_nat, Option.bind_some, lt9, hq, Int.add_zero, Int.sub_self, true_or, or_true, true_and, and_true, false_or, or_false, Int.cast_ofNat_Int, ↓reduceIte, hq, hp, ed, hcv, em, if_pos, if_neg]
        obtain ⟨p', st, hp1, hp2⟩ := hp'
        obtain ⟨σ', c', p9, e, q1, q2, q3, q4, q5, q6, q7, q8⟩ := ih (sI (sI σ 508 0 0 (zI p')) 18 0 (k / 12).toNat (zI (k % 12))) (uv c (k / 12) (k % 12)) (k + 1) p' (mN_o (mN_o hN (by decide)) (by decide)) (sk_o (sk_o hk (by decide)) (by decide)) (cmR_s (cmR_o hc (by decide)) (by omega)) (by rw [rO (by decide)]; exact rS) hp1 (by omega) (by omega) (by omega) (fun e a b => by
          by_cases ee : e = k / 12
          · subst ee
            rw [uv_s]
            refine Or.inr ⟨by omega, by omega, by omega, ?_⟩
            rw [show 12 * (k / 12) + k % 12 = k by omega]; exact hb
          · rw [uv_n ee]
            rcases hI e a b with ⟨h1, h2⟩ | ⟨h1, h2, h3, h4⟩
            · refine Or.inl ⟨h1, fun s s0 s1 s2 => ?_⟩
              by_cases es : s = k
              · subst es; exact absurd s2.symm ee
              · exact h2 s s0 (by omega) s2
            · exact Or.inr ⟨h1, h2, by omega, h4⟩) (by
          rw [hp2, hJ]
          constructor
          · rintro (⟨s, t, a1, a2, a3, a4⟩ | h)
            · exact ⟨s, t, a1, a2, by omega, a4⟩
            · rcases hIk with ⟨h1, -⟩ | ⟨h1, h2, h3, h4⟩
              · omega
              · exact ⟨12 * (k / 12) + c (k / 12), k, by omega, by omega, by omega, by omega, h4, hb⟩
          · rintro ⟨s, t, a1, a2, a3, a4, a5, a6⟩
            by_cases et : t = k
            · subst et
              right
              rcases hIk with ⟨h1, h2⟩ | ⟨h1, h2, h3, h4⟩
              · exact absurd a5 (h2 s a1 a2 a4)
              · exact h1
            · exact Or.inl ⟨s, t, a1, a2, by omega, a4, a5, a6⟩)
        exact ⟨σ', c', p9, e, (st _ rfl).trans q1, q2, q3, q4, q5, ((fr.rf.s (P := p124) (Or.inr rfl)).s (Or.inl rfl)).tr q6, q7, q8⟩
      · rw [zB_f hb] at hq
        obtain ⟨σ', c', p9, e, q1, q2, q3, q4, q5, q6, q7, q8⟩ := ih σ c (k + 1) p hN hk hc hp hp01 (by omega) (by omega) (by omega) (fun e a b => by
          rcases hI e a b with ⟨h1, h2⟩ | ⟨h1, h2, h3, h4⟩
          · refine Or.inl ⟨h1, fun s s0 s1 s2 => ?_⟩
            by_cases es : s = k
            · subst es; exact hb
            · exact h2 s s0 (by omega) s2
          · exact Or.inr ⟨h1, h2, by omega, h4⟩) (by
          rw [hJ]
          constructor
          · rintro ⟨s, t, a1, a2, a3, a4⟩
            exact ⟨s, t, a1, a2, by omega, a4⟩
          · rintro ⟨s, t, a1, a2, a3, a4, a5, a6⟩
            by_cases et : t = k
            · subst et; exact absurd a6 hb
            · exact ⟨s, t, a1, a2, by omega, a4, a5, a6⟩)
        refine ⟨σ', c', p9, e, ?_, q2, q3, q4, q5, q6, q7, q8⟩
        rw [← q1]
        conv => lhs; unfold M_reach_L124
        simp (disch := omega) only [l0, l1, l2, l3, l4, l5, l6, l7, l8, l10, l12, l16, l20, l24, l26, l40, l64, l80, l100, l255, l256, l288, l312, l400, l992, l1940, l24980, l25240, xI, xL, xR, zI_neg, zI_add, zI_sub, zI_mul, zI_le, zI_lt, zI_eq, zI_in, zI_nat, Option.bind_some, lt9, hq, Int.add_zero, Int.sub_self, true_or, or_true, true_and, and_true, false_or, or_false, Int.cast_ofNat_Int, ↓reduceIte, hq, if_pos, if_neg]
theorem eM_rz_L {n : Nat} {v : Int → Int} (x1 : Int32) (kx : hT → Int32 → Int32 → Option (Unit × hT)) (K : Nat) : ∀ (σ : hT) (i : Nat), mN σ v → (∀ k : Int, 0 ≤ k → k < i → σ.1 18 0 k.toNat = zI (-1)) → i ≤ 24 → 24 - i < K →
    ∃ σ', M_reach_L2 n kx K σ (zI i) x1 = kx σ' (zI 24) x1 ∧ mN σ' v ∧ cmR σ' (fun _ => -1) ∧ fr p124 σ σ' := by
  induction K with
  | zero => intro σ i _ _ _ h; omega
  | succ K ih =>
    intro σ i hN hI hi hK
    by_cases hc : 24 ≤ i
    · obtain rfl : i = 24 := by omega
      refine ⟨σ, ?_, hN, fun k a b => hI k a (by omega), fr.rf⟩
      unfold M_reach_L2
      simp (disch := omega) only [l0, l1, l2, l3, l4, l5, l6, l7, l8, l10, l12, l16, l20, l24, l26, l40, l64, l80, l100, l255, l256, l288, l312, l400, l992, l1940, l24980, l25240, xI, xL, xR, zI_neg, zI_add, zI_sub, zI_mul, zI_le, zI_lt, zI_eq, zI_in, zI_nat, Option.bind_some, lt9, hq, Int.add_zero, Int.sub_self, true_or, or_true, true_and, and_true, false_or, or_false, Int.cast_ofNat_Int, ↓reduceIte, if_pos, if_neg]
    · have st : M_reach_L2 n kx (K + 1) σ (zI i) x1 = M_reach_L2 n kx K (sI σ 18 0 i (zI (-1))) (zI ((i + 1 : Nat) : Int)) x1 := by
        conv => lhs; unfold M_reach_L2
        simp (disch := omega) only [l0, l1, l2, l3, l4, l5, l6, l7, l8, l10, l12, l16, l20, l24, l26, l40, l64, l80, l100, l255, l256, l288, l312, l400, l992, l1940, l24980, l25240, xI, xL, xR, zI_neg, zI_add, zI_sub, zI_mul, zI_le, zI_lt, zI_eq, zI_in, zI_nat, Option.bind_some, lt9, hq, Int.add_zero, Int.sub_self, true_or, or_true, true_and, and_true, false_or, or_false, Int.cast_ofNat_Int, ↓reduceIte, Int.toNat_natCast, if_pos, if_neg]
        rfl
      obtain ⟨σ', q1, q2, q3, q4⟩ := ih (sI σ 18 0 i (zI (-1))) (i + 1) (mN_o hN (by decide)) (fun k a b => by
        by_cases e : k = i
        · subst e; rw [Int.toNat_natCast, rS]
        · rw [rK (by omega)]; exact hI k a (by omega)) (by omega) (by omega)
      exact ⟨σ', st.trans q1, q2, q3, (fr.rf.s (P := p124) (Or.inl rfl)).tr q4⟩
theorem eM_rs_L {n : Nat} {v : Int → Int} (x1 : Int32) (kx : hT → Int32 → Int32 → Option (Unit × hT)) (K : Nat) : ∀ (σ : hT) (i : Nat), mN σ v → (∀ k : Int, 0 ≤ k → k < i → σ.1 19 0 k.toNat = zI 0) → i ≤ 288 → 288 - i < K →
    ∃ σ', M_reach_L33 n kx K σ (zI i) x1 = kx σ' (zI 288) x1 ∧ mN σ' v ∧ sk σ' (fun _ => false) ∧ fr (fun f => f = 19) σ σ' := by
  induction K with
  | zero => intro σ i _ _ _ h; omega
  | succ K ih =>
    intro σ i hN hI hi hK
    by_cases hc : 288 ≤ i
    · obtain rfl : i = 288 := by omega
      refine ⟨σ, ?_, hN, fun k a b => hI k a (by omega), fr.rf⟩
      unfold M_reach_L33
      simp (disch := omega) only [l0, l1, l2, l3, l4, l5, l6, l7, l8, l10, l12, l16, l20, l24, l26, l40, l64, l80, l100, l255, l256, l288, l312, l400, l992, l1940, l24980, l25240, xI, xL, xR, zI_neg, zI_add, zI_sub, zI_mul, zI_le, zI_lt, zI_eq, zI_in, zI_nat, Option.bind_some, lt9, hq, Int.add_zero, Int.sub_self, true_or, or_true, true_and, and_true, false_or, or_false, Int.cast_ofNat_Int, ↓reduceIte, if_pos, if_neg]
    · have st : M_reach_L33 n kx (K + 1) σ (zI i) x1 = M_reach_L33 n kx K (sI σ 19 0 i (zI 0)) (zI ((i + 1 : Nat) : Int)) x1 := by
        conv => lhs; unfold M_reach_L33
        simp (disch := omega) only [l0, l1, l2, l3, l4, l5, l6, l7, l8, l10, l12, l16, l20, l24, l26, l40, l64, l80, l100, l255, l256, l288, l312, l400, l992, l1940, l24980, l25240, xI, xL, xR, zI_neg, zI_add, zI_sub, zI_mul, zI_le, zI_lt, zI_eq, zI_in, zI_nat, Option.bind_some, lt9, hq, Int.add_zero, Int.sub_self, true_or, or_true, true_and, and_true, false_or, or_false, Int.cast_ofNat_Int, ↓reduceIte, Int.toNat_natCast, nrZ_0, if_pos, if_neg]
        rfl
      obtain ⟨σ', q1, q2, q3, q4⟩ := ih (sI σ 19 0 i (zI 0)) (i + 1) (mN_o hN (by decide)) (fun k a b => by
        by_cases e : k = i
        · subst e; rw [Int.toNat_natCast, rS]
        · rw [rK (by omega)]; exact hI k a (by omega)) (by omega) (by omega)
      exact ⟨σ', st.trans q1, q2, q3, (fr.rf.s (P := fun f => f = 19) rfl).tr q4⟩
def prtR (v : Int → Int) (s0 : Int) : Prop := ∃ s t, 0 ≤ s ∧ s < t ∧ t < 288 ∧ s / 12 = t / 12 ∧ rch v s0 s ∧ rch v s0 t
def opnR (v : Int → Int) (s0 : Int) : Prop := ∃ s, rch v s0 s ∧ badR v s
def cmOk (v : Int → Int) (s0 : Int) (c : Int → Int) : Prop := ∀ e, 0 ≤ e → e < 24 → (c e = -1 ∧ ∀ s, 0 ≤ s → s < 288 → s / 12 = e → ¬ rch v s0 s) ∨ (0 ≤ c e ∧ c e < 12 ∧ rch v s0 (12 * e + c e))
abbrev pRch (f : Nat) : Prop := f = 18 ∨ f = 508 ∨ f = 19 ∨ f = 509
theorem rel_v {v : Int → Int} (hw : wf v) {d : Int} (d0 : 0 ≤ d) (d1 : d < v 16) (hr : 0 ≤ rel v d) : vR v (12 * d + rel v d) := by
  have h16 := hw.1
  have hm := (hw.2.2.2.1 d d0 d1).1
  have := rel_rng hw d0 d1
  have e1 : (12 * d + rel v d) / 12 = d := by omega
  have e2 : (12 * d + rel v d) % 12 = rel v d := by omega
  refine ⟨by omega, by omega, by rw [e1, e2]; exact ⟨d0, d1, hr, this.2⟩, relN_is v d _ hr⟩
theorem eM_reach {σ : hT} {v : Int → Int} (hN : mN σ v) (hw : wf v) {d : Int} (d0 : 0 ≤ d) (d1 : d < v 16) (hr : 0 ≤ rel v d) {n : Nat} (hn : 290 ≤ n) :
    ∃ σ' c p o, M_reach n σ (zI d) = some ((), σ') ∧ mN σ' v ∧ cmR σ' c ∧ σ'.1 508 0 0 = zI p ∧ (p = 0 ∨ p = 1) ∧ σ'.1 509 0 0 = zI o ∧ (o = 0 ∨ o = 1) ∧ fr pRch σ σ' ∧ cmOk v (12 * d + rel v d) c ∧ (p = 1 ↔ prtR v (12 * d + rel v d)) ∧ (o = 1 ↔ opnR v (12 * d + rel v d)) := by
  have h16 := hw.1
  have hm := (hw.2.2.2.1 d d0 d1).1
  have hrr := rel_rng hw d0 d1
  have h0 := rel_v hw d0 d1 hr
  obtain ⟨σ1, a1, a2, a3, a4⟩ := eM_rz_L (n := n) (zI d) (fun (σ1 : hT) (p2 : Int32) (p3 : Int32) => lt9 (sI σ1 508 0 0 0) fun σ11 => lt9 (sI σ11 509 0 0 0) fun σ13 => lt9 (α := hT → Int32 → Int32 → Option (Unit × hT)) (fun (σ15 : hT) (p16 : Int32) (p17 : Int32) => Option.bind (M_released n σ15 p17) fun y27 => if in9 ((12 * p17) + y27) 288 then lt9 (sI σ15 19 0 (((12 * p17) + y27)).toNatClampNeg (nrZ 1)) fun σ28 => lt9 (α := hT → Int32 → Int32 → Option (Unit × hT)) (fun (σ31 : hT) (p32 : Int32) (p33 : Int32) => lt9 (α := hT → Int32 → Int32 → Int32 → Option (Unit × hT)) (fun (σ54 : hT) (p55 : Int32) (p56 : Int32) (p57 : Int32) => some ((), σ54)) fun kx58 => M_reach_L124 n kx58 n (σ31) 0 p32 p33) fun kx34 => M_reach_L71 n kx34 n (σ28) 1 p17 else none) fun kx18 => M_reach_L33 n kx18 n (σ13) 0 p3) n σ 0 hN (fun k a b => by omega) (by omega) (by omega)
  have hN2 : mN (sI (sI σ1 508 0 0 (zI 0)) 509 0 0 (zI 0)) v := mN_o (mN_o a2 (by decide)) (by decide)
  obtain ⟨σ2, b1, b2, b3, b4⟩ := eM_rs_L (n := n) (zI d) (fun (σ15 : hT) (p16 : Int32) (p17 : Int32) => Option.bind (M_released n σ15 p17) fun y27 => if in9 ((12 * p17) + y27) 288 then lt9 (sI σ15 19 0 (((12 * p17) + y27)).toNatClampNeg (nrZ 1)) fun σ28 => lt9 (α := hT → Int32 → Int32 → Option (Unit × hT)) (fun (σ31 : hT) (p32 : Int32) (p33 : Int32) => lt9 (α := hT → Int32 → Int32 → Int32 → Option (Unit × hT)) (fun (σ54 : hT) (p55 : Int32) (p56 : Int32) (p57 : Int32) => some ((), σ54)) fun kx58 => M_reach_L124 n kx58 n (σ31) 0 p32 p33) fun kx34 => M_reach_L71 n kx34 n (σ28) 1 p17 else none) n _ 0 hN2 (fun k a b => by omega) (by omega) (by omega)
  have h509 : σ2.1 509 0 0 = zI 0 := by rw [b4.2 509 0 (by decide)]; exact rS
  have h508 : σ2.1 508 0 0 = zI 0 := by rw [b4.2 508 0 (by decide), rO (by decide)]; exact rS
  have hc2 : cmR σ2 (fun _ => -1) := fun k x y => by rw [b4.2 18 0 (by decide), rO (by decide), rO (by decide)]; exact a3 k x y
  obtain ⟨ν, hν⟩ : ∃ ν : Int → Bool, ν = ub (fun _ => false) (12 * d + rel v d) true := ⟨_, rfl⟩
  have hk3 : sk (sI σ2 19 0 (12 * d + rel v d).toNat (zI 1)) ν := by rw [hν]; exact sk_s b3 (by omega) rfl
  have hνx : ∀ x, ν x = true → x = 12 * d + rel v d := fun x z => by
    rw [hν] at z; unfold ub at z; split at z
    · assumption
    · exact nomatch z
  have hνs : ν (12 * d + rel v d) = true := by rw [hν]; exact ub_t
  obtain ⟨σ4, ν4, o, e4, c1, c2, c3, c4, c5, c6, c7, c8⟩ := eM_while hw hn h0 (zI d) (fun (σ31 : hT) (p32 : Int32) (p33 : Int32) => lt9 (α := hT → Int32 → Int32 → Int32 → Option (Unit × hT)) (fun (σ54 : hT) (p55 : Int32) (p56 : Int32) (p57 : Int32) => some ((), σ54)) fun kx58 => M_reach_L124 n kx58 n (σ31) 0 p32 p33) n (sI σ2 19 0 (12 * d + rel v d).toNat (zI 1)) ν 1 0 (mN_o b2 (by decide)) hk3 (by rw [rO (by decide)]; exact h509) (Or.inl rfl) (Or.inr rfl) (fun x z => by rw [hνx x z]; exact rch.st) hνs (fun z => absurd z (by decide)) (fun z => absurd z (by decide)) (by omega)
  have hc4 : cmR σ4 (fun _ => -1) := fun k x y => by rw [c6.2 18 0 (by decide), rO (by decide)]; exact hc2 k x y
  have h4 : σ4.1 508 0 0 = zI 0 := by rw [c6.2 508 0 (by decide), rO (by decide)]; exact h508
  obtain ⟨σ5, c, p, e5, d2, d3, d4, d5, d6, d7, d8, d9⟩ := eM_come_L (n := n) ν4 v e4 (zI d) (fun (σ54 : hT) (p55 : Int32) (p56 : Int32) (p57 : Int32) => some ((), σ54)) n σ4 (fun _ => -1) 0 0 c2 c3 hc4 h4 (Or.inl rfl) (by omega) (by omega) (by omega) (fun e a b => Or.inl ⟨rfl, fun s x y => by omega⟩) ⟨fun z => absurd z (by decide), fun ⟨s, t, x, y, z, _⟩ => by omega⟩
  refine ⟨σ5, c, p, o, ?_, d3, d4, d5, d6, by rw [d7.2 509 0 (by decide)]; exact c4, c5, ?_, fun e a b => ?_, ?_, c8⟩
  · unfold M_reach
    refine Eq.trans a1 (Eq.trans b1 ?_)
    show Option.bind (M_released n σ2 (zI d)) _ = _
    rw [eM_released b2 hw d0 d1 (show 13 ≤ n by omega)]
    simp (disch := omega) only [l0, l1, l2, l3, l4, l5, l6, l7, l8, l10, l12, l16, l20, l24, l26, l40, l64, l80, l100, l255, l256, l288, l312, l400, l992, l1940, l24980, l25240, xI, xL, xR, zI_neg, zI_add, zI_sub, zI_mul, zI_le, zI_lt, zI_eq, zI_in, zI_nat, Option.bind_some, lt9, hq, Int.add_zero, Int.sub_self, true_or, or_true, true_and, and_true, false_or, or_false, Int.cast_ofNat_Int, ↓reduceIte, nrZ_1, if_pos, if_neg]
    exact Eq.trans c1 d2
  · refine ((((a4.w ?_).s (Or.inr (Or.inl rfl))).s (Or.inr (Or.inr (Or.inr rfl)))).tr (b4.w ?_)).tr (((fr.rf.s (Or.inr (Or.inr (Or.inl rfl)))).tr (c6.w ?_)).tr (d7.w ?_))
    · intro f z; exact z.elim Or.inl (fun z => Or.inr (Or.inl z))
    · intro f z; exact Or.inr (Or.inr (Or.inl z))
    · intro f z; exact Or.inr (Or.inr z)
    · intro f z; exact z.elim Or.inl (fun z => Or.inr (Or.inl z))
  · rcases d8 e a b with ⟨h1, h2⟩ | ⟨h1, h2, h3⟩
    · exact Or.inl ⟨h1, fun s x y z w => h2 s x y z ((c7 s).mpr w)⟩
    · exact Or.inr ⟨h1, h2, (c7 _).mp h3⟩
  · rw [d9]
    constructor
    · rintro ⟨s, t, x1, x2, x3, x4, x5, x6⟩; exact ⟨s, t, x1, x2, x3, x4, (c7 s).mp x5, (c7 t).mp x6⟩
    · rintro ⟨s, t, x1, x2, x3, x4, x5, x6⟩; exact ⟨s, t, x1, x2, x3, x4, (c7 s).mpr x5, (c7 t).mpr x6⟩
