theorem eM_keep_L {v : Int → Int} {n : Nat} (kx : hT → Int32 → Option (Unit × hT)) (K : Nat) : ∀ (σ : hT) (i : Nat), mN σ v → (∀ k : Int, 0 ≤ k → k < i → σ.1 16 0 k.toNat = zI (v k)) → i ≤ 25240 → 25240 - i < K →
    ∃ σ', M_keep_L2 n kx K σ (zI i) = kx σ' (zI 25240) ∧ mN σ' v ∧ mK σ' v ∧ fr (fun f => f = 16) σ σ' := by
  induction K with
  | zero => intro σ i _ _ _ h; omega
  | succ K ih =>
    intro σ i hN hI hi hK
    by_cases hc : 25240 ≤ i
    · obtain rfl : i = 25240 := by omega
      refine ⟨σ, ?_, hN, fun k h0 h1 => hI k h0 (by omega), fr.rf⟩
      unfold M_keep_L2
      simp (disch := omega) only [l0, l1, l2, l3, l4, l5, l6, l7, l8, l10, l12, l16, l20, l24, l26, l40, l64, l80, l100, l255, l256, l288, l312, l400, l992, l1940, l24980, l25240, xI, xL, xR, zI_neg, zI_add, zI_sub, zI_mul, zI_le, zI_lt, zI_eq, zI_in, zI_nat, Option.bind_some, lt9, hq, Int.add_zero, Int.sub_self, true_or, or_true, true_and, and_true, false_or, or_false, Int.cast_ofNat_Int, ↓reduceIte, if_pos, if_neg]
    · have st : M_keep_L2 n kx (K + 1) σ (zI i) = M_keep_L2 n kx K (sI σ 16 0 i (zI (v i))) (zI ((i + 1 : Nat) : Int)) := by
        conv => lhs; unfold M_keep_L2
        simp (disch := omega) only [l0, l1, l2, l3, l4, l5, l6, l7, l8, l10, l12, l16, l20, l24, l26, l40, l64, l80, l100, l255, l256, l288, l312, l400, l992, l1940, l24980, l25240, xI, xL, xR, zI_neg, zI_add, zI_sub, zI_mul, zI_le, zI_lt, zI_eq, zI_in, zI_nat, Option.bind_some, lt9, hq, Int.add_zero, Int.sub_self, true_or, or_true, true_and, and_true, false_or, or_false, Int.cast_ofNat_Int, ↓reduceIte, hN.lit, Int.toNat_natCast, if_pos, if_neg]
        rfl
      obtain ⟨σ', q1, q2, q3, q4⟩ := ih (sI σ 16 0 i (zI (v i))) (i + 1) (mN_o hN (by decide)) (fun k h0 h1 => by
        by_cases e : k = i
        · subst e; rw [Int.toNat_natCast, rS]
        · rw [rK (by omega)]; exact hI k h0 (by omega)) (by omega) (by omega)
      exact ⟨σ', st.trans q1, q2, q3, (fr.rf.s (P := fun f => f = 16) rfl).tr q4⟩
theorem eM_keep {σ : hT} {v : Int → Int} (hN : mN σ v) {n : Nat} (hn : 25241 ≤ n) : ∃ σ', M_keep n σ = some ((), σ') ∧ mN σ' v ∧ mK σ' v ∧ fr (fun f => f = 16) σ σ' := by
  obtain ⟨σ', q1, q2, q3, q4⟩ := eM_keep_L (n := n) (fun (σ1 : hT) (p2 : Int32) => some ((), σ1)) n σ 0 hN (fun k h0 h1 => by omega) (by omega) (by omega)
  exact ⟨σ', q1, q2, q3, q4⟩
def cls (v : Int → Int) : Int → Int := if v 17 < 40 ∧ 40 ≤ 400 - need v then uv (uv v 17 (400 - need v)) 19 (v 19 + 1) else v
abbrev pCls (f : Nat) : Prop := f = 15 ∨ f = 16
theorem eM_close {σ : hT} {v w : Int → Int} {fl pl : Int} (h : MS σ v w fl pl) (hw : wf v) {n : Nat} (hn : 25241 ≤ n) : ∃ σ', M_close n σ = some ((), σ') ∧ MS σ' (cls v) (cls v) fl pl ∧ fr pCls σ σ' := by
  obtain ⟨hN, hK, hfl, hpl⟩ := h
  have h17 := hw.2.2.1
  have hnr := need_rng hw
  have fin : ∀ (σ1 : hT) (u : Int → Int), mN σ1 u → fr (fun f => f = 15) σ σ1 → ∃ σ', M_keep n σ1 = some ((), σ') ∧ MS σ' u u fl pl ∧ fr pCls σ σ' := by
    intro σ1 u hu hfr
    obtain ⟨σ', q1, q2, q3, q4⟩ := eM_keep hu hn
    refine ⟨σ', q1, ⟨q2, q3, ?_, ?_⟩, (hfr.w (fun f z => Or.inl z)).tr (q4.w (fun f z => Or.inr z))⟩
    · rw [q4.2 504 0 (by decide), hfr.2 504 0 (by decide)]; exact hfl
    · rw [q4.2 505 0 (by decide), hfr.2 505 0 (by decide)]; exact hpl
  by_cases h1 : v 17 < 40
  · by_cases h2 : 40 ≤ 400 - need v
    · have e : cls v = uv (uv v 17 (400 - need v)) 19 (v 19 + 1) := if_pos ⟨h1, h2⟩
      have hN2 : mN (sI (sI σ 15 0 17 (zI (400 - need v))) 15 0 19 (zI (v 19 + 1))) (cls v) := by
        rw [e]; exact mN_s (mN_s hN (by decide) 17 rfl) (by decide) 19 rfl
      obtain ⟨σ', q1, q2, q3⟩ := fin _ _ hN2 ((fr.rf.s (P := fun f => f = 15) rfl).s rfl)
      refine ⟨σ', ?_, q2, q3⟩
      unfold M_close
      simp (disch := omega) only [l0, l1, l2, l3, l4, l5, l6, l7, l8, l10, l12, l16, l20, l24, l26, l40, l64, l80, l100, l255, l256, l288, l312, l400, l992, l1940, l24980, l25240, xI, xL, xR, zI_neg, zI_add, zI_sub, zI_mul, zI_le, zI_lt, zI_eq, zI_in, zI_nat, Option.bind_some, lt9, hq, Int.add_zero, Int.sub_self, true_or, or_true, true_and, and_true, false_or, or_false, Int.cast_ofNat_Int, ↓reduceIte, hN.lit, eM_needed hN hw (show 313 ≤ n by omega), rK, if_pos, if_neg]
      rw [q1]
      rfl
    · have e : cls v = v := if_neg (fun z => h2 z.2)
      obtain ⟨σ', q1, q2, q3⟩ := fin σ v hN fr.rf
      refine ⟨σ', ?_, by rw [e]; exact q2, q3⟩
      unfold M_close
      simp (disch := omega) only [l0, l1, l2, l3, l4, l5, l6, l7, l8, l10, l12, l16, l20, l24, l26, l40, l64, l80, l100, l255, l256, l288, l312, l400, l992, l1940, l24980, l25240, xI, xL, xR, zI_neg, zI_add, zI_sub, zI_mul, zI_le, zI_lt, zI_eq, zI_in, zI_nat, Option.bind_some, lt9, hq, Int.add_zero, Int.sub_self, true_or, or_true, true_and, and_true, false_or, or_false, Int.cast_ofNat_Int, ↓reduceIte, hN.lit, eM_needed hN hw (show 313 ≤ n by omega), rK, if_pos, if_neg]
      rw [q1]
      rfl
  · have e : cls v = v := if_neg (fun z => h1 z.1)
    obtain ⟨σ', q1, q2, q3⟩ := fin σ v hN fr.rf
    refine ⟨σ', ?_, by rw [e]; exact q2, q3⟩
    unfold M_close
    simp (disch := omega) only [l0, l1, l2, l3, l4, l5, l6, l7, l8, l10, l12, l16, l20, l24, l26, l40, l64, l80, l100, l255, l256, l288, l312, l400, l992, l1940, l24980, l25240, xI, xL, xR, zI_neg, zI_add, zI_sub, zI_mul, zI_le, zI_lt, zI_eq, zI_in, zI_nat, Option.bind_some, lt9, hq, Int.add_zero, Int.sub_self, true_or, or_true, true_and, and_true, false_or, or_false, Int.cast_ofNat_Int, ↓reduceIte, hN.lit, eM_needed hN hw (show 313 ≤ n by omega), rK, if_pos, if_neg]
    rw [q1]
    rfl
def bl (v : Int → Int) (a i : Int) : Int → Int := fun k => if a ≤ k ∧ k < a + i then 0 else v k
theorem eM_blank_L {n : Nat} {a : Int} (ha : 0 ≤ a) (ha2 : a + 80 ≤ 25240) (v : Int → Int) (kx : hT → Int32 → Int32 → Option (Unit × hT)) (K : Nat) : ∀ (σ : hT) (i : Nat), mN σ (bl v a i) → i ≤ 80 → 80 - i < K →
    ∃ σ', M_blank_L2 n kx K σ (zI i) (zI a) = kx σ' (zI 80) (zI a) ∧ mN σ' (bl v a 80) ∧ fr (fun f => f = 15) σ σ' := by
  induction K with
  | zero => intro σ i _ _ h; omega
  | succ K ih =>
    intro σ i hN hi hK
    by_cases hc : 80 ≤ i
    · obtain rfl : i = 80 := by omega
      refine ⟨σ, ?_, hN, fr.rf⟩
      unfold M_blank_L2
      simp (disch := omega) only [l0, l1, l2, l3, l4, l5, l6, l7, l8, l10, l12, l16, l20, l24, l26, l40, l64, l80, l100, l255, l256, l288, l312, l400, l992, l1940, l24980, l25240, xI, xL, xR, zI_neg, zI_add, zI_sub, zI_mul, zI_le, zI_lt, zI_eq, zI_in, zI_nat, Option.bind_some, lt9, hq, Int.add_zero, Int.sub_self, true_or, or_true, true_and, and_true, false_or, or_false, Int.cast_ofNat_Int, ↓reduceIte, if_pos, if_neg]
    · have st : M_blank_L2 n kx (K + 1) σ (zI i) (zI a) = M_blank_L2 n kx K (sI σ 15 0 (a + i).toNat (zI 0)) (zI ((i + 1 : Nat) : Int)) (zI a) := by
        conv => lhs; unfold M_blank_L2
        simp (disch := omega) only [l0, l1, l2, l3, l4, l5, l6, l7, l8, l10, l12, l16, l20, l24, l26, l40, l64, l80, l100, l255, l256, l288, l312, l400, l992, l1940, l24980, l25240, xI, xL, xR, zI_neg, zI_add, zI_sub, zI_mul, zI_le, zI_lt, zI_eq, zI_in, zI_nat, Option.bind_some, lt9, hq, Int.add_zero, Int.sub_self, true_or, or_true, true_and, and_true, false_or, or_false, Int.cast_ofNat_Int, ↓reduceIte, if_pos, if_neg]
        rfl
      have e : bl v a ((i + 1 : Nat) : Int) = uv (bl v a i) (a + i) 0 := by
        funext k
        dsimp only [bl, uv]
        repeat' split
        all_goals first | rfl | (exfalso; omega)
      obtain ⟨σ', q1, q2, q3⟩ := ih (sI σ 15 0 (a + i).toNat (zI 0)) (i + 1) (by rw [e]; exact mN_s hN (by omega) _ rfl) (by omega) (by omega)
      exact ⟨σ', st.trans q1, q2, (fr.rf.s (P := fun f => f = 15) rfl).tr q3⟩
theorem eM_blank {σ : hT} {v : Int → Int} (hN : mN σ v) {a : Int} (ha : 0 ≤ a) (ha2 : a + 80 ≤ 25240) {n : Nat} (hn : 81 ≤ n) : ∃ σ', M_blank n σ (zI a) = some ((), σ') ∧ mN σ' (bl v a 80) ∧ fr (fun f => f = 15) σ σ' := by
  have e : bl v a (0 : Nat) = v := by funext k; unfold bl; split <;> first | rfl | (exfalso; omega)
  exact eM_blank_L (n := n) ha ha2 v (fun (σ1 : hT) (p2 : Int32) (p3 : Int32) => some ((), σ1)) n σ 0 (by rw [e]; exact hN) (by omega) (by omega)
def cpv (v : Int → Int) (a t i : Int) : Int → Int := fun k => if t + 2 ≤ k ∧ k < t + i then v (a + (k - t)) else v k
theorem eM_copy_L {n : Nat} {a t : Int} (ha : 0 ≤ a) (ha2 : a + 80 ≤ 25240) (ht : 0 ≤ t) (ht2 : t + 80 ≤ 25240) (hs : a + 80 ≤ t ∨ t + 80 ≤ a) (v : Int → Int) (kx : hT → Int32 → Int32 → Int32 → Option (Unit × hT)) (K : Nat) : ∀ (σ : hT) (i : Nat), mN σ (cpv v a t i) → 2 ≤ i → i ≤ 80 → 80 - i < K →
    ∃ σ', M_copy_L2 n kx K σ (zI i) (zI a) (zI t) = kx σ' (zI 80) (zI a) (zI t) ∧ mN σ' (cpv v a t 80) ∧ fr (fun f => f = 15) σ σ' := by
  induction K with
  | zero => intro σ i _ _ _ h; omega
  | succ K ih =>
    intro σ i hN h2 hi hK
    by_cases hc : 80 ≤ i
    · obtain rfl : i = 80 := by omega
      refine ⟨σ, ?_, hN, fr.rf⟩
      unfold M_copy_L2
      simp (disch := omega) only [l0, l1, l2, l3, l4, l5, l6, l7, l8, l10, l12, l16, l20, l24, l26, l40, l64, l80, l100, l255, l256, l288, l312, l400, l992, l1940, l24980, l25240, xI, xL, xR, zI_neg, zI_add, zI_sub, zI_mul, zI_le, zI_lt, zI_eq, zI_in, zI_nat, Option.bind_some, lt9, hq, Int.add_zero, Int.sub_self, true_or, or_true, true_and, and_true, false_or, or_false, Int.cast_ofNat_Int, ↓reduceIte, if_pos, if_neg]
    · have e0 : cpv v a t i (a + i) = v (a + i) := by unfold cpv; rw [if_neg (by omega)]
      have st : M_copy_L2 n kx (K + 1) σ (zI i) (zI a) (zI t) = M_copy_L2 n kx K (sI σ 15 0 (t + i).toNat (zI (v (a + i)))) (zI ((i + 1 : Nat) : Int)) (zI a) (zI t) := by
        conv => lhs; unfold M_copy_L2
        simp (disch := omega) only [l0, l1, l2, l3, l4, l5, l6, l7, l8, l10, l12, l16, l20, l24, l26, l40, l64, l80, l100, l255, l256, l288, l312, l400, l992, l1940, l24980, l25240, xI, xL, xR, zI_neg, zI_add, zI_sub, zI_mul, zI_le, zI_lt, zI_eq, zI_in, zI_nat, Option.bind_some, lt9, hq, Int.add_zero, Int.sub_self, true_or, or_true, true_and, and_true, false_or, or_false, Int.cast_ofNat_Int, ↓reduceIte, hN _, e0, if_pos, if_neg]
        rfl
      have e : cpv v a t ((i + 1 : Nat) : Int) = uv (cpv v a t i) (t + i) (v (a + i)) := by
        funext k
        dsimp only [cpv, uv]
        repeat' split
        all_goals first | rfl | (exfalso; omega) | (congr 1; omega)
      obtain ⟨σ', q1, q2, q3⟩ := ih (sI σ 15 0 (t + i).toNat (zI (v (a + i)))) (i + 1) (by rw [e]; exact mN_s hN (by omega) _ rfl) (by omega) (by omega) (by omega)
      exact ⟨σ', st.trans q1, q2, (fr.rf.s (P := fun f => f = 15) rfl).tr q3⟩
theorem eM_copy {σ : hT} {v : Int → Int} (hN : mN σ v) {a t : Int} (ha : 0 ≤ a) (ha2 : a + 80 ≤ 25240) (ht : 0 ≤ t) (ht2 : t + 80 ≤ 25240) (hs : a + 80 ≤ t ∨ t + 80 ≤ a) {n : Nat} (hn : 81 ≤ n) : ∃ σ', M_copy n σ (zI a) (zI t) = some ((), σ') ∧ mN σ' (cpv v a t 80) ∧ fr (fun f => f = 15) σ σ' := by
  have e : cpv v a t (2 : Nat) = v := by funext k; unfold cpv; split <;> first | rfl | (exfalso; omega)
  exact eM_copy_L (n := n) ha ha2 ht ht2 hs v (fun (σ1 : hT) (p2 : Int32) (p3 : Int32) (p4 : Int32) => some ((), σ1)) n σ 2 (by rw [e]; exact hN) (by omega) (by omega) (by omega)
