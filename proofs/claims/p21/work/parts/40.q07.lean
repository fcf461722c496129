theorem rS {σ : hT} {f j k : Nat} {x : Int32} : (sI σ f j k x).1 f j k = x := by
  show r3 σ.1 f j (up9 (σ.1 f j) k x) f j k = x
  rw [r3_self]; exact if_pos rfl
theorem rK {σ : hT} {f j k k' : Nat} {x : Int32} (h : k' ≠ k) : (sI σ f j k x).1 f j k' = σ.1 f j k' := by
  show r3 σ.1 f j (up9 (σ.1 f j) k x) f j k' = _
  rw [r3_self]; exact if_neg h
theorem rO {σ : hT} {f j k f' j' : Nat} {x : Int32} (h : f' ≠ f) : (sI σ f j k x).1 f' j' = σ.1 f' j' := r3_ne (fun z => h z.1)
theorem rJ {σ : hT} {f j k f' j' : Nat} {x : Int32} (h : j' ≠ j) : (sI σ f j k x).1 f' j' = σ.1 f' j' := r3_ne (fun z => h z.2)
theorem r2 {σ : hT} {f j k : Nat} {x : Int32} : (sI σ f j k x).2 = σ.2 := rfl
def uv (v : Int → Int) (k x : Int) : Int → Int := fun i => if i = k then x else v i
theorem uv_s {v : Int → Int} {k x : Int} : uv v k x k = x := if_pos rfl
theorem uv_n {v : Int → Int} {k x i : Int} (h : i ≠ k) : uv v k x i = v i := if_neg h
theorem mN_s {σ : hT} {v : Int → Int} (hN : mN σ v) {k x : Int} (h0 : 0 ≤ k) (n : Nat) (hn : n = k.toNat) : mN (sI σ 15 0 n (zI x)) (uv v k x) := by
  subst hn
  intro i hi hi2
  by_cases e : i = k
  · subst e; rw [rS, uv_s]
  · rw [rK (by omega), uv_n e]; exact hN i hi hi2
theorem mN_o {σ : hT} {v : Int → Int} (hN : mN σ v) {f j k : Nat} {x : Int32} (h : f ≠ 15) : mN (sI σ f j k x) v := by
  intro i hi hi2
  rw [rO (Ne.symm h)]; exact hN i hi hi2
theorem mK_s {σ : hT} {v : Int → Int} (hN : mK σ v) {k x : Int} (h0 : 0 ≤ k) (n : Nat) (hn : n = k.toNat) : mK (sI σ 16 0 n (zI x)) (uv v k x) := by
  subst hn
  intro i hi hi2
  by_cases e : i = k
  · subst e; rw [rS, uv_s]
  · rw [rK (by omega), uv_n e]; exact hN i hi hi2
theorem mK_o {σ : hT} {v : Int → Int} (hN : mK σ v) {f j k : Nat} {x : Int32} (h : f ≠ 16) : mK (sI σ f j k x) v := by
  intro i hi hi2
  rw [rO (Ne.symm h)]; exact hN i hi hi2
def fr (P : Nat → Prop) (σ σ' : hT) : Prop := σ'.2 = σ.2 ∧ ∀ f j, ¬ P f → σ'.1 f j = σ.1 f j
theorem fr.rf {P : Nat → Prop} {σ : hT} : fr P σ σ := ⟨rfl, fun _ _ _ => rfl⟩
theorem fr.tr {P : Nat → Prop} {σ σ1 σ2 : hT} (h : fr P σ σ1) (h2 : fr P σ1 σ2) : fr P σ σ2 := ⟨h2.1.trans h.1, fun f j hf => (h2.2 f j hf).trans (h.2 f j hf)⟩
theorem fr.w {P Q : Nat → Prop} {σ σ1 : hT} (h : fr P σ σ1) (hPQ : ∀ f, P f → Q f) : fr Q σ σ1 := ⟨h.1, fun f j hf => h.2 f j (fun z => hf (hPQ f z))⟩
theorem fr.s {P : Nat → Prop} {σ σ1 : hT} (h : fr P σ σ1) {f j k : Nat} {x : Int32} (hf : P f) : fr P σ (sI σ1 f j k x) := ⟨h.1, fun f' j' hf' => (rO (σ := σ1) (f := f) (f' := f') (fun e => hf' (by rw [e]; exact hf))).trans (h.2 f' j' hf')⟩
def MS (σ : hT) (v w : Int → Int) (fl pl : Int) : Prop := mN σ v ∧ mK σ w ∧ σ.1 504 0 0 = zI fl ∧ σ.1 505 0 0 = zI pl
abbrev pMay (f : Nat) : Prop := f = 15 ∨ f = 500 ∨ f = 501 ∨ f = 504 ∨ f = 505
theorem eM_may_f {σ : hT} {v w : Int → Int} {pl why pages : Int} (h : MS σ v w 1 pl) (hw : wf v) (h1 : 0 ≤ why) (h2 : why ≤ 8) (h3 : 0 ≤ pages) (h4 : pages ≤ 400) :
    ∃ σ', M_may σ (zI why) (zI pages) = some (zI 0, σ') ∧ MS σ' v w 1 pl ∧ fr pMay σ σ' ∧ σ'.1 500 0 0 = zI 1 := by
  obtain ⟨hN, hK, hfl, hpl⟩ := h
  have h17 := hw.2.2.1
  refine ⟨sI σ 500 0 0 (zI 1), ?_, ⟨mN_o hN (by decide), mK_o hK (by decide), by rw [rO (by decide)]; exact hfl, by rw [rO (by decide)]; exact hpl⟩, fr.rf.s (Or.inr (Or.inl rfl)), rS⟩
  unfold M_may
  simp (disch := omega) only [l0, l1, l2, l3, l4, l5, l6, l7, l8, l10, l12, l16, l20, l24, l26, l40, l64, l80, l100, l255, l256, l288, l312, l400, l992, l1940, l24980, l25240, xI, xL, xR, zI_neg, zI_add, zI_sub, zI_mul, zI_le, zI_lt, zI_eq, zI_in, zI_nat, Option.bind_some, lt9, hq, Int.add_zero, Int.sub_self, true_or, or_true, true_and, and_true, false_or, or_false, Int.cast_ofNat_Int, ↓reduceIte, hN.lit, hfl, rO, rS, if_pos, if_neg]
  repeat' split
  all_goals rfl
theorem eM_may_r {σ : hT} {v w : Int → Int} {pl why pages : Int} (h : MS σ v w 0 pl) (hw : wf v) (h1 : 0 ≤ why) (h2 : why ≤ 8) (h3 : 0 ≤ pages) (h4 : pages ≤ 400) (hr : 0 < why ∨ v 17 < pages) :
    ∃ σ', M_may σ (zI why) (zI pages) = some (zI 0, σ') ∧ MS σ' v w 0 pl ∧ fr pMay σ σ' ∧ σ'.1 500 0 0 = zI 0 := by
  obtain ⟨hN, hK, hfl, hpl⟩ := h
  have h17 := hw.2.2.1
  refine ⟨sI (sI σ 500 0 0 (zI 0)) 501 0 0 (zI (if why = 0 then 8 else why)), ?_, ⟨mN_o (mN_o hN (by decide)) (by decide), mK_o (mK_o hK (by decide)) (by decide), by rw [rO (by decide), rO (by decide)]; exact hfl, by rw [rO (by decide), rO (by decide)]; exact hpl⟩, (fr.rf.s (Or.inr (Or.inl rfl))).s (Or.inr (Or.inr (Or.inl rfl))), by rw [rO (by decide)]; exact rS⟩
  unfold M_may
  by_cases hz : why = 0
  · subst hz
    simp (disch := omega) only [l0, l1, l2, l3, l4, l5, l6, l7, l8, l10, l12, l16, l20, l24, l26, l40, l64, l80, l100, l255, l256, l288, l312, l400, l992, l1940, l24980, l25240, xI, xL, xR, zI_neg, zI_add, zI_sub, zI_mul, zI_le, zI_lt, zI_eq, zI_in, zI_nat, Option.bind_some, lt9, hq, Int.add_zero, Int.sub_self, true_or, or_true, true_and, and_true, false_or, or_false, Int.cast_ofNat_Int, ↓reduceIte, hN.lit, hfl, rO, rS, if_pos, if_neg]
  · simp (disch := omega) only [l0, l1, l2, l3, l4, l5, l6, l7, l8, l10, l12, l16, l20, l24, l26, l40, l64, l80, l100, l255, l256, l288, l312, l400, l992, l1940, l24980, l25240, xI, xL, xR, zI_neg, zI_add, zI_sub, zI_mul, zI_le, zI_lt, zI_eq, zI_in, zI_nat, Option.bind_some, lt9, hq, Int.add_zero, Int.sub_self, true_or, or_true, true_and, and_true, false_or, or_false, Int.cast_ofNat_Int, ↓reduceIte, hN.lit, hfl, rO, rS, if_pos, if_neg]
theorem eM_may_p {σ : hT} {v w : Int → Int} {pl pages : Int} (h : MS σ v w 0 pl) (hw : wf v) (h3 : 0 ≤ pages) (h4 : pages ≤ 400) (hr : ¬ v 17 < pages) (hp : pl ≠ -1) (hp0 : -1 ≤ pl) (hp2 : pl < 2147483648) (hp3 : pl < pages) :
    ∃ σ', M_may σ (zI 0) (zI pages) = some (zI 0, σ') ∧ MS σ' v w 1 pl ∧ fr pMay σ σ' ∧ σ'.1 500 0 0 = zI 1 := by
  obtain ⟨hN, hK, hfl, hpl⟩ := h
  have h17 := hw.2.2.1
  refine ⟨sI (sI (sI σ 500 0 0 (zI 0)) 504 0 0 (zI 1)) 500 0 0 (zI 1), ?_, ⟨mN_o (mN_o (mN_o hN (by decide)) (by decide)) (by decide), mK_o (mK_o (mK_o hK (by decide)) (by decide)) (by decide), by rw [rO (by decide)]; exact rS, by rw [rO (by decide), rO (by decide), rO (by decide)]; exact hpl⟩, ((fr.rf.s (Or.inr (Or.inl rfl))).s (Or.inr (Or.inr (Or.inr (Or.inl rfl))))).s (Or.inr (Or.inl rfl)), rS⟩
  unfold M_may
  simp (disch := omega) only [l0, l1, l2, l3, l4, l5, l6, l7, l8, l10, l12, l16, l20, l24, l26, l40, l64, l80, l100, l255, l256, l288, l312, l400, l992, l1940, l24980, l25240, xI, xL, xR, zI_neg, zI_add, zI_sub, zI_mul, zI_le, zI_lt, zI_eq, zI_in, zI_nat, Option.bind_some, lt9, hq, Int.add_zero, Int.sub_self, true_or, or_true, true_and, and_true, false_or, or_false, Int.cast_ofNat_Int, ↓reduceIte, hN.lit, hfl, hpl, rO, rS, if_pos, if_neg]
theorem eM_may_k {σ : hT} {v w : Int → Int} {pl pages : Int} (h : MS σ v w 0 pl) (hw : wf v) (h3 : 0 ≤ pages) (h4 : pages ≤ 400) (hr : ¬ v 17 < pages) (hp0 : -1 ≤ pl) (hp2 : pl < 2147483648) (hp3 : pl = -1 ∨ pages ≤ pl) :
    ∃ σ', M_may σ (zI 0) (zI pages) = some (zI 1, σ') ∧ MS σ' (uv (uv v 17 (v 17 - pages)) 18 (v 18 + 1)) w 0 (if pl = -1 then -1 else pl - pages) ∧ fr pMay σ σ' ∧ σ'.1 500 0 0 = zI 0 := by
  obtain ⟨hN, hK, hfl, hpl⟩ := h
  have h17 := hw.2.2.1
  have f1 : pMay 500 := Or.inr (Or.inl rfl)
  have f2 : pMay 501 := Or.inr (Or.inr (Or.inl rfl))
  have f3 : pMay 505 := Or.inr (Or.inr (Or.inr (Or.inr rfl)))
  have f4 : pMay 15 := Or.inl rfl
  refine ⟨sI (sI (sI (sI (sI σ 500 0 0 (zI 0)) 501 0 0 (zI 0)) 505 0 0 (zI (if pl = -1 then -1 else pl - pages))) 15 0 17 (zI (v 17 - pages))) 15 0 18 (zI (v 18 + 1)), ?_, ⟨?_, ?_, ?_, ?_⟩, ((((fr.rf.s f1).s f2).s f3).s f4).s f4, ?_⟩
  · unfold M_may
    rcases hp3 with rfl | hp3
    · simp (disch := omega) only [l0, l1, l2, l3, l4, l5, l6, l7, l8, l10, l12, l16, l20, l24, l26, l40, l64, l80, l100, l255, l256, l288, l312, l400, l992, l1940, l24980, l25240, xI, xL, xR, zI_neg, zI_add, zI_sub, zI_mul, zI_le, zI_lt, zI_eq, zI_in, zI_nat, Option.bind_some, lt9, hq, Int.add_zero, Int.sub_self, true_or, or_true, true_and, and_true, false_or, or_false, Int.cast_ofNat_Int, ↓reduceIte, hN.lit, hfl, hpl, rO, rS, rK, if_pos, if_neg]
    · by_cases hz : pl = -1
      · subst hz
        simp (disch := omega) only [l0, l1, l2, l3, l4, l5, l6, l7, l8, l10, l12, l16, l20, l24, l26, l40, l64, l80, l100, l255, l256, l288, l312, l400, l992, l1940, l24980, l25240, xI, xL, xR, zI_neg, zI_add, zI_sub, zI_mul, zI_le, zI_lt, zI_eq, zI_in, zI_nat, Option.bind_some, lt9, hq, Int.add_zero, Int.sub_self, true_or, or_true, true_and, and_true, false_or, or_false, Int.cast_ofNat_Int, ↓reduceIte, hN.lit, hfl, hpl, rO, rS, rK, if_pos, if_neg]
      · simp (disch := omega) only [l0, l1, l2, l3, l4, l5, l6, l7, l8, l10, l12, l16, l20, l24, l26, l40, l64, l80, l100, l255, l256, l288, l312, l400, l992, l1940, l24980, l25240, xI, xL, xR, zI_neg, zI_add, zI_sub, zI_mul, zI_le, zI_lt, zI_eq, zI_in, zI_nat, Option.bind_some, lt9, hq, Int.add_zero, Int.sub_self, true_or, or_true, true_and, and_true, false_or, or_false, Int.cast_ofNat_Int, ↓reduceIte, hN.lit, hfl, hpl, rO, rS, rK, hz, if_pos, if_neg]
  · exact mN_s (mN_s (mN_o (mN_o (mN_o hN (by decide)) (by decide)) (by decide)) (by decide) 17 rfl) (by decide) 18 rfl
  · exact mK_o (mK_o (mK_o (mK_o (mK_o hK (by decide)) (by decide)) (by decide)) (by decide)) (by decide)
  · rw [rO (by decide), rO (by decide), rO (by decide), rO (by decide), rO (by decide)]; exact hfl
  · rw [rO (by decide), rO (by decide)]; exact rS
  · rw [rO (by decide), rO (by decide), rO (by decide), rO (by decide)]; exact rS
