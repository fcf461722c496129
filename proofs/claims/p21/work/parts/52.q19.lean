def vR (v : Int → Int) (s : Int) : Prop := 0 ≤ s ∧ s < 288 ∧ isRv v (s / 12) (s % 12) ∧ v (1940 + 80 * s) = 2
theorem vR_c {v : Int → Int} (hw : wf v) {s : Int} (h : vR v s) : cw v (1940 + 80 * s) ∧ fx v (1940 + 80 * s) := by
  obtain ⟨h0, h1, ⟨d0, d1, r0, r1⟩, h3⟩ := h
  have := (hw.2.2.2.1 _ d0 d1).2.2.2 _ r0 r1
  rw [show 12 * (s / 12) + s % 12 = s by omega] at this
  exact ⟨this.2.2.1, this.2.2.2⟩
def tgt (v : Int → Int) (s i : Int) : Int := 12 * v (1940 + 80 * s + 4 + 2 * i) + resv v (1940 + 80 * s) i
theorem tgt_v {v : Int → Int} (hw : wf v) {s i : Int} (h : vR v s) (i0 : 0 ≤ i) (i1 : i < v (1940 + 80 * s + 3)) (hr : isRel v (1940 + 80 * s) i) : vR v (tgt v s i) := by
  obtain ⟨hc, hf⟩ := vR_c hw h
  have h16 := hw.1
  have hk := hc.2.2.1 i i0 i1
  have hm := (hw.2.2.2.1 _ hk.1 hk.2.1).1
  have hrr := resv_rng hw hc hf i0 i1
  obtain ⟨r1, r2⟩ := hr
  have e1 : tgt v s i / 12 = v (1940 + 80 * s + 4 + 2 * i) := by unfold tgt; omega
  have e2 : tgt v s i % 12 = resv v (1940 + 80 * s) i := by unfold tgt; omega
  refine ⟨by unfold tgt; omega, by unfold tgt; omega, by rw [e1, e2]; exact ⟨hk.1, hk.2.1, r1, hrr.2⟩, ?_⟩
  unfold tgt; exact r2
def edge (v : Int → Int) (s t : Int) : Prop := ∃ i, 0 ≤ i ∧ i < v (1940 + 80 * s + 3) ∧ isRel v (1940 + 80 * s) i ∧ t = tgt v s i
def badR (v : Int → Int) (s : Int) : Prop := ∃ i, 0 ≤ i ∧ i < v (1940 + 80 * s + 3) ∧ ¬ isRel v (1940 + 80 * s) i
def rch (v : Int → Int) (s0 t : Int) : Prop := ∀ S : Int → Prop, S s0 → (∀ s t, S s → edge v s t → S t) → S t
theorem rch.st {v : Int → Int} {s0 : Int} : rch v s0 s0 := fun S h _ => h
theorem rch.go {v : Int → Int} {s0 s t : Int} (h : rch v s0 s) (he : edge v s t) : rch v s0 t := fun S h0 hs => hs s t (h S h0 hs) he
theorem rch.v {v : Int → Int} (hw : wf v) {s0 t : Int} (h0 : vR v s0) (h : rch v s0 t) : vR v t := h (vR v) h0 (fun s t hs ⟨i, i0, i1, hr, e⟩ => by subst e; exact tgt_v hw hs i0 i1 hr)
def sk (σ : hT) (ν : Int → Bool) : Prop := ∀ k : Int, 0 ≤ k → k < 288 → σ.1 19 0 k.toNat = zI (zB (ν k))
theorem sk_s {σ : hT} {ν : Int → Bool} (h : sk σ ν) {k : Int} (h0 : 0 ≤ k) {b : Bool} {x : Int32} (hx : x = zI (zB b)) : sk (sI σ 19 0 k.toNat x) (ub ν k b) := by
  subst hx
  intro i hi hi2
  by_cases e : i = k
  · subst e; rw [rS]; unfold ub; rw [if_pos rfl]
  · rw [rK (by omega)]; unfold ub; rw [if_neg e]; exact h i hi hi2
theorem sk_o {σ : hT} {ν : Int → Bool} (h : sk σ ν) {f j k : Nat} {x : Int32} (hf : f ≠ 19) : sk (sI σ f j k x) ν := by
  intro i hi hi2
  rw [rO (Ne.symm hf)]; exact h i hi hi2
abbrev p19 (f : Nat) : Prop := f = 19 ∨ f = 509
set_option maxHeartbeats 2000000 in
theorem eM_spread_L {v : Int → Int} (hw : wf v) {n : Nat} (hn : 13 ≤ n) {s : Int} (hs : vR v s) (kx : hT → Int32 → Int32 → Int32 → Int32 → Option (Int32 × hT)) (K : Nat) : ∀ (σ : hT) (ν : Int → Bool) (i m o : Int), mN σ v → sk σ ν → ν s = true → σ.1 509 0 0 = zI o → (o = 0 ∨ o = 1) → (m = 0 ∨ m = 1) → 0 ≤ i → i ≤ v (1940 + 80 * s + 3) → v (1940 + 80 * s + 3) - i < K →
    ∃ σ' ν' m' o' e, M_spread_L14 n kx K σ (zI i) (zI m) (zI (1940 + 80 * s)) (zI s) = kx σ' e (zI m') (zI (1940 + 80 * s)) (zI s) ∧ mN σ' v ∧ sk σ' ν' ∧ σ'.1 509 0 0 = zI o' ∧ (o' = 0 ∨ o' = 1) ∧ (m' = 0 ∨ m' = 1) ∧ fr p19 σ σ' ∧
      (∀ x, ν x = true → ν' x = true) ∧ (∀ x, ν' x = true → ν x = true ∨ edge v s x) ∧ (∀ k, i ≤ k → k < v (1940 + 80 * s + 3) → isRel v (1940 + 80 * s) k → ν' (tgt v s k) = true) ∧ (m' = 1 ↔ m = 1 ∨ ∃ x, 0 ≤ x ∧ x < 288 ∧ ν' x = true ∧ ¬ ν x = true) ∧ (o' = 1 ↔ o = 1 ∨ ∃ k, i ≤ k ∧ k < v (1940 + 80 * s + 3) ∧ ¬ isRel v (1940 + 80 * s) k) := by
  obtain ⟨hc, hf⟩ := vR_c hw hs
  have h3 := hc.2.1
  have hs0 := hs.1
  have hs1 := hs.2.1
  have h16 := hw.1
  induction K with
  | zero => intro σ ν i m o _ _ _ _ _ _ _ _ h; omega
  | succ K ih =>
    intro σ ν i m o hN hk hνs ho ho01 hm01 hi hi2 hK
    by_cases hx : v (1940 + 80 * s + 3) ≤ i
    · refine ⟨σ, ν, m, o, zI i, ?_, hN, hk, ho, ho01, hm01, fr.rf, fun x z => z, fun x z => Or.inl z, fun k a b => by omega, ⟨Or.inl, fun z => z.elim id (fun ⟨x, _, _, a, b⟩ => absurd a b)⟩, ⟨Or.inl, fun z => z.elim id (fun z => absurd z (ex_end hx))⟩⟩
      unfold M_spread_L14
      simp (disch := omega) only [l0, l1, l2, l3, l4, l5, l6, l7, l8, l10, l12, l16, l20, l24, l26, l40, l64, l80, l100, l255, l256, l288, l312, l400, l992, l1940, l24980, l25240, xI, xL, xR, zI_neg, zI_add, zI_sub, zI_mul, zI_le, zI_lt, zI_eq, zI_in, zI_nat, Option.bind_some, lt9, hq, Int.add_zero, Int.sub_self, true_or, or_true, true_and, and_true, false_or, or_false, Int.cast_ofNat_Int, ↓reduceIte, hN _, if_pos, if_neg]
    · have hi3 : i < v (1940 + 80 * s + 3) := by omega
      have er := eM_isReleased hN hw (a := 1940 + 80 * s) (by omega) (by omega) hc hf hi hi3 hn
      by_cases hr : isRel v (1940 + 80 * s) i
      · rw [if_pos hr] at er
        have ht := tgt_v hw hs hi hi3 hr
        have t0 := ht.1
        have t1 := ht.2.1
        have hkk := hc.2.2.1 i hi hi3
        have hrr := resv_rng hw hc hf hi hi3
        have hm' := (hw.2.2.2.1 _ hkk.1 hkk.2.1).1
        have hq := hk _ t0 t1
        have hN1 : mN (sI (sI σ 509 0 0 (zI o)) 19 0 (tgt v s i).toNat (zI 1)) v := mN_o (mN_o hN (by decide)) (by decide)
        have hk1 : sk (sI (sI σ 509 0 0 (zI o)) 19 0 (tgt v s i).toNat (zI 1)) (ub ν (tgt v s i) true) := sk_s (sk_o hk (by decide)) t0 rfl
        obtain ⟨σ', ν', m', o', e, q1, q2, q3, q4, q5, q6, q7, q8, q9, q10, q11, q12⟩ := ih (sI (sI σ 509 0 0 (zI o)) 19 0 (tgt v s i).toNat (zI 1)) (ub ν (tgt v s i) true) (i + 1) (if m = 1 then 1 else if ν (tgt v s i) = true then 0 else 1) o hN1 hk1 (by unfold ub; split; rfl; exact hνs) (by rw [rO (by decide)]; exact rS) ho01 (by repeat' split; all_goals omega) (by omega) (by omega) (by omega)
        have ubl : ∀ x, ν x = true → ub ν (tgt v s i) true x = true := fun x z => by unfold ub; split; rfl; exact z
        have ubt : ub ν (tgt v s i) true (tgt v s i) = true := if_pos rfl
        refine ⟨σ', ν', m', o', e, ?_, q2, q3, q4, q5, q6, ((fr.rf.s (P := p19) (Or.inr rfl)).s (Or.inl rfl)).tr q7, fun x z => q8 x (ubl x z), fun x z => ?_, fun k a b c => ?_, ?_, ?_⟩
        · rw [← q1]
          conv => lhs; unfold M_spread_L14
          have hN0 : mN (sI σ 509 0 0 (zI o)) v := mN_o hN (by decide)
          have e1 := eM_refDrawing hN0 (a := 1940 + 80 * s) (k := i) (by omega) (by omega) hi (by omega)
          have e2 := eM_resolved hN0 hw (a := 1940 + 80 * s) (k := i) (by omega) (by omega) hc hi hi3 hn
          have et : 12 * v (1940 + 80 * s + 4 + 2 * i) + resv v (1940 + 80 * s) i = tgt v s i := rfl
          rcases ho01 with rfl | rfl <;> rcases hm01 with rfl | rfl
          · by_cases hb : ν (tgt v s i) = true
            · rw [zB_t hb] at hq
              simp (disch := omega) only [l0, l1, l2, l3, l4, l5, l6, l7, l8, l10, l12, l16, l20, l24, l26, l40, l64, l80, l100, l255, l256, l288, l312, l400, l992, l1940, l24980, l25240, xI, xL, xR, zI_neg, zI_add, zI_sub, zI_mul, zI_le, zI_lt, zI_eq, zI_in, zI_nat, Option.bind_some, lt9, hq, Int.add_zero, Int.sub_self, true_or, or_true, true_and, and_true, false_or, or_false, Int.cast_ofNat_Int, ↓reduceIte, hN _, er, ho, e1, e2, et, rO, hq, if_pos hb, nrZ_1, if_pos, if_neg]
            · rw [zB_f hb] at hq
              simp (disch := omega) only [l0, l1, l2, l3, l4, l5, l6, l7, l8, l10, l12, l16, l20, l24, l26, l40, l64, l80, l100, l255, l256, l288, l312, l400, l992, l1940, l24980, l25240, xI, xL, xR, zI_neg, zI_add, zI_sub, zI_mul, zI_le, zI_lt, zI_eq, zI_in, zI_nat, Option.bind_some, lt9, hq, Int.add_zero, Int.sub_self, true_or, or_true, true_and, and_true, false_or, or_false, Int.cast_ofNat_Int, ↓reduceIte, hN _, er, ho, e1, e2, et, rO, hq, if_neg hb, nrZ_1, if_pos, if_neg]
          · simp (disch := omega) only [l0, l1, l2, l3, l4, l5, l6, l7, l8, l10, l12, l16, l20, l24, l26, l40, l64, l80, l100, l255, l256, l288, l312, l400, l992, l1940, l24980, l25240, xI, xL, xR, zI_neg, zI_add, zI_sub, zI_mul, zI_le, zI_lt, zI_eq, zI_in, zI_nat, Option.bind_some, lt9, hq, Int.add_zero, Int.sub_self, true_or, or_true, true_and, and_true, false_or, or_false, Int.cast_ofNat_Int, ↓reduceIte, hN _, er, ho, e1, e2, et, rO, hq, nrZ_1, if_pos, if_neg]
          · by_cases hb : ν (tgt v s i) = true
            · rw [zB_t hb] at hq
              simp (disch := omega) only [l0, l1, l2, l3, l4, l5, l6, l7, l8, l10, l12, l16, l20, l24, l26, l40, l64, l80, l100, l255, l256, l288, l312, l400, l992, l1940, l24980, l25240, xI, xL, xR, zI_neg, zI_add, zI_sub, zI_mul, zI_le, zI_lt, zI_eq, zI_in, zI_nat, Option.bind_some, lt9, hq, Int.add_zero, Int.sub_self, true_or, or_true, true_and, and_true, false_or, or_false, Int.cast_ofNat_Int, ↓reduceIte, hN _, er, ho, e1, e2, et, rO, hq, if_pos hb, nrZ_1, if_pos, if_neg]
            · rw [zB_f hb] at hq
              simp (disch := omega) only [l0, l1, l2, l3, l4, l5, l6, l7, l8, l10, l12, l16, l20, l24, l26, l40, l64, l80, l100, l255, l256, l288, l312, l400, l992, l1940, l24980, l25240, xI, xL, xR, zI_neg, zI_add, zI_sub, zI_mul, zI_le, zI_lt, zI_eq, zI_in, zI_nat, Option.bind_some, lt9, hq, Int.add_zero, Int.sub_self, true_or, or_true, true_and, and_true, false_or, or_false, Int.cast_ofNat_Int, ↓reduceIte, hN _, er, ho, e1, e2, et, rO, hq, if_neg hb, nrZ_1, if_pos, if_neg]
          · simp (disch := omega) only [l0, l1, l2, l3, l4, l5, l6, l7, l8, l10, l12, l16, l20, l24, l26, l40, l64, l80, l100, l255, l256, l288, l312, l400, l992, l1940, l24980, l25240, xI, xL, xR, zI_neg, zI_add, zI_sub, zI_mul, zI_le, zI_lt, zI_eq, zI_in, zI_nat, Option.bind_some, lt9, hq, Int.add_zero, Int.sub_self, true_or, or_true, true_and, and_true, false_or, or_false, Int.cast_ofNat_Int, ↓reduceIte, hN _, er, ho, e1, e2, et, rO, hq, nrZ_1, if_pos, if_neg]
        · rcases q9 x z with h | h
          · unfold ub at h
            split at h
            · rename_i ex; exact Or.inr ⟨i, hi, hi3, hr, ex⟩
            · exact Or.inl h
          · exact Or.inr h
        · by_cases ek : k = i
          · subst ek; exact q8 _ ubt
          · exact q10 k (by omega) b c
        · rw [q11]
          constructor
          · rintro (z | ⟨x, x0, x1, a, b⟩)
            · split at z
              · rename_i h; exact Or.inl h
              · split at z
                · omega
                · rename_i h; exact Or.inr ⟨_, t0, t1, q8 _ ubt, h⟩
            · refine Or.inr ⟨x, x0, x1, a, fun c => b (ubl x c)⟩
          · rintro (z | ⟨x, x0, x1, a, b⟩)
            · left; rw [if_pos z]
            · by_cases h : ub ν (tgt v s i) true x = true
              · left
                have : x = tgt v s i := by
                  unfold ub at h; split at h
                  · assumption
                  · exact absurd h b
                subst this
                rw [if_neg b]; split <;> rfl
              · exact Or.inr ⟨x, x0, x1, a, h⟩
        · rw [q12, ex_step (P := fun k => ¬ isRel v (1940 + 80 * s) k) hi3]
          exact ⟨fun z => z.elim Or.inl (fun z => Or.inr (Or.inr z)), fun z => z.elim Or.inl (fun z => z.elim (fun z => absurd hr z) Or.inr)⟩
      · rw [if_neg hr] at er
        have hq := hk s hs0 hs1
        rw [zB_t hνs] at hq
        have hN1 : mN (sI (sI σ 509 0 0 (zI 1)) 19 0 s.toNat (zI 1)) v := mN_o (mN_o hN (by decide)) (by decide)
        have hk1 : sk (sI (sI σ 509 0 0 (zI 1)) 19 0 s.toNat (zI 1)) (ub ν s true) := sk_s (sk_o hk (by decide)) hs0 rfl
        have eu : ub ν s true = ν := by funext x; unfold ub; split; rename_i ex; rw [ex, hνs]; rfl
        rw [eu] at hk1
        obtain ⟨σ', ν', m', o', e, q1, q2, q3, q4, q5, q6, q7, q8, q9, q10, q11, q12⟩ := ih (sI (sI σ 509 0 0 (zI 1)) 19 0 s.toNat (zI 1)) ν (i + 1) m 1 hN1 hk1 hνs (by rw [rO (by decide)]; exact rS) (Or.inr rfl) hm01 (by omega) (by omega) (by omega)
        refine ⟨σ', ν', m', o', e, ?_, q2, q3, q4, q5, q6, ((fr.rf.s (P := p19) (Or.inr rfl)).s (Or.inl rfl)).tr q7, q8, q9, fun k a b c => ?_, q11, ⟨fun _ => Or.inr ⟨i, Int.le_refl _, hi3, hr⟩, fun _ => q12.mpr (Or.inl rfl)⟩⟩
        · rw [← q1]
          conv => lhs; unfold M_spread_L14
          rcases ho01 with rfl | rfl <;> rcases hm01 with rfl | rfl <;> simp (disch := omega) only [l0, l1, l2, l3, l4, l5, l6, l7, l8, l10, l12, l16, l20, l24, l26, l40, l64, l80, l100, l255, l256, l288, l312, l400, l992, l1940, l24980, l25240, xI, xL, xR, zI_neg, zI_add, zI_sub, zI_mul, zI_le, zI_lt, zI_eq, zI_in, zI_nat, Option.bind_some, lt9, hq, Int.add_zero, Int.sub_self, true_or, or_true, true_and, and_true, false_or, or_false, Int.cast_ofNat_Int, ↓reduceIte, hN _, er, ho, rO, hq, nrZ_1, if_pos, if_neg]
        · by_cases ek : k = i
          · subst ek; exact absurd c hr
          · exact q10 k (by omega) b c
theorem eM_spread {σ : hT} {v : Int → Int} (hw : wf v) {n : Nat} (hn : 13 ≤ n) {s : Int} (hs : vR v s) {ν : Int → Bool} {o : Int} (hN : mN σ v) (hk : sk σ ν) (hνs : ν s = true) (ho : σ.1 509 0 0 = zI o) (ho01 : o = 0 ∨ o = 1) :
    ∃ σ' ν' m' o', M_spread n σ (zI s) = some (zI m', σ') ∧ mN σ' v ∧ sk σ' ν' ∧ σ'.1 509 0 0 = zI o' ∧ (o' = 0 ∨ o' = 1) ∧ (m' = 0 ∨ m' = 1) ∧ fr p19 σ σ' ∧
      (∀ x, ν x = true → ν' x = true) ∧ (∀ x, ν' x = true → ν x = true ∨ edge v s x) ∧ (∀ t, edge v s t → ν' t = true) ∧ (m' = 1 ↔ ∃ x, 0 ≤ x ∧ x < 288 ∧ ν' x = true ∧ ¬ ν x = true) ∧ (o' = 1 ↔ o = 1 ∨ badR v s) := by
  obtain ⟨hc, hf⟩ := vR_c hw hs
  have h3 := hc.2.1
  obtain ⟨σ', ν', m', o', e, q1, q2, q3, q4, q5, q6, q7, q8, q9, q10, q11, q12⟩ := eM_spread_L hw hn hs (fun (σ1 : hT) (p2 : Int32) (p3 : Int32) (p4 : Int32) (p5 : Int32) => if p3 = 0 ∨ p3 = 1 then some (p3, σ1) else none) n σ ν 0 0 o hN hk hνs ho ho01 (Or.inl rfl) (by omega) (by omega) (by omega)
  refine ⟨σ', ν', m', o', ?_, q2, q3, q4, q5, q6, q7, q8, q9, ?_, ?_, q12⟩
  · unfold M_spread lt9
    rw [l1940, l80, zI_mul, zI_add]
    refine Eq.trans q1 ?_
    rcases q6 with rfl | rfl <;> rfl
  · rintro t ⟨i, i0, i1, hr, rfl⟩
    exact q10 i i0 i1 hr
  · rw [q11]
    exact ⟨fun z => z.elim (fun z => absurd z (by decide)) id, Or.inr⟩
