theorem wf_blk {v v' : Int → Int} {d : Int} (h : wf v) (hd : 0 ≤ d) (hd2 : d < v 16) (he : ∀ k, (k < 20 + 80 * d + 2 ∨ 20 + 80 * d + 80 ≤ k) → v' k = v k) (hc : 0 < v (20 + 80 * d + 1) → cw v' (20 + 80 * d)) : wf v' := by
  obtain ⟨g1, g2, g3, g4, g5, g6⟩ := h
  have e16 : v' 16 = v 16 := he _ (by omega)
  have hm : ∀ d', 0 ≤ d' → d' < v 16 → v' (20 + 80 * d') = v (20 + 80 * d') := fun d' a b => he _ (by omega)
  have hrr : ∀ e r k, 0 ≤ e → e < v 16 → 0 ≤ r → r < 12 → 0 ≤ k → k < 80 → v' (1940 + 80 * (12 * e + r) + k) = v (1940 + 80 * (12 * e + r) + k) := fun e r k a b c d1 e1 f1 => he _ (by omega)
  refine ⟨by rw [e16]; exact g1, fun p p0 p1 => by rw [he _ (by omega)]; exact g2 p p0 p1, by rw [he _ (by omega)]; exact g3, fun e e0 e1 => ?_, ?_, fun b b0 b1 => wfB_c b0 (fun k k0 k1 => he _ (by omega)) (g6 b b0 b1)⟩
  · rw [e16] at e1
    by_cases hee : e = d
    · subst hee
      obtain ⟨k1, k2, k3, k4⟩ := g4 e e0 e1
      have i0 : v' (20 + 80 * e) = v (20 + 80 * e) := he _ (by omega)
      have i1 : v' (20 + 80 * e + 1) = v (20 + 80 * e + 1) := he _ (by omega)
      refine ⟨by rw [i0]; exact k1, by rw [i1]; exact k2, fun z => hc (by rw [i1] at z; exact z), fun r r0 r1 => ?_⟩
      rw [i0] at r1
      obtain ⟨q1, q2, q3, q4⟩ := k4 r r0 r1
      have j0 := hrr e r 0 e0 e1 r0 (by omega) (by omega) (by omega)
      rw [Int.add_zero] at j0
      exact ⟨by rw [j0]; exact q1, by rw [hrr e r 1 e0 e1 r0 (by omega) (by omega) (by omega)]; exact q2, cw_c (by omega) (fun k a b => hrr e r k e0 e1 r0 (by omega) (by omega) b) q3, fx_c (fun d' a b => by rw [hm d' a b]; omega) (fun k a b => hrr e r k e0 e1 r0 (by omega) (by omega) b) q3 q4⟩
    · exact wfD_c e0 (by omega) (fun d' a b => by rw [hm d' a b]; omega) (fun k a b => he _ (by omega)) (fun r k r0 r1 k0 k1 => hrr e r k e0 e1 r0 r1 k0 k1) (g4 e e0 e1)
  · rw [e16, allR_c _ (fun d' a b => he _ (by omega))]; exact g5
theorem cw_cp {v v' : Int → Int} {a t : Int} (h16 : v 16 ≤ v' 16) (he : ∀ k, 2 ≤ k → k < 80 → v' (t + k) = v (a + k)) (h : cw v a) : cw v' t := by
  obtain ⟨h1, h2, h3, h4⟩ := h
  refine ⟨?_, ?_, ?_, ?_⟩
  · rw [he 2 (by omega) (by omega)]; exact h1
  · rw [he 3 (by omega) (by omega)]; exact h2
  · intro k k0 k1
    rw [he 3 (by omega) (by omega)] at k1
    have e1 := he (4 + 2 * k) (by omega) (by omega)
    have e2 := he (4 + 2 * k + 1) (by omega) (by omega)
    rw [← Int.add_assoc, ← Int.add_assoc] at e1
    rw [← Int.add_assoc, ← Int.add_assoc, ← Int.add_assoc, ← Int.add_assoc] at e2
    rw [e1, e2]
    have := h3 k k0 k1
    omega
  · intro i i0 i1
    rw [he 2 (by omega) (by omega)] at i1
    have e1 := he (16 + i) (by omega) (by omega)
    rw [← Int.add_assoc, ← Int.add_assoc] at e1
    rw [e1]
    exact h4 i i0 i1
abbrev outOk (v : Int → Int) (d p : Int) : Prop := rts v p ≠ 0 ∧ 0 ≤ d ∧ d < v 16 ∧ v (20 + 80 * d + 1) - 1 < 0
def whyO (v : Int → Int) (d p : Int) : Int := if rts v p = 0 then 1 else if 0 ≤ d ∧ d < v 16 then (if v (20 + 80 * d + 1) - 1 < 0 then 0 else 2) else 7
theorem whyO_ok {v : Int → Int} {d p : Int} : outOk v d p ↔ whyO v d p = 0 := by
  unfold whyO
  repeat' split
  all_goals first | (constructor <;> intro z <;> first | omega | (exact ⟨by assumption, by omega, by omega, by omega⟩))
theorem whyO_rng {v : Int → Int} {d p : Int} : 0 ≤ whyO v d p ∧ whyO v d p ≤ 8 := by
  unfold whyO
  repeat' split
  all_goals omega
def fOut (d p : Int) (u : Int → Int) : Int → Int := cpv (uv u (20 + 80 * d + 1) (p + 1)) (1940 + 80 * (12 * d + (u (20 + 80 * d) - 1))) (20 + 80 * d) 80
theorem wf_out {v : Int → Int} {d p : Int} (h : wf v) (hd : 0 ≤ d) (hd2 : d < v 16) (hw : v (20 + 80 * d + 1) - 1 < 0) (hp : 0 ≤ p ∧ p < 16) : wf (fOut d p v) := by
  have h16 := h.1
  have hD := h.2.2.2.1 d hd hd2
  have hD1 := hD.1
  have hD2 := hD.2.1
  have e : fOut d p v = uv (cpv v (1940 + 80 * (12 * d + (v (20 + 80 * d) - 1))) (20 + 80 * d) 80) (20 + 80 * d + 1) (p + 1) := by
    funext k
    dsimp only [fOut, cpv, uv]
    repeat' split
    all_goals first | rfl | (exfalso; omega)
  rw [e]
  have hb : wf (cpv v (1940 + 80 * (12 * d + (v (20 + 80 * d) - 1))) (20 + 80 * d) 80) := wf_blk h hd hd2 (fun k hk => by dsimp only [cpv]; rw [if_neg (by omega)]) (fun z => by omega)
  refine wf_with hb hd (by dsimp only [cpv]; rw [if_neg (by omega)]; exact hd2) (by omega) (fun _ => ?_)
  refine cw_cp (a := 1940 + 80 * (12 * d + (v (20 + 80 * d) - 1))) (v := v) (by dsimp only [cpv]; rw [if_neg (by omega)]; omega) (fun k k0 k1 => ?_) (hD.2.2.2 (v (20 + 80 * d) - 1) (by omega) (by omega)).2.2.1
  dsimp only [cpv]
  rw [if_pos (by omega)]
  congr 1
  omega
def rM_out (n : Nat) (a1 : Int32) (a2 : Int32) (σ22 : hT) (y21 : Int32) : Option (Int32 × hT) := if y21 = 0 then some (0, σ22) else if in9 ((M_drawingAt a1) + 1) 25240 then lt9 (sI σ22 15 0 (((M_drawingAt a1) + 1)).toNatClampNeg (a2 + 1)) fun σ26 => Option.bind (M_made σ26 a1) fun y30 => Option.bind (M_copy n σ26 (M_revisionAt a1 (y30 - 1)) (M_drawingAt a1)) fun ⟨y34, σ35⟩ => Option.bind (M_close n σ35) fun ⟨y37, σ38⟩ => some (1, σ38) else none
theorem dM_out {n : Nat} {σ : hT} {a1 : Int32} {a2 : Int32} : M_out n σ a1 a2 = Option.bind (M_isDrawing σ a1) fun y2 => Option.bind (M_rights σ a2) fun y4 => lt9 (α := Int32 → Option (Int32 × hT)) (fun (s6 : Int32) => lt9 (α := Int32 → Option (Int32 × hT)) (fun (s9 : Int32) => lt9 (α := Int32 → Option (Int32 × hT)) (fun (s12 : Int32) => Option.bind (M_may σ (M_least s6 1 (M_least s9 7 (M_least s12 2 0))) 1) (fun q9 => rM_out n a1 a2 q9.2 q9.1)) fun x11 => if y2 = 0 then x11 0 else lt9 (α := Int32 → Option (Int32 × hT)) (fun (s15 : Int32) => Option.bind (M_with σ s15) fun y18 => if y18 < 0 then x11 0 else x11 1) fun x14 => if y2 = 0 then x14 0 else x14 a1) fun x8 => if y2 = 0 then x8 1 else x8 0) fun x5 => if y4 = 0 then x5 1 else x5 0 := rfl
theorem kM_out {σ : hT} {v : Int → Int} (hN : mN σ v) (hw : wf v) {d p : Int} (hd : i32 d) (hp : i32 p) (n : Nat) :
    M_out n σ (zI d) (zI p) = Option.bind (M_may σ (zI (whyO v d p)) (zI 1)) (fun q9 => rM_out n (zI d) (zI p) q9.2 q9.1) := by
  obtain ⟨hd1, hd2⟩ := hd
  obtain ⟨hp1, hp2⟩ := hp
  have h16 := hw.1
  have hr := rts_rng hw p
  have er : M_rights σ (zI p) = some (zI (rts v p)) := eM_rights hN hp1 hp2
  rw [dM_out]
  generalize rM_out n (zI d) (zI p) = F
  unfold whyO
  rw [er, eM_isDrawing hN hw hd1 hd2]
  by_cases h1 : rts v p = 0
  · by_cases h2 : 0 ≤ d ∧ d < v 16
    · have h3 := (hw.2.2.2.1 d h2.1 h2.2).2.1
      simp (disch := omega) only [l0, l1, l2, l3, l4, l5, l6, l7, l8, l10, l12, l16, l20, l24, l26, l40, l64, l80, l100, l255, l256, l288, l312, l400, l992, l1940, l24980, l25240, xI, xL, xR, zI_neg, zI_add, zI_sub, zI_mul, zI_le, zI_lt, zI_eq, zI_in, zI_nat, Option.bind_some, lt9, hq, Int.add_zero, Int.sub_self, true_or, or_true, true_and, and_true, false_or, or_false, Int.cast_ofNat_Int, ↓reduceIte, h1, eM_with hN, if_pos, if_neg]
      repeat' split
      all_goals rfl
    · simp (disch := omega) only [l0, l1, l2, l3, l4, l5, l6, l7, l8, l10, l12, l16, l20, l24, l26, l40, l64, l80, l100, l255, l256, l288, l312, l400, l992, l1940, l24980, l25240, xI, xL, xR, zI_neg, zI_add, zI_sub, zI_mul, zI_le, zI_lt, zI_eq, zI_in, zI_nat, Option.bind_some, lt9, hq, Int.add_zero, Int.sub_self, true_or, or_true, true_and, and_true, false_or, or_false, Int.cast_ofNat_Int, ↓reduceIte, h1, eM_with hN, if_pos, if_neg]
      rfl
  · by_cases h2 : 0 ≤ d ∧ d < v 16
    · have h3 := (hw.2.2.2.1 d h2.1 h2.2).2.1
      simp (disch := omega) only [l0, l1, l2, l3, l4, l5, l6, l7, l8, l10, l12, l16, l20, l24, l26, l40, l64, l80, l100, l255, l256, l288, l312, l400, l992, l1940, l24980, l25240, xI, xL, xR, zI_neg, zI_add, zI_sub, zI_mul, zI_le, zI_lt, zI_eq, zI_in, zI_nat, Option.bind_some, lt9, hq, Int.add_zero, Int.sub_self, true_or, or_true, true_and, and_true, false_or, or_false, Int.cast_ofNat_Int, ↓reduceIte, eM_with hN, if_pos, if_neg]
      repeat' split
      all_goals rfl
    · simp (disch := omega) only [l0, l1, l2, l3, l4, l5, l6, l7, l8, l10, l12, l16, l20, l24, l26, l40, l64, l80, l100, l255, l256, l288, l312, l400, l992, l1940, l24980, l25240, xI, xL, xR, zI_neg, zI_add, zI_sub, zI_mul, zI_le, zI_lt, zI_eq, zI_in, zI_nat, Option.bind_some, lt9, hq, Int.add_zero, Int.sub_self, true_or, or_true, true_and, and_true, false_or, or_false, Int.cast_ofNat_Int, ↓reduceIte, eM_with hN, if_pos, if_neg]
      rfl
theorem eM_out {σ : hT} {s : zT} (hs : MSt σ s) (ho : okS s) {d p : Int} (hd : i32 d) (hp : i32 p) {n : Nat} (hn : 25241 ≤ n) :
    RefC (outOk s.1 d p) 1 (fOut d p) s σ (M_out n σ (zI d) (zI p)) (fun _ acc => acc) := by
  have h16 := ho.1.1
  unfold RefC
  rw [kM_out hs.1 ho.1 hd hp n]
  refine Cm_ref (ok := outOk s.1 d p) (c := 1) (f := fOut d p) hs ho (why := whyO s.1 d p) whyO_rng.1 whyO_rng.2 whyO_ok (by omega) (by omega)
    (rM_out n (zI d) (zI p)) (fun _ acc => acc)
    (fun σ1 th h1 h2 => ⟨σ1, rfl, rfl⟩)
    (fun hk h17 σ1 pl hM hf ht => ?_)
  obtain ⟨k1, k2, k3, k4⟩ := hk
  have e16 : mv s.1 1 16 = s.1 16 := mv_at (by decide) (by decide)
  have ed : mv s.1 1 (20 + 80 * d) = s.1 (20 + 80 * d) := mv_at (by omega) (by omega)
  have ed1 : mv s.1 1 (20 + 80 * d + 1) = s.1 (20 + 80 * d + 1) := mv_at (by omega) (by omega)
  have hp16 : 0 ≤ p ∧ p < 16 := by
    apply Classical.byContradiction
    intro z; apply k1; unfold rts; rw [if_neg z]
  have hD1 := (ho.1.2.2.2.1 d k2 k3).1
  have hN1 : mN (sI σ1 15 0 (20 + 80 * d + 1).toNat (zI (p + 1))) (uv (mv s.1 1) (20 + 80 * d + 1) (p + 1)) := mN_s hM.1 (by omega) _ rfl
  have em := eM_made hN1 k2 (show d < 24 by omega)
  rw [uv_n (by omega)] at em
  obtain ⟨σ2, c1, c2, c3⟩ := eM_copy hN1 (a := 1940 + 80 * (12 * d + (mv s.1 1 (20 + 80 * d) - 1))) (t := 20 + 80 * d) (by omega) (by omega) (by omega) (by omega) (by omega) (n := n) (by omega)
  obtain ⟨σ3, q1, q2, q3, q4, q5⟩ := body_close hn hM c2 ((fr.rf.s (P := fun f => f = 15) rfl).tr c3) (wf_out (wf_mv ho.1 (by omega) h17) k2 (by omega) (by omega) hp16) ht
  refine ⟨σ3, ?_, q2, q3, q4, q5⟩
  unfold rM_out
  simp (disch := omega) only [l0, l1, l2, l3, l4, l5, l6, l7, l8, l10, l12, l16, l20, l24, l26, l40, l64, l80, l100, l255, l256, l288, l312, l400, l992, l1940, l24980, l25240, xI, xL, xR, zI_neg, zI_add, zI_sub, zI_mul, zI_le, zI_lt, zI_eq, zI_in, zI_nat, Option.bind_some, lt9, hq, Int.add_zero, Int.sub_self, true_or, or_true, true_and, and_true, false_or, or_false, Int.cast_ofNat_Int, ↓reduceIte, eM_drawingAt, em, eM_revisionAt, c1, if_pos, if_neg]
  rw [q1]
  rfl
