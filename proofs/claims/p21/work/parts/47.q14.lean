def RefH (ok : Prop) (f : (Int → Int) → Int → Int) (s : zT) (σ : hT) (M : Option (Int32 × hT)) : Prop :=
  ∃ th acc s' σ', Hm ok f s th acc s' ∧ M = some (zI acc, σ') ∧ MSt σ' s' ∧ σ'.2 = σ.2 ∧ (∀ g j, (g < 15 ∨ 19 < g ∧ g < 500 ∨ 600 ≤ g) → σ'.1 g j = σ.1 g j) ∧ σ'.1 500 0 0 = zI th
theorem eM_mayHere {σ : hT} {v w : Int → Int} {fl pl why : Int} (h : MS σ v w fl pl) (hf : fl = 0 ∨ fl = 1) (h1 : 0 ≤ why) (h2 : why ≤ 8) :
    ∃ σ', M_mayHere σ (zI why) = some (zI (if fl = 0 ∧ why = 0 then 1 else 0), σ') ∧ MS σ' v w fl pl ∧ fr pMay σ σ' ∧ σ'.1 500 0 0 = zI fl := by
  obtain ⟨hN, hK, hfl, hpl⟩ := h
  have f1 : pMay 500 := Or.inr (Or.inl rfl)
  have f2 : pMay 501 := Or.inr (Or.inr (Or.inl rfl))
  rcases hf with rfl | rfl
  · refine ⟨sI (sI σ 500 0 0 (zI 0)) 501 0 0 (zI why), ?_, ⟨mN_o (mN_o hN (by decide)) (by decide), mK_o (mK_o hK (by decide)) (by decide), by rw [rO (by decide), rO (by decide)]; exact hfl, by rw [rO (by decide), rO (by decide)]; exact hpl⟩, (fr.rf.s f1).s f2, by rw [rO (by decide)]; exact rS⟩
    unfold M_mayHere
    simp (disch := omega) only [l0, l1, l2, l3, l4, l5, l6, l7, l8, l10, l12, l16, l20, l24, l26, l40, l64, l80, l100, l255, l256, l288, l312, l400, l992, l1940, l24980, l25240, xI, xL, xR, zI_neg, zI_add, zI_sub, zI_mul, zI_le, zI_lt, zI_eq, zI_in, zI_nat, Option.bind_some, lt9, hq, Int.add_zero, Int.sub_self, true_or, or_true, true_and, and_true, false_or, or_false, Int.cast_ofNat_Int, ↓reduceIte, hfl, rO, rS]
    by_cases hz : why = 0
    · simp (disch := omega) only [l0, l1, l2, l3, l4, l5, l6, l7, l8, l10, l12, l16, l20, l24, l26, l40, l64, l80, l100, l255, l256, l288, l312, l400, l992, l1940, l24980, l25240, xI, xL, xR, zI_neg, zI_add, zI_sub, zI_mul, zI_le, zI_lt, zI_eq, zI_in, zI_nat, Option.bind_some, lt9, hq, Int.add_zero, Int.sub_self, true_or, or_true, true_and, and_true, false_or, or_false, Int.cast_ofNat_Int, ↓reduceIte, hz, if_pos, if_neg]
    · simp (disch := omega) only [l0, l1, l2, l3, l4, l5, l6, l7, l8, l10, l12, l16, l20, l24, l26, l40, l64, l80, l100, l255, l256, l288, l312, l400, l992, l1940, l24980, l25240, xI, xL, xR, zI_neg, zI_add, zI_sub, zI_mul, zI_le, zI_lt, zI_eq, zI_in, zI_nat, Option.bind_some, lt9, hq, Int.add_zero, Int.sub_self, true_or, or_true, true_and, and_true, false_or, or_false, Int.cast_ofNat_Int, ↓reduceIte, hz, if_pos, if_neg]
  · refine ⟨sI σ 500 0 0 (zI 1), ?_, ⟨mN_o hN (by decide), mK_o hK (by decide), by rw [rO (by decide)]; exact hfl, by rw [rO (by decide)]; exact hpl⟩, fr.rf.s f1, rS⟩
    unfold M_mayHere
    simp (disch := omega) only [l0, l1, l2, l3, l4, l5, l6, l7, l8, l10, l12, l16, l20, l24, l26, l40, l64, l80, l100, l255, l256, l288, l312, l400, l992, l1940, l24980, l25240, xI, xL, xR, zI_neg, zI_add, zI_sub, zI_mul, zI_le, zI_lt, zI_eq, zI_in, zI_nat, Option.bind_some, lt9, hq, Int.add_zero, Int.sub_self, true_or, or_true, true_and, and_true, false_or, or_false, Int.cast_ofNat_Int, ↓reduceIte, hfl, rO, rS, if_pos, if_neg]
theorem Hm_ref {ok : Prop} {f : (Int → Int) → Int → Int} {s : zT} {σ : hT} (hs : MSt σ s) (ho : okS s) {why : Int} (hy : 0 ≤ why) (hy8 : why ≤ 8) (hok : ok ↔ why = 0) (F : hT → Int32 → Option (Int32 × hT))
    (hno : ∀ σ1, F σ1 (zI 0) = some (zI 0, σ1))
    (hyes : ok → ∀ σ1, MS σ1 s.1 s.2.1 0 s.2.2.2 → ∃ σ2, F σ1 (zI 1) = some (zI 1, σ2) ∧ mN σ2 (f s.1) ∧ fr (fun f => f = 15) σ1 σ2) :
    RefH ok f s σ (Option.bind (M_mayHere σ (zI why)) (fun q => F q.2 q.1)) := by
  obtain ⟨v, w, fl, pl⟩ := s
  obtain ⟨hw, hfl, hp1, hp2⟩ := ho
  obtain ⟨σ1, q1, q2, q3, q4⟩ := eM_mayHere hs hfl hy hy8
  have fq := frW q3 (by intro f z; simp only [pMay] at z; omega)
  dsimp only at hfl q1 q2 q4
  by_cases hk : fl = 0 ∧ why = 0
  · obtain ⟨rfl, rfl⟩ := hk
    obtain ⟨σ2, r1, r2, r3⟩ := hyes (hok.mpr rfl) σ1 q2
    have f2 := frW r3 (by omega)
    rw [if_pos ⟨rfl, rfl⟩] at q1
    exact ⟨0, 1, _, σ2, Or.inr (Or.inr ⟨rfl, hok.mpr rfl, rfl, rfl, rfl⟩), by rw [q1]; exact r1, ⟨r2, fun k a b => by rw [r3.2 16 0 (by decide)]; exact q2.2.1 k a b, by rw [r3.2 504 0 (by decide)]; exact q2.2.2.1, by rw [r3.2 505 0 (by decide)]; exact q2.2.2.2⟩, f2.1.trans fq.1, fun g j hg => (f2.2 g j hg).trans (fq.2 g j hg), by rw [r3.2 500 0 (by decide)]; exact q4⟩
  · rw [if_neg hk] at q1
    refine ⟨fl, 0, (v, w, fl, pl), σ1, ?_, by rw [q1]; exact hno σ1, q2, fq.1, fq.2, q4⟩
    rcases hfl with rfl | rfl
    · exact Or.inr (Or.inl ⟨rfl, fun z => hk ⟨rfl, hok.mp z⟩, rfl, rfl, rfl⟩)
    · exact Or.inl ⟨rfl, rfl, rfl, rfl⟩
abbrev putOk (v : Int → Int) (d p i x : Int) : Prop := cpOk v d p ∧ 0 ≤ i ∧ i < v (20 + 80 * d + 2) ∧ 0 ≤ x ∧ x < 256
def whyP (v : Int → Int) (d p : Int) (B : Prop) [Decidable B] : Int := if whyC v d p = 0 then (if B then 0 else 7) else whyC v d p
theorem whyP_ok {v : Int → Int} {d p : Int} {B : Prop} [Decidable B] : (cpOk v d p ∧ B) ↔ whyP v d p B = 0 := by
  unfold whyP
  rw [whyC_ok]
  constructor
  · rintro ⟨a, b⟩; rw [if_pos a, if_pos b]
  · intro h
    split at h
    · rename_i a
      split at h
      · rename_i b; exact ⟨a, b⟩
      · omega
    · rename_i a; exact absurd h a
theorem whyP_rng {v : Int → Int} {d p : Int} {B : Prop} [Decidable B] : 0 ≤ whyP v d p B ∧ whyP v d p B ≤ 8 := by
  have := whyC_rng (v := v) (d := d) (p := p)
  unfold whyP
  repeat' split
  all_goals omega
def rM_put (a1 : Int32) (a2 : Int32) (a3 : Int32) (a4 : Int32) (σ23 : hT) (y22 : Int32) : Option (Int32 × hT) := if y22 = 0 then some (0, σ23) else if in9 (((M_drawingAt a1) + 16) + a3) 25240 then lt9 (sI σ23 15 0 ((((M_drawingAt a1) + 16) + a3)).toNatClampNeg a4) fun σ27 => some (1, σ27) else none
theorem dM_put {σ : hT} {a1 : Int32} {a2 : Int32} {a3 : Int32} {a4 : Int32} : M_put σ a1 a2 a3 a4 = Option.bind (M_whyNot σ a1 a2) fun y2 => lt9 (α := Int32 → Option (Int32 × hT)) (fun (s4 : Int32) => lt9 (α := Int32 → Option (Int32 × hT)) (fun (s18 : Int32) => Option.bind (M_mayHere σ s18) (fun q9 => rM_put a1 a2 a3 a4 q9.2 q9.1)) fun x17 => if y2 = 0 then if s4 = 0 then x17 7 else x17 y2 else x17 y2) fun x3 => if y2 = 0 then if a3 < 0 then x3 0 else lt9 (α := Int32 → Option (Int32 × hT)) (fun (s9 : Int32) => if in9 ((M_drawingAt s9) + 2) 25240 then if (xI σ 15 0 (((M_drawingAt s9) + 2)).toNatClampNeg) ≤ a3 then x3 0 else if a4 < 0 then x3 0 else if 256 ≤ a4 then x3 0 else x3 1 else none) fun x8 => if y2 = 0 then x8 a1 else x8 0 else x3 0 := rfl
theorem kM_put {σ : hT} {v : Int → Int} (hN : mN σ v) (hw : wf v) {d p i x : Int} (hd : i32 d) (hp : i32 p) (hi : i32 i) (hx : i32 x) :
    M_put σ (zI d) (zI p) (zI i) (zI x) = Option.bind (M_mayHere σ (zI (whyP v d p (0 ≤ i ∧ i < v (20 + 80 * d + 2) ∧ 0 ≤ x ∧ x < 256)))) (fun q9 => rM_put (zI d) (zI p) (zI i) (zI x) q9.2 q9.1) := by
  have h16 := hw.1
  have hwc := whyC_rng (v := v) (d := d) (p := p)
  rw [dM_put, eM_whyNot hN hw hd hp]
  generalize rM_put (zI d) (zI p) (zI i) (zI x) = F
  obtain ⟨hi1, hi2⟩ := hi
  obtain ⟨hx1, hx2⟩ := hx
  unfold whyP
  by_cases hc : whyC v d p = 0
  · obtain ⟨k1, k2, k3, k4⟩ := whyC_ok.mpr hc
    have hcp : 0 < v (20 + 80 * d + 1) := by
      have : 0 ≤ p := by
        apply Classical.byContradiction
        intro z; apply k1; unfold rts; rw [if_neg (by omega)]
      omega
    have hcw := ((hw.2.2.2.1 d k2 k3).2.2.1 hcp).1
    by_cases h1 : i < 0
    · simp (disch := omega) only [l0, l1, l2, l3, l4, l5, l6, l7, l8, l10, l12, l16, l20, l24, l26, l40, l64, l80, l100, l255, l256, l288, l312, l400, l992, l1940, l24980, l25240, xI, xL, xR, zI_neg, zI_add, zI_sub, zI_mul, zI_le, zI_lt, zI_eq, zI_in, zI_nat, Option.bind_some, lt9, hq, Int.add_zero, Int.sub_self, true_or, or_true, true_and, and_true, false_or, or_false, Int.cast_ofNat_Int, ↓reduceIte, hc, eM_drawingAt, hN _, if_pos, if_neg]
    · by_cases h2 : v (20 + 80 * d + 2) ≤ i
      · simp (disch := omega) only [l0, l1, l2, l3, l4, l5, l6, l7, l8, l10, l12, l16, l20, l24, l26, l40, l64, l80, l100, l255, l256, l288, l312, l400, l992, l1940, l24980, l25240, xI, xL, xR, zI_neg, zI_add, zI_sub, zI_mul, zI_le, zI_lt, zI_eq, zI_in, zI_nat, Option.bind_some, lt9, hq, Int.add_zero, Int.sub_self, true_or, or_true, true_and, and_true, false_or, or_false, Int.cast_ofNat_Int, ↓reduceIte, hc, eM_drawingAt, hN _, if_pos, if_neg]
      · by_cases h3 : x < 0
        · simp (disch := omega) only [l0, l1, l2, l3, l4, l5, l6, l7, l8, l10, l12, l16, l20, l24, l26, l40, l64, l80, l100, l255, l256, l288, l312, l400, l992, l1940, l24980, l25240, xI, xL, xR, zI_neg, zI_add, zI_sub, zI_mul, zI_le, zI_lt, zI_eq, zI_in, zI_nat, Option.bind_some, lt9, hq, Int.add_zero, Int.sub_self, true_or, or_true, true_and, and_true, false_or, or_false, Int.cast_ofNat_Int, ↓reduceIte, hc, eM_drawingAt, hN _, if_pos, if_neg]
        · by_cases h4 : 256 ≤ x
          · simp (disch := omega) only [l0, l1, l2, l3, l4, l5, l6, l7, l8, l10, l12, l16, l20, l24, l26, l40, l64, l80, l100, l255, l256, l288, l312, l400, l992, l1940, l24980, l25240, xI, xL, xR, zI_neg, zI_add, zI_sub, zI_mul, zI_le, zI_lt, zI_eq, zI_in, zI_nat, Option.bind_some, lt9, hq, Int.add_zero, Int.sub_self, true_or, or_true, true_and, and_true, false_or, or_false, Int.cast_ofNat_Int, ↓reduceIte, hc, eM_drawingAt, hN _, if_pos, if_neg]
          · simp (disch := omega) only [l0, l1, l2, l3, l4, l5, l6, l7, l8, l10, l12, l16, l20, l24, l26, l40, l64, l80, l100, l255, l256, l288, l312, l400, l992, l1940, l24980, l25240, xI, xL, xR, zI_neg, zI_add, zI_sub, zI_mul, zI_le, zI_lt, zI_eq, zI_in, zI_nat, Option.bind_some, lt9, hq, Int.add_zero, Int.sub_self, true_or, or_true, true_and, and_true, false_or, or_false, Int.cast_ofNat_Int, ↓reduceIte, hc, eM_drawingAt, hN _, if_pos, if_neg]
  · simp (disch := omega) only [l0, l1, l2, l3, l4, l5, l6, l7, l8, l10, l12, l16, l20, l24, l26, l40, l64, l80, l100, l255, l256, l288, l312, l400, l992, l1940, l24980, l25240, xI, xL, xR, zI_neg, zI_add, zI_sub, zI_mul, zI_le, zI_lt, zI_eq, zI_in, zI_nat, Option.bind_some, lt9, hq, Int.add_zero, Int.sub_self, true_or, or_true, true_and, and_true, false_or, or_false, Int.cast_ofNat_Int, ↓reduceIte, hc, if_pos, if_neg]
theorem cpOk_cw {v : Int → Int} {d p : Int} (hw : wf v) (hk : cpOk v d p) : 0 ≤ d ∧ d < v 16 ∧ d < 24 ∧ 0 < v (20 + 80 * d + 1) ∧ cw v (20 + 80 * d) ∧ 0 ≤ p ∧ p < 16 := by
  obtain ⟨k1, k2, k3, k4⟩ := hk
  have h16 := hw.1
  have hp : 0 ≤ p ∧ p < 16 := by
    apply Classical.byContradiction
    intro z; apply k1; unfold rts; rw [if_neg (by omega)]
  have hcp : 0 < v (20 + 80 * d + 1) := by omega
  exact ⟨k2, k3, by omega, hcp, (hw.2.2.2.1 d k2 k3).2.2.1 hcp, hp.1, hp.2⟩
theorem wf_put {v : Int → Int} {d p i x : Int} (hw : wf v) (hk : putOk v d p i x) : wf (uv v (20 + 80 * d + 16 + i) x) := by
  obtain ⟨k0, k1, k2, k3, k4⟩ := hk
  obtain ⟨c1, c2, c3, c4, c5, c6⟩ := cpOk_cw hw k0
  obtain ⟨b1, b2, b3, b4⟩ := c5
  refine wf_blk hw c1 c2 (fun k hk => uv_n (by omega)) (fun _ => ⟨by rw [uv_n (by omega)]; exact b1, by rw [uv_n (by omega)]; exact b2, fun k k0 k1 => ?_, fun j j0 j1 => ?_⟩)
  · rw [uv_n (by omega)] at k1
    rw [uv_n (by omega), uv_n (by omega), uv_n (by omega)]
    exact b3 k k0 k1
  · rw [uv_n (by omega)] at j1
    by_cases e : j = i
    · subst e; rw [uv_s]; omega
    · rw [uv_n (by omega)]; exact b4 j j0 j1
theorem eM_put {σ : hT} {s : zT} (hs : MSt σ s) (ho : okS s) {d p i x : Int} (hd : i32 d) (hp : i32 p) (hi : i32 i) (hx : i32 x) :
    RefH (putOk s.1 d p i x) (fun u => uv u (20 + 80 * d + 16 + i) x) s σ (M_put σ (zI d) (zI p) (zI i) (zI x)) := by
  rw [kM_put hs.1 ho.1 hd hp hi hx]
  refine Hm_ref hs ho whyP_rng.1 whyP_rng.2 whyP_ok (rM_put (zI d) (zI p) (zI i) (zI x)) (fun σ1 => rfl) (fun hk σ1 hM => ?_)
  obtain ⟨k0, k1, k2, k3, k4⟩ := hk
  obtain ⟨c1, c2, c3, c4, c5, c6⟩ := cpOk_cw ho.1 k0
  have b1 := c5.1
  refine ⟨sI σ1 15 0 (20 + 80 * d + 16 + i).toNat (zI x), ?_, mN_s hM.1 (by omega) _ rfl, fr.rf.s (P := fun f => f = 15) rfl⟩
  unfold rM_put
  simp (disch := omega) only [l0, l1, l2, l3, l4, l5, l6, l7, l8, l10, l12, l16, l20, l24, l26, l40, l64, l80, l100, l255, l256, l288, l312, l400, l992, l1940, l24980, l25240, xI, xL, xR, zI_neg, zI_add, zI_sub, zI_mul, zI_le, zI_lt, zI_eq, zI_in, zI_nat, Option.bind_some, lt9, hq, Int.add_zero, Int.sub_self, true_or, or_true, true_and, and_true, false_or, or_false, Int.cast_ofNat_Int, ↓reduceIte, eM_drawingAt, if_pos, if_neg]
abbrev rszOk (v : Int → Int) (d p b : Int) : Prop := cpOk v d p ∧ 0 ≤ b ∧ b ≤ 64
def zr (u : Int → Int) (lo hi : Int) : Int → Int := fun k => if lo ≤ k ∧ k < hi then 0 else u k
def fRsz (d b : Int) (u : Int → Int) : Int → Int := uv (zr u (20 + 80 * d + 16 + u (20 + 80 * d + 2)) (20 + 80 * d + 16 + b)) (20 + 80 * d + 2) b
def rM_resize (n : Nat) (a1 : Int32) (a2 : Int32) (a3 : Int32) (y2 : Int32) (σ10 : hT) (y9 : Int32) : Option (Int32 × hT) := if y9 = 0 then some (0, σ10) else if in9 ((M_drawingAt a1) + 2) 25240 then lt9 (α := hT → Int32 → Int32 → Int32 → Int32 → Int32 → Int32 → Option (Int32 × hT)) (fun (σ16 : hT) (p17 : Int32) (p18 : Int32) (p19 : Int32) (p20 : Int32) (p21 : Int32) (p22 : Int32) => if in9 (p18 + 2) 25240 then lt9 (sI σ16 15 0 ((p18 + 2)).toNatClampNeg p22) fun σ31 => some (1, σ31) else none) fun kx23 => M_resize_L57 n kx23 n (σ10) (xI σ10 15 0 (((M_drawingAt a1) + 2)).toNatClampNeg) (M_drawingAt a1) y2 a1 a2 a3 else none
theorem dM_resize {n : Nat} {σ : hT} {a1 : Int32} {a2 : Int32} {a3 : Int32} : M_resize n σ a1 a2 a3 = Option.bind (M_whyNot σ a1 a2) fun y2 => lt9 (α := Int32 → Option (Int32 × hT)) (fun (s4 : Int32) => Option.bind (M_mayHere σ s4) (fun q9 => rM_resize n a1 a2 a3 y2 q9.2 q9.1)) fun x3 => if y2 = 0 then if a3 < 0 then x3 7 else if a3 ≤ 64 then x3 y2 else x3 7 else x3 y2 := rfl
theorem kM_resize {σ : hT} {v : Int → Int} (hN : mN σ v) (hw : wf v) {d p b : Int} (hd : i32 d) (hp : i32 p) (hb : i32 b) (n : Nat) :
    M_resize n σ (zI d) (zI p) (zI b) = Option.bind (M_mayHere σ (zI (whyP v d p (0 ≤ b ∧ b ≤ 64)))) (fun q9 => rM_resize n (zI d) (zI p) (zI b) (zI (whyC v d p)) q9.2 q9.1) := by
  have hwc := whyC_rng (v := v) (d := d) (p := p)
  rw [dM_resize, eM_whyNot hN hw hd hp]
  simp only [Option.bind_some]
  generalize rM_resize n (zI d) (zI p) (zI b) (zI (whyC v d p)) = F
  obtain ⟨hb1, hb2⟩ := hb
  unfold whyP
  by_cases hc : whyC v d p = 0
  · by_cases h1 : b < 0
    · simp (disch := omega) only [l0, l1, l2, l3, l4, l5, l6, l7, l8, l10, l12, l16, l20, l24, l26, l40, l64, l80, l100, l255, l256, l288, l312, l400, l992, l1940, l24980, l25240, xI, xL, xR, zI_neg, zI_add, zI_sub, zI_mul, zI_le, zI_lt, zI_eq, zI_in, zI_nat, Option.bind_some, lt9, hq, Int.add_zero, Int.sub_self, true_or, or_true, true_and, and_true, false_or, or_false, Int.cast_ofNat_Int, ↓reduceIte, hc, if_pos, if_neg]
    · by_cases h2 : b ≤ 64
      · simp (disch := omega) only [l0, l1, l2, l3, l4, l5, l6, l7, l8, l10, l12, l16, l20, l24, l26, l40, l64, l80, l100, l255, l256, l288, l312, l400, l992, l1940, l24980, l25240, xI, xL, xR, zI_neg, zI_add, zI_sub, zI_mul, zI_le, zI_lt, zI_eq, zI_in, zI_nat, Option.bind_some, lt9, hq, Int.add_zero, Int.sub_self, true_or, or_true, true_and, and_true, false_or, or_false, Int.cast_ofNat_Int, ↓reduceIte, hc, if_pos, if_neg]
      · simp (disch := omega) only [l0, l1, l2, l3, l4, l5, l6, l7, l8, l10, l12, l16, l20, l24, l26, l40, l64, l80, l100, l255, l256, l288, l312, l400, l992, l1940, l24980, l25240, xI, xL, xR, zI_neg, zI_add, zI_sub, zI_mul, zI_le, zI_lt, zI_eq, zI_in, zI_nat, Option.bind_some, lt9, hq, Int.add_zero, Int.sub_self, true_or, or_true, true_and, and_true, false_or, or_false, Int.cast_ofNat_Int, ↓reduceIte, hc, if_pos, if_neg]
  · simp (disch := omega) only [l0, l1, l2, l3, l4, l5, l6, l7, l8, l10, l12, l16, l20, l24, l26, l40, l64, l80, l100, l255, l256, l288, l312, l400, l992, l1940, l24980, l25240, xI, xL, xR, zI_neg, zI_add, zI_sub, zI_mul, zI_le, zI_lt, zI_eq, zI_in, zI_nat, Option.bind_some, lt9, hq, Int.add_zero, Int.sub_self, true_or, or_true, true_and, and_true, false_or, or_false, Int.cast_ofNat_Int, ↓reduceIte, hc, if_pos, if_neg]
theorem eM_resize_L {n : Nat} {a b : Int} (ha : 0 ≤ a) (ha2 : a + 80 ≤ 25240) (hb0 : 0 ≤ b) (hb : b ≤ 64) (x1 x2 x3 : Int32) (v : Int → Int) (lo : Int) (hlo : 0 ≤ lo) (hl : lo ≤ 64) (kx : hT → Int32 → Int32 → Int32 → Int32 → Int32 → Int32 → Option (Int32 × hT)) (K : Nat) : ∀ (σ : hT) (i : Int), lo ≤ i → (i ≤ b ∨ i = lo) → mN σ (zr v (a + 16 + lo) (a + 16 + i)) → b - i < K → 0 < K →
    ∃ σ' e, M_resize_L57 n kx K σ (zI i) (zI a) x1 x2 x3 (zI b) = kx σ' e (zI a) x1 x2 x3 (zI b) ∧ mN σ' (zr v (a + 16 + lo) (a + 16 + b)) ∧ fr (fun f => f = 15) σ σ' := by
  induction K with
  | zero => intro σ i hi h1 hN h2 h3; omega
  | succ K ih =>
    intro σ i hi h1 hN hK hK0
    by_cases hc : b ≤ i
    · refine ⟨σ, zI i, ?_, ?_, fr.rf⟩
      · unfold M_resize_L57
        simp (disch := omega) only [l0, l1, l2, l3, l4, l5, l6, l7, l8, l10, l12, l16, l20, l24, l26, l40, l64, l80, l100, l255, l256, l288, l312, l400, l992, l1940, l24980, l25240, xI, xL, xR, zI_neg, zI_add, zI_sub, zI_mul, zI_le, zI_lt, zI_eq, zI_in, zI_nat, Option.bind_some, lt9, hq, Int.add_zero, Int.sub_self, true_or, or_true, true_and, and_true, false_or, or_false, Int.cast_ofNat_Int, ↓reduceIte, if_pos, if_neg]
      · have e : zr v (a + 16 + lo) (a + 16 + b) = zr v (a + 16 + lo) (a + 16 + i) := by
          funext k; unfold zr
          repeat' split
          all_goals first | rfl | (exfalso; omega)
        rw [e]; exact hN
    · have st : M_resize_L57 n kx (K + 1) σ (zI i) (zI a) x1 x2 x3 (zI b) = M_resize_L57 n kx K (sI σ 15 0 (a + 16 + i).toNat (zI 0)) (zI (i + 1)) (zI a) x1 x2 x3 (zI b) := by
        conv => lhs; unfold M_resize_L57
        simp (disch := omega) only [l0, l1, l2, l3, l4, l5, l6, l7, l8, l10, l12, l16, l20, l24, l26, l40, l64, l80, l100, l255, l256, l288, l312, l400, l992, l1940, l24980, l25240, xI, xL, xR, zI_neg, zI_add, zI_sub, zI_mul, zI_le, zI_lt, zI_eq, zI_in, zI_nat, Option.bind_some, lt9, hq, Int.add_zero, Int.sub_self, true_or, or_true, true_and, and_true, false_or, or_false, Int.cast_ofNat_Int, ↓reduceIte, if_pos, if_neg]
      have e : zr v (a + 16 + lo) (a + 16 + (i + 1)) = uv (zr v (a + 16 + lo) (a + 16 + i)) (a + 16 + i) 0 := by
        funext k
        dsimp only [zr, uv]
        repeat' split
        all_goals first | rfl | (exfalso; omega)
      obtain ⟨σ', e1, q1, q2, q3⟩ := ih (sI σ 15 0 (a + 16 + i).toNat (zI 0)) (i + 1) (by omega) (by omega) (by rw [e]; exact mN_s hN (by omega) _ rfl) (by omega) (by omega)
      exact ⟨σ', e1, st.trans q1, q2, (fr.rf.s (P := fun f => f = 15) rfl).tr q3⟩
theorem zr_n {u : Int → Int} {lo hi k : Int} (h : ¬ (lo ≤ k ∧ k < hi)) : zr u lo hi k = u k := if_neg h
theorem zr_p {u : Int → Int} {lo hi k : Int} (h : lo ≤ k ∧ k < hi) : zr u lo hi k = 0 := if_pos h
theorem wf_rsz {v : Int → Int} {d p b : Int} (hw : wf v) (hk : rszOk v d p b) : wf (fRsz d b v) := by
  obtain ⟨k0, k1, k2⟩ := hk
  obtain ⟨c1, c2, c3, c4, c5, c6⟩ := cpOk_cw hw k0
  obtain ⟨b1, b2, b3, b4⟩ := c5
  refine wf_blk hw c1 c2 (fun k hk => by unfold fRsz; rw [uv_n (by omega), zr_n (by omega)]) (fun _ => ⟨by unfold fRsz; rw [uv_s]; omega, by unfold fRsz; rw [uv_n (by omega), zr_n (by omega)]; exact b2, fun k k0 k1 => ?_, fun j j0 j1 => ?_⟩)
  · unfold fRsz at k1 ⊢
    rw [uv_n (by omega), zr_n (by omega)] at k1
    rw [uv_n (by omega), zr_n (by omega), uv_n (by omega), zr_n (by omega), uv_n (by omega), zr_n (by omega)]
    exact b3 k k0 k1
  · unfold fRsz at j1 ⊢
    rw [uv_s] at j1
    rw [uv_n (by omega)]
    by_cases e : j < v (20 + 80 * d + 2)
    · rw [zr_n (by omega)]; exact b4 j j0 e
    · rw [zr_p (by omega)]; omega
theorem eM_resize {σ : hT} {s : zT} (hs : MSt σ s) (ho : okS s) {d p b : Int} (hd : i32 d) (hp : i32 p) (hb : i32 b) {n : Nat} (hn : 65 ≤ n) :
    RefH (rszOk s.1 d p b) (fRsz d b) s σ (M_resize n σ (zI d) (zI p) (zI b)) := by
  rw [kM_resize hs.1 ho.1 hd hp hb]
  refine Hm_ref hs ho whyP_rng.1 whyP_rng.2 whyP_ok (rM_resize n (zI d) (zI p) (zI b) (zI (whyC s.1 d p))) (fun σ1 => rfl) (fun hk σ1 hM => ?_)
  obtain ⟨k0, k1, k2⟩ := hk
  obtain ⟨c1, c2, c3, c4, c5, c6⟩ := cpOk_cw ho.1 k0
  have b1 := c5.1
  have e0 : zr s.1 (20 + 80 * d + 16 + s.1 (20 + 80 * d + 2)) (20 + 80 * d + 16 + s.1 (20 + 80 * d + 2)) = s.1 := by
    funext k; exact zr_n (by omega)
  obtain ⟨σ2, e, q1, q2, q3⟩ := eM_resize_L (n := n) (a := 20 + 80 * d) (b := b) (by omega) (by omega) k1 k2 (zI (whyC s.1 d p)) (zI d) (zI p) s.1 (s.1 (20 + 80 * d + 2)) b1.1 b1.2 (fun (σ16 : hT) (p17 : Int32) (p18 : Int32) (p19 : Int32) (p20 : Int32) (p21 : Int32) (p22 : Int32) => if in9 (p18 + 2) 25240 then lt9 (sI σ16 15 0 ((p18 + 2)).toNatClampNeg p22) fun σ31 => some (1, σ31) else none) n σ1 (s.1 (20 + 80 * d + 2)) (by omega) (Or.inr rfl) (by rw [e0]; exact hM.1) (by omega) (by omega)
  refine ⟨sI σ2 15 0 (20 + 80 * d + 2).toNat (zI b), ?_, mN_s q2 (by omega) _ rfl, q3.s rfl⟩
  unfold rM_resize
  simp (disch := omega) only [l0, l1, l2, l3, l4, l5, l6, l7, l8, l10, l12, l16, l20, l24, l26, l40, l64, l80, l100, l255, l256, l288, l312, l400, l992, l1940, l24980, l25240, xI, xL, xR, zI_neg, zI_add, zI_sub, zI_mul, zI_le, zI_lt, zI_eq, zI_in, zI_nat, Option.bind_some, lt9, hq, Int.add_zero, Int.sub_self, true_or, or_true, true_and, and_true, false_or, or_false, Int.cast_ofNat_Int, ↓reduceIte, eM_drawingAt, hM.1 _, if_pos, if_neg] at q1 ⊢
  exact q1
abbrev refOk (v : Int → Int) (d p k t r : Int) : Prop := cpOk v d p ∧ 0 ≤ k ∧ k ≤ v (20 + 80 * d + 3) ∧ k ≠ 6 ∧ 0 ≤ t ∧ t < v 16 ∧ -1 ≤ r
def fRef (d k t r : Int) (u : Int → Int) : Int → Int := uv (uv (uv u (20 + 80 * d + 4 + 2 * k) t) (20 + 80 * d + 4 + 2 * k + 1) r) (20 + 80 * d + 3) (if k = u (20 + 80 * d + 3) then u (20 + 80 * d + 3) + 1 else u (20 + 80 * d + 3))
def whyR (v : Int → Int) (d p k t r : Int) : Int := if whyC v d p = 0 then (if 0 ≤ k ∧ k ≤ v (20 + 80 * d + 3) ∧ 0 ≤ t ∧ t < v 16 ∧ -1 ≤ r then (if k = 6 then 8 else 0) else 7) else whyC v d p
theorem whyR_ok {v : Int → Int} {d p k t r : Int} : refOk v d p k t r ↔ whyR v d p k t r = 0 := by
  unfold whyR refOk
  rw [whyC_ok]
  constructor
  · rintro ⟨a, b1, b2, b3, b4, b5, b6⟩; rw [if_pos a, if_pos ⟨b1, b2, b4, b5, b6⟩, if_neg b3]
  · intro h
    split at h
    · rename_i a
      split at h
      · rename_i b
        split at h
        · omega
        · rename_i c; exact ⟨a, b.1, b.2.1, c, b.2.2.1, b.2.2.2.1, b.2.2.2.2⟩
      · omega
    · rename_i a; exact absurd h a
theorem whyR_rng {v : Int → Int} {d p k t r : Int} : 0 ≤ whyR v d p k t r ∧ whyR v d p k t r ≤ 8 := by
  have := whyC_rng (v := v) (d := d) (p := p)
  unfold whyR
  repeat' split
  all_goals omega
def rM_ref (a1 : Int32) (a2 : Int32) (a3 : Int32) (a4 : Int32) (a5 : Int32) (s4 : Int32) (σ25 : hT) (y24 : Int32) : Option (Int32 × hT) := if y24 = 0 then some (0, σ25) else if in9 (((M_drawingAt a1) + 4) + (2 * a3)) 25240 then lt9 (sI σ25 15 0 ((((M_drawingAt a1) + 4) + (2 * a3))).toNatClampNeg a4) fun σ29 => if in9 ((((M_drawingAt a1) + 4) + (2 * a3)) + 1) 25240 then lt9 (sI σ29 15 0 (((((M_drawingAt a1) + 4) + (2 * a3)) + 1)).toNatClampNeg a5) fun σ33 => lt9 (α := Int32 → Option (Int32 × hT)) (fun (s38 : Int32) => if in9 ((M_drawingAt a1) + 3) 25240 then lt9 (sI σ33 15 0 (((M_drawingAt a1) + 3)).toNatClampNeg s38) fun σ40 => some (1, σ40) else none) fun x37 => if a3 = s4 then x37 (s4 + 1) else x37 s4 else none else none
theorem dM_ref {σ : hT} {a1 : Int32} {a2 : Int32} {a3 : Int32} {a4 : Int32} {a5 : Int32} : M_ref σ a1 a2 a3 a4 a5 = Option.bind (M_whyNot σ a1 a2) fun y2 => lt9 (α := Int32 → Option (Int32 × hT)) (fun (s4 : Int32) => lt9 (α := Int32 → Option (Int32 × hT)) (fun (s11 : Int32) => lt9 (α := Int32 → Option (Int32 × hT)) (fun (s19 : Int32) => Option.bind (M_mayHere σ s19) (fun q9 => rM_ref a1 a2 a3 a4 a5 s4 q9.2 q9.1)) fun x18 => if y2 ≤ 0 then if s11 = 0 then if a3 = 6 then x18 8 else x18 0 else x18 7 else x18 y2) fun x10 => if a3 < 0 then x10 1 else if s4 < a3 then x10 1 else Option.bind (M_isDrawing σ a4) fun y15 => if y15 = 0 then x10 1 else if (-1) ≤ a5 then x10 0 else x10 1) fun x3 => if y2 = 0 then if in9 ((M_drawingAt a1) + 3) 25240 then x3 (xI σ 15 0 (((M_drawingAt a1) + 3)).toNatClampNeg) else none else x3 0 := rfl
theorem kM_ref {σ : hT} {v : Int → Int} (hN : mN σ v) (hw : wf v) {d p k t r : Int} (hd : i32 d) (hp : i32 p) (hk : i32 k) (ht : i32 t) (hr : i32 r) :
    M_ref σ (zI d) (zI p) (zI k) (zI t) (zI r) = Option.bind (M_mayHere σ (zI (whyR v d p k t r))) (fun q9 => rM_ref (zI d) (zI p) (zI k) (zI t) (zI r) (zI (if whyC v d p = 0 then v (20 + 80 * d + 3) else 0)) q9.2 q9.1) := by
  have h16 := hw.1
  have hwc := whyC_rng (v := v) (d := d) (p := p)
  rw [dM_ref, eM_whyNot hN hw hd hp]
  obtain ⟨hk1, hk2⟩ := hk
  obtain ⟨ht1, ht2⟩ := ht
  obtain ⟨hr1, hr2⟩ := hr
  simp only [Option.bind_some]
  unfold whyR
  by_cases hc : whyC v d p = 0
  · obtain ⟨c1, c2, c3, c4, c5, c6⟩ := cpOk_cw hw (whyC_ok.mpr hc)
    have hcw := c5.2.1
    generalize rM_ref (zI d) (zI p) (zI k) (zI t) (zI r) = F
    by_cases h1 : k < 0
    · simp (disch := omega) only [l0, l1, l2, l3, l4, l5, l6, l7, l8, l10, l12, l16, l20, l24, l26, l40, l64, l80, l100, l255, l256, l288, l312, l400, l992, l1940, l24980, l25240, xI, xL, xR, zI_neg, zI_add, zI_sub, zI_mul, zI_le, zI_lt, zI_eq, zI_in, zI_nat, Option.bind_some, lt9, hq, Int.add_zero, Int.sub_self, true_or, or_true, true_and, and_true, false_or, or_false, Int.cast_ofNat_Int, ↓reduceIte, hc, eM_drawingAt, hN _, if_pos, if_neg]
    · by_cases h2 : v (20 + 80 * d + 3) < k
      · simp (disch := omega) only [l0, l1, l2, l3, l4, l5, l6, l7, l8, l10, l12, l16, l20, l24, l26, l40, l64, l80, l100, l255, l256, l288, l312, l400, l992, l1940, l24980, l25240, xI, xL, xR, zI_neg, zI_add, zI_sub, zI_mul, zI_le, zI_lt, zI_eq, zI_in, zI_nat, Option.bind_some, lt9, hq, Int.add_zero, Int.sub_self, true_or, or_true, true_and, and_true, false_or, or_false, Int.cast_ofNat_Int, ↓reduceIte, hc, eM_drawingAt, hN _, if_pos, if_neg]
      · by_cases h3 : 0 ≤ t ∧ t < v 16
        · by_cases h4 : -1 ≤ r
          · by_cases h5 : k = 6
            · simp (disch := omega) only [l0, l1, l2, l3, l4, l5, l6, l7, l8, l10, l12, l16, l20, l24, l26, l40, l64, l80, l100, l255, l256, l288, l312, l400, l992, l1940, l24980, l25240, xI, xL, xR, zI_neg, zI_add, zI_sub, zI_mul, zI_le, zI_lt, zI_eq, zI_in, zI_nat, Option.bind_some, lt9, hq, Int.add_zero, Int.sub_self, true_or, or_true, true_and, and_true, false_or, or_false, Int.cast_ofNat_Int, ↓reduceIte, hc, eM_drawingAt, hN _, eM_isDrawing hN hw, if_pos, if_neg]
            · simp (disch := omega) only [l0, l1, l2, l3, l4, l5, l6, l7, l8, l10, l12, l16, l20, l24, l26, l40, l64, l80, l100, l255, l256, l288, l312, l400, l992, l1940, l24980, l25240, xI, xL, xR, zI_neg, zI_add, zI_sub, zI_mul, zI_le, zI_lt, zI_eq, zI_in, zI_nat, Option.bind_some, lt9, hq, Int.add_zero, Int.sub_self, true_or, or_true, true_and, and_true, false_or, or_false, Int.cast_ofNat_Int, ↓reduceIte, hc, eM_drawingAt, hN _, eM_isDrawing hN hw, if_pos, if_neg]
          · simp (disch := omega) only [l0, l1, l2, l3, l4, l5, l6, l7, l8, l10, l12, l16, l20, l24, l26, l40, l64, l80, l100, l255, l256, l288, l312, l400, l992, l1940, l24980, l25240, xI, xL, xR, zI_neg, zI_add, zI_sub, zI_mul, zI_le, zI_lt, zI_eq, zI_in, zI_nat, Option.bind_some, lt9, hq, Int.add_zero, Int.sub_self, true_or, or_true, true_and, and_true, false_or, or_false, Int.cast_ofNat_Int, ↓reduceIte, hc, eM_drawingAt, hN _, eM_isDrawing hN hw, if_pos, if_neg]
        · simp (disch := omega) only [l0, l1, l2, l3, l4, l5, l6, l7, l8, l10, l12, l16, l20, l24, l26, l40, l64, l80, l100, l255, l256, l288, l312, l400, l992, l1940, l24980, l25240, xI, xL, xR, zI_neg, zI_add, zI_sub, zI_mul, zI_le, zI_lt, zI_eq, zI_in, zI_nat, Option.bind_some, lt9, hq, Int.add_zero, Int.sub_self, true_or, or_true, true_and, and_true, false_or, or_false, Int.cast_ofNat_Int, ↓reduceIte, hc, eM_drawingAt, hN _, eM_isDrawing hN hw, if_pos, if_neg]
  · generalize rM_ref (zI d) (zI p) (zI k) (zI t) (zI r) = F
    have hc2 : ¬ whyC v d p ≤ 0 := by omega
    by_cases h1 : k < 0
    · simp (disch := omega) only [l0, l1, l2, l3, l4, l5, l6, l7, l8, l10, l12, l16, l20, l24, l26, l40, l64, l80, l100, l255, l256, l288, l312, l400, l992, l1940, l24980, l25240, xI, xL, xR, zI_neg, zI_add, zI_sub, zI_mul, zI_le, zI_lt, zI_eq, zI_in, zI_nat, Option.bind_some, lt9, hq, Int.add_zero, Int.sub_self, true_or, or_true, true_and, and_true, false_or, or_false, Int.cast_ofNat_Int, ↓reduceIte, hc, hc2, if_pos, if_neg]
    · by_cases h2 : 0 < k
      · simp (disch := omega) only [l0, l1, l2, l3, l4, l5, l6, l7, l8, l10, l12, l16, l20, l24, l26, l40, l64, l80, l100, l255, l256, l288, l312, l400, l992, l1940, l24980, l25240, xI, xL, xR, zI_neg, zI_add, zI_sub, zI_mul, zI_le, zI_lt, zI_eq, zI_in, zI_nat, Option.bind_some, lt9, hq, Int.add_zero, Int.sub_self, true_or, or_true, true_and, and_true, false_or, or_false, Int.cast_ofNat_Int, ↓reduceIte, hc, hc2, if_pos, if_neg]
      · by_cases h3 : 0 ≤ t ∧ t < v 16
        · by_cases h4 : -1 ≤ r
          · simp (disch := omega) only [l0, l1, l2, l3, l4, l5, l6, l7, l8, l10, l12, l16, l20, l24, l26, l40, l64, l80, l100, l255, l256, l288, l312, l400, l992, l1940, l24980, l25240, xI, xL, xR, zI_neg, zI_add, zI_sub, zI_mul, zI_le, zI_lt, zI_eq, zI_in, zI_nat, Option.bind_some, lt9, hq, Int.add_zero, Int.sub_self, true_or, or_true, true_and, and_true, false_or, or_false, Int.cast_ofNat_Int, ↓reduceIte, hc, hc2, eM_isDrawing hN hw, if_pos, if_neg]
          · simp (disch := omega) only [l0, l1, l2, l3, l4, l5, l6, l7, l8, l10, l12, l16, l20, l24, l26, l40, l64, l80, l100, l255, l256, l288, l312, l400, l992, l1940, l24980, l25240, xI, xL, xR, zI_neg, zI_add, zI_sub, zI_mul, zI_le, zI_lt, zI_eq, zI_in, zI_nat, Option.bind_some, lt9, hq, Int.add_zero, Int.sub_self, true_or, or_true, true_and, and_true, false_or, or_false, Int.cast_ofNat_Int, ↓reduceIte, hc, hc2, eM_isDrawing hN hw, if_pos, if_neg]
        · simp (disch := omega) only [l0, l1, l2, l3, l4, l5, l6, l7, l8, l10, l12, l16, l20, l24, l26, l40, l64, l80, l100, l255, l256, l288, l312, l400, l992, l1940, l24980, l25240, xI, xL, xR, zI_neg, zI_add, zI_sub, zI_mul, zI_le, zI_lt, zI_eq, zI_in, zI_nat, Option.bind_some, lt9, hq, Int.add_zero, Int.sub_self, true_or, or_true, true_and, and_true, false_or, or_false, Int.cast_ofNat_Int, ↓reduceIte, hc, hc2, eM_isDrawing hN hw, if_pos, if_neg]
theorem wf_ref {v : Int → Int} {d p k t r : Int} (hw : wf v) (hr : i32 r) (hk : refOk v d p k t r) : wf (fRef d k t r v) := by
  obtain ⟨k0, k1, k2, k3, k4, k5, k6⟩ := hk
  obtain ⟨c1, c2, c3, c4, c5, c6⟩ := cpOk_cw hw k0
  obtain ⟨b1, b2, b3, b4⟩ := c5
  have g3 : fRef d k t r v (20 + 80 * d + 3) = if k = v (20 + 80 * d + 3) then v (20 + 80 * d + 3) + 1 else v (20 + 80 * d + 3) := uv_s
  refine wf_blk hw c1 c2 (fun k hk => by unfold fRef; rw [uv_n (by omega), uv_n (by omega), uv_n (by omega)]) (fun _ => ⟨by unfold fRef; rw [uv_n (by omega), uv_n (by omega), uv_n (by omega)]; exact b1, by rw [g3]; split <;> omega, fun j k0 k1 => ?_, fun j j0 j1 => ?_⟩)
  · rw [g3] at k1
    have e16 : fRef d k t r v 16 = v 16 := by unfold fRef; rw [uv_n (by omega), uv_n (by omega), uv_n (by omega)]
    rw [e16]
    by_cases e : j = k
    · subst e
      unfold fRef
      rw [uv_n (by omega), uv_n (by omega), uv_s, uv_n (by omega), uv_s]
      exact ⟨k4, k5, k6, hr.2⟩
    · unfold fRef
      rw [uv_n (by omega), uv_n (by omega), uv_n (by omega), uv_n (by omega), uv_n (by omega), uv_n (by omega)]
      exact b3 j k0 (by split at k1 <;> omega)
  · unfold fRef at j1 ⊢
    rw [uv_n (by omega), uv_n (by omega), uv_n (by omega)] at j1 ⊢
    exact b4 j j0 j1
theorem eM_ref {σ : hT} {s : zT} (hs : MSt σ s) (ho : okS s) {d p k t r : Int} (hd : i32 d) (hp : i32 p) (hk : i32 k) (ht : i32 t) (hr : i32 r) :
    RefH (refOk s.1 d p k t r) (fRef d k t r) s σ (M_ref σ (zI d) (zI p) (zI k) (zI t) (zI r)) := by
  rw [kM_ref hs.1 ho.1 hd hp hk ht hr]
  refine Hm_ref hs ho whyR_rng.1 whyR_rng.2 whyR_ok (rM_ref (zI d) (zI p) (zI k) (zI t) (zI r) _) (fun σ1 => rfl) (fun hk σ1 hM => ?_)
  obtain ⟨k0, k1, k2, k3, k4, k5, k6⟩ := hk
  obtain ⟨c1, c2, c3, c4, c5, c6⟩ := cpOk_cw ho.1 k0
  have b1 := c5.2.1
  rw [if_pos (whyC_ok.mp k0)]
  refine ⟨sI (sI (sI σ1 15 0 (20 + 80 * d + 4 + 2 * k).toNat (zI t)) 15 0 (20 + 80 * d + 4 + 2 * k + 1).toNat (zI r)) 15 0 (20 + 80 * d + 3).toNat (zI (if k = s.1 (20 + 80 * d + 3) then s.1 (20 + 80 * d + 3) + 1 else s.1 (20 + 80 * d + 3))), ?_, mN_s (mN_s (mN_s hM.1 (by omega) _ rfl) (by omega) _ rfl) (by omega) _ rfl, ((fr.rf.s (P := fun f => f = 15) rfl).s rfl).s rfl⟩
  unfold rM_ref
  by_cases e : k = s.1 (20 + 80 * d + 3)
  · simp (disch := omega) only [l0, l1, l2, l3, l4, l5, l6, l7, l8, l10, l12, l16, l20, l24, l26, l40, l64, l80, l100, l255, l256, l288, l312, l400, l992, l1940, l24980, l25240, xI, xL, xR, zI_neg, zI_add, zI_sub, zI_mul, zI_le, zI_lt, zI_eq, zI_in, zI_nat, Option.bind_some, lt9, hq, Int.add_zero, Int.sub_self, true_or, or_true, true_and, and_true, false_or, or_false, Int.cast_ofNat_Int, ↓reduceIte, eM_drawingAt, if_pos, if_neg]
  · simp (disch := omega) only [l0, l1, l2, l3, l4, l5, l6, l7, l8, l10, l12, l16, l20, l24, l26, l40, l64, l80, l100, l255, l256, l288, l312, l400, l992, l1940, l24980, l25240, xI, xL, xR, zI_neg, zI_add, zI_sub, zI_mul, zI_le, zI_lt, zI_eq, zI_in, zI_nat, Option.bind_some, lt9, hq, Int.add_zero, Int.sub_self, true_or, or_true, true_and, and_true, false_or, or_false, Int.cast_ofNat_Int, ↓reduceIte, eM_drawingAt, if_pos, if_neg]
abbrev drpOk (v : Int → Int) (d p k : Int) : Prop := cpOk v d p ∧ 0 ≤ k ∧ k < v (20 + 80 * d + 3)
def sh2 (u : Int → Int) (lo hi : Int) : Int → Int := fun x => if lo ≤ x ∧ x < hi then u (x + 2) else u x
def fDrp (d k : Int) (u : Int → Int) : Int → Int := sh2 (uv u (20 + 80 * d + 3) (u (20 + 80 * d + 3) - 1)) (20 + 80 * d + 4 + 2 * k) (20 + 80 * d + 4 + 2 * (u (20 + 80 * d + 3) - 1))
def rM_drop (n : Nat) (a1 : Int32) (a2 : Int32) (a3 : Int32) (s4 : Int32) (y2 : Int32) (σ21 : hT) (y20 : Int32) : Option (Int32 × hT) := if y20 = 0 then some (0, σ21) else if in9 ((M_drawingAt a1) + 3) 25240 then if in9 ((M_drawingAt a1) + 3) 25240 then lt9 (sI σ21 15 0 (((M_drawingAt a1) + 3)).toNatClampNeg ((xI σ21 15 0 (((M_drawingAt a1) + 3)).toNatClampNeg) - 1)) fun σ27 => lt9 (α := hT → Int32 → Int32 → Int32 → Int32 → Int32 → Int32 → Int32 → Option (Int32 × hT)) (fun (σ30 : hT) (p31 : Int32) (p32 : Int32) (p33 : Int32) (p34 : Int32) (p35 : Int32) (p36 : Int32) (p37 : Int32) => some (1, σ30)) fun kx38 => M_drop_L100 n kx38 n (σ27) (2 * a3) (M_drawingAt a1) s4 y2 a1 a2 a3 else none else none
theorem dM_drop {n : Nat} {σ : hT} {a1 : Int32} {a2 : Int32} {a3 : Int32} : M_drop n σ a1 a2 a3 = Option.bind (M_whyNot σ a1 a2) fun y2 => lt9 (α := Int32 → Option (Int32 × hT)) (fun (s4 : Int32) => lt9 (α := Int32 → Option (Int32 × hT)) (fun (s16 : Int32) => Option.bind (M_mayHere σ s16) (fun q9 => rM_drop n a1 a2 a3 s4 y2 q9.2 q9.1)) fun x15 => if y2 = 0 then if s4 = 0 then x15 7 else x15 y2 else x15 y2) fun x3 => if y2 = 0 then if a3 < 0 then x3 0 else lt9 (α := Int32 → Option (Int32 × hT)) (fun (s9 : Int32) => if in9 ((M_drawingAt s9) + 3) 25240 then if (xI σ 15 0 (((M_drawingAt s9) + 3)).toNatClampNeg) ≤ a3 then x3 0 else x3 1 else none) fun x8 => if y2 = 0 then x8 a1 else x8 0 else x3 0 := rfl
theorem kM_drop {σ : hT} {v : Int → Int} (hN : mN σ v) (hw : wf v) {d p k : Int} (hd : i32 d) (hp : i32 p) (hk : i32 k) (n : Nat) :
    ∃ x, M_drop n σ (zI d) (zI p) (zI k) = Option.bind (M_mayHere σ (zI (whyP v d p (0 ≤ k ∧ k < v (20 + 80 * d + 3))))) (fun q9 => rM_drop n (zI d) (zI p) (zI k) x (zI (whyC v d p)) q9.2 q9.1) := by
  have h16 := hw.1
  have hwc := whyC_rng (v := v) (d := d) (p := p)
  rw [dM_drop, eM_whyNot hN hw hd hp]
  simp only [Option.bind_some]
  generalize rM_drop n (zI d) (zI p) (zI k) = F
  obtain ⟨hk1, hk2⟩ := hk
  unfold whyP
  by_cases hc : whyC v d p = 0
  · obtain ⟨c1, c2, c3, c4, c5, c6⟩ := cpOk_cw hw (whyC_ok.mpr hc)
    have hcw := c5.2.1
    by_cases h1 : k < 0
    · refine ⟨zI 0, ?_⟩
      simp (disch := omega) only [l0, l1, l2, l3, l4, l5, l6, l7, l8, l10, l12, l16, l20, l24, l26, l40, l64, l80, l100, l255, l256, l288, l312, l400, l992, l1940, l24980, l25240, xI, xL, xR, zI_neg, zI_add, zI_sub, zI_mul, zI_le, zI_lt, zI_eq, zI_in, zI_nat, Option.bind_some, lt9, hq, Int.add_zero, Int.sub_self, true_or, or_true, true_and, and_true, false_or, or_false, Int.cast_ofNat_Int, ↓reduceIte, hc, eM_drawingAt, hN _, if_pos, if_neg]
    · by_cases h2 : v (20 + 80 * d + 3) ≤ k
      · refine ⟨zI 0, ?_⟩
        simp (disch := omega) only [l0, l1, l2, l3, l4, l5, l6, l7, l8, l10, l12, l16, l20, l24, l26, l40, l64, l80, l100, l255, l256, l288, l312, l400, l992, l1940, l24980, l25240, xI, xL, xR, zI_neg, zI_add, zI_sub, zI_mul, zI_le, zI_lt, zI_eq, zI_in, zI_nat, Option.bind_some, lt9, hq, Int.add_zero, Int.sub_self, true_or, or_true, true_and, and_true, false_or, or_false, Int.cast_ofNat_Int, ↓reduceIte, hc, eM_drawingAt, hN _, if_pos, if_neg]
      · refine ⟨zI 1, ?_⟩
        simp (disch := omega) only [l0, l1, l2, l3, l4, l5, l6, l7, l8, l10, l12, l16, l20, l24, l26, l40, l64, l80, l100, l255, l256, l288, l312, l400, l992, l1940, l24980, l25240, xI, xL, xR, zI_neg, zI_add, zI_sub, zI_mul, zI_le, zI_lt, zI_eq, zI_in, zI_nat, Option.bind_some, lt9, hq, Int.add_zero, Int.sub_self, true_or, or_true, true_and, and_true, false_or, or_false, Int.cast_ofNat_Int, ↓reduceIte, hc, eM_drawingAt, hN _, if_pos, if_neg]
  · refine ⟨zI 0, ?_⟩
    simp (disch := omega) only [l0, l1, l2, l3, l4, l5, l6, l7, l8, l10, l12, l16, l20, l24, l26, l40, l64, l80, l100, l255, l256, l288, l312, l400, l992, l1940, l24980, l25240, xI, xL, xR, zI_neg, zI_add, zI_sub, zI_mul, zI_le, zI_lt, zI_eq, zI_in, zI_nat, Option.bind_some, lt9, hq, Int.add_zero, Int.sub_self, true_or, or_true, true_and, and_true, false_or, or_false, Int.cast_ofNat_Int, ↓reduceIte, hc, if_pos, if_neg]
theorem sh2_n {u : Int → Int} {lo hi x : Int} (h : ¬ (lo ≤ x ∧ x < hi)) : sh2 u lo hi x = u x := if_neg h
theorem sh2_p {u : Int → Int} {lo hi x : Int} (h : lo ≤ x ∧ x < hi) : sh2 u lo hi x = u (x + 2) := if_pos h
theorem eM_drop_L {n : Nat} {a k m : Int} (ha : 0 ≤ a) (ha2 : a + 80 ≤ 25240) (hk0 : 0 ≤ k) (hm : m ≤ 6) (x1 x2 x3 x4 x5 : Int32) (v : Int → Int) (h3 : v (a + 3) = m) (kx : hT → Int32 → Int32 → Int32 → Int32 → Int32 → Int32 → Int32 → Option (Int32 × hT)) (K : Nat) : ∀ (σ : hT) (i : Int), k ≤ i → i ≤ 2 * m → mN σ (sh2 v (a + 4 + k) (a + 4 + i)) → 2 * m - i < K → 2 * m ≤ 10 →
    ∃ σ' e, M_drop_L100 n kx K σ (zI i) (zI a) x1 x2 x3 x4 x5 = kx σ' e (zI a) x1 x2 x3 x4 x5 ∧ mN σ' (sh2 v (a + 4 + k) (a + 4 + 2 * m)) ∧ fr (fun f => f = 15) σ σ' := by
  induction K with
  | zero => intro σ i hi h1 hN h2 h3; omega
  | succ K ih =>
    intro σ i hi h1 hN hK h10
    have e3 : sh2 v (a + 4 + k) (a + 4 + i) (a + 3) = m := by rw [sh2_n (by omega)]; exact h3
    by_cases hc : 2 * m ≤ i
    · refine ⟨σ, zI i, ?_, ?_, fr.rf⟩
      · unfold M_drop_L100
        simp (disch := omega) only [l0, l1, l2, l3, l4, l5, l6, l7, l8, l10, l12, l16, l20, l24, l26, l40, l64, l80, l100, l255, l256, l288, l312, l400, l992, l1940, l24980, l25240, xI, xL, xR, zI_neg, zI_add, zI_sub, zI_mul, zI_le, zI_lt, zI_eq, zI_in, zI_nat, Option.bind_some, lt9, hq, Int.add_zero, Int.sub_self, true_or, or_true, true_and, and_true, false_or, or_false, Int.cast_ofNat_Int, ↓reduceIte, hN _, e3, if_pos, if_neg]
      · obtain rfl : i = 2 * m := by omega
        exact hN
    · have e2 : sh2 v (a + 4 + k) (a + 4 + i) (a + 4 + i + 2) = v (a + 4 + i + 2) := sh2_n (by omega)
      have st : M_drop_L100 n kx (K + 1) σ (zI i) (zI a) x1 x2 x3 x4 x5 = M_drop_L100 n kx K (sI σ 15 0 (a + 4 + i).toNat (zI (v (a + 4 + i + 2)))) (zI (i + 1)) (zI a) x1 x2 x3 x4 x5 := by
        conv => lhs; unfold M_drop_L100
        simp (disch := omega) only [l0, l1, l2, l3, l4, l5, l6, l7, l8, l10, l12, l16, l20, l24, l26, l40, l64, l80, l100, l255, l256, l288, l312, l400, l992, l1940, l24980, l25240, xI, xL, xR, zI_neg, zI_add, zI_sub, zI_mul, zI_le, zI_lt, zI_eq, zI_in, zI_nat, Option.bind_some, lt9, hq, Int.add_zero, Int.sub_self, true_or, or_true, true_and, and_true, false_or, or_false, Int.cast_ofNat_Int, ↓reduceIte, hN _, e3, e2, if_pos, if_neg]
      have e : sh2 v (a + 4 + k) (a + 4 + (i + 1)) = uv (sh2 v (a + 4 + k) (a + 4 + i)) (a + 4 + i) (v (a + 4 + i + 2)) := by
        funext x
        dsimp only [sh2, uv]
        repeat' split
        all_goals first | rfl | (exfalso; omega) | (congr 1; omega)
      obtain ⟨σ', e1, q1, q2, q3⟩ := ih (sI σ 15 0 (a + 4 + i).toNat (zI (v (a + 4 + i + 2)))) (i + 1) (by omega) (by omega) (by rw [e]; exact mN_s hN (by omega) _ rfl) (by omega) h10
      exact ⟨σ', e1, st.trans q1, q2, (fr.rf.s (P := fun f => f = 15) rfl).tr q3⟩
theorem wf_drp {v : Int → Int} {d p k : Int} (hw : wf v) (hk : drpOk v d p k) : wf (fDrp d k v) := by
  obtain ⟨k0, k1, k2⟩ := hk
  obtain ⟨c1, c2, c3, c4, c5, c6⟩ := cpOk_cw hw k0
  obtain ⟨b1, b2, b3, b4⟩ := c5
  refine wf_blk hw c1 c2 (fun x hx => by unfold fDrp; rw [sh2_n (by omega), uv_n (by omega)]) (fun _ => ⟨by unfold fDrp; rw [sh2_n (by omega), uv_n (by omega)]; exact b1, by unfold fDrp; rw [sh2_n (by omega), uv_s]; omega, fun j j0 j1 => ?_, fun j j0 j1 => ?_⟩)
  · unfold fDrp at j1 ⊢
    rw [sh2_n (by omega), uv_s] at j1
    rw [sh2_n (x := 16) (by omega), uv_n (i := 16) (by omega)]
    by_cases e : k ≤ j
    · rw [sh2_p (by omega), sh2_p (by omega), uv_n (by omega), uv_n (by omega)]
      have := b3 (j + 1) (by omega) (by omega)
      rw [show 20 + 80 * d + 4 + 2 * (j + 1) = 20 + 80 * d + 4 + 2 * j + 2 by omega, show 20 + 80 * d + 4 + 2 * j + 2 + 1 = 20 + 80 * d + 4 + 2 * j + 1 + 2 by omega] at this
      exact this
    · rw [sh2_n (by omega), sh2_n (by omega), uv_n (by omega), uv_n (by omega)]
      exact b3 j j0 (by omega)
  · unfold fDrp at j1 ⊢
    rw [sh2_n (by omega), uv_n (by omega)] at j1 ⊢
    exact b4 j j0 j1
theorem eM_drop {σ : hT} {s : zT} (hs : MSt σ s) (ho : okS s) {d p k : Int} (hd : i32 d) (hp : i32 p) (hk : i32 k) {n : Nat} (hn : 65 ≤ n) :
    RefH (drpOk s.1 d p k) (fDrp d k) s σ (M_drop n σ (zI d) (zI p) (zI k)) := by
  obtain ⟨x, hx⟩ := kM_drop hs.1 ho.1 hd hp hk n
  rw [hx]
  refine Hm_ref hs ho whyP_rng.1 whyP_rng.2 whyP_ok (rM_drop n (zI d) (zI p) (zI k) x (zI (whyC s.1 d p))) (fun σ1 => rfl) (fun hk σ1 hM => ?_)
  obtain ⟨k0, k1, k2⟩ := hk
  obtain ⟨c1, c2, c3, c4, c5, c6⟩ := cpOk_cw ho.1 k0
  have b1 := c5.2.1
  have hN1 : mN (sI σ1 15 0 (20 + 80 * d + 3).toNat (zI (s.1 (20 + 80 * d + 3) - 1))) (uv s.1 (20 + 80 * d + 3) (s.1 (20 + 80 * d + 3) - 1)) := mN_s hM.1 (by omega) _ rfl
  have e0 : sh2 (uv s.1 (20 + 80 * d + 3) (s.1 (20 + 80 * d + 3) - 1)) (20 + 80 * d + 4 + 2 * k) (20 + 80 * d + 4 + 2 * k) = uv s.1 (20 + 80 * d + 3) (s.1 (20 + 80 * d + 3) - 1) := by
    funext y; exact sh2_n (by omega)
  obtain ⟨σ2, e, q1, q2, q3⟩ := eM_drop_L (n := n) (a := 20 + 80 * d) (k := 2 * k) (m := s.1 (20 + 80 * d + 3) - 1) (by omega) (by omega) (by omega) (by omega) x (zI (whyC s.1 d p)) (zI d) (zI p) (zI k) (uv s.1 (20 + 80 * d + 3) (s.1 (20 + 80 * d + 3) - 1)) uv_s (fun (σ30 : hT) (p31 : Int32) (p32 : Int32) (p33 : Int32) (p34 : Int32) (p35 : Int32) (p36 : Int32) (p37 : Int32) => some (1, σ30)) n _ (2 * k) (by omega) (by omega) (by rw [e0]; exact hN1) (by omega) (by omega)
  refine ⟨σ2, ?_, q2, (fr.rf.s (P := fun f => f = 15) rfl).tr q3⟩
  unfold rM_drop
  simp (disch := omega) only [l0, l1, l2, l3, l4, l5, l6, l7, l8, l10, l12, l16, l20, l24, l26, l40, l64, l80, l100, l255, l256, l288, l312, l400, l992, l1940, l24980, l25240, xI, xL, xR, zI_neg, zI_add, zI_sub, zI_mul, zI_le, zI_lt, zI_eq, zI_in, zI_nat, Option.bind_some, lt9, hq, Int.add_zero, Int.sub_self, true_or, or_true, true_and, and_true, false_or, or_false, Int.cast_ofNat_Int, ↓reduceIte, eM_drawingAt, hM.1 _, if_pos, if_neg] at q1 ⊢
  exact q1
