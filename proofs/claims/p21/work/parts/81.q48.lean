def xDf (v : Int → Int) (A O : Int) : Int → Int := fun j => if pk v A j = pk v O j then 0 else 1
theorem xDf_01 {v : Int → Int} {A O j : Int} : xDf v A O j = 0 ∨ xDf v A O j = 1 := by unfold xDf; split <;> omega
def qDf (v : Int → Int) (d r q i : Int) : Option Int := if isRv v d r ∧ isRv v d q then some (nE (xDf v (rvA d r) (rvA d q)) 0 i 8) else none
theorem nE_rng {x : Int → Int} {a i : Int} (N : Nat) : -1 ≤ nE x a i N ∧ nE x a i N < N := by
  induction N with
  | zero => exact ⟨Int.le_refl _, by show (-1 : Int) < 0; decide⟩
  | succ N ih => unfold nE; split <;> omega
theorem eM_df_L {σ : hT} {v : Int → Int} (hN : mN σ v) {A O i : Int} (a0 : 0 ≤ A) (a1 : A + 80 ≤ 25240) (o0 : 0 ≤ O) (o1 : O + 80 ≤ 25240) (hA : cb v A) (hO : cb v O) (hi : i32 i) {n : Nat} (hn : 9 ≤ n) (x1 x2 x3 x4 : Int32) (kx : hT → Int32 → Int32 → Int32 → Int32 → Int32 → Int32 → Int32 → Int32 → Int32 → Int32 → Option (Int32 × hT)) (K : Nat) : ∀ (p : Nat), p ≤ 8 → 8 - p < K →
    M_difference_L71 n kx K σ (zI p) (zI (nE (xDf v A O) 0 i p)) (zI (cntE (xDf v A O) 0 p)) (zI O) (zI A) x1 x2 x3 x4 (zI i) = kx σ (zI 8) (zI (nE (xDf v A O) 0 i 8)) (zI (cntE (xDf v A O) 0 8)) (zI O) (zI A) x1 x2 x3 x4 (zI i) := by
  obtain ⟨i1, i2⟩ := hi
  induction K with
  | zero => intro p _ h; omega
  | succ K ih =>
    intro p hp hK
    conv => lhs; unfold M_difference_L71
    by_cases hx : 8 ≤ p
    · obtain rfl : p = 8 := by omega
      simp (disch := omega) only [l0, l1, l2, l3, l4, l5, l6, l7, l8, l10, l12, l16, l20, l24, l26, l40, l64, l80, l100, l255, l256, l288, l312, l400, l992, l1940, l24980, l25240, xI, xL, xR, zI_neg, zI_add, zI_sub, zI_mul, zI_le, zI_lt, zI_eq, zI_in, zI_nat, Option.bind_some, lt9, hq, Int.add_zero, Int.sub_self, true_or, or_true, true_and, and_true, false_or, or_false, Int.cast_ofNat_Int, ↓reduceIte, if_pos, if_neg]
    · have := ih (p + 1) (by omega) (by omega)
      rw [← this]
      have hc := cntE_nn (v := xDf v A O) (a := 0) p
      have es := eM_isSame hN (j := p) (i := p) a0 a1 o0 o1 (by omega) (by omega) (by omega) (by omega) hA hO hn
      simp only [cntE_s, nE, Int.natCast_add, Int.cast_ofNat_Int, Int.zero_add]
      have e0 : xDf v A O p = if pk v A p = pk v O p then 0 else 1 := rfl
      by_cases h : pk v A p = pk v O p
      · rw [if_pos h] at es e0
        rw [e0, if_neg (show ¬ ((0 : Int) < 0 ∧ cntE (xDf v A O) 0 p = i) by omega), if_pos (show (0 : Int) ≤ 0 by omega)]
        simp (disch := omega) only [l0, l1, l2, l3, l4, l5, l6, l7, l8, l10, l12, l16, l20, l24, l26, l40, l64, l80, l100, l255, l256, l288, l312, l400, l992, l1940, l24980, l25240, xI, xL, xR, zI_neg, zI_add, zI_sub, zI_mul, zI_le, zI_lt, zI_eq, zI_in, zI_nat, Option.bind_some, lt9, hq, Int.add_zero, Int.sub_self, true_or, or_true, true_and, and_true, false_or, or_false, Int.cast_ofNat_Int, ↓reduceIte, es, if_pos, if_neg]
      · rw [if_neg h] at es e0
        rw [e0, if_neg (show ¬ (1 : Int) ≤ 0 by omega)]
        by_cases h2 : cntE (xDf v A O) 0 p = i
        · rw [if_pos (show (0 : Int) < 1 ∧ cntE (xDf v A O) 0 p = i from ⟨by omega, h2⟩)]
          simp (disch := omega) only [l0, l1, l2, l3, l4, l5, l6, l7, l8, l10, l12, l16, l20, l24, l26, l40, l64, l80, l100, l255, l256, l288, l312, l400, l992, l1940, l24980, l25240, xI, xL, xR, zI_neg, zI_add, zI_sub, zI_mul, zI_le, zI_lt, zI_eq, zI_in, zI_nat, Option.bind_some, lt9, hq, Int.add_zero, Int.sub_self, true_or, or_true, true_and, and_true, false_or, or_false, Int.cast_ofNat_Int, ↓reduceIte, es, if_pos, if_neg]
        · rw [if_neg (show ¬ ((0 : Int) < 1 ∧ cntE (xDf v A O) 0 p = i) from fun z => h2 z.2)]
          simp (disch := omega) only [l0, l1, l2, l3, l4, l5, l6, l7, l8, l10, l12, l16, l20, l24, l26, l40, l64, l80, l100, l255, l256, l288, l312, l400, l992, l1940, l24980, l25240, xI, xL, xR, zI_neg, zI_add, zI_sub, zI_mul, zI_le, zI_lt, zI_eq, zI_in, zI_nat, Option.bind_some, lt9, hq, Int.add_zero, Int.sub_self, true_or, or_true, true_and, and_true, false_or, or_false, Int.cast_ofNat_Int, ↓reduceIte, es, if_pos, if_neg]
theorem eM_difference {σ : hT} {s : zT} (hs : MSt σ s) (ho : okS s) {d r q i : Int} (hd : i32 d) (hr : i32 r) (hq' : i32 q) (hi : i32 i) {n : Nat} (hn : 9 ≤ n) : RefQ (qDf s.1 d r q i) s σ (M_difference n σ (zI d) (zI r) (zI q) (zI i)) := by
  have hN := hs.1
  have c15 : mN (sI σ 500 0 0 (zI 0)) s.1 := (MSt.r5 hs).1
  have er := eM_isRevision hN ho.1 hd.1 hd.2 hr.1 hr.2
  have eq := eM_isRevision hN ho.1 hd.1 hd.2 hq'.1 hq'.2
  unfold M_difference qDf
  rw [er, eq]
  by_cases h : isRv s.1 d r
  · by_cases h2 : isRv s.1 d q
    · rw [if_pos h, if_pos h2, if_pos ⟨h, h2⟩]
      obtain ⟨a0, a1⟩ := rvA_k ho.1 h
      obtain ⟨o0, o1⟩ := rvA_k ho.1 h2
      refine RefQ.y hs ?_
      have hl := eM_df_L c15 a0 a1 o0 o1 (isRv_k ho.1 h).2.2.2.2.1.cb (isRv_k ho.1 h2).2.2.2.2.1.cb hi hn (zI 1) (zI d) (zI r) (zI q) (fun (σ17 : hT) (p18 : Int32) (p19 : Int32) (p20 : Int32) (p21 : Int32) (p22 : Int32) (p23 : Int32) (p24 : Int32) (p25 : Int32) (p26 : Int32) (p27 : Int32) => some (p19, σ17)) n 0 (by omega) (by omega)
      have eA : M_revisionAt (zI d) (zI r) = zI (rvA d r) := eM_revisionAt
      have eO : M_revisionAt (zI d) (zI q) = zI (rvA d q) := eM_revisionAt
      rw [eA, eO]
      exact hl
    · rw [if_pos h, if_neg h2, if_neg (fun z => h2 z.2)]
      refine RefQ.n hs ?_
      exact rfl
  · rw [if_neg h, if_neg (fun z => h z.1)]
    refine RefQ.n hs ?_
    exact rfl
theorem eV_df_L {σ : hT} {v : Int → Int} {A O i : Int} {ja jo : Nat} (cA : ct σ (3 * ja + 2) v A) (cO : ct σ (3 * jo + 2) v O) (hA : cw v A) (hO : cw v O) (hi : i32 i) (n : Nat) (x1 x2 x3 : Int32) (kx : hT → Int32 → Int32 → Nat → Nat → Int32 → Int32 → Int32 → Int32 → oT) (hk : ∀ a b c d e f g h i, kx a b c d e f g h i = some (some (zI (-1)), a)) (K : Nat) : ∀ (p : Nat), (∀ q, q < p → ¬ hitE (xDf v A O) 0 i q) → p ≤ 8 → 8 - p < K →
    V_difference_L40 n kx K σ (zI p) (zI (cntE (xDf v A O) 0 p)) jo ja x1 x2 x3 (zI i) = some (some (zI (nE (xDf v A O) 0 i 8)), σ) := by
  obtain ⟨i1, i2⟩ := hi
  induction K with
  | zero => intro p _ _ h; omega
  | succ K ih =>
    intro p hq hp hK
    conv => lhs; unfold V_difference_L40
    by_cases hx : 8 ≤ p
    · rw [nE_no 8 (fun e he => hq e (by omega))]
      simp (disch := omega) only [l0, l1, l2, l3, l4, l5, l6, l7, l8, l10, l12, l16, l20, l24, l26, l40, l64, l80, l100, l255, l256, l288, l312, l400, l992, l1940, l24980, l25240, xI, xL, xR, zI_neg, zI_add, zI_sub, zI_mul, zI_le, zI_lt, zI_eq, zI_in, zI_nat, Option.bind_some, lt9, hq, Int.add_zero, Int.sub_self, true_or, or_true, true_and, and_true, false_or, or_false, Int.cast_ofNat_Int, ↓reduceIte, if_pos, if_neg]
      exact hk _ _ _ _ _ _ _ _ _
    · obtain ⟨y, s1, s2, s3⟩ := eC_samePiece cA cO hA hO (j := p) (by omega) (by omega)
      have hc := cntE_nn (v := xDf v A O) (a := 0) p
      have e0 : xDf v A O p = if pk v A p = pk v O p then 0 else 1 := rfl
      by_cases h : pk v A p = pk v O p
      · rw [if_pos h] at e0
        obtain rfl : y = 1 := s3.mpr h
        have := ih (p + 1) (fun q z => by
          by_cases e : q = p
          · subst e; exact fun y => by have := y.1; rw [Int.zero_add, e0] at this; omega
          · exact hq q (by omega)) (by omega) (by omega)
        rw [cntE_s, Int.zero_add, e0, if_pos (show (0 : Int) ≤ 0 by omega), Int.add_zero, Int.natCast_add, Int.cast_ofNat_Int] at this
        rw [← this]
        simp (disch := omega) only [l0, l1, l2, l3, l4, l5, l6, l7, l8, l10, l12, l16, l20, l24, l26, l40, l64, l80, l100, l255, l256, l288, l312, l400, l992, l1940, l24980, l25240, xI, xL, xR, zI_neg, zI_add, zI_sub, zI_mul, zI_le, zI_lt, zI_eq, zI_in, zI_nat, Option.bind_some, lt9, hq, Int.add_zero, Int.sub_self, true_or, or_true, true_and, and_true, false_or, or_false, Int.cast_ofNat_Int, ↓reduceIte, s1, if_pos, if_neg]
      · rw [if_neg h] at e0
        obtain rfl : y = 0 := by
          rcases s2 with z | z
          · exact z
          · exact absurd (s3.mp z) h
        by_cases h2 : cntE (xDf v A O) 0 p = i
        · rw [nE_hit (e := p) ⟨by rw [Int.zero_add, e0]; omega, h2⟩ 8 (by omega)]
          simp (disch := omega) only [l0, l1, l2, l3, l4, l5, l6, l7, l8, l10, l12, l16, l20, l24, l26, l40, l64, l80, l100, l255, l256, l288, l312, l400, l992, l1940, l24980, l25240, xI, xL, xR, zI_neg, zI_add, zI_sub, zI_mul, zI_le, zI_lt, zI_eq, zI_in, zI_nat, Option.bind_some, lt9, hq, Int.add_zero, Int.sub_self, true_or, or_true, true_and, and_true, false_or, or_false, Int.cast_ofNat_Int, ↓reduceIte, s1, if_pos, if_neg]
        · have := ih (p + 1) (fun q z => by
            by_cases e : q = p
            · subst e; exact fun y => h2 y.2
            · exact hq q (by omega)) (by omega) (by omega)
          rw [cntE_s, Int.zero_add, e0, if_neg (show ¬ (1 : Int) ≤ 0 by omega), Int.natCast_add, Int.cast_ofNat_Int] at this
          rw [← this]
          simp (disch := omega) only [l0, l1, l2, l3, l4, l5, l6, l7, l8, l10, l12, l16, l20, l24, l26, l40, l64, l80, l100, l255, l256, l288, l312, l400, l992, l1940, l24980, l25240, xI, xL, xR, zI_neg, zI_add, zI_sub, zI_mul, zI_le, zI_lt, zI_eq, zI_in, zI_nat, Option.bind_some, lt9, hq, Int.add_zero, Int.sub_self, true_or, or_true, true_and, and_true, false_or, or_false, Int.cast_ofNat_Int, ↓reduceIte, s1, if_pos, if_neg]
theorem eV_difference {σ : hT} {s : zT} {g : Nat} (hS : CaS σ s g) (ho : okS s) {d r q i : Int} (hd : i32 d) (hr : i32 r) (hq' : i32 q) (hi : i32 i) {n : Nat} (hn : 9 ≤ n) : ClsQ (qDf s.1 d r q i) s g σ (V_difference n σ (zI d) (zI r) (zI q) (zI i)) := by
  unfold V_difference qDf
  rw [eV_revisionAt hS.1 ho.1 hd hr, eV_revisionAt hS.1 ho.1 hd hq']
  by_cases h : isRv s.1 d r
  · by_cases h2 : isRv s.1 d q
    · rw [if_pos h, if_pos h2, if_pos ⟨h, h2⟩]
      refine ClsQ.y hS ?_
      exact eV_df_L (hS.1.rv h).2.2.2 (hS.1.rv h2).2.2.2 (isRv_k ho.1 h).2.2.2.2.1 (isRv_k ho.1 h2).2.2.2.2.1 hi n (zI d) (zI r) (zI q) (fun (σ19 : hT) (p20 : Int32) (p21 : Int32) (j22 : Nat) (j24 : Nat) (p26 : Int32) (p27 : Int32) (p28 : Int32) (p29 : Int32) => some (some (-1), σ19)) (fun _ _ _ _ _ _ _ _ _ => rfl) n 0 (fun q z => by omega) (by omega) (by omega)
    · rw [if_pos h, if_neg h2, if_neg (fun z => h2 z.2)]
      refine ClsQ.n hS ?_
      exact rfl
  · rw [if_neg h, if_neg (fun z => h z.1)]
    refine ClsQ.n hS ?_
    by_cases h2 : isRv s.1 d q
    · rw [if_pos h2]; rfl
    · rw [if_neg h2]; rfl
def xU (μ : Int → Bool) : Int → Int := fun k => zB (μ k)
theorem xU_01 (μ : Int → Bool) (k : Int) : (xU μ k = 1 ∧ μ k = true) ∨ (xU μ k = 0 ∧ ¬ μ k = true) := by
  unfold xU
  cases h : μ k
  · exact Or.inr ⟨rfl, by decide⟩
  · exact Or.inl ⟨rfl, rfl⟩
def muU (v : Int → Int) (d f : Int) : Int → Bool := if f = 0 then fun k => us v k d else rnds v (mu0 v d) 24
def qUs (v : Int → Int) (d f i : Int) : Int := if (0 ≤ d ∧ d < v 16) ∧ 0 ≤ i then nE (xU (muU v d f)) 0 i (v 16).toNat else -1
