theorem bit_and {y : Int32} {p : Int} (p0 : 0 ≤ p) (p1 : p < 24) : (y &&& V_bit (zI p) = 0) ↔ ¬ bb y p = true := by
  have hb : bt (V_bit (zI p)) (fun k => k = p) := fun k hk => bit_bv p0 p1 k hk
  rw [bt_and (bt_bb y) hb]
  constructor
  · intro h z; exact h p p0 (by omega) ⟨z, rfl⟩
  · rintro h k k0 k1 ⟨z1, z2⟩; exact h (z2 ▸ z1)
theorem eV_us_L {σ : hT} {v : Int → Int} {g : Nat} (hC : CA σ v g) (hw : wf v) {i : Int} (hi : i32 i) {y : Int32} {μ : Int → Bool} (hy : ∀ k : Int, 0 ≤ k → k < v 16 → (bb y k = true ↔ μ k = true)) (n : Nat) (x1 x2 : Int32) (kx : Int32 → Int32 → Int32 → Int32 → Int32 → Int32 → Option Int32) (hk : ∀ a b c d e f, kx a b c d e f = some (zI (-1))) (K : Nat) : ∀ (p : Nat), (∀ q, q < p → ¬ hitE (xU μ) 0 i q) → (p : Int) ≤ v 16 → v 16 - p < K →
    V_user_L24 n σ kx K (zI p) (zI (cntE (xU μ) 0 p)) y x1 x2 (zI i) = some (zI (nE (xU μ) 0 i (v 16).toNat)) := by
  obtain ⟨i1, i2⟩ := hi
  have h16 := hw.1
  induction K with
  | zero => intro p _ _ h; omega
  | succ K ih =>
    intro p hq hp hK
    conv => lhs; unfold V_user_L24
    by_cases hx : v 16 ≤ p
    · rw [nE_no (v 16).toNat (fun e he => hq e (by omega))]
      simp (disch := omega) only [l0, l1, l2, l3, l4, l5, l6, l7, l8, l10, l12, l16, l20, l24, l26, l40, l64, l80, l100, l255, l256, l288, l312, l400, l992, l1940, l24980, l25240, xI, xL, xR, zI_neg, zI_add, zI_sub, zI_mul, zI_le, zI_lt, zI_eq, zI_in, zI_nat, Option.bind_some, lt9, hq, Int.add_zero, Int.sub_self, true_or, or_true, true_and, and_true, false_or, or_false, Int.cast_ofNat_Int, ↓reduceIte, hC.2.1, if_pos, if_neg]
      exact hk _ _ _ _ _ _
    · have hc := cntE_nn (v := xU μ) (a := 0) p
      have ba := bit_and (y := y) (p := p) (by omega) (by omega)
      have hyp := hy p (by omega) (by omega)
      rcases xU_01 μ p with ⟨e0, e1⟩ | ⟨e0, e1⟩
      · have hb : ¬ (y &&& V_bit (zI p) = 0) := fun z => (ba.mp z) (hyp.mpr e1)
        by_cases h2 : cntE (xU μ) 0 p = i
        · rw [nE_hit (e := p) ⟨by rw [Int.zero_add, e0]; omega, h2⟩ (v 16).toNat (by omega)]
          simp (disch := omega) only [l0, l1, l2, l3, l4, l5, l6, l7, l8, l10, l12, l16, l20, l24, l26, l40, l64, l80, l100, l255, l256, l288, l312, l400, l992, l1940, l24980, l25240, xI, xL, xR, zI_neg, zI_add, zI_sub, zI_mul, zI_le, zI_lt, zI_eq, zI_in, zI_nat, Option.bind_some, lt9, hq, Int.add_zero, Int.sub_self, true_or, or_true, true_and, and_true, false_or, or_false, Int.cast_ofNat_Int, ↓reduceIte, hC.2.1, if_pos, if_neg]
          rw [if_neg (by rw [← l0]; exact hb)]
        · have := ih (p + 1) (fun q z => by
            by_cases e : q = p
            · subst e; exact fun y => h2 y.2
            · exact hq q (by omega)) (by omega) (by omega)
          rw [cntE_s, Int.zero_add, e0, if_neg (show ¬ (1 : Int) ≤ 0 by omega), Int.natCast_add, Int.cast_ofNat_Int] at this
          rw [← this]
          simp (disch := omega) only [l0, l1, l2, l3, l4, l5, l6, l7, l8, l10, l12, l16, l20, l24, l26, l40, l64, l80, l100, l255, l256, l288, l312, l400, l992, l1940, l24980, l25240, xI, xL, xR, zI_neg, zI_add, zI_sub, zI_mul, zI_le, zI_lt, zI_eq, zI_in, zI_nat, Option.bind_some, lt9, hq, Int.add_zero, Int.sub_self, true_or, or_true, true_and, and_true, false_or, or_false, Int.cast_ofNat_Int, ↓reduceIte, hC.2.1, if_pos, if_neg]
          rw [if_neg (by rw [← l0]; exact hb)]
      · have hb : (y &&& V_bit (zI p) = 0) := ba.mpr (fun z => e1 (hyp.mp z))
        have := ih (p + 1) (fun q z => by
          by_cases e : q = p
          · subst e; exact fun y => by have := y.1; rw [Int.zero_add, e0] at this; omega
          · exact hq q (by omega)) (by omega) (by omega)
        rw [cntE_s, Int.zero_add, e0, if_pos (show (0 : Int) ≤ 0 by omega), Int.add_zero, Int.natCast_add, Int.cast_ofNat_Int] at this
        rw [← this]
        simp (disch := omega) only [l0, l1, l2, l3, l4, l5, l6, l7, l8, l10, l12, l16, l20, l24, l26, l40, l64, l80, l100, l255, l256, l288, l312, l400, l992, l1940, l24980, l25240, xI, xL, xR, zI_neg, zI_add, zI_sub, zI_mul, zI_le, zI_lt, zI_eq, zI_in, zI_nat, Option.bind_some, lt9, hq, Int.add_zero, Int.sub_self, true_or, or_true, true_and, and_true, false_or, or_false, Int.cast_ofNat_Int, ↓reduceIte, hC.2.1, if_pos, if_neg]
        rw [if_pos (by rw [← l0]; exact hb)]
theorem eV_user {σ : hT} {v : Int → Int} {g : Nat} (hC : CA σ v g) (hw : wf v) {d f i : Int} (hd : i32 d) (hf : f = 0 ∨ f = 1) (hi : i32 i) {n : Nat} (hn : 25 ≤ n) : V_user n σ (zI d) (zI f) (zI i) = some (zI (qUs v d f i)) := by
  have h16 := hw.1
  unfold V_user qUs
  rw [eV_drawingAt hC hw hd]
  by_cases h : 0 ≤ d ∧ d < v 16
  · have key : ∃ y, V_usersOf n σ (zI d) (zI f) = some y ∧ ∀ k : Int, 0 ≤ k → k < v 16 → (bb y k = true ↔ muU v d f k = true) := by
      rcases hf with rfl | rfl
      · obtain ⟨y, q1, q2⟩ := eV_usersOf0 hC hw h.1 h.2 hn
        refine ⟨y, q1, fun k k0 k1 => (q2.b k0 (by omega)).trans ?_⟩
        show (k < v 16 ∧ us v k d = true) ↔ us v k d = true
        exact ⟨fun z => z.2, fun z => ⟨k1, z⟩⟩
      · obtain ⟨y, q1, q2⟩ := eV_usersOf hC hw h.1 h.2 hn (zI 1) (by decide)
        refine ⟨y, q1, fun k k0 k1 => (q2.b k0 (by omega)).trans ?_⟩
        show tcU v d k ↔ rnds v (mu0 v d) 24 k = true
        rw [rnds_tc hw]
        exact ⟨fun z => ⟨k0, k1, z⟩, fun z => z.2.2⟩
    obtain ⟨y, q1, q2⟩ := key
    have hl := eV_us_L hC hw hi q2 n (zI d) (zI f) (fun (p9 : Int32) (p10 : Int32) (p11 : Int32) (p12 : Int32) (p13 : Int32) (p14 : Int32) => some (-1)) (fun _ _ _ _ _ _ => rfl) n 0 (fun q z => by omega) (by omega) (by omega)
    rw [if_pos h, Option.bind_some]
    show Option.bind (V_usersOf n σ (zI d) (zI f)) _ = _
    rw [q1, Option.bind_some]
    refine Eq.trans hl ?_
    by_cases g0 : 0 ≤ i
    · rw [if_pos ⟨h, g0⟩]
    · rw [if_neg (fun z => g0 z.2), nE_no _ (fun e he z => by have := (cntE_nn (v := xU (muU v d f)) (a := 0) e).1; have := z.2; omega)]
  · rw [if_neg h, if_neg (fun z => h z.1)]
    rfl
theorem eM_us_L52 {σ : hT} {v : Int → Int} (hN : mN σ v) (hw : wf v) {d f k : Int} (hd : i32 d) (hf : f = 0 ∨ f = 1) (hm : f = 1 → mk σ (muU v d f)) (k0 : 0 ≤ k) (k1 : k < v 16) {n : Nat} (hn : 7 ≤ n) (x1 x2 x3 : Int32) (kx : hT → Int32 → Int32 → Int32 → Int32 → Int32 → Int32 → Int32 → Int32 → Option (Int32 × hT)) (K : Nat) : ∀ (p : Nat), (p : Int) ≤ k → k - p < K →
    M_user_L52 n kx K σ (zI p) (zI (cntE (xU (muU v d f)) 0 p)) (zI k) x1 x2 (zI d) (zI f) x3 = kx σ (zI k) (zI (cntE (xU (muU v d f)) 0 k.toNat)) (zI k) x1 x2 (zI d) (zI f) x3 := by
  have h16 := hw.1
  induction K with
  | zero => intro p _ h; omega
  | succ K ih =>
    intro p hp hK
    conv => lhs; unfold M_user_L52
    by_cases hx : k ≤ p
    · have e : k = p := by omega
      subst e
      rw [Int.toNat_natCast]
      simp (disch := omega) only [l0, l1, l2, l3, l4, l5, l6, l7, l8, l10, l12, l16, l20, l24, l26, l40, l64, l80, l100, l255, l256, l288, l312, l400, l992, l1940, l24980, l25240, xI, xL, xR, zI_neg, zI_add, zI_sub, zI_mul, zI_le, zI_lt, zI_eq, zI_in, zI_nat, Option.bind_some, lt9, hq, Int.add_zero, Int.sub_self, true_or, or_true, true_and, and_true, false_or, or_false, Int.cast_ofNat_Int, ↓reduceIte, if_pos, if_neg]
    · have := ih (p + 1) (by omega) (by omega)
      rw [← this, cntE_s, Int.zero_add, Int.natCast_add, Int.cast_ofNat_Int]
      rcases hf with rfl | rfl
      · have eu := eM_uses hN hw (d := p) (o := d) (by omega) (by omega) hd hn
        have e0 : xU (muU v d 0) p = zB (us v p d) := rfl
        rw [e0]
        rcases zB_01 (us v p d) with z | z
        · rw [z] at eu ⊢
          rw [if_pos (show (0 : Int) ≤ 0 by omega)]
          simp (disch := omega) only [l0, l1, l2, l3, l4, l5, l6, l7, l8, l10, l12, l16, l20, l24, l26, l40, l64, l80, l100, l255, l256, l288, l312, l400, l992, l1940, l24980, l25240, xI, xL, xR, zI_neg, zI_add, zI_sub, zI_mul, zI_le, zI_lt, zI_eq, zI_in, zI_nat, Option.bind_some, lt9, hq, Int.add_zero, Int.sub_self, true_or, or_true, true_and, and_true, false_or, or_false, Int.cast_ofNat_Int, ↓reduceIte, eu, if_pos, if_neg]
        · rw [z] at eu ⊢
          rw [if_neg (show ¬ (1 : Int) ≤ 0 by omega)]
          simp (disch := omega) only [l0, l1, l2, l3, l4, l5, l6, l7, l8, l10, l12, l16, l20, l24, l26, l40, l64, l80, l100, l255, l256, l288, l312, l400, l992, l1940, l24980, l25240, xI, xL, xR, zI_neg, zI_add, zI_sub, zI_mul, zI_le, zI_lt, zI_eq, zI_in, zI_nat, Option.bind_some, lt9, hq, Int.add_zero, Int.sub_self, true_or, or_true, true_and, and_true, false_or, or_false, Int.cast_ofNat_Int, ↓reduceIte, eu, if_pos, if_neg]
      · have em := hm rfl p (by omega) (by omega)
        rw [Int.toNat_natCast] at em
        have e0 : xU (muU v d 1) p = zB (muU v d 1 p) := rfl
        rw [e0]
        rcases zB_01 (muU v d 1 p) with z | z
        · rw [z] at em ⊢
          rw [if_pos (show (0 : Int) ≤ 0 by omega)]
          simp (disch := omega) only [l0, l1, l2, l3, l4, l5, l6, l7, l8, l10, l12, l16, l20, l24, l26, l40, l64, l80, l100, l255, l256, l288, l312, l400, l992, l1940, l24980, l25240, xI, xL, xR, zI_neg, zI_add, zI_sub, zI_mul, zI_le, zI_lt, zI_eq, zI_in, zI_nat, Option.bind_some, lt9, hq, Int.add_zero, Int.sub_self, true_or, or_true, true_and, and_true, false_or, or_false, Int.cast_ofNat_Int, ↓reduceIte, Int.toNat_natCast, em, if_pos, if_neg]
        · rw [z] at em ⊢
          rw [if_neg (show ¬ (1 : Int) ≤ 0 by omega)]
          simp (disch := omega) only [l0, l1, l2, l3, l4, l5, l6, l7, l8, l10, l12, l16, l20, l24, l26, l40, l64, l80, l100, l255, l256, l288, l312, l400, l992, l1940, l24980, l25240, xI, xL, xR, zI_neg, zI_add, zI_sub, zI_mul, zI_le, zI_lt, zI_eq, zI_in, zI_nat, Option.bind_some, lt9, hq, Int.add_zero, Int.sub_self, true_or, or_true, true_and, and_true, false_or, or_false, Int.cast_ofNat_Int, ↓reduceIte, Int.toNat_natCast, em, if_pos, if_neg]
theorem eM_us_L41 {σ : hT} {v : Int → Int} (hN : mN σ v) (hw : wf v) {d f i : Int} (hd : i32 d) (hi : i32 i) (hf : f = 0 ∨ f = 1) (hm : f = 1 → mk σ (muU v d f)) {n : Nat} (hn : 25 ≤ n) (x3 : Int32) (kx : hT → Int32 → Int32 → Int32 → Int32 → Int32 → Int32 → Option (Int32 × hT)) (K : Nat) : ∀ (p : Nat) (y : Int), (p : Int) ≤ v 16 → ((y = -1 ∧ ∀ e, p ≤ e → e < (v 16).toNat → ¬ hitE (xU (muU v d f)) 0 i e) ∨ ∃ e : Nat, y = e ∧ e < (v 16).toNat ∧ hitE (xU (muU v d f)) 0 i e) → p < K →
    M_user_L41 n kx K σ (zI ((p : Int) - 1)) (zI y) (zI i) (zI d) (zI f) x3 = kx σ (zI (-1)) (zI (nE (xU (muU v d f)) 0 i (v 16).toNat)) (zI i) (zI d) (zI f) x3 := by
  obtain ⟨i1, i2⟩ := hi
  have h16 := hw.1
  induction K with
  | zero => intro p y _ _ h; omega
  | succ K ih =>
    intro p y hp hy hK
    by_cases hx : p = 0
    · subst hx
      have e : nE (xU (muU v d f)) 0 i (v 16).toNat = y := by
        rcases hy with ⟨rfl, h⟩ | ⟨e, rfl, h1, h2⟩
        · exact nE_no _ (fun e he => h e (by omega) he)
        · exact nE_hit h2 _ h1
      rw [e]
      conv => lhs; unfold M_user_L41
      simp (disch := omega) only [l0, l1, l2, l3, l4, l5, l6, l7, l8, l10, l12, l16, l20, l24, l26, l40, l64, l80, l100, l255, l256, l288, l312, l400, l992, l1940, l24980, l25240, xI, xL, xR, zI_neg, zI_add, zI_sub, zI_mul, zI_le, zI_lt, zI_eq, zI_in, zI_nat, Option.bind_some, lt9, hq, Int.add_zero, Int.sub_self, true_or, or_true, true_and, and_true, false_or, or_false, Int.cast_ofNat_Int, ↓reduceIte, if_pos, if_neg]
      rfl
    · obtain ⟨q, rfl⟩ : ∃ q, p = q + 1 := ⟨p - 1, by omega⟩
      rw [show ((q + 1 : Nat) : Int) - 1 = q by omega]
      have hc := cntE_nn (v := xU (muU v d f)) (a := 0) q
      have hyr : -1 ≤ y ∧ y < 24 := by
        rcases hy with ⟨rfl, h⟩ | ⟨e, rfl, h1, h2⟩ <;> omega
      have i1' := fun y' hy' => ih q y' (by omega) hy' (by omega)
      have hl := eM_us_L52 hN hw (k := q) hd hf hm (by omega) (by omega) (show 7 ≤ n by omega) (zI y) (zI i) x3 (fun (σ22 : hT) (p23 : Int32) (p24 : Int32) (p25 : Int32) (p26 : Int32) (p27 : Int32) (p28 : Int32) (p29 : Int32) (p30 : Int32) => if p29 = 0 then Option.bind (M_uses n σ22 p25 p28) fun y44 => if y44 = 0 then M_user_L41 n kx K (σ22) (p25 + (-1)) p26 p27 p28 p29 p30 else if p24 = p27 then M_user_L41 n kx K (σ22) (p25 + (-1)) p25 p27 p28 p29 p30 else M_user_L41 n kx K (σ22) (p25 + (-1)) p26 p27 p28 p29 p30 else if in9 p25 24 then if (xI σ22 17 0 (p25).toNatClampNeg) = 0 then M_user_L41 n kx K (σ22) (p25 + (-1)) p26 p27 p28 p29 p30 else if p24 = p27 then M_user_L41 n kx K (σ22) (p25 + (-1)) p25 p27 p28 p29 p30 else M_user_L41 n kx K (σ22) (p25 + (-1)) p26 p27 p28 p29 p30 else none) n 0 (by omega) (by omega)
      conv => lhs; unfold M_user_L41
      rw [if_neg (show ¬ (zI (q : Int) < 0) by rw [l0, zI_lt (by omega) (by omega) (by omega) (by omega)]; omega)]
      refine hl.trans ?_
      rw [Int.toNat_natCast]
      have cont : ∀ y' : Int, ((y' = -1 ∧ ∀ e, q ≤ e → e < (v 16).toNat → ¬ hitE (xU (muU v d f)) 0 i e) ∨ ∃ e : Nat, y' = e ∧ e < (v 16).toNat ∧ hitE (xU (muU v d f)) 0 i e) → M_user_L41 n kx K σ (zI q + zI (-1)) (zI y') (zI i) (zI d) (zI f) x3 = kx σ (zI (-1)) (zI (nE (xU (muU v d f)) 0 i (v 16).toNat)) (zI i) (zI d) (zI f) x3 := fun y' hy' => by
        rw [zI_add, show (q : Int) + -1 = (q : Int) - 1 by omega]; exact i1' y' hy'
      have stay : ¬ hitE (xU (muU v d f)) 0 i q → ((y = -1 ∧ ∀ e, q ≤ e → e < (v 16).toNat → ¬ hitE (xU (muU v d f)) 0 i e) ∨ ∃ e : Nat, y = e ∧ e < (v 16).toNat ∧ hitE (xU (muU v d f)) 0 i e) := fun hn => by
        rcases hy with ⟨h1, h2⟩ | h
        · refine Or.inl ⟨h1, fun e a b => ?_⟩
          by_cases ee : e = q
          · subst ee; exact hn
          · exact h2 e (by omega) b
        · exact Or.inr h
      have key : ∀ z : Int, (z = 0 ∨ z = 1) → xU (muU v d f) q = z → (if zI z = 0 then M_user_L41 n kx K σ (zI q + zI (-1)) (zI y) (zI i) (zI d) (zI f) x3 else if zI (cntE (xU (muU v d f)) 0 q) = zI i then M_user_L41 n kx K σ (zI q + zI (-1)) (zI q) (zI i) (zI d) (zI f) x3 else M_user_L41 n kx K σ (zI q + zI (-1)) (zI y) (zI i) (zI d) (zI f) x3) = kx σ (zI (-1)) (zI (nE (xU (muU v d f)) 0 i (v 16).toNat)) (zI i) (zI d) (zI f) x3 := by
        intro z hz hxq
        rcases hz with rfl | rfl
        · rw [if_pos (show zI 0 = 0 from rfl)]
          exact cont y (stay (fun w => by have := w.1; rw [Int.zero_add, hxq] at this; omega))
        · rw [if_neg (show ¬ (zI 1 = 0) by decide)]
          have hzz := zI_eq (a := cntE (xU (muU v d f)) 0 q) (b := i) (by omega) (by omega) (by omega) (by omega)
          by_cases h2 : cntE (xU (muU v d f)) 0 q = i
          · rw [if_pos (hzz.symm ▸ h2)]
            exact cont q (Or.inr ⟨q, rfl, by omega, by rw [Int.zero_add, hxq]; omega, h2⟩)
          · rw [if_neg (hzz.symm ▸ h2)]
            exact cont y (stay (fun w => h2 w.2))
      rcases hf with rfl | rfl
      · have eu := eM_uses hN hw (d := q) (o := d) (by omega) (by omega) hd (show 7 ≤ n by omega)
        show Option.bind (M_uses n σ (zI q) (zI d)) _ = _
        rw [eu, Option.bind_some]
        exact key (zB (us v q d)) (zB_01 _) rfl
      · have em := hm rfl q (by omega) (by omega)
        rw [Int.toNat_natCast] at em
        show (if in9 (zI q) 24 then (if σ.1 17 0 (zI (q : Int)).toNatClampNeg = 0 then _ else _) else none) = _
        rw [if_pos (by rw [zI_in (by omega) (by omega)]; omega), zI_nat (by omega) (by omega), Int.toNat_natCast, em]
        exact key (zB (muU v d 1 q)) (zB_01 _) rfl
theorem eM_user {σ : hT} {s : zT} (hs : MSt σ s) (ho : okS s) {d f i : Int} (hd : i32 d) (hf : f = 0 ∨ f = 1) (hi : i32 i) {n : Nat} (hn : 25 ≤ n) : RefQ (some (qUs s.1 d f i)) s σ (M_user n σ (zI d) (zI f) (zI i)) := by
  have h16 := ho.1.1
  have hs1 : MSt (sI σ 500 0 0 (zI 0)) s := MSt.r5 hs
  have ed := eM_isDrawing hs1.1 ho.1 hd.1 hd.2
  unfold M_user qUs
  by_cases h : 0 ≤ d ∧ d < s.1 16
  · rw [if_pos h] at ed
    by_cases g0 : 0 ≤ i
    · rw [if_pos ⟨h, g0⟩]
      obtain ⟨σ1, q1, q2, q3, q4⟩ := eM_markUsers hs1.1 ho.1 hd hn
      have hm : f = 1 → mk σ1 (muU s.1 d f) := fun z => by
        subst z; exact q3
      have hl := eM_us_L41 q2 ho.1 hd hi hf hm hn (zI i) (fun (σ12 : hT) (p13 : Int32) (p14 : Int32) (p15 : Int32) (p16 : Int32) (p17 : Int32) (p18 : Int32) => some (p14, σ12)) n (s.1 16).toNat (-1) (by omega) (Or.inl ⟨rfl, fun e a b => by omega⟩) (by omega)
      refine ⟨σ1, ?_, ⟨q2, ?_, ?_, ?_⟩, (fM.rf.i (by omega)).tr (frW q4 (fun f z => by omega)), ?_⟩
      · show Option.bind (M_isDrawing (sI σ 500 0 0 (zI 0)) (zI d)) _ = _
        rw [ed, Option.bind_some]
        rw [if_neg (show ¬ (zI 1 = 0) by decide), if_pos (show 0 ≤ zI i by rw [l0, zI_le (by omega) (by omega) hi.1 hi.2]; exact g0)]
        show Option.bind (M_markUsers n (sI σ 500 0 0 (zI 0)) (zI d)) _ = _
        rw [q1, Option.bind_some]
        have e16 := q2.lit 16 (by omega)
        show M_user_L41 n _ n σ1 (σ1.1 15 0 16 - zI 1) (zI (-1)) (zI i) (zI d) (zI f) (zI i) = _
        rw [e16, zI_sub]
        rw [show (((s.1 16).toNat : Nat) : Int) = s.1 16 by omega] at hl
        exact hl
      · intro k k0 k1
        rw [q4.2 16 0 (by decide)]; exact hs1.2.1 k k0 k1
      · rw [q4.2 504 0 (by decide)]; exact hs1.2.2.1
      · rw [q4.2 505 0 (by decide)]; exact hs1.2.2.2
      · rw [q4.2 500 0 (by decide), rS]; rfl
    · rw [if_neg (fun z => g0 z.2)]
      refine ⟨sI σ 500 0 0 (zI 0), ?_, hs1, fM.rf.i (by omega), by rw [rS]; rfl⟩
      show Option.bind (M_isDrawing (sI σ 500 0 0 (zI 0)) (zI d)) _ = _
      rw [ed, Option.bind_some]
      rw [if_neg (show ¬ (zI 1 = 0) by decide), if_neg (show ¬ (0 ≤ zI i) by rw [l0, zI_le (by omega) (by omega) hi.1 hi.2]; exact g0)]
      rfl
  · rw [if_neg h] at ed
    rw [if_neg (fun z => h z.1)]
    refine ⟨sI σ 500 0 0 (zI 0), ?_, hs1, fM.rf.i (by omega), by rw [rS]; rfl⟩
    show Option.bind (M_isDrawing (sI σ 500 0 0 (zI 0)) (zI d)) _ = _
    rw [ed, Option.bind_some]
    rfl
