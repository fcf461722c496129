def pcOf (v : Int → Int) (k : Int) : List KT := if 0 ≤ cAt v k then pcs v (cAt v k) ((v (cAt v k + 2) + 7) / 8).toNat else []
def chF (v : Int → Int) (f : Int) : Nat → List KT
  | 0 => []
  | n + 1 => pcOf v (f + n) ++ chF v f n
theorem cAt_ok {v : Int → Int} (hw : wf v) {k : Int} (h0 : 0 ≤ k) (h1 : k < 312) (h : 0 ≤ cAt v k) : cAt v k + 80 ≤ 25240 ∧ cb v (cAt v k) ∧ cAt v k ≠ -1 := by
  have h16 := hw.1
  have e : cAt v k = 20 + 80 * k ∧ k < 24 ∧ k < v 16 ∧ 1 ≤ v (20 + 80 * k + 1) ∨ cAt v k = 1940 + 80 * (k - 24) ∧ 24 ≤ k ∧ (k - 24) / 12 < v 16 ∧ (k - 24) % 12 < v (20 + 80 * ((k - 24) / 12)) := by
    unfold cAt at h ⊢
    split
    · split
      · exact Or.inl ⟨rfl, by omega, by omega, by omega⟩
      · rename_i h3 h4; rw [if_pos h3, if_neg h4] at h; omega
    · split
      · exact Or.inr ⟨rfl, by omega, by omega, by omega⟩
      · rename_i h3 h4; rw [if_neg h3, if_neg h4] at h; omega
  rcases e with ⟨e, h2, h3, h4⟩ | ⟨e, h2, h3, h4⟩
  · rw [e]
    exact ⟨by omega, ((hw.2.2.2.1 k h0 h3).2.2.1 (by omega)).cb, by omega⟩
  · rw [e]
    have := ((hw.2.2.2.1 ((k - 24) / 12) (by omega) h3).2.2.2 ((k - 24) % 12) (by omega) h4).2.2.1.cb
    rw [show 1940 + 80 * (12 * ((k - 24) / 12) + (k - 24) % 12) = 1940 + 80 * (k - 24) by omega] at this
    exact ⟨by omega, this, by omega⟩
theorem cAt_ge {v : Int → Int} {k : Int} (h0 : 0 ≤ k) : -1 ≤ cAt v k := by
  unfold cAt; repeat' split
  all_goals omega
theorem if01 {p q : Prop} [Decidable p] [Decidable q] (h : p ↔ q) : (if p then (1 : Int) else 0) = if q then 1 else 0 := by
  by_cases hp : p
  · rw [if_pos hp, if_pos (h.mp hp)]
  · rw [if_neg hp, if_neg (fun z => hp (h.mpr z))]
theorem eM_chunks_L69 {σ : hT} {v : Int → Int} (hN : mN σ v) (hw : wf v) {a j f k : Int} (ha : 0 ≤ a) (ha2 : a + 80 ≤ 25240) (hca : cb v a) (hj : 0 ≤ j) (hj8 : j ≤ 8) (hf : 0 ≤ f) (hk : k ≤ 312) (c : Int32) {n : Nat} (hn : 9 ≤ n) (B : List KT)
    (kx : Int32 → Int32 → Int32 → Int32 → Int32 → Int32 → Int32 → Option Int32) (K : Nat) (m : Nat) (hm : f + m ≤ k) (hK : k - (f + m) < K) :
    ∃ e : Int, M_chunks_L69 n σ kx K (zI (f + m)) (zI (if pk v a j ∈ B ++ chF v f m then 1 else 0)) (zI j) (zI a) (zI k) c (zI f) = kx (zI e) (zI (if pk v a j ∈ B ++ chF v f (k - f).toNat then 1 else 0)) (zI j) (zI a) (zI k) c (zI f) := by
  induction K generalizing m with
  | zero => omega
  | succ K ih =>
    by_cases hc : k ≤ f + m
    · refine ⟨f + m, ?_⟩
      have e : (k - f).toNat = m := by omega
      rw [e]
      unfold M_chunks_L69
      simp (disch := omega) only [l0, l1, l2, l3, l4, l5, l6, l7, l8, l10, l12, l16, l20, l24, l26, l40, l64, l80, l100, l255, l256, l288, l312, l400, l992, l1940, l24980, l25240, xI, xL, xR, zI_neg, zI_add, zI_sub, zI_mul, zI_le, zI_lt, zI_eq, zI_in, zI_nat, Option.bind_some, lt9, hq, Int.add_zero, Int.sub_self, true_or, or_true, true_and, and_true, false_or, or_false, Int.cast_ofNat_Int, ↓reduceIte, if_pos, if_neg]
    · by_cases hs : pk v a j ∈ B ++ chF v f m
      · refine ⟨f + m, ?_⟩
        have hs2 : ∀ t : Nat, pk v a j ∈ B ++ chF v f (m + t) := by
          intro t
          induction t with
          | zero => exact hs
          | succ t iht =>
            rw [show m + (t + 1) = (m + t) + 1 by omega]
            simp only [chF, List.mem_append] at iht ⊢
            rcases iht with h | h
            · exact Or.inl h
            · exact Or.inr (Or.inr h)
        have hs3 := hs2 ((k - f).toNat - m)
        rw [show m + ((k - f).toNat - m) = (k - f).toNat by omega] at hs3
        rw [if_pos hs, if_pos hs3]
        unfold M_chunks_L69
        simp (disch := omega) only [l0, l1, l2, l3, l4, l5, l6, l7, l8, l10, l12, l16, l20, l24, l26, l40, l64, l80, l100, l255, l256, l288, l312, l400, l992, l1940, l24980, l25240, xI, xL, xR, zI_neg, zI_add, zI_sub, zI_mul, zI_le, zI_lt, zI_eq, zI_in, zI_nat, Option.bind_some, lt9, hq, Int.add_zero, Int.sub_self, true_or, or_true, true_and, and_true, false_or, or_false, Int.cast_ofNat_Int, ↓reduceIte, if_pos, if_neg]
      · rw [if_neg hs]
        obtain ⟨e, q⟩ := ih (m + 1) (by omega) (by omega)
        refine ⟨e, ?_⟩
        rw [← q]
        conv => lhs; unfold M_chunks_L69
        have hge := cAt_ge (v := v) (k := f + m) (by omega)
        by_cases hp : 0 ≤ cAt v (f + m)
        · obtain ⟨g1, g2, g3⟩ := cAt_ok hw (by omega) (by omega) hp
          have g4 := g2.1
          simp (disch := omega) only [l0, l1, l2, l3, l4, l5, l6, l7, l8, l10, l12, l16, l20, l24, l26, l40, l64, l80, l100, l255, l256, l288, l312, l400, l992, l1940, l24980, l25240, xI, xL, xR, zI_neg, zI_add, zI_sub, zI_mul, zI_le, zI_lt, zI_eq, zI_in, zI_nat, Option.bind_some, lt9, hq, Int.add_zero, Int.sub_self, true_or, or_true, true_and, and_true, false_or, or_false, Int.cast_ofNat_Int, ↓reduceIte, eM_contentAt hN hw, hN _, eM_parts, eM_stands hN ha ha2 _ _ hj hj8 _ _ hca g2 hn, if_pos, if_neg]
          have e9 : (if pk v a j ∈ B ++ chF v f (m + 1) then (1 : Int) else 0) = if pk v a j ∈ pcs v (cAt v (f + m)) ((v (cAt v (f + m) + 2) + 7) / 8).toNat then 1 else 0 := by
            refine if01 ?_
            simp only [chF, pcOf, if_pos hp, List.mem_append] at hs ⊢
            exact ⟨fun z => z.elim (fun z => absurd (Or.inl z) hs) (fun z => z.elim id (fun z => absurd (Or.inr z) hs)), fun z => Or.inr (Or.inl z)⟩
          rw [e9, show f + ((m + 1 : Nat) : Int) = f + m + 1 by omega]
          split <;> simp (disch := omega) only [l0, l1, l2, l3, l4, l5, l6, l7, l8, l10, l12, l16, l20, l24, l26, l40, l64, l80, l100, l255, l256, l288, l312, l400, l992, l1940, l24980, l25240, xI, xL, xR, zI_neg, zI_add, zI_sub, zI_mul, zI_le, zI_lt, zI_eq, zI_in, zI_nat, Option.bind_some, lt9, hq, Int.add_zero, Int.sub_self, true_or, or_true, true_and, and_true, false_or, or_false, Int.cast_ofNat_Int, ↓reduceIte, if_pos, if_neg]
        · have e0 : cAt v (f + m) = -1 := by omega
          have e9 : (if pk v a j ∈ B ++ chF v f (m + 1) then (1 : Int) else 0) = 0 := by
            rw [if_neg]
            simp only [chF, pcOf, if_neg hp, List.nil_append]
            exact hs
          rw [e9, show f + ((m + 1 : Nat) : Int) = f + m + 1 by omega]
          simp (disch := omega) only [l0, l1, l2, l3, l4, l5, l6, l7, l8, l10, l12, l16, l20, l24, l26, l40, l64, l80, l100, l255, l256, l288, l312, l400, l992, l1940, l24980, l25240, xI, xL, xR, zI_neg, zI_add, zI_sub, zI_mul, zI_le, zI_lt, zI_eq, zI_in, zI_nat, Option.bind_some, lt9, hq, Int.add_zero, Int.sub_self, true_or, or_true, true_and, and_true, false_or, or_false, Int.cast_ofNat_Int, ↓reduceIte, eM_contentAt hN hw, e0, if_pos, if_neg]
theorem eM_chunks_L21 {σ : hT} {v : Int → Int} (hN : mN σ v) (hw : wf v) {f k : Int} (hf : 0 ≤ f) (hk : k < 312) (hfk : f ≤ k) {n : Nat} (hn : 313 ≤ n) (hp : 0 ≤ cAt v k)
    (kx : Int32 → Int32 → Int32 → Int32 → Int32 → Option Int32) (K : Nat) (j : Nat) (hj : (j : Int) ≤ (v (cAt v k + 2) + 7) / 8) (hK : (v (cAt v k + 2) + 7) / 8 - j < K) :
    ∃ e : Int, M_chunks_L21 n σ kx K (zI j) (zI (cAt v k)) (zI k) (zI (dcR (pcs v (cAt v k) j ++ chF v f (k - f).toNat))) (zI f) = kx (zI e) (zI (cAt v k)) (zI k) (zI (dcR (chF v f ((k - f).toNat + 1)))) (zI f) := by
  obtain ⟨g1, g2, g3⟩ := cAt_ok hw (by omega) (by omega) hp
  have g4 := g2.1
  induction K generalizing j with
  | zero => omega
  | succ K ih =>
    by_cases hc : (v (cAt v k + 2) + 7) / 8 ≤ j
    · refine ⟨j, ?_⟩
      have e : ((v (cAt v k + 2) + 7) / 8).toNat = j := by omega
      have e2 : chF v f ((k - f).toNat + 1) = pcs v (cAt v k) j ++ chF v f (k - f).toNat := by
        simp only [chF, pcOf]
        rw [show f + (((k - f).toNat : Nat) : Int) = k by omega, if_pos hp, e]
      rw [e2]
      unfold M_chunks_L21
      simp (disch := omega) only [l0, l1, l2, l3, l4, l5, l6, l7, l8, l10, l12, l16, l20, l24, l26, l40, l64, l80, l100, l255, l256, l288, l312, l400, l992, l1940, l24980, l25240, xI, xL, xR, zI_neg, zI_add, zI_sub, zI_mul, zI_le, zI_lt, zI_eq, zI_in, zI_nat, Option.bind_some, lt9, hq, Int.add_zero, Int.sub_self, true_or, or_true, true_and, and_true, false_or, or_false, Int.cast_ofNat_Int, ↓reduceIte, hN _, eM_parts, if_pos, if_neg]
    · obtain ⟨e, q⟩ := ih (j + 1) (by omega) (by omega)
      refine ⟨e, ?_⟩
      rw [← q]
      conv => lhs; unfold M_chunks_L21
      simp (disch := omega) only [l0, l1, l2, l3, l4, l5, l6, l7, l8, l10, l12, l16, l20, l24, l26, l40, l64, l80, l100, l255, l256, l288, l312, l400, l992, l1940, l24980, l25240, xI, xL, xR, zI_neg, zI_add, zI_sub, zI_mul, zI_le, zI_lt, zI_eq, zI_in, zI_nat, Option.bind_some, lt9, hq, Int.add_zero, Int.sub_self, true_or, or_true, true_and, and_true, false_or, or_false, Int.cast_ofNat_Int, ↓reduceIte, hN _, eM_parts, eM_stands hN hp g1 hp g1 _ _ _ _ g2 g2 (show 9 ≤ n by omega), if_pos, if_neg]
      have hb : (if pk v (cAt v k) j ∈ pcs v (cAt v k) (j : Int).toNat then (1 : Int) else 0) = if pk v (cAt v k) j ∈ pcs v (cAt v k) j ++ chF v f 0 then 1 else 0 := by
        rw [Int.toNat_natCast]; simp only [chF, List.append_nil]
      rw [hb]
      obtain ⟨e2, q2⟩ := eM_chunks_L69 hN hw hp g1 g2 (j := j) (by omega) (by omega) hf (by omega : k ≤ 312) (zI (dcR (pcs v (cAt v k) j ++ chF v f (k - f).toNat))) (show 9 ≤ n by omega) (pcs v (cAt v k) j) (fun (p26 : Int32) (p27 : Int32) (p28 : Int32) (p29 : Int32) (p30 : Int32) (p31 : Int32) (p32 : Int32) => if p27 = zI 0 then M_chunks_L21 n σ kx K (p28 + zI 1) p29 p30 (p31 + zI 1) p32 else M_chunks_L21 n σ kx K (p28 + zI 1) p29 p30 (p31 + zI 0) p32) n 0 (by omega) (by omega)
      rw [show f + ((0 : Nat) : Int) = f by omega] at q2
      refine Eq.trans q2 ?_
      simp only [pcs, dcR, List.cons_append, Int.natCast_add, Int.cast_ofNat_Int]
      split <;> simp (disch := omega) only [l0, l1, l2, l3, l4, l5, l6, l7, l8, l10, l12, l16, l20, l24, l26, l40, l64, l80, l100, l255, l256, l288, l312, l400, l992, l1940, l24980, l25240, xI, xL, xR, zI_neg, zI_add, zI_sub, zI_mul, zI_le, zI_lt, zI_eq, zI_in, zI_nat, Option.bind_some, lt9, hq, Int.add_zero, Int.sub_self, true_or, or_true, true_and, and_true, false_or, or_false, Int.cast_ofNat_Int, ↓reduceIte, if_pos, if_neg]
theorem eM_chunks_L4 {σ : hT} {v : Int → Int} (hN : mN σ v) (hw : wf v) {f : Int} (hf : 0 ≤ f) (hf2 : f ≤ 312) {n : Nat} (hn : 313 ≤ n) (kx : Int32 → Int32 → Int32 → Option Int32) (K : Nat) (m : Nat) (hm : f + m ≤ 312) (hK : 312 - (f + m) < K) :
    M_chunks_L4 n σ kx K (zI (f + m)) (zI (dcR (chF v f m))) (zI f) = kx (zI 312) (zI (dcR (chF v f (312 - f).toNat))) (zI f) := by
  induction K generalizing m with
  | zero => omega
  | succ K ih =>
    by_cases hc : 312 ≤ f + m
    · have e : (312 - f).toNat = m := by omega
      have e2 : f + m = 312 := by omega
      rw [e, e2]
      unfold M_chunks_L4
      simp (disch := omega) only [l0, l1, l2, l3, l4, l5, l6, l7, l8, l10, l12, l16, l20, l24, l26, l40, l64, l80, l100, l255, l256, l288, l312, l400, l992, l1940, l24980, l25240, xI, xL, xR, zI_neg, zI_add, zI_sub, zI_mul, zI_le, zI_lt, zI_eq, zI_in, zI_nat, Option.bind_some, lt9, hq, Int.add_zero, Int.sub_self, true_or, or_true, true_and, and_true, false_or, or_false, Int.cast_ofNat_Int, ↓reduceIte, if_pos, if_neg]
    · have q := ih (m + 1) (by omega) (by omega)
      rw [← q]
      conv => lhs; unfold M_chunks_L4
      simp (disch := omega) only [l0, l1, l2, l3, l4, l5, l6, l7, l8, l10, l12, l16, l20, l24, l26, l40, l64, l80, l100, l255, l256, l288, l312, l400, l992, l1940, l24980, l25240, xI, xL, xR, zI_neg, zI_add, zI_sub, zI_mul, zI_le, zI_lt, zI_eq, zI_in, zI_nat, Option.bind_some, lt9, hq, Int.add_zero, Int.sub_self, true_or, or_true, true_and, and_true, false_or, or_false, Int.cast_ofNat_Int, ↓reduceIte, eM_contentAt hN hw, if_pos, if_neg]
      have hge := cAt_ge (v := v) (k := f + m) (by omega)
      have em : ((f + m) - f).toNat = m := by omega
      rw [show f + ((m + 1 : Nat) : Int) = f + m + 1 by omega]
      by_cases hp : 0 ≤ cAt v (f + m)
      · obtain ⟨g1, g2, g3⟩ := cAt_ok hw (by omega) (by omega) hp
        have g4 := g2.1
        obtain ⟨e, q2⟩ := eM_chunks_L21 hN hw hf (by omega) (by omega) hn hp (fun (p9 : Int32) (p10 : Int32) (p11 : Int32) (p12 : Int32) (p13 : Int32) => M_chunks_L4 n σ kx K (p11 + zI 1) p12 p13) n 0 (by omega) (by omega)
        rw [em] at q2
        refine Eq.trans q2 ?_
        simp (disch := omega) only [l0, l1, l2, l3, l4, l5, l6, l7, l8, l10, l12, l16, l20, l24, l26, l40, l64, l80, l100, l255, l256, l288, l312, l400, l992, l1940, l24980, l25240, xI, xL, xR, zI_neg, zI_add, zI_sub, zI_mul, zI_le, zI_lt, zI_eq, zI_in, zI_nat, Option.bind_some, lt9, hq, Int.add_zero, Int.sub_self, true_or, or_true, true_and, and_true, false_or, or_false, Int.cast_ofNat_Int, ↓reduceIte, if_pos, if_neg]
      · have e0 : cAt v (f + m) = -1 := by omega
        have e1 : chF v f (m + 1) = chF v f m := by simp only [chF, pcOf, if_neg hp, List.nil_append]
        rw [e0, e1]
        cases n with
        | zero => omega
        | succ n => unfold M_chunks_L21; simp (disch := omega) only [l0, l1, l2, l3, l4, l5, l6, l7, l8, l10, l12, l16, l20, l24, l26, l40, l64, l80, l100, l255, l256, l288, l312, l400, l992, l1940, l24980, l25240, xI, xL, xR, zI_neg, zI_add, zI_sub, zI_mul, zI_le, zI_lt, zI_eq, zI_in, zI_nat, Option.bind_some, lt9, hq, Int.add_zero, Int.sub_self, true_or, or_true, true_and, and_true, false_or, or_false, Int.cast_ofNat_Int, ↓reduceIte, if_pos, if_neg]
theorem eM_chunks {σ : hT} {v : Int → Int} (hN : mN σ v) (hw : wf v) {f : Int} (hf : 0 ≤ f) (hf2 : f ≤ 312) {n : Nat} (hn : 313 ≤ n) : M_chunks n σ (zI f) = some (zI (dcR (chF v f (312 - f).toNat))) := by
  unfold M_chunks
  have := eM_chunks_L4 hN hw hf hf2 hn (fun (p1 : Int32) (p2 : Int32) (p3 : Int32) => some p2) n 0 (by omega) (by omega)
  rw [show f + ((0 : Nat) : Int) = f by omega] at this
  exact this
