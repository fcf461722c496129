def rep (L : Int64) (m : Int32) (x : KT) : Prop := ∃ (v : Int → Int) (a j : Int), cb v a ∧ 0 ≤ j ∧ j ≤ 8 ∧ x = pk v a j ∧ pcR L v a j ∧ m = zI (plen (v (a + 2)) j)
theorem rep_eq {L M : Int64} {m k : Int32} {x y : KT} (h1 : rep L m x) (h2 : rep M k y) : (L = M ∧ m = k) ↔ x = y := by
  obtain ⟨v, a, j, c1, j0, j8, rfl, p1, rfl⟩ := h1
  obtain ⟨w, o, i, c2, i0, i8, rfl, p2, rfl⟩ := h2
  have l1 := plen_rng (v (a + 2)) j
  have l2 := plen_rng (w (o + 2)) i
  rw [← pcR_pk c1 c2 j0 i0 p1 p2, zI_eq (by omega) (by omega) (by omega) (by omega)]
  exact ⟨fun z => ⟨z.2, z.1⟩, fun z => ⟨z.2, z.1⟩⟩
def kS (σ : hT) (L : List KT) : Prop := σ.1 302 0 0 = zI (dcR L) ∧ (∀ i : Int, 0 ≤ i → i < dcR L → ∃ x, x ∈ L ∧ rep (σ.2.1 13 0 i.toNat) (σ.1 14 0 i.toNat) x) ∧ ∀ x, x ∈ L → ∃ i : Int, 0 ≤ i ∧ i < dcR L ∧ rep (σ.2.1 13 0 i.toNat) (σ.1 14 0 i.toNat) x
def fK (σ σ' : hT) : Prop := σ'.2.2 = σ.2.2 ∧ (∀ f j, f ≠ 13 → σ'.2.1 f j = σ.2.1 f j) ∧ ∀ f j, f ≠ 14 → f ≠ 302 → σ'.1 f j = σ.1 f j
theorem fK.rf {σ : hT} : fK σ σ := ⟨rfl, fun _ _ _ => rfl, fun _ _ _ _ => rfl⟩
theorem fK.tr {σ σ1 σ2 : hT} (h : fK σ σ1) (h2 : fK σ1 σ2) : fK σ σ2 := ⟨h2.1.trans h.1, fun f j n => (h2.2.1 f j n).trans (h.2.1 f j n), fun f j n m => (h2.2.2 f j n m).trans (h.2.2 f j n m)⟩
theorem fK.i {σ σ1 : hT} (h : fK σ σ1) {f j k : Nat} {x : Int32} (hf : f = 14 ∨ f = 302) : fK σ (sI σ1 f j k x) := ⟨h.1, h.2.1, fun f' j' n m => (show (sI σ1 f j k x).1 f' j' = _ from r3_ne (fun z => by omega)).trans (h.2.2 f' j' n m)⟩
theorem fK.l {σ σ1 : hT} (h : fK σ σ1) {j k : Nat} {x : Int64} : fK σ (sL σ1 13 j k x) := ⟨h.1, fun f' j' n => (show (sL σ1 13 j k x).2.1 f' j' = _ from r3_ne (fun z => n z.1)).trans (h.2.1 f' j' n), h.2.2⟩
theorem fK.v {g : Nat} {σ σ1 : hT} (h : fK σ σ1) : fV g σ σ1 := ⟨h.1, fun j => h.2.1 20 j (by decide), fun f j n => h.2.2 f j (by omega) (by omega)⟩
theorem eK_add_L {σ : hT} {L : List KT} (hS : kS σ L) (h992 : dcR L ≤ 992) {M : Int64} {m : Int32} {x : KT} (hx : rep M m x) (n : Nat) (kx : hT → Int32 → Int64 → Int32 → Option (Unit × hT)) (K : Nat) : ∀ (i : Int), 0 ≤ i → i ≤ dcR L → dcR L - i < K →
    ((∃ k, i ≤ k ∧ k < dcR L ∧ rep (σ.2.1 13 0 k.toNat) (σ.1 14 0 k.toNat) x) ∧ K_addOne_L3 n kx K σ (zI i) M m = some ((), σ)) ∨ ((¬ ∃ k, i ≤ k ∧ k < dcR L ∧ rep (σ.2.1 13 0 k.toNat) (σ.1 14 0 k.toNat) x) ∧ K_addOne_L3 n kx K σ (zI i) M m = kx σ (zI (dcR L)) M m) := by
  have hr := dcR_rng L
  induction K with
  | zero => intro i _ _ h; omega
  | succ K ih =>
    intro i i0 i1 hK
    by_cases he : dcR L ≤ i
    · obtain rfl : i = dcR L := by omega
      refine Or.inr ⟨ex_end (P := fun k => rep (σ.2.1 13 0 k.toNat) (σ.1 14 0 k.toNat) x) he, ?_⟩
      unfold K_addOne_L3
      simp (disch := omega) only [l0, l1, l2, l3, l4, l5, l6, l7, l8, l10, l12, l16, l20, l24, l26, l40, l64, l80, l100, l255, l256, l288, l312, l400, l992, l1940, l24980, l25240, xI, xL, xR, zI_neg, zI_add, zI_sub, zI_mul, zI_le, zI_lt, zI_eq, zI_in, zI_nat, Option.bind_some, lt9, hq, Int.add_zero, Int.sub_self, true_or, or_true, true_and, and_true, false_or, or_false, Int.cast_ofNat_Int, ↓reduceIte, hS.1, if_pos, if_neg]
    · rw [ex_step (P := fun k => rep (σ.2.1 13 0 k.toNat) (σ.1 14 0 k.toNat) x) (show i < dcR L by omega)]
      obtain ⟨y, y1, y2⟩ := hS.2.1 i i0 (by omega)
      have hq := rep_eq y2 hx
      by_cases e : σ.2.1 13 0 i.toNat = M ∧ σ.1 14 0 i.toNat = m
      · refine Or.inl ⟨Or.inl (hq.mp e ▸ y2), ?_⟩
        conv => lhs; unfold K_addOne_L3
        simp (disch := omega) only [l0, l1, l2, l3, l4, l5, l6, l7, l8, l10, l12, l16, l20, l24, l26, l40, l64, l80, l100, l255, l256, l288, l312, l400, l992, l1940, l24980, l25240, xI, xL, xR, zI_neg, zI_add, zI_sub, zI_mul, zI_le, zI_lt, zI_eq, zI_in, zI_nat, Option.bind_some, lt9, hq, Int.add_zero, Int.sub_self, true_or, or_true, true_and, and_true, false_or, or_false, Int.cast_ofNat_Int, ↓reduceIte, hS.1, lgc, if_pos, if_neg]
        rw [if_pos e.1, if_pos e.2]
      · have e3 : K_addOne_L3 n kx (K + 1) σ (zI i) M m = K_addOne_L3 n kx K σ (zI (i + 1)) M m := by
          conv => lhs; unfold K_addOne_L3
          simp (disch := omega) only [l0, l1, l2, l3, l4, l5, l6, l7, l8, l10, l12, l16, l20, l24, l26, l40, l64, l80, l100, l255, l256, l288, l312, l400, l992, l1940, l24980, l25240, xI, xL, xR, zI_neg, zI_add, zI_sub, zI_mul, zI_le, zI_lt, zI_eq, zI_in, zI_nat, Option.bind_some, lt9, hq, Int.add_zero, Int.sub_self, true_or, or_true, true_and, and_true, false_or, or_false, Int.cast_ofNat_Int, ↓reduceIte, hS.1, lgc, if_pos, if_neg]
          by_cases e1 : σ.2.1 13 0 i.toNat = M
          · rw [if_pos e1, if_neg (fun z => e ⟨e1, z⟩)]
          · rw [if_neg e1]
        rw [e3]
        have hno : ¬ rep (σ.2.1 13 0 i.toNat) (σ.1 14 0 i.toNat) x := fun z => e ((rep_eq z hx).mpr rfl)
        rcases ih (i + 1) (by omega) (by omega) (by omega) with ⟨q1, q2⟩ | ⟨q1, q2⟩
        · exact Or.inl ⟨Or.inr q1, q2⟩
        · exact Or.inr ⟨fun z => z.elim hno q1, q2⟩
theorem nrB_s {m : Int} (h0 : 0 ≤ m) (h1 : m ≤ 8) : nrB ((zI m).toInt8.toInt32) = zI m := by
  have : m = 0 ∨ m = 1 ∨ m = 2 ∨ m = 3 ∨ m = 4 ∨ m = 5 ∨ m = 6 ∨ m = 7 ∨ m = 8 := by omega
  rcases this with rfl | rfl | rfl | rfl | rfl | rfl | rfl | rfl | rfl <;> decide
theorem rep_len {M : Int64} {m : Int32} {x : KT} (h : rep M m x) : nrB (m.toInt8.toInt32) = m := by
  obtain ⟨v, a, j, c1, j0, j8, rfl, p1, rfl⟩ := h
  have l1 := plen_rng (v (a + 2)) j
  exact nrB_s l1.1 l1.2
theorem eK_addOne {σ : hT} {L : List KT} (hS : kS σ L) (hL : L.length < 992) {M : Int64} {m : Int32} {x : KT} (hx : rep M m x) {n : Nat} (hn : 993 ≤ n) : ∃ σ', K_addOne n σ M m = some ((), σ') ∧ kS σ' (x :: L) ∧ fK σ σ' := by
  have hr := dcR_rng L
  unfold K_addOne lt9
  rcases eK_add_L hS (by omega) hx n (fun (σ1 : hT) (p2 : Int32) (p3 : Int64) (p4 : Int32) => if 992 ≤ (xI σ1 302 0 0) then some ((), σ1) else if in9 (xI σ1 302 0 0) 992 then lt9 (sL σ1 13 0 ((xI σ1 302 0 0)).toNatClampNeg p3) fun σ21 => if in9 (xI σ21 302 0 0) 992 then lt9 (sI σ21 14 0 ((xI σ21 302 0 0)).toNatClampNeg (nrB ((p4).toInt8.toInt32))) fun σ26 => lt9 (sI σ26 302 0 0 ((xI σ26 302 0 0) + 1)) fun σ30 => some ((), σ30) else none else none) n 0 (by omega) (by omega) (by omega) with ⟨q1, q2⟩ | ⟨q1, q2⟩
  · obtain ⟨k, k0, k1, k2⟩ := q1
    have hm : x ∈ L := by
      obtain ⟨y, y1, y2⟩ := hS.2.1 k k0 k1
      rw [← (rep_eq y2 k2).mp ⟨rfl, rfl⟩]; exact y1
    have hd : dcR (x :: L) = dcR L := by show dcR L + (if x ∈ L then 0 else 1) = _; rw [if_pos hm, Int.add_zero]
    refine ⟨σ, q2, ⟨by rw [hd]; exact hS.1, fun i i0 i1 => ?_, fun y hy => ?_⟩, fK.rf⟩
    · rw [hd] at i1
      obtain ⟨y, y1, y2⟩ := hS.2.1 i i0 i1
      exact ⟨y, List.mem_cons_of_mem _ y1, y2⟩
    · rw [hd]
      rcases List.mem_cons.mp hy with rfl | hy
      · exact ⟨k, k0, k1, k2⟩
      · exact hS.2.2 y hy
  · have hm : ¬ x ∈ L := fun z => by
      obtain ⟨i, i0, i1, i2⟩ := hS.2.2 x z
      exact q1 ⟨i, i0, i1, i2⟩
    have hd : dcR (x :: L) = dcR L + 1 := by show dcR L + (if x ∈ L then 0 else 1) = _; rw [if_neg hm]
    refine ⟨sI (sI (sL σ 13 0 (dcR L).toNat M) 14 0 (dcR L).toNat m) 302 0 0 (zI (dcR L + 1)), ?_, ⟨by rw [hd, rS], fun i i0 i1 => ?_, fun y hy => ?_⟩, ((fK.rf.l).i (by omega)).i (by omega)⟩
    · refine q2.trans ?_
      simp (disch := omega) only [l0, l1, l2, l3, l4, l5, l6, l7, l8, l10, l12, l16, l20, l24, l26, l40, l64, l80, l100, l255, l256, l288, l312, l400, l992, l1940, l24980, l25240, xI, xL, xR, zI_neg, zI_add, zI_sub, zI_mul, zI_le, zI_lt, zI_eq, zI_in, zI_nat, Option.bind_some, lt9, hq, Int.add_zero, Int.sub_self, true_or, or_true, true_and, and_true, false_or, or_false, Int.cast_ofNat_Int, ↓reduceIte, hS.1, lI, rO, rep_len hx, if_pos, if_neg]
    · rw [hd] at i1
      by_cases e : i = dcR L
      · subst e
        refine ⟨x, List.mem_cons_self .., ?_⟩
        simp (disch := first | decide | omega) only [rS, rO, rK, rJ, lS, lK, lO, lJ, lI, lI9, lR, lR9, rL, rL9, rS9, rO9, rJ9, lS9, lO9, lJ9, uv_s, uv_n]
        exact hx
      · obtain ⟨y, y1, y2⟩ := hS.2.1 i i0 (by omega)
        refine ⟨y, List.mem_cons_of_mem _ y1, ?_⟩
        simp (disch := first | decide | omega) only [rS, rO, rK, rJ, lS, lK, lO, lJ, lI, lI9, lR, lR9, rL, rL9, rS9, rO9, rJ9, lS9, lO9, lJ9, uv_s, uv_n]
        exact y2
    · rw [hd]
      rcases List.mem_cons.mp hy with rfl | hy
      · refine ⟨dcR L, by omega, by omega, ?_⟩
        simp (disch := first | decide | omega) only [rS, rO, rK, rJ, lS, lK, lO, lJ, lI, lI9, lR, lR9, rL, rL9, rS9, rO9, rJ9, lS9, lO9, lJ9, uv_s, uv_n]
        exact hx
      · obtain ⟨i, i0, i1, i2⟩ := hS.2.2 y hy
        refine ⟨i, i0, by omega, ?_⟩
        simp (disch := first | decide | omega) only [rS, rO, rK, rJ, lS, lK, lO, lJ, lI, lI9, lR, lR9, rL, rL9, rS9, rO9, rJ9, lS9, lO9, lJ9, uv_s, uv_n]
        exact i2
theorem eK_all_L {v : Int → Int} {a : Int} {c : Nat} (hc : cw v a) {n : Nat} (hn : 993 ≤ n) (L : List KT) (hL : L.length + ((v (a + 2) + 7) / 8).toNat ≤ 992) (kx : hT → Int32 → Int32 → Nat → Option (Unit × hT)) (K : Nat) : ∀ (σ : hT) (i : Nat), ct σ c v a → kS σ (pcs v a i ++ L) → (i : Int) ≤ (v (a + 2) + 7) / 8 → (v (a + 2) + 7) / 8 - i < K →
    ∃ σ', K_addAll_L7 n kx K σ (zI i) (zI ((v (a + 2) + 7) / 8)) c = kx σ' (zI ((v (a + 2) + 7) / 8)) (zI ((v (a + 2) + 7) / 8)) c ∧ kS σ' (pcs v a ((v (a + 2) + 7) / 8).toNat ++ L) ∧ fK σ σ' := by
  have b1 := hc.1
  induction K with
  | zero => intro σ i _ _ _ h; omega
  | succ K ih =>
    intro σ i hct hS hi hK
    by_cases he : (v (a + 2) + 7) / 8 ≤ i
    · have e : (v (a + 2) + 7) / 8 = i := by omega
      refine ⟨σ, ?_, by rw [e, Int.toNat_natCast]; exact hS, fK.rf⟩
      unfold K_addAll_L7
      rw [e]
      simp (disch := omega) only [l0, l1, l2, l3, l4, l5, l6, l7, l8, l10, l12, l16, l20, l24, l26, l40, l64, l80, l100, l255, l256, l288, l312, l400, l992, l1940, l24980, l25240, xI, xL, xR, zI_neg, zI_add, zI_sub, zI_mul, zI_le, zI_lt, zI_eq, zI_in, zI_nat, Option.bind_some, lt9, hq, Int.add_zero, Int.sub_self, true_or, or_true, true_and, and_true, false_or, or_false, Int.cast_ofNat_Int, ↓reduceIte, if_pos, if_neg]
    · have hl : (pcs v a i ++ L).length < 992 := by rw [List.length_append, pcs_len]; omega
      have hrep : rep (σ.2.1 20 c i) (zI (plen (v (a + 2)) i)) (pk v a i) := ⟨v, a, i, hc.cb, by omega, by omega, rfl, by have := hct.2.2.2 i (by omega) (by omega); rw [Int.toNat_natCast] at this; exact this, rfl⟩
      obtain ⟨σ1, q1, q2, q3⟩ := eK_addOne hS hl hrep hn
      obtain ⟨σ2, r1, r2, r3⟩ := ih σ1 (i + 1) ((fK.v (g := 0) q3).eq.ct hct) q2 (by omega) (by omega)
      refine ⟨σ2, ?_, r2, q3.tr r3⟩
      rw [← r1]
      conv => lhs; unfold K_addAll_L7
      rw [Int.natCast_add, Int.cast_ofNat_Int]
      simp (disch := omega) only [l0, l1, l2, l3, l4, l5, l6, l7, l8, l10, l12, l16, l20, l24, l26, l40, l64, l80, l100, l255, l256, l288, l312, l400, l992, l1940, l24980, l25240, xI, xL, xR, zI_neg, zI_add, zI_sub, zI_mul, zI_le, zI_lt, zI_eq, zI_in, zI_nat, Option.bind_some, lt9, hq, Int.add_zero, Int.sub_self, true_or, or_true, true_and, and_true, false_or, or_false, Int.cast_ofNat_Int, ↓reduceIte, Int.toNat_natCast, eC_pieceLength hct.1 hc.1 (j := i) (by omega), q1, if_pos, if_neg]
theorem eK_addAll {σ : hT} {v : Int → Int} {a : Int} {c : Nat} (hc : cw v a) (hct : ct σ c v a) {L : List KT} (hS : kS σ L) {n : Nat} (hn : 993 ≤ n) (hL : L.length + ((v (a + 2) + 7) / 8).toNat ≤ 992) : ∃ σ', K_addAll n σ c = some ((), σ') ∧ kS σ' (pcs v a ((v (a + 2) + 7) / 8).toNat ++ L) ∧ fK σ σ' := by
  have b1 := hc.1
  unfold K_addAll lt9
  rw [eC_pieceCount hct.1 hc.1]
  exact eK_all_L hc hn L hL _ n σ 0 hct hS (by omega) (by omega)
theorem eK_addAll0 {σ : hT} {c : Nat} (hct : ct0 σ c) {n : Nat} (hn : 1 ≤ n) : K_addAll n σ c = some ((), σ) := by
  unfold K_addAll lt9
  rw [eC_pieceCount hct.1 (by omega)]
  obtain ⟨n, rfl⟩ : ∃ k, n = k + 1 := ⟨n - 1, by omega⟩
  unfold K_addAll_L7
  rw [show ((0 : Int) + 7) / 8 = 0 by decide]
  simp (disch := omega) only [l0, l1, l2, l3, l4, l5, l6, l7, l8, l10, l12, l16, l20, l24, l26, l40, l64, l80, l100, l255, l256, l288, l312, l400, l992, l1940, l24980, l25240, xI, xL, xR, zI_neg, zI_add, zI_sub, zI_mul, zI_le, zI_lt, zI_eq, zI_in, zI_nat, Option.bind_some, lt9, hq, Int.add_zero, Int.sub_self, true_or, or_true, true_and, and_true, false_or, or_false, Int.cast_ofNat_Int, ↓reduceIte, if_pos, if_neg]
theorem eK_clear {σ : hT} : ∃ σ', K_clear σ = some ((), σ') ∧ kS σ' [] ∧ fK σ σ' := by
  refine ⟨sI σ 302 0 0 (zI 0), rfl, ⟨by rw [rS]; rfl, fun i i0 i1 => ?_, fun x hx => absurd hx List.not_mem_nil⟩, fK.rf.i (by omega)⟩
  have : dcR [] = 0 := rfl
  omega
theorem eK_sizeOf {σ : hT} {v : Int → Int} {a : Int} {c : Nat} (hc : cw v a) (hct : ct σ c v a) {n : Nat} (hn : 993 ≤ n) : ∃ σ', K_sizeOf n σ c = some (zI (dcR (pcs v a ((v (a + 2) + 7) / 8).toNat)), σ') ∧ fK σ σ' := by
  have b1 := hc.1
  obtain ⟨σ1, q1, q2, q3⟩ := eK_clear (σ := σ)
  obtain ⟨σ2, r1, r2, r3⟩ := eK_addAll (L := []) hc ((fK.v (g := 0) q3).eq.ct hct) q2 hn (by rw [List.length_nil]; omega)
  rw [List.append_nil] at r2
  refine ⟨σ2, ?_, q3.tr r3⟩
  unfold K_sizeOf
  simp (disch := omega) only [l0, l1, l2, l3, l4, l5, l6, l7, l8, l10, l12, l16, l20, l24, l26, l40, l64, l80, l100, l255, l256, l288, l312, l400, l992, l1940, l24980, l25240, xI, xL, xR, zI_neg, zI_add, zI_sub, zI_mul, zI_le, zI_lt, zI_eq, zI_in, zI_nat, Option.bind_some, lt9, hq, Int.add_zero, Int.sub_self, true_or, or_true, true_and, and_true, false_or, or_false, Int.cast_ofNat_Int, ↓reduceIte, q1, r1, r2.1, if_pos, if_neg]
