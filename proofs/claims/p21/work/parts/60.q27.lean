theorem eD_targetBits {σ : hT} {v : Int → Int} {g : Nat} (hC : CA σ v g) (hw : wf v) {d : Int} (d0 : 0 ≤ d) (d1 : d < v 16) {n : Nat} (hn : 7 ≤ n) : ∃ y, D_targetBits n σ d.toNat = some y ∧ bt y (fun t => us v d t = true) := by
  have hD := hw.2.2.2.1 d d0 d1
  have hm := hD.1
  have h16 := hw.1
  have cR := (hC.2.2.2.1 d d0 d1).2.2.2.2 (v (20 + 80 * d) - 1) (by omega) (by omega)
  have hR := hD.2.2.2 (v (20 + 80 * d) - 1) (by omega) (by omega)
  obtain ⟨y, q1, q2⟩ := eC_targetBits h16.2 hR.2.2.1 cR.2.2.2 hn
  refine ⟨y, ?_, q2⟩
  unfold D_targetBits
  rw [eD_newest hC d0 d1]
  simp (disch := omega) only [l0, l1, l2, l3, l4, l5, l6, l7, l8, l10, l12, l16, l20, l24, l26, l40, l64, l80, l100, l255, l256, l288, l312, l400, l992, l1940, l24980, l25240, xI, xL, xR, zI_neg, zI_add, zI_sub, zI_mul, zI_le, zI_lt, zI_eq, zI_in, zI_nat, Option.bind_some, lt9, hq, Int.add_zero, Int.sub_self, true_or, or_true, true_and, and_true, false_or, or_false, Int.cast_ofNat_Int, ↓reduceIte, eD_hasRevision hC hw d0 d1 (r := v (20 + 80 * d) - 1) ⟨by omega, by omega⟩, if_pos (show 0 ≤ v (20 + 80 * d) - 1 ∧ v (20 + 80 * d) - 1 < v (20 + 80 * d) by omega), cR.1, q1, if_pos, if_neg]
def usA (v : Int → Int) (μ : Int → Prop) (k : Int) : Prop := k < v 16 ∧ ∃ i, 0 ≤ i ∧ i < 32 ∧ us v k i = true ∧ μ i
theorem eV_uA_L {σ : hT} {v : Int → Int} {g : Nat} (hC : CA σ v g) (hw : wf v) {x : Int32} {μ : Int → Prop} (hx : bt x μ) {n : Nat} (hn : 7 ≤ n) (kx : Int32 → Int32 → Int32 → Option Int32) (K : Nat) : ∀ (i : Int) (y : Int32), bt y (fun k => k < i ∧ usA v μ k) → 0 ≤ i → i ≤ v 16 → v 16 - i < K →
    ∃ z, V_usersOfAny_L4 n σ kx K (zI i) y x = kx (zI (v 16)) z x ∧ bt z (usA v μ) := by
  have h16 := hw.1
  induction K with
  | zero => intro i y _ _ _ h; omega
  | succ K ih =>
    intro i y hy i0 i1 hK
    by_cases he : v 16 ≤ i
    · obtain rfl : i = v 16 := by omega
      refine ⟨y, ?_, hy.w (fun k _ _ => ⟨fun z => z.2, fun z => ⟨z.1, z⟩⟩)⟩
      unfold V_usersOfAny_L4
      simp (disch := omega) only [l0, l1, l2, l3, l4, l5, l6, l7, l8, l10, l12, l16, l20, l24, l26, l40, l64, l80, l100, l255, l256, l288, l312, l400, l992, l1940, l24980, l25240, xI, xL, xR, zI_neg, zI_add, zI_sub, zI_mul, zI_le, zI_lt, zI_eq, zI_in, zI_nat, Option.bind_some, lt9, hq, Int.add_zero, Int.sub_self, true_or, or_true, true_and, and_true, false_or, or_false, Int.cast_ofNat_Int, ↓reduceIte, hC.2.1, if_pos, if_neg]
    · have cD := (hC.2.2.2.1 i i0 (by omega)).1
      obtain ⟨t, q1, q2⟩ := eD_targetBits hC hw i0 (show i < v 16 by omega) hn
      have ha := bt_and q2 hx
      by_cases hu : t &&& x = 0
      · obtain ⟨z, r1, r2⟩ := ih (i + 1) y (hy.w (fun k k0 k1 => ⟨fun z => ⟨by omega, z.2⟩, fun z => by
          by_cases e : k = i
          · subst e
            obtain ⟨j, j0, j1, j2, j3⟩ := z.2.2
            exact absurd ⟨j2, j3⟩ (ha.mp hu j j0 j1)
          · exact ⟨by omega, z.2⟩⟩)) (by omega) (by omega) (by omega)
        refine ⟨z, ?_, r2⟩
        rw [← r1]
        conv => lhs; unfold V_usersOfAny_L4
        simp (disch := omega) only [l0, l1, l2, l3, l4, l5, l6, l7, l8, l10, l12, l16, l20, l24, l26, l40, l64, l80, l100, l255, l256, l288, l312, l400, l992, l1940, l24980, l25240, xI, xL, xR, zI_neg, zI_add, zI_sub, zI_mul, zI_le, zI_lt, zI_eq, zI_in, zI_nat, Option.bind_some, lt9, hq, Int.add_zero, Int.sub_self, true_or, or_true, true_and, and_true, false_or, or_false, Int.cast_ofNat_Int, ↓reduceIte, hC.2.1, cD, q1, if_pos, if_neg]
        rw [if_pos (by rw [← l0]; exact hu)]
      · have hex : usA v μ i := by
          apply Classical.byContradiction
          intro hne
          exact hu (ha.mpr (fun k k0 k1 z => hne ⟨by omega, k, k0, k1, z.1, z.2⟩))
        obtain ⟨z, r1, r2⟩ := ih (i + 1) (y ||| V_bit (zI i)) ((bt_or hy (fun k hk => bit_bv i0 (by omega) k hk)).w (fun k k0 k1 => ⟨fun z => z.elim (fun z => ⟨by omega, z.2⟩) (fun z => by rw [show k = i from z]; exact ⟨by omega, hex⟩), fun z => by
          by_cases e : k = i
          · exact Or.inr e
          · exact Or.inl ⟨by omega, z.2⟩⟩)) (by omega) (by omega) (by omega)
        refine ⟨z, ?_, r2⟩
        rw [← r1]
        conv => lhs; unfold V_usersOfAny_L4
        simp (disch := omega) only [l0, l1, l2, l3, l4, l5, l6, l7, l8, l10, l12, l16, l20, l24, l26, l40, l64, l80, l100, l255, l256, l288, l312, l400, l992, l1940, l24980, l25240, xI, xL, xR, zI_neg, zI_add, zI_sub, zI_mul, zI_le, zI_lt, zI_eq, zI_in, zI_nat, Option.bind_some, lt9, hq, Int.add_zero, Int.sub_self, true_or, or_true, true_and, and_true, false_or, or_false, Int.cast_ofNat_Int, ↓reduceIte, hC.2.1, cD, q1, if_pos, if_neg]
        rw [if_neg (by rw [← l0]; exact hu)]
theorem eV_usersOfAny {σ : hT} {v : Int → Int} {g : Nat} (hC : CA σ v g) (hw : wf v) {x : Int32} {μ : Int → Prop} (hx : bt x μ) {n : Nat} (hn : 25 ≤ n) : ∃ z, V_usersOfAny n σ x = some z ∧ bt z (usA v μ) := by
  have h16 := hw.1
  unfold V_usersOfAny lt9
  obtain ⟨z, q1, q2⟩ := eV_uA_L hC hw hx (show 7 ≤ n by omega) (fun (p1 : Int32) (p2 : Int32) (p3 : Int32) => some p2) n 0 0 (bt_0.w (fun k k0 _ => ⟨fun z => z.elim, fun z => absurd z.1 (by omega)⟩)) (by omega) (by omega) (by omega)
  exact ⟨z, q1, q2⟩
def bb (x : Int32) (k : Int) : Bool := x.toBitVec.getLsbD k.toNat
theorem bt_bb (x : Int32) : bt x (fun k => bb x k = true) := fun k _ => by show _ ↔ x.toBitVec.getLsbD (k : Int).toNat = true; rw [Int.toNat_natCast]
theorem bt.b {x : Int32} {μ : Int → Prop} (h : bt x μ) {k : Int} (k0 : 0 ≤ k) (k1 : k < 32) : bb x k = true ↔ μ k := by
  have := h k.toNat (by omega)
  rw [show ((k.toNat : Nat) : Int) = k by omega] at this
  exact this
theorem tcU.lt {v : Int → Int} {d k : Int} (h : tcU v d k) : 0 ≤ k ∧ k < v 16 := h (fun k => 0 ≤ k ∧ k < v 16) (fun k a b _ => ⟨a, b⟩) (fun k i a b _ _ _ _ => ⟨a, b⟩)
theorem eV_uO_L {σ : hT} {v : Int → Int} {g : Nat} (hC : CA σ v g) (hw : wf v) {d : Int} (d0 : 0 ≤ d) (d1 : d < v 16) {n : Nat} (hn : 25 ≤ n) (kx : Int32 → Int32 → Int32 → Int32 → Int32 → Option Int32) (hk : ∀ a b c e f, kx a b c e f = some b) (x : Int32) (f : Int32) (hf : f ≠ 0) (K : Nat) : ∀ (i : Nat) (F P : Int32), (∀ k, 0 ≤ k → k < 32 → bb P k = true → k = d ∨ tcU v d k) → bb P d = true → (∀ k, 0 ≤ k → k < 32 → bb F k = true → bb P k = true) → (∀ k, 0 ≤ k → k < 32 → bb F k = true → usA v (fun k => bb P k = true) k) → i ≤ cntU (bb F) 24 → i ≤ 24 → 24 - i < K →
    ∃ y, V_usersOf_L11 n σ kx K (zI i) F P x f = some y ∧ bt y (fun k => tcU v d k) := by
  have h16 := hw.1
  induction K with
  | zero => intro i F P _ _ _ _ _ _ h; omega
  | succ K ih =>
    intro i F P hP hPd hFP hFu hc hi hK
    have sound : ∀ k, 0 ≤ k → k < 32 → usA v (fun k => bb P k = true) k → tcU v d k := by
      intro k k0 k1 ⟨k2, j, j0, j1, j2, j3⟩
      rcases hP j j0 j1 j3 with e | e
      · subst e; exact tcU.near k0 k2 j2
      · exact tcU.far k0 k2 e.lt.1 e.lt.2 e j2
    by_cases he : 24 ≤ i
    · refine ⟨F, ?_, fun k hk => ?_⟩
      · unfold V_usersOf_L11
        simp (disch := omega) only [l0, l1, l2, l3, l4, l5, l6, l7, l8, l10, l12, l16, l20, l24, l26, l40, l64, l80, l100, l255, l256, l288, l312, l400, l992, l1940, l24980, l25240, xI, xL, xR, zI_neg, zI_add, zI_sub, zI_mul, zI_le, zI_lt, zI_eq, zI_in, zI_nat, Option.bind_some, lt9, hq, Int.add_zero, Int.sub_self, true_or, or_true, true_and, and_true, false_or, or_false, Int.cast_ofNat_Int, ↓reduceIte, if_pos, if_neg]
        exact hk _ _ _ _ _
      · have hbk : F.toBitVec.getLsbD k = bb F k := by unfold bb; rw [Int.toNat_natCast]
        rw [hbk]
        constructor
        · intro z; exact sound k (by omega) (by omega) (hFu k (by omega) (by omega) z)
        · intro z
          have := z.lt
          exact cntU_full (n := 24) (by have := cntU_le (bb F) 24; omega) k (by omega) (by omega)
    · obtain ⟨y, q1, q2⟩ := eV_usersOfAny hC hw (bt_bb P) hn
      by_cases e : y = F
      · refine ⟨y, ?_, q2.w (fun k k0 k1 => ⟨fun z => sound k k0 k1 z, fun z => ?_⟩)⟩
        · unfold V_usersOf_L11
          simp (disch := omega) only [l0, l1, l2, l3, l4, l5, l6, l7, l8, l10, l12, l16, l20, l24, l26, l40, l64, l80, l100, l255, l256, l288, l312, l400, l992, l1940, l24980, l25240, xI, xL, xR, zI_neg, zI_add, zI_sub, zI_mul, zI_le, zI_lt, zI_eq, zI_in, zI_nat, Option.bind_some, lt9, hq, Int.add_zero, Int.sub_self, true_or, or_true, true_and, and_true, false_or, or_false, Int.cast_ofNat_Int, ↓reduceIte, q1, if_pos, if_neg]
          rw [if_neg (by rw [← l0]; exact hf)]
        · subst e
          refine z (fun k => usA v (fun k => bb P k = true) k) (fun k a b c => ⟨b, d, d0, by omega, c, hPd⟩) (fun k j a b j0 j1 hj c => ⟨b, j, j0, by omega, c, ?_⟩)
          exact hFP j j0 (by omega) ((q2.b j0 (by omega)).mpr hj)
      · have mono : ∀ k : Int, 0 ≤ k → k < (24 : Nat) → bb F k = true → bb y k = true := fun k k0 k1 z => (q2.b k0 (by omega)).mpr (hFu k k0 (by omega) z)
        have hne : ∃ k : Int, 0 ≤ k ∧ k < 32 ∧ ¬ bb F k = true ∧ bb y k = true := by
          apply Classical.byContradiction
          intro hne
          refine e ((bt_eq (bt_bb y) (bt_bb F)).mpr (fun k k0 k1 => ⟨fun z => ?_, fun z => (q2.b k0 k1).mpr (hFu k k0 k1 z)⟩))
          apply Classical.byContradiction
          intro z2
          exact hne ⟨k, k0, k1, z2, z⟩
        obtain ⟨k, k0, k1, k2, k3⟩ := hne
        have k4 := ((q2.b k0 k1).mp k3).1
        have hcn := cntU_lt mono k0 (by omega) k2 k3
        have hor : ∀ k, 0 ≤ k → k < 32 → (bb (P ||| y) k = true ↔ bb P k = true ∨ bb y k = true) := fun k k0 k1 => (bt_or (bt_bb P) (bt_bb y)).b k0 k1
        obtain ⟨z, r1, r2⟩ := ih (i + 1) y (P ||| y) (fun k k0 k1 z => ((hor k k0 k1).mp z).elim (hP k k0 k1) (fun z => Or.inr (sound k k0 k1 ((q2.b k0 k1).mp z)))) ((hor d d0 (by omega)).mpr (Or.inl hPd)) (fun k k0 k1 z => (hor k k0 k1).mpr (Or.inr z)) (fun k k0 k1 z => by
          obtain ⟨a, j, j0, j1, j2, j3⟩ := (q2.b k0 k1).mp z
          exact ⟨a, j, j0, j1, j2, (hor j j0 j1).mpr (Or.inl j3)⟩) (by omega) (by omega) (by omega)
        refine ⟨z, ?_, r2⟩
        rw [← r1]
        conv => lhs; unfold V_usersOf_L11
        simp (disch := omega) only [l0, l1, l2, l3, l4, l5, l6, l7, l8, l10, l12, l16, l20, l24, l26, l40, l64, l80, l100, l255, l256, l288, l312, l400, l992, l1940, l24980, l25240, xI, xL, xR, zI_neg, zI_add, zI_sub, zI_mul, zI_le, zI_lt, zI_eq, zI_in, zI_nat, Option.bind_some, lt9, hq, Int.add_zero, Int.sub_self, true_or, or_true, true_and, and_true, false_or, or_false, Int.cast_ofNat_Int, ↓reduceIte, q1, if_pos, if_neg]
        rw [if_neg (by rw [← l0]; exact hf)]
        rfl
theorem eV_usersOf {σ : hT} {v : Int → Int} {g : Nat} (hC : CA σ v g) (hw : wf v) {d : Int} (d0 : 0 ≤ d) (d1 : d < v 16) {n : Nat} (hn : 25 ≤ n) (f : Int32) (hf : f ≠ 0) : ∃ y, V_usersOf n σ (zI d) f = some y ∧ bt y (fun k => tcU v d k) := by
  have h16 := hw.1
  unfold V_usersOf lt9
  have hb : bt (V_bit (zI d)) (fun k => k = d) := fun k hk => bit_bv d0 (by omega) k hk
  have h0 : ∀ k, 0 ≤ k → k < 32 → ¬ bb (0 : Int32) k = true := fun k k0 k1 z => (bt_0.b k0 k1).mp z
  exact eV_uO_L hC hw d0 d1 hn _ (fun _ _ _ _ _ => rfl) (zI d) f hf n 0 0 (V_bit (zI d)) (fun k k0 k1 z => Or.inl ((hb.b k0 k1).mp z)) ((hb.b d0 (by omega)).mpr rfl) (fun k k0 k1 z => absurd z (h0 k k0 k1)) (fun k k0 k1 z => absurd z (h0 k k0 k1)) (by omega) (by omega) (by omega)
theorem eV_usersOf0 {σ : hT} {v : Int → Int} {g : Nat} (hC : CA σ v g) (hw : wf v) {d : Int} (d0 : 0 ≤ d) (d1 : d < v 16) {n : Nat} (hn : 25 ≤ n) : ∃ y, V_usersOf n σ (zI d) 0 = some y ∧ bt y (fun k => k < v 16 ∧ us v k d = true) := by
  have h16 := hw.1
  have hb : bt (V_bit (zI d)) (fun k => k = d) := fun k hk => bit_bv d0 (by omega) k hk
  obtain ⟨y, q1, q2⟩ := eV_usersOfAny hC hw hb hn
  refine ⟨y, ?_, q2.w (fun k k0 k1 => ⟨fun ⟨a, j, j0, j1, j2, j3⟩ => ⟨a, j3 ▸ j2⟩, fun z => ⟨z.1, d, d0, by omega, z.2, rfl⟩⟩)⟩
  unfold V_usersOf lt9
  obtain ⟨n, rfl⟩ : ∃ k, n = k + 1 := ⟨n - 1, by omega⟩
  unfold V_usersOf_L11
  simp (disch := omega) only [l0, l1, l2, l3, l4, l5, l6, l7, l8, l10, l12, l16, l20, l24, l26, l40, l64, l80, l100, l255, l256, l288, l312, l400, l992, l1940, l24980, l25240, xI, xL, xR, zI_neg, zI_add, zI_sub, zI_mul, zI_le, zI_lt, zI_eq, zI_in, zI_nat, Option.bind_some, lt9, hq, Int.add_zero, Int.sub_self, true_or, or_true, true_and, and_true, false_or, or_false, Int.cast_ofNat_Int, ↓reduceIte, q1, if_pos, if_neg]
theorem eV_dO_L {σ : hT} {v : Int → Int} {g : Nat} (hC : CA σ v g) (hw : wf v) (n : Nat) (kx : Int32 → Int32 → Option Int32) (K : Nat) : ∀ (i : Nat), (i : Int) ≤ v 16 → v 16 - i < K → V_drawingsOut_L4 n σ kx K (zI i) (zI (cntO v i)) = kx (zI (v 16)) (zI (cntO v (v 16).toNat)) := by
  have h16 := hw.1
  induction K with
  | zero => intro i _ h; omega
  | succ K ih =>
    intro i hi hK
    conv => lhs; unfold V_drawingsOut_L4
    by_cases hx : v 16 ≤ i
    · have e : v 16 = i := by omega
      simp (disch := omega) only [l0, l1, l2, l3, l4, l5, l6, l7, l8, l10, l12, l16, l20, l24, l26, l40, l64, l80, l100, l255, l256, l288, l312, l400, l992, l1940, l24980, l25240, xI, xL, xR, zI_neg, zI_add, zI_sub, zI_mul, zI_le, zI_lt, zI_eq, zI_in, zI_nat, Option.bind_some, lt9, hq, Int.add_zero, Int.sub_self, true_or, or_true, true_and, and_true, false_or, or_false, Int.cast_ofNat_Int, ↓reduceIte, hC.2.1, if_pos, if_neg]
      rw [e, Int.toNat_natCast]
    · have hD := hw.2.2.2.1 i (by omega) (by omega)
      have cD := hC.2.2.2.1 i (by omega) (by omega)
      have q1 := cD.1
      have q2 := cD.2.2.1
      have hb := hD.2.1
      have := ih (i + 1) (by omega) (by omega)
      rw [Int.toNat_natCast] at q1 q2
      simp only [cntO, Int.natCast_add, Int.cast_ofNat_Int] at this
      by_cases e : v (20 + 80 * i + 1) - 1 < 0
      · rw [if_pos e, Int.add_zero] at this
        simp (disch := omega) only [l0, l1, l2, l3, l4, l5, l6, l7, l8, l10, l12, l16, l20, l24, l26, l40, l64, l80, l100, l255, l256, l288, l312, l400, l992, l1940, l24980, l25240, xI, xL, xR, zI_neg, zI_add, zI_sub, zI_mul, zI_le, zI_lt, zI_eq, zI_in, zI_nat, Option.bind_some, lt9, hq, Int.add_zero, Int.sub_self, true_or, or_true, true_and, and_true, false_or, or_false, Int.cast_ofNat_Int, ↓reduceIte, hC.2.1, Int.toNat_natCast, q1, q2, if_pos, if_neg]
        exact this
      · rw [if_neg e] at this
        simp (disch := omega) only [l0, l1, l2, l3, l4, l5, l6, l7, l8, l10, l12, l16, l20, l24, l26, l40, l64, l80, l100, l255, l256, l288, l312, l400, l992, l1940, l24980, l25240, xI, xL, xR, zI_neg, zI_add, zI_sub, zI_mul, zI_le, zI_lt, zI_eq, zI_in, zI_nat, Option.bind_some, lt9, hq, Int.add_zero, Int.sub_self, true_or, or_true, true_and, and_true, false_or, or_false, Int.cast_ofNat_Int, ↓reduceIte, hC.2.1, Int.toNat_natCast, q1, q2, if_pos, if_neg]
        exact this
theorem eV_drawingsOut {σ : hT} {v : Int → Int} {g : Nat} (hC : CA σ v g) (hw : wf v) {n : Nat} (hn : 25 ≤ n) : V_drawingsOut n σ = some (zI (cntO v (v 16).toNat)) := by
  have h16 := hw.1
  unfold V_drawingsOut lt9
  exact eV_dO_L hC hw n _ n 0 (by omega) (by omega)
theorem eV_bM_L {σ : hT} {v : Int → Int} {g : Nat} (hC : CA σ v g) (n : Nat) (kx : Int32 → Int32 → Option Int32) (K : Nat) : ∀ (i x : Int), 0 ≤ i → i ≤ 10 → 10 - i < K → ∃ y : Int, V_baselinesMade_L4 n σ kx K (zI i) (zI x) = kx (zI 10) (zI y) := by
  induction K with
  | zero => intro i x _ _ h; omega
  | succ K ih =>
    intro i x i0 i1 hK
    conv => enter [1, y]; lhs; unfold V_baselinesMade_L4
    by_cases hx : 10 ≤ i
    · obtain rfl : i = 10 := by omega
      exact ⟨x, by simp (disch := omega) only [l0, l1, l2, l3, l4, l5, l6, l7, l8, l10, l12, l16, l20, l24, l26, l40, l64, l80, l100, l255, l256, l288, l312, l400, l992, l1940, l24980, l25240, xI, xL, xR, zI_neg, zI_add, zI_sub, zI_mul, zI_le, zI_lt, zI_eq, zI_in, zI_nat, Option.bind_some, lt9, hq, Int.add_zero, Int.sub_self, true_or, or_true, true_and, and_true, false_or, or_false, Int.cast_ofNat_Int, ↓reduceIte, if_pos, if_neg]⟩
    · cases e : σ.2.2 10 0 i.toNat with
      | none =>
        obtain ⟨y, q⟩ := ih (i + 1) x (by omega) (by omega) (by omega)
        exact ⟨y, by simp (disch := omega) only [l0, l1, l2, l3, l4, l5, l6, l7, l8, l10, l12, l16, l20, l24, l26, l40, l64, l80, l100, l255, l256, l288, l312, l400, l992, l1940, l24980, l25240, xI, xL, xR, zI_neg, zI_add, zI_sub, zI_mul, zI_le, zI_lt, zI_eq, zI_in, zI_nat, Option.bind_some, lt9, hq, Int.add_zero, Int.sub_self, true_or, or_true, true_and, and_true, false_or, or_false, Int.cast_ofNat_Int, ↓reduceIte, e, if_pos, if_neg]; exact q⟩
      | some j =>
        obtain ⟨y, q⟩ := ih (i + 1) (x + 1) (by omega) (by omega) (by omega)
        exact ⟨y, by simp (disch := omega) only [l0, l1, l2, l3, l4, l5, l6, l7, l8, l10, l12, l16, l20, l24, l26, l40, l64, l80, l100, l255, l256, l288, l312, l400, l992, l1940, l24980, l25240, xI, xL, xR, zI_neg, zI_add, zI_sub, zI_mul, zI_le, zI_lt, zI_eq, zI_in, zI_nat, Option.bind_some, lt9, hq, Int.add_zero, Int.sub_self, true_or, or_true, true_and, and_true, false_or, or_false, Int.cast_ofNat_Int, ↓reduceIte, e, if_pos, if_neg]; exact q⟩
theorem eV_baselinesMade {σ : hT} {v : Int → Int} {g : Nat} (hC : CA σ v g) {n : Nat} (hn : 11 ≤ n) : ∃ y, V_baselinesMade n σ = some y := by
  unfold V_baselinesMade lt9
  obtain ⟨y, q⟩ := eV_bM_L hC n (fun (p1 : Int32) (p2 : Int32) => some p2) n 0 0 (by omega) (by omega) (by omega)
  exact ⟨zI y, q⟩
