abbrev rvA (d r : Int) : Int := 1940 + 80 * (12 * d + r)
def qLook (v : Int → Int) (d r k : Int) : Option Int := if isRv v d r ∧ 0 ≤ k then (if k < 4 then some (v (rvA d r + k)) else if k = 4 then some (dcR (pcs v (rvA d r) ((v (rvA d r + 2) + 7) / 8).toNat)) else if 8 ≤ k ∧ k - 8 < v (rvA d r + 2) then some (v (rvA d r + 16 + (k - 8))) else none) else none
theorem isRv_k {v : Int → Int} (hw : wf v) {d r : Int} (h : isRv v d r) : (0 ≤ d ∧ d < 24) ∧ (0 ≤ r ∧ r < 12) ∧ (0 ≤ v (rvA d r) ∧ v (rvA d r) ≤ 3) ∧ (0 ≤ v (rvA d r + 1) ∧ v (rvA d r + 1) < 16) ∧ cw v (rvA d r) ∧ fx v (rvA d r) := by
  have h16 := hw.1
  have hD := hw.2.2.2.1 d h.1 h.2.1
  have hm := hD.1
  have q := hD.2.2.2 r h.2.2.1 h.2.2.2
  obtain ⟨a, b, c, e⟩ := h
  exact ⟨⟨a, by omega⟩, ⟨c, by omega⟩, q.1, q.2.1, q.2.2.1, q.2.2.2⟩
theorem rvA_k {v : Int → Int} (hw : wf v) {d r : Int} (h : isRv v d r) : 0 ≤ rvA d r ∧ rvA d r + 80 ≤ 25240 := by
  obtain ⟨d0, r0, -⟩ := isRv_k hw h
  show 0 ≤ 1940 + 80 * (12 * d + r) ∧ 1940 + 80 * (12 * d + r) + 80 ≤ 25240
  omega
theorem RefQ.y {s : zT} {σ : hT} (hs : MSt σ s) {x : Int} {M : Option (Int32 × hT)} (h : M = some (zI x, sI σ 500 0 0 (zI 0))) : RefQ (some x) s σ M := ⟨_, h, MSt.r5 hs, fM.rf.i (by omega), by rw [rS]; rfl⟩
theorem RefQ.n {s : zT} {σ : hT} (hs : MSt σ s) {M : Option (Int32 × hT)} (h : M = some (zI 0, sI σ 500 0 0 (zI 1))) : RefQ none s σ M := ⟨_, h, MSt.r5 hs, fM.rf.i (by omega), by rw [rS]; rfl⟩
theorem ClsQ.y {s : zT} {g : Nat} {σ : hT} (hS : CaS σ s g) {x : Int} {V : oT} (h : V = some (some (zI x), σ)) : ClsQ (some x) s g σ V := ⟨σ, h, hS, fun _ _ _ => rfl⟩
theorem ClsQ.n {s : zT} {g : Nat} {σ : hT} (hS : CaS σ s g) {V : oT} (h : V = some (none, σ)) : ClsQ none s g σ V := ⟨σ, h, hS, fun _ _ _ => rfl⟩
theorem eM_look {σ : hT} {s : zT} (hs : MSt σ s) (ho : okS s) {d r k : Int} (hd : i32 d) (hr : i32 r) (hk : i32 k) {n : Nat} (hn : 9 ≤ n) : RefQ (qLook s.1 d r k) s σ (M_look n σ (zI d) (zI r) (zI k)) := by
  obtain ⟨k1, k2⟩ := hk
  have er := eM_isRevision hs.1 ho.1 hd.1 hd.2 hr.1 hr.2
  have hN := hs.1
  unfold M_look qLook
  rw [er]
  by_cases h : isRv s.1 d r
  · obtain ⟨d0, r0, h0, h1, hc, hf⟩ := isRv_k ho.1 h
    have hb := hc.1
    rw [if_pos h]
    have e500 : (sI σ 500 0 0 (zI 0)).1 500 0 0 = zI 0 := rS
    have e501 : (sI σ 500 0 0 (zI 1)).1 500 0 0 = zI 1 := rS
    have c15 : mN (sI σ 500 0 0 (zI 0)) s.1 := (MSt.r5 hs).1
    have eA : M_revisionAt (zI d) (zI r) = zI (rvA d r) := eM_revisionAt
    obtain ⟨a0, a1⟩ := rvA_k ho.1 h
    by_cases h2 : 0 ≤ k
    · rw [if_pos ⟨h, h2⟩]
      by_cases h3 : k < 4
      · rw [if_pos h3]
        refine RefQ.y hs ?_
        simp (disch := omega) only [l0, l1, l2, l3, l4, l5, l6, l7, l8, l10, l12, l16, l20, l24, l26, l40, l64, l80, l100, l255, l256, l288, l312, l400, l992, l1940, l24980, l25240, xI, xL, xR, zI_neg, zI_add, zI_sub, zI_mul, zI_le, zI_lt, zI_eq, zI_in, zI_nat, Option.bind_some, lt9, hq, Int.add_zero, Int.sub_self, true_or, or_true, true_and, and_true, false_or, or_false, Int.cast_ofNat_Int, ↓reduceIte, eA, e500, c15 _, if_pos, if_neg]
      · rw [if_neg h3]
        by_cases h4 : k = 4
        · rw [if_pos h4]
          refine RefQ.y hs ?_
          simp (disch := omega) only [l0, l1, l2, l3, l4, l5, l6, l7, l8, l10, l12, l16, l20, l24, l26, l40, l64, l80, l100, l255, l256, l288, l312, l400, l992, l1940, l24980, l25240, xI, xL, xR, zI_neg, zI_add, zI_sub, zI_mul, zI_le, zI_lt, zI_eq, zI_in, zI_nat, Option.bind_some, lt9, hq, Int.add_zero, Int.sub_self, true_or, or_true, true_and, and_true, false_or, or_false, Int.cast_ofNat_Int, ↓reduceIte, eA, e500, eM_ownChunks c15 a0 a1 hc.cb hn, if_pos, if_neg]
        · rw [if_neg h4]
          by_cases h5 : 8 ≤ k
          · by_cases h6 : k - 8 < s.1 (rvA d r + 2)
            · rw [if_pos ⟨h5, h6⟩]
              refine RefQ.y hs ?_
              simp (disch := omega) only [l0, l1, l2, l3, l4, l5, l6, l7, l8, l10, l12, l16, l20, l24, l26, l40, l64, l80, l100, l255, l256, l288, l312, l400, l992, l1940, l24980, l25240, xI, xL, xR, zI_neg, zI_add, zI_sub, zI_mul, zI_le, zI_lt, zI_eq, zI_in, zI_nat, Option.bind_some, lt9, hq, Int.add_zero, Int.sub_self, true_or, or_true, true_and, and_true, false_or, or_false, Int.cast_ofNat_Int, ↓reduceIte, eA, e500, c15 _, hN _, if_pos, if_neg]
              rw [show rvA d r + 16 + k - 8 = rvA d r + 16 + (k - 8) by omega]
            · rw [if_neg (fun z => h6 z.2)]
              refine RefQ.n hs ?_
              simp (disch := omega) only [l0, l1, l2, l3, l4, l5, l6, l7, l8, l10, l12, l16, l20, l24, l26, l40, l64, l80, l100, l255, l256, l288, l312, l400, l992, l1940, l24980, l25240, xI, xL, xR, zI_neg, zI_add, zI_sub, zI_mul, zI_le, zI_lt, zI_eq, zI_in, zI_nat, Option.bind_some, lt9, hq, Int.add_zero, Int.sub_self, true_or, or_true, true_and, and_true, false_or, or_false, Int.cast_ofNat_Int, ↓reduceIte, eA, e501, hN _, if_pos, if_neg]
          · rw [if_neg (fun z => h5 z.1)]
            refine RefQ.n hs ?_
            simp (disch := omega) only [l0, l1, l2, l3, l4, l5, l6, l7, l8, l10, l12, l16, l20, l24, l26, l40, l64, l80, l100, l255, l256, l288, l312, l400, l992, l1940, l24980, l25240, xI, xL, xR, zI_neg, zI_add, zI_sub, zI_mul, zI_le, zI_lt, zI_eq, zI_in, zI_nat, Option.bind_some, lt9, hq, Int.add_zero, Int.sub_self, true_or, or_true, true_and, and_true, false_or, or_false, Int.cast_ofNat_Int, ↓reduceIte, eA, e501, if_pos, if_neg]
    · rw [if_neg (fun z => h2 z.2)]
      refine RefQ.n hs ?_
      simp (disch := omega) only [l0, l1, l2, l3, l4, l5, l6, l7, l8, l10, l12, l16, l20, l24, l26, l40, l64, l80, l100, l255, l256, l288, l312, l400, l992, l1940, l24980, l25240, xI, xL, xR, zI_neg, zI_add, zI_sub, zI_mul, zI_le, zI_lt, zI_eq, zI_in, zI_nat, Option.bind_some, lt9, hq, Int.add_zero, Int.sub_self, true_or, or_true, true_and, and_true, false_or, or_false, Int.cast_ofNat_Int, ↓reduceIte, eA, e501, if_pos, if_neg]
  · rw [if_neg h, if_neg (fun z => h z.1)]
    refine RefQ.n hs ?_
    exact rfl
theorem CA.rv {σ : hT} {v : Int → Int} {g : Nat} (hC : CA σ v g) {d r : Int} (h : isRv v d r) : cRv σ v d r := (hC.2.2.2.1 d h.1 h.2.1).2.2.2.2 r h.2.2.1 h.2.2.2
theorem eV_byteOf {σ : hT} {c : Nat} {v : Int → Int} {a k : Int} (hct : ct σ c v a) (hc : cw v a) (hk : i32 k) : V_byteOf σ c (zI k) = some (if 8 ≤ k ∧ k - 8 < v (a + 2) then some (zI (v (a + 16 + (k - 8)))) else none, σ) := by
  obtain ⟨k1, k2⟩ := hk
  have hb := hc.1
  unfold V_byteOf
  by_cases h : 8 ≤ k
  · have e := eC_hasByte hct.1 hb (i := k - 8) ⟨by omega, by omega⟩
    by_cases h2 : k - 8 < v (a + 2)
    · have hr := hc.2.2.2 (k - 8) (by omega) h2
      have eb : byt v a (k - 8) = v (a + 16 + (k - 8)) := by unfold byt; rw [if_pos h2]
      have e2 := eC_byteAt (i := k - 8) hct.pb (by omega) (by omega) (by rw [eb]; exact hr.1) (by rw [eb]; exact hr.2)
      rw [eb] at e2
      rw [if_pos (show 8 ≤ k ∧ k - 8 < v (a + 2) from ⟨h, h2⟩)]
      simp (disch := omega) only [l0, l1, l2, l3, l4, l5, l6, l7, l8, l10, l12, l16, l20, l24, l26, l40, l64, l80, l100, l255, l256, l288, l312, l400, l992, l1940, l24980, l25240, xI, xL, xR, zI_neg, zI_add, zI_sub, zI_mul, zI_le, zI_lt, zI_eq, zI_in, zI_nat, Option.bind_some, lt9, hq, Int.add_zero, Int.sub_self, true_or, or_true, true_and, and_true, false_or, or_false, Int.cast_ofNat_Int, ↓reduceIte, e, e2, if_pos, if_neg]
    · rw [if_neg (show ¬ (8 ≤ k ∧ k - 8 < v (a + 2)) from fun z => h2 z.2)]
      simp (disch := omega) only [l0, l1, l2, l3, l4, l5, l6, l7, l8, l10, l12, l16, l20, l24, l26, l40, l64, l80, l100, l255, l256, l288, l312, l400, l992, l1940, l24980, l25240, xI, xL, xR, zI_neg, zI_add, zI_sub, zI_mul, zI_le, zI_lt, zI_eq, zI_in, zI_nat, Option.bind_some, lt9, hq, Int.add_zero, Int.sub_self, true_or, or_true, true_and, and_true, false_or, or_false, Int.cast_ofNat_Int, ↓reduceIte, e, if_pos, if_neg]
  · rw [if_neg (show ¬ (8 ≤ k ∧ k - 8 < v (a + 2)) from fun z => h z.1)]
    simp (disch := omega) only [l0, l1, l2, l3, l4, l5, l6, l7, l8, l10, l12, l16, l20, l24, l26, l40, l64, l80, l100, l255, l256, l288, l312, l400, l992, l1940, l24980, l25240, xI, xL, xR, zI_neg, zI_add, zI_sub, zI_mul, zI_le, zI_lt, zI_eq, zI_in, zI_nat, Option.bind_some, lt9, hq, Int.add_zero, Int.sub_self, true_or, or_true, true_and, and_true, false_or, or_false, Int.cast_ofNat_Int, ↓reduceIte, if_pos, if_neg]
theorem eV_look {σ : hT} {s : zT} {g : Nat} (hS : CaS σ s g) (ho : okS s) {d r k : Int} (hd : i32 d) (hr : i32 r) (hk : i32 k) {n : Nat} (hn : 993 ≤ n) : ClsQ (qLook s.1 d r k) s g σ (V_look n σ (zI d) (zI r) (zI k)) := by
  have hk' := hk
  obtain ⟨k1, k2⟩ := hk'
  unfold V_look qLook
  rw [eV_revisionAt hS.1 ho.1 hd hr]
  by_cases h : isRv s.1 d r
  · obtain ⟨d0, r0, h0, h1, hc, hf⟩ := isRv_k ho.1 h
    have cR := hS.1.rv h
    rw [if_pos h]
    have eb := eV_byteOf cR.2.2.2 hc hk
    by_cases h2 : 0 ≤ k
    · rw [if_pos ⟨h, h2⟩]
      by_cases h3 : k < 4
      · rw [if_pos h3]
        refine ClsQ.y hS ?_
        have : k = 0 ∨ k = 1 ∨ k = 2 ∨ k = 3 := by omega
        rcases this with rfl | rfl | rfl | rfl
        · simp (disch := omega) only [l0, l1, l2, l3, l4, l5, l6, l7, l8, l10, l12, l16, l20, l24, l26, l40, l64, l80, l100, l255, l256, l288, l312, l400, l992, l1940, l24980, l25240, xI, xL, xR, zI_neg, zI_add, zI_sub, zI_mul, zI_le, zI_lt, zI_eq, zI_in, zI_nat, Option.bind_some, lt9, hq, Int.add_zero, Int.sub_self, true_or, or_true, true_and, and_true, false_or, or_false, Int.cast_ofNat_Int, ↓reduceIte, cR.2.2.1, if_pos, if_neg]
        · simp (disch := omega) only [l0, l1, l2, l3, l4, l5, l6, l7, l8, l10, l12, l16, l20, l24, l26, l40, l64, l80, l100, l255, l256, l288, l312, l400, l992, l1940, l24980, l25240, xI, xL, xR, zI_neg, zI_add, zI_sub, zI_mul, zI_le, zI_lt, zI_eq, zI_in, zI_nat, Option.bind_some, lt9, hq, Int.add_zero, Int.sub_self, true_or, or_true, true_and, and_true, false_or, or_false, Int.cast_ofNat_Int, ↓reduceIte, cR.2.1, if_pos, if_neg]
        · simp (disch := omega) only [l0, l1, l2, l3, l4, l5, l6, l7, l8, l10, l12, l16, l20, l24, l26, l40, l64, l80, l100, l255, l256, l288, l312, l400, l992, l1940, l24980, l25240, xI, xL, xR, zI_neg, zI_add, zI_sub, zI_mul, zI_le, zI_lt, zI_eq, zI_in, zI_nat, Option.bind_some, lt9, hq, Int.add_zero, Int.sub_self, true_or, or_true, true_and, and_true, false_or, or_false, Int.cast_ofNat_Int, ↓reduceIte, cR.2.2.2.1, if_pos, if_neg]
        · simp (disch := omega) only [l0, l1, l2, l3, l4, l5, l6, l7, l8, l10, l12, l16, l20, l24, l26, l40, l64, l80, l100, l255, l256, l288, l312, l400, l992, l1940, l24980, l25240, xI, xL, xR, zI_neg, zI_add, zI_sub, zI_mul, zI_le, zI_lt, zI_eq, zI_in, zI_nat, Option.bind_some, lt9, hq, Int.add_zero, Int.sub_self, true_or, or_true, true_and, and_true, false_or, or_false, Int.cast_ofNat_Int, ↓reduceIte, cR.2.2.2.2.1, if_pos, if_neg]
      · rw [if_neg h3]
        by_cases h4 : k = 4
        · obtain ⟨σ1, q1, q2⟩ := eK_sizeOf hc cR.2.2.2 hn
          rw [if_pos h4]
          refine ⟨σ1, ?_, hS.fr q2.v (fun f a b => q2.2.2 f 0 (by omega) (by omega)), fun f j z => q2.2.2 f j (by omega) (by omega)⟩
          simp (disch := omega) only [l0, l1, l2, l3, l4, l5, l6, l7, l8, l10, l12, l16, l20, l24, l26, l40, l64, l80, l100, l255, l256, l288, l312, l400, l992, l1940, l24980, l25240, xI, xL, xR, zI_neg, zI_add, zI_sub, zI_mul, zI_le, zI_lt, zI_eq, zI_in, zI_nat, Option.bind_some, lt9, hq, Int.add_zero, Int.sub_self, true_or, or_true, true_and, and_true, false_or, or_false, Int.cast_ofNat_Int, ↓reduceIte, q1, if_pos, if_neg]
          rfl
        · rw [if_neg h4]
          by_cases h5 : 8 ≤ k ∧ k - 8 < s.1 (rvA d r + 2)
          · rw [if_pos h5]
            refine ClsQ.y hS ?_
            rw [if_pos h5] at eb
            simp (disch := omega) only [l0, l1, l2, l3, l4, l5, l6, l7, l8, l10, l12, l16, l20, l24, l26, l40, l64, l80, l100, l255, l256, l288, l312, l400, l992, l1940, l24980, l25240, xI, xL, xR, zI_neg, zI_add, zI_sub, zI_mul, zI_le, zI_lt, zI_eq, zI_in, zI_nat, Option.bind_some, lt9, hq, Int.add_zero, Int.sub_self, true_or, or_true, true_and, and_true, false_or, or_false, Int.cast_ofNat_Int, ↓reduceIte, eb, ex9, if_pos, if_neg]
          · rw [if_neg h5]
            refine ClsQ.n hS ?_
            rw [if_neg h5] at eb
            simp (disch := omega) only [l0, l1, l2, l3, l4, l5, l6, l7, l8, l10, l12, l16, l20, l24, l26, l40, l64, l80, l100, l255, l256, l288, l312, l400, l992, l1940, l24980, l25240, xI, xL, xR, zI_neg, zI_add, zI_sub, zI_mul, zI_le, zI_lt, zI_eq, zI_in, zI_nat, Option.bind_some, lt9, hq, Int.add_zero, Int.sub_self, true_or, or_true, true_and, and_true, false_or, or_false, Int.cast_ofNat_Int, ↓reduceIte, eb, ex9, if_pos, if_neg]
    · rw [if_neg (fun z => h2 z.2)]
      refine ClsQ.n hS ?_
      rw [if_neg (by omega)] at eb
      simp (disch := omega) only [l0, l1, l2, l3, l4, l5, l6, l7, l8, l10, l12, l16, l20, l24, l26, l40, l64, l80, l100, l255, l256, l288, l312, l400, l992, l1940, l24980, l25240, xI, xL, xR, zI_neg, zI_add, zI_sub, zI_mul, zI_le, zI_lt, zI_eq, zI_in, zI_nat, Option.bind_some, lt9, hq, Int.add_zero, Int.sub_self, true_or, or_true, true_and, and_true, false_or, or_false, Int.cast_ofNat_Int, ↓reduceIte, eb, ex9, if_pos, if_neg]
  · rw [if_neg h, if_neg (fun z => h z.1)]
    refine ClsQ.n hS ?_
    simp (disch := omega) only [l0, l1, l2, l3, l4, l5, l6, l7, l8, l10, l12, l16, l20, l24, l26, l40, l64, l80, l100, l255, l256, l288, l312, l400, l992, l1940, l24980, l25240, xI, xL, xR, zI_neg, zI_add, zI_sub, zI_mul, zI_le, zI_lt, zI_eq, zI_in, zI_nat, Option.bind_some, lt9, hq, Int.add_zero, Int.sub_self, true_or, or_true, true_and, and_true, false_or, or_false, Int.cast_ofNat_Int, ↓reduceIte, if_pos, if_neg]
def qRef (v : Int → Int) (d r i k : Int) : Option Int := if isRv v d r ∧ 0 ≤ i ∧ i < v (rvA d r + 3) ∧ 0 ≤ k ∧ k < 3 then (if k = 0 then some (v (rvA d r + 4 + 2 * i)) else if k = 1 then some (v (rvA d r + 4 + 2 * i + 1)) else some (resv v (rvA d r) i)) else none
theorem eM_reference {σ : hT} {s : zT} (hs : MSt σ s) (ho : okS s) {d r i k : Int} (hd : i32 d) (hr : i32 r) (hi : i32 i) (hk : i32 k) {n : Nat} (hn : 13 ≤ n) : RefQ (qRef s.1 d r i k) s σ (M_reference n σ (zI d) (zI r) (zI i) (zI k)) := by
  obtain ⟨k1, k2⟩ := hk
  obtain ⟨i1, i2⟩ := hi
  have er := eM_isRevision hs.1 ho.1 hd.1 hd.2 hr.1 hr.2
  have hN := hs.1
  unfold M_reference qRef
  rw [er]
  have e500 : (sI σ 500 0 0 (zI 0)).1 500 0 0 = zI 0 := rS
  have e501 : (sI σ 500 0 0 (zI 1)).1 500 0 0 = zI 1 := rS
  by_cases h : isRv s.1 d r
  · obtain ⟨d0, r0, h0, h1, hc, hf⟩ := isRv_k ho.1 h
    have hb := hc.2.1
    rw [if_pos h]
    have c15 : mN (sI σ 500 0 0 (zI 0)) s.1 := (MSt.r5 hs).1
    have eA : M_revisionAt (zI d) (zI r) = zI (rvA d r) := eM_revisionAt
    obtain ⟨a0, a1⟩ := rvA_k ho.1 h
    by_cases h2 : 0 ≤ i
    · by_cases h3 : i < s.1 (rvA d r + 3)
      · by_cases h4 : 0 ≤ k
        · by_cases h5 : k < 3
          · rw [if_pos ⟨h, h2, h3, h4, h5⟩]
            by_cases g0 : k = 0
            · rw [if_pos g0]
              refine RefQ.y hs ?_
              simp (disch := omega) only [l0, l1, l2, l3, l4, l5, l6, l7, l8, l10, l12, l16, l20, l24, l26, l40, l64, l80, l100, l255, l256, l288, l312, l400, l992, l1940, l24980, l25240, xI, xL, xR, zI_neg, zI_add, zI_sub, zI_mul, zI_le, zI_lt, zI_eq, zI_in, zI_nat, Option.bind_some, lt9, hq, Int.add_zero, Int.sub_self, true_or, or_true, true_and, and_true, false_or, or_false, Int.cast_ofNat_Int, ↓reduceIte, eA, e500, hN _, eM_refDrawing c15, if_pos, if_neg]
            · rw [if_neg g0]
              by_cases g1 : k = 1
              · rw [if_pos g1]
                refine RefQ.y hs ?_
                simp (disch := omega) only [l0, l1, l2, l3, l4, l5, l6, l7, l8, l10, l12, l16, l20, l24, l26, l40, l64, l80, l100, l255, l256, l288, l312, l400, l992, l1940, l24980, l25240, xI, xL, xR, zI_neg, zI_add, zI_sub, zI_mul, zI_le, zI_lt, zI_eq, zI_in, zI_nat, Option.bind_some, lt9, hq, Int.add_zero, Int.sub_self, true_or, or_true, true_and, and_true, false_or, or_false, Int.cast_ofNat_Int, ↓reduceIte, eA, e500, hN _, eM_refRevision c15, if_pos, if_neg]
              · rw [if_neg g1]
                refine RefQ.y hs ?_
                simp (disch := omega) only [l0, l1, l2, l3, l4, l5, l6, l7, l8, l10, l12, l16, l20, l24, l26, l40, l64, l80, l100, l255, l256, l288, l312, l400, l992, l1940, l24980, l25240, xI, xL, xR, zI_neg, zI_add, zI_sub, zI_mul, zI_le, zI_lt, zI_eq, zI_in, zI_nat, Option.bind_some, lt9, hq, Int.add_zero, Int.sub_self, true_or, or_true, true_and, and_true, false_or, or_false, Int.cast_ofNat_Int, ↓reduceIte, eA, e500, hN _, eM_resolved c15 ho.1 a0 a1 hc h2 h3 hn, if_pos, if_neg]
          · rw [if_neg (fun z => h5 z.2.2.2.2)]
            refine RefQ.n hs ?_
            simp (disch := omega) only [l0, l1, l2, l3, l4, l5, l6, l7, l8, l10, l12, l16, l20, l24, l26, l40, l64, l80, l100, l255, l256, l288, l312, l400, l992, l1940, l24980, l25240, xI, xL, xR, zI_neg, zI_add, zI_sub, zI_mul, zI_le, zI_lt, zI_eq, zI_in, zI_nat, Option.bind_some, lt9, hq, Int.add_zero, Int.sub_self, true_or, or_true, true_and, and_true, false_or, or_false, Int.cast_ofNat_Int, ↓reduceIte, eA, e501, hN _, if_pos, if_neg]
        · rw [if_neg (fun z => h4 z.2.2.2.1)]
          refine RefQ.n hs ?_
          simp (disch := omega) only [l0, l1, l2, l3, l4, l5, l6, l7, l8, l10, l12, l16, l20, l24, l26, l40, l64, l80, l100, l255, l256, l288, l312, l400, l992, l1940, l24980, l25240, xI, xL, xR, zI_neg, zI_add, zI_sub, zI_mul, zI_le, zI_lt, zI_eq, zI_in, zI_nat, Option.bind_some, lt9, hq, Int.add_zero, Int.sub_self, true_or, or_true, true_and, and_true, false_or, or_false, Int.cast_ofNat_Int, ↓reduceIte, eA, e501, hN _, if_pos, if_neg]
      · rw [if_neg (fun z => h3 z.2.2.1)]
        refine RefQ.n hs ?_
        simp (disch := omega) only [l0, l1, l2, l3, l4, l5, l6, l7, l8, l10, l12, l16, l20, l24, l26, l40, l64, l80, l100, l255, l256, l288, l312, l400, l992, l1940, l24980, l25240, xI, xL, xR, zI_neg, zI_add, zI_sub, zI_mul, zI_le, zI_lt, zI_eq, zI_in, zI_nat, Option.bind_some, lt9, hq, Int.add_zero, Int.sub_self, true_or, or_true, true_and, and_true, false_or, or_false, Int.cast_ofNat_Int, ↓reduceIte, eA, e501, hN _, if_pos, if_neg]
    · rw [if_neg (fun z => h2 z.2.1)]
      refine RefQ.n hs ?_
      simp (disch := omega) only [l0, l1, l2, l3, l4, l5, l6, l7, l8, l10, l12, l16, l20, l24, l26, l40, l64, l80, l100, l255, l256, l288, l312, l400, l992, l1940, l24980, l25240, xI, xL, xR, zI_neg, zI_add, zI_sub, zI_mul, zI_le, zI_lt, zI_eq, zI_in, zI_nat, Option.bind_some, lt9, hq, Int.add_zero, Int.sub_self, true_or, or_true, true_and, and_true, false_or, or_false, Int.cast_ofNat_Int, ↓reduceIte, eA, e501, hN _, if_pos, if_neg]
  · rw [if_neg h, if_neg (fun z => h z.1)]
    refine RefQ.n hs ?_
    exact rfl
theorem eV_reference {σ : hT} {s : zT} {g : Nat} (hS : CaS σ s g) (ho : okS s) {d r i k : Int} (hd : i32 d) (hr : i32 r) (hi : i32 i) (hk : i32 k) {n : Nat} (hn : 13 ≤ n) : ClsQ (qRef s.1 d r i k) s g σ (V_reference n σ (zI d) (zI r) (zI i) (zI k)) := by
  obtain ⟨k1, k2⟩ := hk
  have hi' := hi
  obtain ⟨i1, i2⟩ := hi'
  unfold V_reference qRef
  rw [eV_revisionAt hS.1 ho.1 hd hr]
  by_cases h : isRv s.1 d r
  · obtain ⟨d0, r0, h0, h1, hc, hf⟩ := isRv_k ho.1 h
    have hb := hc.2.1
    have cR := hS.1.rv h
    rw [if_pos h]
    have e1 := eC_hasReference cR.2.2.2.2.1 hb hi
    by_cases h2 : 0 ≤ i ∧ i < s.1 (rvA d r + 3)
    · have ek := cR.2.2.2.2.2.1 i h2.1 h2.2
      have ek1 := ek.1
      have ek2 := ek.2
      have ev := eV_resolved hS.1 ho.1 hc hf h2.1 h2.2 hn
      rw [if_pos h2] at e1
      by_cases g0 : k = 0
      · rw [if_pos ⟨h, h2.1, h2.2, by omega, by omega⟩, if_pos g0]
        refine ClsQ.y hS ?_
        simp (disch := omega) only [l0, l1, l2, l3, l4, l5, l6, l7, l8, l10, l12, l16, l20, l24, l26, l40, l64, l80, l100, l255, l256, l288, l312, l400, l992, l1940, l24980, l25240, xI, xL, xR, zI_neg, zI_add, zI_sub, zI_mul, zI_le, zI_lt, zI_eq, zI_in, zI_nat, Option.bind_some, lt9, hq, Int.add_zero, Int.sub_self, true_or, or_true, true_and, and_true, false_or, or_false, Int.cast_ofNat_Int, ↓reduceIte, e1, ek1, ek2, if_pos, if_neg]
      · by_cases g1 : k = 1
        · rw [if_pos ⟨h, h2.1, h2.2, by omega, by omega⟩, if_neg g0, if_pos g1]
          refine ClsQ.y hS ?_
          simp (disch := omega) only [l0, l1, l2, l3, l4, l5, l6, l7, l8, l10, l12, l16, l20, l24, l26, l40, l64, l80, l100, l255, l256, l288, l312, l400, l992, l1940, l24980, l25240, xI, xL, xR, zI_neg, zI_add, zI_sub, zI_mul, zI_le, zI_lt, zI_eq, zI_in, zI_nat, Option.bind_some, lt9, hq, Int.add_zero, Int.sub_self, true_or, or_true, true_and, and_true, false_or, or_false, Int.cast_ofNat_Int, ↓reduceIte, e1, ek1, ek2, if_pos, if_neg]
        · by_cases g2 : k = 2
          · rw [if_pos ⟨h, h2.1, h2.2, by omega, by omega⟩, if_neg g0, if_neg g1]
            refine ClsQ.y hS ?_
            simp (disch := omega) only [l0, l1, l2, l3, l4, l5, l6, l7, l8, l10, l12, l16, l20, l24, l26, l40, l64, l80, l100, l255, l256, l288, l312, l400, l992, l1940, l24980, l25240, xI, xL, xR, zI_neg, zI_add, zI_sub, zI_mul, zI_le, zI_lt, zI_eq, zI_in, zI_nat, Option.bind_some, lt9, hq, Int.add_zero, Int.sub_self, true_or, or_true, true_and, and_true, false_or, or_false, Int.cast_ofNat_Int, ↓reduceIte, e1, ek1, ek2, ev, if_pos, if_neg]
          · rw [if_neg (by omega)]
            refine ClsQ.n hS ?_
            simp (disch := omega) only [l0, l1, l2, l3, l4, l5, l6, l7, l8, l10, l12, l16, l20, l24, l26, l40, l64, l80, l100, l255, l256, l288, l312, l400, l992, l1940, l24980, l25240, xI, xL, xR, zI_neg, zI_add, zI_sub, zI_mul, zI_le, zI_lt, zI_eq, zI_in, zI_nat, Option.bind_some, lt9, hq, Int.add_zero, Int.sub_self, true_or, or_true, true_and, and_true, false_or, or_false, Int.cast_ofNat_Int, ↓reduceIte, e1, ek1, ek2, if_pos, if_neg]
    · rw [if_neg (fun z => h2 ⟨z.2.1, z.2.2.1⟩)]
      refine ClsQ.n hS ?_
      rw [if_neg h2] at e1
      simp (disch := omega) only [l0, l1, l2, l3, l4, l5, l6, l7, l8, l10, l12, l16, l20, l24, l26, l40, l64, l80, l100, l255, l256, l288, l312, l400, l992, l1940, l24980, l25240, xI, xL, xR, zI_neg, zI_add, zI_sub, zI_mul, zI_le, zI_lt, zI_eq, zI_in, zI_nat, Option.bind_some, lt9, hq, Int.add_zero, Int.sub_self, true_or, or_true, true_and, and_true, false_or, or_false, Int.cast_ofNat_Int, ↓reduceIte, e1, if_pos, if_neg]
  · rw [if_neg h, if_neg (fun z => h z.1)]
    refine ClsQ.n hS ?_
    simp (disch := omega) only [l0, l1, l2, l3, l4, l5, l6, l7, l8, l10, l12, l16, l20, l24, l26, l40, l64, l80, l100, l255, l256, l288, l312, l400, l992, l1940, l24980, l25240, xI, xL, xR, zI_neg, zI_add, zI_sub, zI_mul, zI_le, zI_lt, zI_eq, zI_in, zI_nat, Option.bind_some, lt9, hq, Int.add_zero, Int.sub_self, true_or, or_true, true_and, and_true, false_or, or_false, Int.cast_ofNat_Int, ↓reduceIte, if_pos, if_neg]
