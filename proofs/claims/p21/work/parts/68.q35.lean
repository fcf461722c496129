def gRsz (n j : Nat) (a3 : Int32) : Int32 × hT → oT := fun ⟨y29, σ30⟩ => if y29 = 0 then some (some 0, σ30) else Option.bind (C_setBytes n σ30 (3 * j) a3) fun ⟨y34, σ35⟩ => some (some 1, σ35)
theorem sV_resize {n : Nat} {σ : hT} {a1 a2 a3 : Int32} {o : Option Nat} (h1 : V_needPower σ = some (some (), σ)) (h2 : V_drawingAt σ a1 = some o) : V_resize n σ a1 a2 a3 = hq o (Option.bind (V_copyRefusal σ none a2) fun y10 => (fun X : Int32 → oT => if y10 = 0 then if a3 < 0 then X 7 else if a3 ≤ 64 then X y10 else X 7 else X y10) (fun q12 => Option.bind (V_allowed σ q12) g0)) (fun j8 => Option.bind (V_copyRefusal σ (some j8) a2) (fun y22 => (fun X : Int32 → oT => if y22 = 0 then if a3 < 0 then X 7 else if a3 ≤ 64 then X y22 else X 7 else X y22) (fun q21 => Option.bind (V_allowed σ q21) (gRsz n j8 a3)))) := by
  unfold V_resize
  rw [h1]
  show Option.bind (V_drawingAt σ a1) _ = _
  rw [h2]
  rfl
theorem fRsz_o {v : Int → Int} {d b k : Int} (hc : cw v (20 + 80 * d)) (hb : 0 ≤ b ∧ b ≤ 64) (h : ¬ (20 + 80 * d + 2 ≤ k ∧ k < 20 + 80 * d + 80)) : fRsz d b v k = v k := by
  have := hc.1
  unfold fRsz
  rw [uv_n (by omega), zr_n (by omega)]
theorem eV_resize {σ : hT} {s : zT} {g : Nat} (hS : CaS σ s g) (ho : okS s) {d p b : Int} (hd : i32 d) (hp : i32 p) (hb : i32 b) {n : Nat} (hn : 65 ≤ n) :
    ClsH (rszOk s.1 d p b) (fRsz d b) s g σ (V_resize n σ (zI d) (zI p) (zI b)) := by
  have hpw := hS.2.2.2.2.2.1
  obtain ⟨b1, b2⟩ := hb
  rcases ho.2.1 with hf | hf
  · rw [hf] at hpw
    have hk : rszOk s.1 d p b → 0 ≤ d ∧ d < s.1 16 ∧ 0 < s.1 (20 + 80 * d + 1) := fun z => cpO_k ho.1 z.1
    have hv : rszOk s.1 d p b → ∀ k, ¬ (20 + 80 * d + 2 ≤ k ∧ k < 20 + 80 * d + 80) → fRsz d b s.1 k = s.1 k := fun z k hk => fRsz_o (cpOk_cw ho.1 z.1).2.2.2.2.1 z.2 hk
    rw [sV_resize (nP0 hpw) (eV_drawingAt hS.1 ho.1 hd)]
    by_cases h : 0 ≤ d ∧ d < s.1 16
    · rw [if_pos h]
      rcases kV_copy hS.1 ho.1 hp h (fun y22 => (fun X : Int32 → oT => if y22 = 0 then if (zI b) < 0 then X 7 else if (zI b) ≤ 64 then X y22 else X 7 else X y22) (fun q21 => Option.bind (V_allowed σ q21) (gRsz n d.toNat (zI b)))) with ⟨hn, why, q1, q2⟩ | ⟨hcp, q1⟩
      · refine ClsH.mk hf hS ho (d := d) (why := why) (by omega) (by omega) ⟨fun z => absurd z.1 hn, fun z => by omega⟩ (gRsz n d.toNat (zI b)) (q1.trans (if_neg (zI_n0 (by omega)))) (fun σ1 => rfl) hk hv (fun z => absurd z.1 hn)
      · refine ClsH.mk hf hS ho (d := d) (why := if 0 ≤ b ∧ b ≤ 64 then 0 else 7) (by split <;> omega) (by split <;> omega) ⟨fun z => by rw [if_pos z.2], fun z => by split at z; exact ⟨hcp, by assumption⟩; omega⟩ (gRsz n d.toNat (zI b)) (q1.trans ?_) (fun σ1 => rfl) hk hv (fun z σ1 hc1 => ?_)
        · show (fun X : Int32 → oT => if zI 0 = 0 then if (zI b) < 0 then X 7 else if (zI b) ≤ 64 then X (zI 0) else X 7 else X (zI 0)) (fun q21 => Option.bind (V_allowed σ q21) (gRsz n d.toNat (zI b))) = (fun q21 => Option.bind (V_allowed σ q21) (gRsz n d.toNat (zI b))) _
          generalize (fun q21 => Option.bind (V_allowed σ q21) (gRsz n d.toNat (zI b))) = X
          dsimp only
          by_cases g2 : 0 ≤ b
          · by_cases g3 : b ≤ 64
            · simp (disch := omega) only [l0, l1, l2, l3, l4, l5, l6, l7, l8, l10, l12, l16, l20, l24, l26, l40, l64, l80, l100, l255, l256, l288, l312, l400, l992, l1940, l24980, l25240, xI, xL, xR, zI_neg, zI_add, zI_sub, zI_mul, zI_le, zI_lt, zI_eq, zI_in, zI_nat, Option.bind_some, lt9, hq, Int.add_zero, Int.sub_self, true_or, or_true, true_and, and_true, false_or, or_false, Int.cast_ofNat_Int, ↓reduceIte, if_pos, if_neg]
            · simp (disch := omega) only [l0, l1, l2, l3, l4, l5, l6, l7, l8, l10, l12, l16, l20, l24, l26, l40, l64, l80, l100, l255, l256, l288, l312, l400, l992, l1940, l24980, l25240, xI, xL, xR, zI_neg, zI_add, zI_sub, zI_mul, zI_le, zI_lt, zI_eq, zI_in, zI_nat, Option.bind_some, lt9, hq, Int.add_zero, Int.sub_self, true_or, or_true, true_and, and_true, false_or, or_false, Int.cast_ofNat_Int, ↓reduceIte, if_pos, if_neg]
          · simp (disch := omega) only [l0, l1, l2, l3, l4, l5, l6, l7, l8, l10, l12, l16, l20, l24, l26, l40, l64, l80, l100, l255, l256, l288, l312, l400, l992, l1940, l24980, l25240, xI, xL, xR, zI_neg, zI_add, zI_sub, zI_mul, zI_le, zI_lt, zI_eq, zI_in, zI_nat, Option.bind_some, lt9, hq, Int.add_zero, Int.sub_self, true_or, or_true, true_and, and_true, false_or, or_false, Int.cast_ofNat_Int, ↓reduceIte, if_pos, if_neg]
        · obtain ⟨σ2, q1, q2, q3⟩ := eC_setBytes_ct hc1 (cpOk_cw ho.1 hcp).2.2.2.2.1 z.2 hn
          refine ⟨σ2, ?_, q2, q3⟩
          show Option.bind (C_setBytes n σ1 (3 * d.toNat) (zI b)) _ = _
          rw [q1]; rfl
    · rw [if_neg h]
      obtain ⟨why, q1, q2⟩ := kV_copyN hS.1 ho.1 hp (fun y10 => (fun X : Int32 → oT => if y10 = 0 then if (zI b) < 0 then X 7 else if (zI b) ≤ 64 then X y10 else X 7 else X y10) (fun q12 => Option.bind (V_allowed σ q12) g0))
      exact ClsH.mk hf hS ho (d := d) (why := why) (by omega) (by omega) ⟨fun z => absurd ⟨z.1.2.1, z.1.2.2.1⟩ h, fun z => by omega⟩ g0 (q1.trans (if_neg (zI_n0 (by omega)))) (fun σ1 => rfl) hk hv (fun z => absurd ⟨z.1.2.1, z.1.2.2.1⟩ h)
  · rw [hf] at hpw
    exact ClsH.off hf hS (by unfold V_resize; rw [nP1 hpw]; rfl)
def gRef (j : Nat) (a3 a4 a5 : Int32) : Int32 × hT → oT := fun ⟨y27, σ28⟩ => if y27 = 0 then some (some 0, σ28) else Option.bind (C_setReference σ28 (3 * j) a3 a4 a5) fun ⟨y32, σ33⟩ => some (some 1, σ33)
theorem sV_ref {σ : hT} {a1 a2 a3 a4 a5 : Int32} {o : Option Nat} (h1 : V_needPower σ = some (some (), σ)) (h2 : V_drawingAt σ a1 = some o) : V_ref σ a1 a2 a3 a4 a5 = hq o (Option.bind (V_copyRefusal σ none a2) fun y10 => if y10 = 0 then none else Option.bind (V_allowed σ y10) g0) (fun j8 => Option.bind (V_copyRefusal σ (some j8) a2) (fun y19 => (fun X : Int32 → oT => if y19 = 0 then Option.bind (V_refRefusal σ (3 * j8) a3 a4 a5) fun y25 => X y25 else X y19) (fun q21 => Option.bind (V_allowed σ q21) (gRef j8 a3 a4 a5)))) := by
  unfold V_ref
  rw [h1]
  show Option.bind (V_drawingAt σ a1) _ = _
  rw [h2]
  rfl
theorem eV_refR {σ : hT} {v : Int → Int} {g : Nat} (hC : CA σ v g) (hw : wf v) {c : Nat} {m k t r : Int} (hm : σ.1 604 c 0 = zI m) (hm6 : 0 ≤ m ∧ m ≤ 6) (hk : i32 k) (ht : i32 t) (hr : i32 r) : ∃ why, V_refRefusal σ c (zI k) (zI t) (zI r) = some (zI why) ∧ 0 ≤ why ∧ why ≤ 8 ∧ (why = 0 ↔ 0 ≤ k ∧ k ≤ m ∧ k ≠ 6 ∧ 0 ≤ t ∧ t < v 16 ∧ -1 ≤ r) := by
  obtain ⟨k1, k2⟩ := hk
  obtain ⟨r1, r2⟩ := hr
  unfold V_refRefusal
  by_cases h1 : 0 ≤ k ∧ k ≤ m
  · by_cases h2 : 0 ≤ t ∧ t < v 16
    · by_cases h3 : -1 ≤ r
      · by_cases h4 : 6 ≤ k
        · refine ⟨8, ?_, by omega, by omega, by omega⟩
          simp (disch := omega) only [l0, l1, l2, l3, l4, l5, l6, l7, l8, l10, l12, l16, l20, l24, l26, l40, l64, l80, l100, l255, l256, l288, l312, l400, l992, l1940, l24980, l25240, xI, xL, xR, zI_neg, zI_add, zI_sub, zI_mul, zI_le, zI_lt, zI_eq, zI_in, zI_nat, Option.bind_some, lt9, hq, Int.add_zero, Int.sub_self, true_or, or_true, true_and, and_true, false_or, or_false, Int.cast_ofNat_Int, ↓reduceIte, hm, eV_drawingAt hC hw ht, if_pos h2, if_pos, if_neg]
        · refine ⟨0, ?_, by omega, by omega, by omega⟩
          simp (disch := omega) only [l0, l1, l2, l3, l4, l5, l6, l7, l8, l10, l12, l16, l20, l24, l26, l40, l64, l80, l100, l255, l256, l288, l312, l400, l992, l1940, l24980, l25240, xI, xL, xR, zI_neg, zI_add, zI_sub, zI_mul, zI_le, zI_lt, zI_eq, zI_in, zI_nat, Option.bind_some, lt9, hq, Int.add_zero, Int.sub_self, true_or, or_true, true_and, and_true, false_or, or_false, Int.cast_ofNat_Int, ↓reduceIte, hm, eV_drawingAt hC hw ht, if_pos h2, if_pos, if_neg]
      · refine ⟨7, ?_, by omega, by omega, by omega⟩
        simp (disch := omega) only [l0, l1, l2, l3, l4, l5, l6, l7, l8, l10, l12, l16, l20, l24, l26, l40, l64, l80, l100, l255, l256, l288, l312, l400, l992, l1940, l24980, l25240, xI, xL, xR, zI_neg, zI_add, zI_sub, zI_mul, zI_le, zI_lt, zI_eq, zI_in, zI_nat, Option.bind_some, lt9, hq, Int.add_zero, Int.sub_self, true_or, or_true, true_and, and_true, false_or, or_false, Int.cast_ofNat_Int, ↓reduceIte, hm, eV_drawingAt hC hw ht, if_pos h2, if_pos, if_neg]
    · refine ⟨7, ?_, by omega, by omega, by omega⟩
      simp (disch := omega) only [l0, l1, l2, l3, l4, l5, l6, l7, l8, l10, l12, l16, l20, l24, l26, l40, l64, l80, l100, l255, l256, l288, l312, l400, l992, l1940, l24980, l25240, xI, xL, xR, zI_neg, zI_add, zI_sub, zI_mul, zI_le, zI_lt, zI_eq, zI_in, zI_nat, Option.bind_some, lt9, hq, Int.add_zero, Int.sub_self, true_or, or_true, true_and, and_true, false_or, or_false, Int.cast_ofNat_Int, ↓reduceIte, hm, eV_drawingAt hC hw ht, if_neg h2, if_pos, if_neg]
  · refine ⟨7, ?_, by omega, by omega, by omega⟩
    by_cases h2 : k < 0
    · simp (disch := omega) only [l0, l1, l2, l3, l4, l5, l6, l7, l8, l10, l12, l16, l20, l24, l26, l40, l64, l80, l100, l255, l256, l288, l312, l400, l992, l1940, l24980, l25240, xI, xL, xR, zI_neg, zI_add, zI_sub, zI_mul, zI_le, zI_lt, zI_eq, zI_in, zI_nat, Option.bind_some, lt9, hq, Int.add_zero, Int.sub_self, true_or, or_true, true_and, and_true, false_or, or_false, Int.cast_ofNat_Int, ↓reduceIte, hm, if_pos, if_neg]
    · simp (disch := omega) only [l0, l1, l2, l3, l4, l5, l6, l7, l8, l10, l12, l16, l20, l24, l26, l40, l64, l80, l100, l255, l256, l288, l312, l400, l992, l1940, l24980, l25240, xI, xL, xR, zI_neg, zI_add, zI_sub, zI_mul, zI_le, zI_lt, zI_eq, zI_in, zI_nat, Option.bind_some, lt9, hq, Int.add_zero, Int.sub_self, true_or, or_true, true_and, and_true, false_or, or_false, Int.cast_ofNat_Int, ↓reduceIte, hm, if_pos, if_neg]
theorem fRef_o {v : Int → Int} {d k t r x : Int} (k0 : 0 ≤ k) (k6 : k < 6) (h : ¬ (20 + 80 * d + 2 ≤ x ∧ x < 20 + 80 * d + 80)) : fRef d k t r v x = v x := by
  unfold fRef
  rw [uv_n (by omega), uv_n (by omega), uv_n (by omega)]
theorem eV_ref {σ : hT} {s : zT} {g : Nat} (hS : CaS σ s g) (ho : okS s) {d p k t r : Int} (hd : i32 d) (hp : i32 p) (hk : i32 k) (ht : i32 t) (hr : i32 r) :
    ClsH (refOk s.1 d p k t r) (fRef d k t r) s g σ (V_ref σ (zI d) (zI p) (zI k) (zI t) (zI r)) := by
  have hpw := hS.2.2.2.2.2.1
  rcases ho.2.1 with hf | hf
  · rw [hf] at hpw
    have k6 : refOk s.1 d p k t r → 0 ≤ k ∧ k < 6 := fun z => by have := (cpOk_cw ho.1 z.1).2.2.2.2.1.2.1; have := z.2; omega
    have hk' : refOk s.1 d p k t r → 0 ≤ d ∧ d < s.1 16 ∧ 0 < s.1 (20 + 80 * d + 1) := fun z => cpO_k ho.1 z.1
    have hv : refOk s.1 d p k t r → ∀ x, ¬ (20 + 80 * d + 2 ≤ x ∧ x < 20 + 80 * d + 80) → fRef d k t r s.1 x = s.1 x := fun z x hk => fRef_o (k6 z).1 (k6 z).2 hk
    rw [sV_ref (nP0 hpw) (eV_drawingAt hS.1 ho.1 hd)]
    by_cases h : 0 ≤ d ∧ d < s.1 16
    · rw [if_pos h]
      have cD := hS.1.2.2.2.1 d h.1 h.2
      rcases kV_copy hS.1 ho.1 hp h (fun y19 => (fun X : Int32 → oT => if y19 = 0 then Option.bind (V_refRefusal σ (3 * d.toNat) (zI k) (zI t) (zI r)) fun y25 => X y25 else X y19) (fun q21 => Option.bind (V_allowed σ q21) (gRef d.toNat (zI k) (zI t) (zI r)))) with ⟨hn, why, q1, q2⟩ | ⟨hcp, q1⟩
      · refine ClsH.mk hf hS ho (d := d) (why := why) (by omega) (by omega) ⟨fun z => absurd z.1 hn, fun z => by omega⟩ (gRef d.toNat (zI k) (zI t) (zI r)) (q1.trans (if_neg (zI_n0 (by omega)))) (fun σ1 => rfl) hk' hv (fun z => absurd z.1 hn)
      · have hcw := (cpOk_cw ho.1 hcp).2.2.2.2.1
        have hct := cD.2.2.2.1.1 (cpOk_cw ho.1 hcp).2.2.2.1
        obtain ⟨why, w1, w2, w3, w4⟩ := eV_refR hS.1 ho.1 hct.2.1 hcw.2.1 hk ht hr
        refine ClsH.mk hf hS ho (d := d) (why := why) w2 w3 ⟨fun z => w4.mpr z.2, fun z => ⟨hcp, w4.mp z⟩⟩ (gRef d.toNat (zI k) (zI t) (zI r)) (q1.trans ?_) (fun σ1 => rfl) hk' hv (fun z σ1 hc1 => ?_)
        · show (if zI 0 = 0 then Option.bind (V_refRefusal σ (3 * d.toNat) (zI k) (zI t) (zI r)) _ else _) = _
          rw [if_pos (show zI 0 = 0 from rfl), w1]; rfl
        · obtain ⟨σ2, q1, q2, q3⟩ := eC_setReference_ct (t := t) (r := r) hc1 hcw z.2.1 z.2.2.1 (k6 z).2
          refine ⟨σ2, ?_, q2, q3⟩
          show Option.bind (C_setReference σ1 (3 * d.toNat) (zI k) (zI t) (zI r)) _ = _
          rw [q1]; rfl
    · rw [if_neg h]
      obtain ⟨why, q1, q2⟩ := kV_copyN hS.1 ho.1 hp (fun y10 => if y10 = 0 then none else Option.bind (V_allowed σ y10) g0)
      exact ClsH.mk hf hS ho (d := d) (why := why) (by omega) (by omega) ⟨fun z => absurd ⟨z.1.2.1, z.1.2.2.1⟩ h, fun z => by omega⟩ g0 (q1.trans (if_neg (zI_n0 (by omega)))) (fun σ1 => rfl) hk' hv (fun z => absurd ⟨z.1.2.1, z.1.2.2.1⟩ h)
  · rw [hf] at hpw
    exact ClsH.off hf hS (by unfold V_ref; rw [nP1 hpw]; rfl)
def gDrp (n j : Nat) (a3 : Int32) : Int32 × hT → oT := fun ⟨y27, σ28⟩ => if y27 = 0 then some (some 0, σ28) else Option.bind (C_removeReference n σ28 (3 * j) a3) fun ⟨y32, σ33⟩ => some (some 1, σ33)
theorem sV_drop {n : Nat} {σ : hT} {a1 a2 a3 : Int32} {o : Option Nat} (h1 : V_needPower σ = some (some (), σ)) (h2 : V_drawingAt σ a1 = some o) : V_drop n σ a1 a2 a3 = hq o (Option.bind (V_copyRefusal σ none a2) fun y10 => if y10 = 0 then none else Option.bind (V_allowed σ y10) g0) (fun j8 => Option.bind (V_copyRefusal σ (some j8) a2) (fun y19 => (fun X : Int32 → oT => if y19 = 0 then if (C_hasReference σ (3 * j8) a3) = 0 then X 7 else X y19 else X y19) (fun q21 => Option.bind (V_allowed σ q21) (gDrp n j8 a3)))) := by
  unfold V_drop
  rw [h1]
  show Option.bind (V_drawingAt σ a1) _ = _
  rw [h2]
  rfl
theorem fDrp_o {v : Int → Int} {d k x : Int} (hc : cw v (20 + 80 * d)) (k0 : 0 ≤ k) (h : ¬ (20 + 80 * d + 2 ≤ x ∧ x < 20 + 80 * d + 80)) : fDrp d k v x = v x := by
  have := hc.2.1
  unfold fDrp
  rw [sh2_n (by omega), uv_n (by omega)]
theorem eV_drop {σ : hT} {s : zT} {g : Nat} (hS : CaS σ s g) (ho : okS s) {d p k : Int} (hd : i32 d) (hp : i32 p) (hk : i32 k) {n : Nat} (hn : 9 ≤ n) :
    ClsH (drpOk s.1 d p k) (fDrp d k) s g σ (V_drop n σ (zI d) (zI p) (zI k)) := by
  have hpw := hS.2.2.2.2.2.1
  rcases ho.2.1 with hf | hf
  · rw [hf] at hpw
    have hk' : drpOk s.1 d p k → 0 ≤ d ∧ d < s.1 16 ∧ 0 < s.1 (20 + 80 * d + 1) := fun z => cpO_k ho.1 z.1
    have hv : drpOk s.1 d p k → ∀ x, ¬ (20 + 80 * d + 2 ≤ x ∧ x < 20 + 80 * d + 80) → fDrp d k s.1 x = s.1 x := fun z x hk => fDrp_o (cpOk_cw ho.1 z.1).2.2.2.2.1 z.2.1 hk
    rw [sV_drop (nP0 hpw) (eV_drawingAt hS.1 ho.1 hd)]
    by_cases h : 0 ≤ d ∧ d < s.1 16
    · rw [if_pos h]
      have cD := hS.1.2.2.2.1 d h.1 h.2
      rcases kV_copy hS.1 ho.1 hp h (fun y19 => (fun X : Int32 → oT => if y19 = 0 then if (C_hasReference σ (3 * d.toNat) (zI k)) = 0 then X 7 else X y19 else X y19) (fun q21 => Option.bind (V_allowed σ q21) (gDrp n d.toNat (zI k)))) with ⟨hn, why, q1, q2⟩ | ⟨hcp, q1⟩
      · refine ClsH.mk hf hS ho (d := d) (why := why) (by omega) (by omega) ⟨fun z => absurd z.1 hn, fun z => by omega⟩ (gDrp n d.toNat (zI k)) (q1.trans (if_neg (zI_n0 (by omega)))) (fun σ1 => rfl) hk' hv (fun z => absurd z.1 hn)
      · have hcw := (cpOk_cw ho.1 hcp).2.2.2.2.1
        have hct := cD.2.2.2.1.1 (cpOk_cw ho.1 hcp).2.2.2.1
        have e9 := eC_hasReference hct.2.1 hcw.2.1 hk
        refine ClsH.mk hf hS ho (d := d) (why := if 0 ≤ k ∧ k < s.1 (20 + 80 * d + 3) then 0 else 7) (by split <;> omega) (by split <;> omega) ⟨fun z => by rw [if_pos z.2], fun z => by split at z; exact ⟨hcp, by assumption⟩; omega⟩ (gDrp n d.toNat (zI k)) (q1.trans ?_) (fun σ1 => rfl) hk' hv (fun z σ1 hc1 => ?_)
        · show (fun X : Int32 → oT => if zI 0 = 0 then if (C_hasReference σ (3 * d.toNat) (zI k)) = 0 then X 7 else X (zI 0) else X (zI 0)) (fun q21 => Option.bind (V_allowed σ q21) (gDrp n d.toNat (zI k))) = (fun q21 => Option.bind (V_allowed σ q21) (gDrp n d.toNat (zI k))) _
          generalize (fun q21 => Option.bind (V_allowed σ q21) (gDrp n d.toNat (zI k))) = X
          dsimp only
          by_cases g2 : 0 ≤ k ∧ k < s.1 (20 + 80 * d + 3)
          · simp (disch := omega) only [l0, l1, l2, l3, l4, l5, l6, l7, l8, l10, l12, l16, l20, l24, l26, l40, l64, l80, l100, l255, l256, l288, l312, l400, l992, l1940, l24980, l25240, xI, xL, xR, zI_neg, zI_add, zI_sub, zI_mul, zI_le, zI_lt, zI_eq, zI_in, zI_nat, Option.bind_some, lt9, hq, Int.add_zero, Int.sub_self, true_or, or_true, true_and, and_true, false_or, or_false, Int.cast_ofNat_Int, ↓reduceIte, e9, if_pos, if_neg]
          · simp (disch := omega) only [l0, l1, l2, l3, l4, l5, l6, l7, l8, l10, l12, l16, l20, l24, l26, l40, l64, l80, l100, l255, l256, l288, l312, l400, l992, l1940, l24980, l25240, xI, xL, xR, zI_neg, zI_add, zI_sub, zI_mul, zI_le, zI_lt, zI_eq, zI_in, zI_nat, Option.bind_some, lt9, hq, Int.add_zero, Int.sub_self, true_or, or_true, true_and, and_true, false_or, or_false, Int.cast_ofNat_Int, ↓reduceIte, e9, if_pos, if_neg]
        · obtain ⟨σ2, q1, q2, q3⟩ := eC_removeReference_ct hc1 hcw z.2.1 z.2.2 hn
          refine ⟨σ2, ?_, q2, q3⟩
          show Option.bind (C_removeReference n σ1 (3 * d.toNat) (zI k)) _ = _
          rw [q1]; rfl
    · rw [if_neg h]
      obtain ⟨why, q1, q2⟩ := kV_copyN hS.1 ho.1 hp (fun y10 => if y10 = 0 then none else Option.bind (V_allowed σ y10) g0)
      exact ClsH.mk hf hS ho (d := d) (why := why) (by omega) (by omega) ⟨fun z => absurd ⟨z.1.2.1, z.1.2.2.1⟩ h, fun z => by omega⟩ g0 (q1.trans (if_neg (zI_n0 (by omega)))) (fun σ1 => rfl) hk' hv (fun z => absurd ⟨z.1.2.1, z.1.2.2.1⟩ h)
  · rw [hf] at hpw
    exact ClsH.off hf hS (by unfold V_drop; rw [nP1 hpw]; rfl)
