theorem Cm.noc {ok : Prop} {c c' : Int} {f f' : (Int → Int) → Int → Int} {s s' : zT} {th acc : Int} {ok' : Prop} (hn : ¬ ok) (hn' : ¬ ok') (h : Cm ok c f s th acc s') : Cm ok' c' f' s th acc s' := by
  rcases h with ⟨p1, rfl, rfl, rfl⟩ | ⟨p1, p2, rfl, rfl, rfl⟩ | ⟨p1, p2, p3, p4, p5, rfl, rfl, rfl⟩ | ⟨p1, p2, p3, p4, rfl, rfl, rfl⟩
  · exact Or.inl ⟨p1, rfl, rfl, rfl⟩
  · exact Or.inr (Or.inl ⟨p1, Or.inl hn', rfl, rfl, rfl⟩)
  · exact absurd p2 hn
  · exact absurd p2 hn
theorem RefC.noc {ok ok' : Prop} {c c' : Int} {f f' : (Int → Int) → Int → Int} {s : zT} {σ : hT} {M : Option (Int32 × hT)} {ans ans' : Int → Int → Int} (hn : ¬ ok) (hn' : ¬ ok') (ha : ∀ th, ans th 0 = ans' th 0) (h : RefC ok c f s σ M ans) : RefC ok' c' f' s σ M ans' := by
  obtain ⟨th, acc, s', σ', a1, a2, a3⟩ := h
  refine ⟨th, acc, s', σ', a1.noc hn hn', ?_, a3⟩
  have : acc = 0 := by
    rcases a1 with ⟨p1, rfl, rfl, rfl⟩ | ⟨p1, p2, rfl, rfl, rfl⟩ | ⟨p1, p2, p3, p4, p5, rfl, rfl, rfl⟩ | ⟨p1, p2, p3, p4, rfl, rfl, rfl⟩
    · rfl
    · rfl
    · rfl
    · exact absurd p2 hn
  subst this
  rw [← ha]; exact a2
theorem RefC.pre {ok : Prop} {c : Int} {f : (Int → Int) → Int → Int} {s : zT} {σ σ1 : hT} {M : Option (Int32 × hT)} {ans : Int → Int → Int} (h0 : σ1.2 = σ.2) (h1 : ∀ g j, (g < 15 ∨ 19 < g ∧ g < 500 ∨ 600 ≤ g) → σ1.1 g j = σ.1 g j) (h : RefC ok c f s σ1 M ans) : RefC ok c f s σ M ans := by
  obtain ⟨th, acc, s', σ', a1, a2, a3, a4, a5, a6⟩ := h
  exact ⟨th, acc, s', σ', a1, a2, a3, a4.trans h0, fun g j hg => (a5 g j hg).trans (h1 g j hg), a6⟩
abbrev chkOk (v : Int → Int) (d p : Int) : Prop := cpOk v d p ∧ ¬ loopP v d ∧ ¬ lackP v (20 + 80 * d) ∧ v (20 + 80 * d) ≠ 12 ∧ allR v (v 16).toNat ≠ 100
def cosC (v : Int → Int) (d : Int) : Int := 2 + dcR (pcs v (20 + 80 * d) ((v (20 + 80 * d + 2) + 7) / 8).toNat)
theorem cosC_rng {v : Int → Int} {d : Int} (h : cw v (20 + 80 * d)) : 2 ≤ cosC v d ∧ cosC v d ≤ 10 := by
  have h1 := h.1
  have h2 := dcR_rng (pcs v (20 + 80 * d) ((v (20 + 80 * d + 2) + 7) / 8).toNat)
  rw [pcs_len] at h2
  unfold cosC
  omega
def fChk (d p : Int) (u : Int → Int) : Int → Int := uv (uv (uv (cpv (bl u (1940 + 80 * (12 * d + u (20 + 80 * d))) 80) (20 + 80 * d) (1940 + 80 * (12 * d + u (20 + 80 * d))) 80) (1940 + 80 * (12 * d + u (20 + 80 * d)) + 1) p) (20 + 80 * d) (u (20 + 80 * d) + 1)) (20 + 80 * d + 1) 0
theorem allR_add {v v' : Int → Int} {d : Int} (h0 : 0 ≤ d) (n : Nat) (hn : d < n) (hd : v' (20 + 80 * d) = v (20 + 80 * d) + 1) (he : ∀ e : Int, 0 ≤ e → e < n → e ≠ d → v' (20 + 80 * e) = v (20 + 80 * e)) : allR v' n = allR v n + 1 := by
  induction n with
  | zero => omega
  | succ n ih =>
    unfold allR
    by_cases e : d = n
    · subst e
      rw [hd, allR_c (v := v) (v' := v') n (fun e a b => he e a (by omega) (by omega))]; omega
    · rw [ih (by omega) (fun e a b c => he e a (by omega) c), he n (by omega) (by omega) (by omega)]; omega
theorem fChk_o {v : Int → Int} {d p k : Int} (hd : 0 ≤ d) (hd2 : d < 24) (h1 : k ≠ 20 + 80 * d) (h2 : k ≠ 20 + 80 * d + 1) (h3 : k < 1940 + 80 * (12 * d + v (20 + 80 * d)) ∨ 1940 + 80 * (12 * d + v (20 + 80 * d)) + 80 ≤ k) : fChk d p v k = v k := by
  dsimp only [fChk, uv, cpv, bl]
  repeat' split
  all_goals first | rfl | (exfalso; omega)
theorem fChk_0 {v : Int → Int} {d p : Int} : fChk d p v (20 + 80 * d) = v (20 + 80 * d) + 1 := by
  unfold fChk; rw [uv_n (by omega), uv_s]
theorem fChk_1 {v : Int → Int} {d p : Int} : fChk d p v (20 + 80 * d + 1) = 0 := by
  unfold fChk; rw [uv_s]
theorem fChk_r {v : Int → Int} {d p k : Int} (hd : 0 ≤ d) (hd2 : d < 24) (hm : 0 ≤ v (20 + 80 * d)) (hm2 : v (20 + 80 * d) < 12) (h0 : 0 ≤ k) (hk : k < 80) : fChk d p v (1940 + 80 * (12 * d + v (20 + 80 * d)) + k) = if k = 0 then 0 else if k = 1 then p else v (20 + 80 * d + k) := by
  dsimp only [fChk, uv, cpv, bl]
  repeat' split
  all_goals first | rfl | (exfalso; omega) | (congr 1; omega)
theorem wf_chk {v : Int → Int} {d p : Int} (hw : wf v) (hd : 0 ≤ d) (hd2 : d < v 16) (hp : 0 ≤ p ∧ p < 16) (hcw : cw v (20 + 80 * d)) (hl : ¬ lackP v (20 + 80 * d)) (h12 : v (20 + 80 * d) ≠ 12) (hR : allR v (v 16).toNat ≠ 100) : wf (fChk d p v) := by
  obtain ⟨g1, g2, g3, g4, g5, g6⟩ := hw
  have hD := g4 d hd hd2
  have hm := hD.1
  have e16 : fChk d p v 16 = v 16 := fChk_o hd (by omega) (by omega) (by omega) (by omega)
  have em : ∀ e, 0 ≤ e → e < v 16 → v (20 + 80 * e) ≤ fChk d p v (20 + 80 * e) := fun e a b => by
    by_cases he : e = d
    · subst he; rw [fChk_0]; omega
    · rw [fChk_o hd (by omega) (by omega) (by omega) (by omega)]; omega
  have eR : ∀ e r k : Int, 0 ≤ e → e < v 16 → 0 ≤ r → r < 12 → ¬ (e = d ∧ r = v (20 + 80 * d)) → 0 ≤ k → k < 80 → fChk d p v (1940 + 80 * (12 * e + r) + k) = v (1940 + 80 * (12 * e + r) + k) := fun e r k a b c d1 hx f1 f2 => fChk_o hd (by omega) (by omega) (by omega) (by
      by_cases he : e = d
      · subst he
        have : r ≠ v (20 + 80 * e) := fun z => hx ⟨rfl, z⟩
        omega
      · omega)
  refine ⟨by rw [e16]; exact g1, fun q q0 q1 => by rw [fChk_o hd (by omega) (by omega) (by omega) (by omega)]; exact g2 q q0 q1, by rw [fChk_o hd (by omega) (by omega) (by omega) (by omega)]; exact g3, fun e e0 e1 => ?_, ?_, fun b b0 b1 => wfB_c b0 (fun k k0 k1 => fChk_o hd (by omega) (by omega) (by omega) (by omega)) (g6 b b0 b1)⟩
  · rw [e16] at e1
    by_cases he : e = d
    · subst he
      obtain ⟨k1, k2, k3, k4⟩ := hD
      refine ⟨by rw [fChk_0]; omega, by rw [fChk_1]; omega, fun z => by rw [fChk_1] at z; omega, fun r r0 r1 => ?_⟩
      rw [fChk_0] at r1
      by_cases hr : r = v (20 + 80 * e)
      · subst hr
        have q := fun (k : Int) (a : 0 ≤ k) (b : k < 80) => fChk_r (v := v) (d := e) (p := p) (k := k) hd (by omega) (by omega) (by omega) a b
        have q0 := q 0 (by omega) (by omega)
        rw [Int.add_zero, if_pos rfl] at q0
        have q1 := q 1 (by omega) (by omega)
        rw [if_neg (by decide), if_pos rfl] at q1
        have q2 : ∀ k, 2 ≤ k → k < 80 → fChk e p v (1940 + 80 * (12 * e + v (20 + 80 * e)) + k) = v (20 + 80 * e + k) := fun k a b => by
          rw [q k (by omega) b, if_neg (by omega), if_neg (by omega)]
        refine ⟨by rw [q0]; omega, by rw [q1]; exact hp, cw_cp (by omega) q2 hcw, fun k k0 k1 => ?_⟩
        have h3 := hcw.2.1
        rw [q2 3 (by omega) (by omega)] at k1
        have e1 := q2 (4 + 2 * k) (by omega) (by omega)
        have e2 := q2 (4 + 2 * k + 1) (by omega) (by omega)
        rw [← Int.add_assoc, ← Int.add_assoc] at e1
        rw [← Int.add_assoc, ← Int.add_assoc, ← Int.add_assoc, ← Int.add_assoc] at e2
        rw [e1, e2]
        have hk := hcw.2.2.1 k k0 k1
        have h5 : ¬ v (20 + 80 * v (20 + 80 * e + 4 + 2 * k)) ≤ v (20 + 80 * e + 4 + 2 * k + 1) := fun z => hl ⟨k, k0, k1, z⟩
        have h6 := em _ hk.1 hk.2.1
        omega
      · obtain ⟨q1, q2, q3, q4⟩ := k4 r r0 (by omega)
        have j0 := eR e r 0 e0 e1 r0 (by omega) (fun z => hr z.2) (by omega) (by omega)
        rw [Int.add_zero] at j0
        exact ⟨by rw [j0]; exact q1, by rw [eR e r 1 e0 e1 r0 (by omega) (fun z => hr z.2) (by omega) (by omega)]; exact q2, cw_c (by omega) (fun k a b => eR e r k e0 e1 r0 (by omega) (fun z => hr z.2) (by omega) b) q3, fx_c em (fun k a b => eR e r k e0 e1 r0 (by omega) (fun z => hr z.2) (by omega) b) q3 q4⟩
    · exact wfD_c e0 (by omega) em (fun k a b => fChk_o hd (by omega) (by omega) (by omega) (by omega)) (fun r k r0 r1 k0 k1 => eR e r k e0 e1 r0 r1 (fun z => he z.1) k0 k1) (g4 e e0 e1)
  · rw [e16, allR_add (v := v) (v' := fChk d p v) (d := d) hd _ (by omega) fChk_0 (fun e a b c => fChk_o hd (by omega) (by omega) (by omega) (by omega))]
    omega
def whyK (v : Int → Int) (d : Int) (y1 y2 : Int) : Int := if y1 = 1 then 6 else if y2 = 1 then 7 else if v (20 + 80 * d) = 12 then 8 else if allR v (v 16).toNat = 100 then 8 else 0
def rM_checkIn (n : Nat) (a1 : Int32) (a2 : Int32) (σ27 : hT) (y26 : Int32) : Option (Int32 × hT) := if y26 = 0 then if (xI σ27 500 0 0) ≤ 0 then some ((-1), σ27) else some (0, σ27) else Option.bind (M_made σ27 a1) fun y30 => Option.bind (M_blank n σ27 (M_revisionAt a1 y30)) fun ⟨y33, σ34⟩ => Option.bind (M_copy n σ34 (M_drawingAt a1) (M_revisionAt a1 y30)) fun ⟨y37, σ38⟩ => if in9 ((M_revisionAt a1 y30) + 1) 25240 then lt9 (sI σ38 15 0 (((M_revisionAt a1 y30) + 1)).toNatClampNeg a2) fun σ40 => if in9 ((M_drawingAt a1) + 0) 25240 then if in9 ((M_drawingAt a1) + 0) 25240 then lt9 (sI σ40 15 0 (((M_drawingAt a1) + 0)).toNatClampNeg ((xI σ40 15 0 (((M_drawingAt a1) + 0)).toNatClampNeg) + 1)) fun σ47 => if in9 ((M_drawingAt a1) + 1) 25240 then lt9 (sI σ47 15 0 (((M_drawingAt a1) + 1)).toNatClampNeg 0) fun σ52 => Option.bind (M_close n σ52) fun ⟨y56, σ57⟩ => some (y30, σ57) else none else none else none else none
theorem dM_checkIn {n : Nat} {σ : hT} {a1 : Int32} {a2 : Int32} : M_checkIn n σ a1 a2 = Option.bind (M_whyNot σ a1 a2) fun y2 => lt9 (α := hT → Int32 → Int32 → Option (Int32 × hT)) (fun (σ4 : hT) (q5 : Int32) (q6 : Int32) => Option.bind (M_may σ4 q6 q5) (fun q9 => rM_checkIn n a1 a2 q9.2 q9.1)) fun x3 => if y2 = 0 then Option.bind (M_loops n σ a1) fun ⟨y9, σ10⟩ => Option.bind (M_lacksRevision n σ10 (M_drawingAt a1)) fun y13 => Option.bind (M_made σ10 a1) fun y15 => lt9 (α := Int32 → Option (Int32 × hT)) (fun (s17 : Int32) => Option.bind (M_ownChunks n σ10 (M_drawingAt a1)) fun y24 => x3 (σ10) (2 + y24) (M_least y9 6 (M_least y13 7 (M_least s17 8 0)))) fun x16 => if y15 = 12 then x16 1 else Option.bind (M_allRevisions n σ10) fun y20 => if y20 = 100 then x16 1 else x16 0 else x3 (σ) 2 y2 := rfl
theorem eM_checkIn {σ : hT} {s : zT} (hs : MSt σ s) (ho : okS s) {d p : Int} (hd : i32 d) (hp : i32 p) {n : Nat} (hn : 25241 ≤ n) :
    RefC (chkOk s.1 d p) (cosC s.1 d) (fChk d p) s σ (M_checkIn n σ (zI d) (zI p)) (fun th acc => if acc = 1 then s.1 (20 + 80 * d) else if th = 1 then 0 else -1) := by
  have h16 := ho.1.1
  have h5 := ho.1.2.2.2.2.1
  have hno : ∀ σ1 (th : Int), σ1.1 500 0 0 = zI th → (th = 0 ∨ th = 1) → ∃ σ2, rM_checkIn n (zI d) (zI p) σ1 (zI 0) = some (zI (if (0 : Int) = 1 then s.1 (20 + 80 * d) else if th = 1 then 0 else -1), σ2) ∧ σ2 = σ1 := by
    intro σ1 th h1 h2
    refine ⟨σ1, ?_, rfl⟩
    unfold rM_checkIn
    rcases h2 with rfl | rfl
    · simp (disch := omega) only [l0, l1, l2, l3, l4, l5, l6, l7, l8, l10, l12, l16, l20, l24, l26, l40, l64, l80, l100, l255, l256, l288, l312, l400, l992, l1940, l24980, l25240, xI, xL, xR, zI_neg, zI_add, zI_sub, zI_mul, zI_le, zI_lt, zI_eq, zI_in, zI_nat, Option.bind_some, lt9, hq, Int.add_zero, Int.sub_self, true_or, or_true, true_and, and_true, false_or, or_false, Int.cast_ofNat_Int, ↓reduceIte, h1, if_pos, if_neg]
    · simp (disch := omega) only [l0, l1, l2, l3, l4, l5, l6, l7, l8, l10, l12, l16, l20, l24, l26, l40, l64, l80, l100, l255, l256, l288, l312, l400, l992, l1940, l24980, l25240, xI, xL, xR, zI_neg, zI_add, zI_sub, zI_mul, zI_le, zI_lt, zI_eq, zI_in, zI_nat, Option.bind_some, lt9, hq, Int.add_zero, Int.sub_self, true_or, or_true, true_and, and_true, false_or, or_false, Int.cast_ofNat_Int, ↓reduceIte, h1, if_pos, if_neg]
  have hwc := whyC_rng (v := s.1) (d := d) (p := p)
  rw [dM_checkIn, eM_whyNot hs.1 ho.1 hd hp]
  by_cases hk0 : whyC s.1 d p = 0
  · have hk := whyC_ok.mpr hk0
    obtain ⟨c1, c2, c3, c4, c5, c6⟩ := cpOk_cw ho.1 hk
    have hD := (ho.1.2.2.2.1 d c1 c2)
    have hm := hD.1
    obtain ⟨σ1, y1, a1, a2, a3, a4, a5⟩ := eM_loops hs.1 ho.1 c1 c2 c5 (n := n) (by omega)
    obtain ⟨y2, b1, b2, b3⟩ := eM_lacksRevision a2 ho.1 (a := 20 + 80 * d) (by omega) (by omega) c5 (n := n) (by omega)
    have fq := frW a3 (by intro f z; simp only [p17] at z; omega)
    have hs1 : MSt σ1 s := ⟨a2, fun k x y => by rw [a3.2 16 0 (by decide)]; exact hs.2.1 k x y, by rw [a3.2 504 0 (by decide)]; exact hs.2.2.1, by rw [a3.2 505 0 (by decide)]; exact hs.2.2.2⟩
    have ec := eM_ownChunks a2 (a := 20 + 80 * d) (by omega) (by omega) c5.cb (n := n) (by omega)
    have eR := eM_allRevisions a2 ho.1 (n := n) (by omega)
    have hcr := cosC_rng c5
    have ecc : 2 + dcR (pcs s.1 (20 + 80 * d) ((s.1 (20 + 80 * d + 2) + 7) / 8).toNat) = cosC s.1 d := rfl
    have hok : chkOk s.1 d p ↔ whyK s.1 d y1 y2 = 0 := by
      unfold whyK chkOk
      constructor
      · rintro ⟨e1, e2, e3, e4, e5⟩
        rw [if_neg (fun z => e2 (a5.mp z)), if_neg (fun z => e3 (b3.mp z)), if_neg e4, if_neg e5]
      · intro h
        repeat' split at h
        all_goals first | omega | (rename_i z1 z2 z3 z4; exact ⟨hk, fun z => z1 (a5.mpr z), fun z => z2 (b3.mpr z), z3, z4⟩)
    have hwr : 0 ≤ whyK s.1 d y1 y2 ∧ whyK s.1 d y1 y2 ≤ 8 := by
      unfold whyK
      repeat' split
      all_goals omega
    have hM := Cm_ref (ok := chkOk s.1 d p) (c := cosC s.1 d) (f := fChk d p) hs1 ho (why := whyK s.1 d y1 y2) hwr.1 hwr.2 hok (by omega) (by omega) (rM_checkIn n (zI d) (zI p)) (fun th acc => if acc = 1 then s.1 (20 + 80 * d) else if th = 1 then 0 else -1) hno (fun hk2 h17 σ2 pl hM hf ht => by
      obtain ⟨e1, e2, e3, e4, e5⟩ := hk2
      have e16 : mv s.1 (cosC s.1 d) 16 = s.1 16 := mv_at (by decide) (by decide)
      have eall : ∀ k, k ≠ 17 → k ≠ 18 → mv s.1 (cosC s.1 d) k = s.1 k := fun k x y => mv_at x y
      have ed : mv s.1 (cosC s.1 d) (20 + 80 * d) = s.1 (20 + 80 * d) := mv_at (by omega) (by omega)
      have em := eM_made hM.1 c1 c3
      rw [ed] at em
      obtain ⟨σ3, r1, r2, r3⟩ := eM_blank hM.1 (a := 1940 + 80 * (12 * d + s.1 (20 + 80 * d))) (by omega) (by omega) (n := n) (by omega)
      obtain ⟨σ4, t1, t2, t3⟩ := eM_copy r2 (a := 20 + 80 * d) (t := 1940 + 80 * (12 * d + s.1 (20 + 80 * d))) (by omega) (by omega) (by omega) (by omega) (by omega) (n := n) (by omega)
      have n5 := mN_s (x := p) t2 (k := 1940 + 80 * (12 * d + s.1 (20 + 80 * d)) + 1) (by omega) _ rfl
      have n6 := mN_s (x := s.1 (20 + 80 * d) + 1) n5 (k := 20 + 80 * d) (by omega) _ rfl
      have n7 := mN_s (x := 0) n6 (k := 20 + 80 * d + 1) (by omega) _ rfl
      have ef : fChk d p (mv s.1 (cosC s.1 d)) = uv (uv (uv (cpv (bl (mv s.1 (cosC s.1 d)) (1940 + 80 * (12 * d + s.1 (20 + 80 * d))) 80) (20 + 80 * d) (1940 + 80 * (12 * d + s.1 (20 + 80 * d))) 80) (1940 + 80 * (12 * d + s.1 (20 + 80 * d)) + 1) p) (20 + 80 * d) (s.1 (20 + 80 * d) + 1)) (20 + 80 * d + 1) 0 := by unfold fChk; rw [ed]
      rw [← ef] at n7
      have hwf : wf (fChk d p (mv s.1 (cosC s.1 d))) := by
        refine wf_chk (wf_mv ho.1 (by omega) h17) c1 (by omega) c6 (cw_c (by omega) (fun k k0 k1 => mv_at (by omega) (by omega)) c5) ?_ (by rw [ed]; exact e4) (by rw [e16, allR_c _ (fun d a b => mv_at (by omega) (by omega))]; exact e5)
        rintro ⟨k, k0, k1, k2⟩
        have c53 := c5.2.1
        rw [mv_at (by omega) (by omega)] at k1
        rw [mv_at (k := 20 + 80 * d + 4 + 2 * k) (by omega) (by omega), mv_at (k := 20 + 80 * d + 4 + 2 * k + 1) (by omega) (by omega)] at k2
        have hkk := c5.2.2.1 k k0 k1
        rw [mv_at (by omega) (by omega)] at k2
        exact e3 ⟨k, k0, k1, k2⟩
      have g0 : (sI σ4 15 0 (1940 + 80 * (12 * d + s.1 (20 + 80 * d)) + 1).toNat (zI p)).1 15 0 (20 + 80 * d).toNat = zI (s.1 (20 + 80 * d)) := by
        rw [n5 (20 + 80 * d) (by omega) (by omega), uv_n (by omega)]
        dsimp only [cpv, bl]
        rw [if_neg (by omega), if_neg (by omega), ed]
      obtain ⟨σ5, q1, q2, q3, q4, q5⟩ := body_close hn hM n7 (((((r3.tr t3).s rfl).s rfl).s rfl)) hwf ht
      refine ⟨σ5, ?_, q2, q3, q4, q5⟩
      unfold rM_checkIn
      simp (disch := omega) only [l0, l1, l2, l3, l4, l5, l6, l7, l8, l10, l12, l16, l20, l24, l26, l40, l64, l80, l100, l255, l256, l288, l312, l400, l992, l1940, l24980, l25240, xI, xL, xR, zI_neg, zI_add, zI_sub, zI_mul, zI_le, zI_lt, zI_eq, zI_in, zI_nat, Option.bind_some, lt9, hq, Int.add_zero, Int.sub_self, true_or, or_true, true_and, and_true, false_or, or_false, Int.cast_ofNat_Int, ↓reduceIte, em, eM_revisionAt, eM_drawingAt, r1, t1, g0, if_pos, if_neg]
      rw [q1]
      rfl)
    refine RefC.pre fq.1 fq.2 (Eq.subst (motive := fun M => RefC _ _ _ s σ1 M _) ?_ hM)
    have e1 := a4
    rw [hk0]
    rcases a4 with rfl | rfl <;> rcases b2 with rfl | rfl <;> by_cases e4 : s.1 (20 + 80 * d) = 12 <;> by_cases e5 : allR s.1 (s.1 16).toNat = 100
    all_goals (unfold whyK; simp (disch := omega) only [l0, l1, l2, l3, l4, l5, l6, l7, l8, l10, l12, l16, l20, l24, l26, l40, l64, l80, l100, l255, l256, l288, l312, l400, l992, l1940, l24980, l25240, xI, xL, xR, zI_neg, zI_add, zI_sub, zI_mul, zI_le, zI_lt, zI_eq, zI_in, zI_nat, Option.bind_some, lt9, hq, Int.add_zero, Int.sub_self, true_or, or_true, true_and, and_true, false_or, or_false, Int.cast_ofNat_Int, ↓reduceIte, a1, eM_drawingAt, b1, eM_made a2, ec, eR, ecc, e4, e5, eM_least]; rfl)
  · refine RefC.noc (ok := False) (c := 2) (f := fun u => u) (ans := fun th acc => if acc = 1 then s.1 (20 + 80 * d) else if th = 1 then 0 else -1) (fun z => z) (fun z => hk0 (whyC_ok.mp z.1)) (fun th => rfl) ?_
    have hM := Cm_ref (ok := False) (c := 2) (f := fun u => u) hs ho (why := whyC s.1 d p) hwc.1 hwc.2 ⟨fun z => z.elim, fun z => hk0 z⟩ (by omega) (by omega) (rM_checkIn n (zI d) (zI p)) (fun th acc => if acc = 1 then s.1 (20 + 80 * d) else if th = 1 then 0 else -1) hno (fun z => z.elim)
    refine Eq.subst (motive := fun M => RefC _ _ _ s σ M _) ?_ hM
    simp (disch := omega) only [l0, l1, l2, l3, l4, l5, l6, l7, l8, l10, l12, l16, l20, l24, l26, l40, l64, l80, l100, l255, l256, l288, l312, l400, l992, l1940, l24980, l25240, xI, xL, xR, zI_neg, zI_add, zI_sub, zI_mul, zI_le, zI_lt, zI_eq, zI_in, zI_nat, Option.bind_some, lt9, hq, Int.add_zero, Int.sub_self, true_or, or_true, true_and, and_true, false_or, or_false, Int.cast_ofNat_Int, ↓reduceIte, hk0, if_pos, if_neg]
