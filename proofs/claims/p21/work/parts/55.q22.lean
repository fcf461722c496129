def fBas (b : Int) (c : Int → Int) (u : Int → Int) : Int → Int := fun x => if x = 24980 + 26 * b then 1 else if x = 24980 + 26 * b + 1 then cntC c 24 else if 24980 + 26 * b + 2 ≤ x ∧ x < 24980 + 26 * b + 26 then c (x - (24980 + 26 * b + 2)) + 1 else u x
def wr1 (c : Int → Int) (u : Int → Int) (lo i : Int) : Int → Int := fun x => if lo ≤ x ∧ x < lo + i then c (x - lo) + 1 else u x
theorem eM_bas_L247 {n : Nat} {c : Int → Int} {a : Int} (ha : 0 ≤ a) (ha2 : a + 26 ≤ 25240) (hr : ∀ e, 0 ≤ e → e < 24 → -1 ≤ c e ∧ c e < 12) (u : Int → Int) (x1 x2 x3 x4 x5 : Int32) (kx : hT → Int32 → Int32 → Int32 → Int32 → Int32 → Int32 → Int32 → Option (Int32 × hT)) (K : Nat) : ∀ (σ : hT) (i : Nat), mN σ (wr1 c u (a + 2) i) → cmR σ c → i ≤ 24 → 24 - i < K →
    ∃ σ', M_baseline_L247 n kx K σ (zI i) (zI a) x1 x2 x3 x4 x5 = kx σ' (zI 24) (zI a) x1 x2 x3 x4 x5 ∧ mN σ' (wr1 c u (a + 2) 24) ∧ fr (fun f => f = 15) σ σ' := by
  induction K with
  | zero => intro σ i _ _ _ h; omega
  | succ K ih =>
    intro σ i hN hc hi hK
    by_cases hx : 24 ≤ i
    · obtain rfl : i = 24 := by omega
      refine ⟨σ, ?_, hN, fr.rf⟩
      unfold M_baseline_L247
      simp (disch := omega) only [l0, l1, l2, l3, l4, l5, l6, l7, l8, l10, l12, l16, l20, l24, l26, l40, l64, l80, l100, l255, l256, l288, l312, l400, l992, l1940, l24980, l25240, xI, xL, xR, zI_neg, zI_add, zI_sub, zI_mul, zI_le, zI_lt, zI_eq, zI_in, zI_nat, Option.bind_some, lt9, hq, Int.add_zero, Int.sub_self, true_or, or_true, true_and, and_true, false_or, or_false, Int.cast_ofNat_Int, ↓reduceIte, if_pos, if_neg]
    · have h1 := hc i (by omega) (by omega)
      have h2 := hr i (by omega) (by omega)
      simp only [Int.toNat_natCast] at h1
      have st : M_baseline_L247 n kx (K + 1) σ (zI i) (zI a) x1 x2 x3 x4 x5 = M_baseline_L247 n kx K (sI σ 15 0 (a + 2 + i).toNat (zI (c i + 1))) (zI ((i + 1 : Nat) : Int)) (zI a) x1 x2 x3 x4 x5 := by
        conv => lhs; unfold M_baseline_L247
        simp (disch := omega) only [l0, l1, l2, l3, l4, l5, l6, l7, l8, l10, l12, l16, l20, l24, l26, l40, l64, l80, l100, l255, l256, l288, l312, l400, l992, l1940, l24980, l25240, xI, xL, xR, zI_neg, zI_add, zI_sub, zI_mul, zI_le, zI_lt, zI_eq, zI_in, zI_nat, Option.bind_some, lt9, hq, Int.add_zero, Int.sub_self, true_or, or_true, true_and, and_true, false_or, or_false, Int.cast_ofNat_Int, ↓reduceIte, h1, Int.toNat_natCast, if_pos, if_neg]
        rfl
      have e : wr1 c u (a + 2) ((i + 1 : Nat) : Int) = uv (wr1 c u (a + 2) i) (a + 2 + i) (c i + 1) := by
        funext x
        dsimp only [wr1, uv]
        repeat' split
        all_goals first | rfl | (exfalso; omega) | (congr 2; omega)
      obtain ⟨σ', q1, q2, q3⟩ := ih (sI σ 15 0 (a + 2 + i).toNat (zI (c i + 1))) (i + 1) (by rw [e]; exact mN_s hN (by omega) _ rfl) (cmR_o hc (by decide)) (by omega) (by omega)
      exact ⟨σ', st.trans q1, q2, (fr.rf.s (P := fun f => f = 15) rfl).tr q3⟩
theorem fBas_o {u : Int → Int} {b : Int} {c : Int → Int} {x : Int} (h : x < 24980 + 26 * b ∨ 24980 + 26 * b + 26 ≤ x) : fBas b c u x = u x := by
  unfold fBas; rw [if_neg (by omega), if_neg (by omega), if_neg (by omega)]
theorem fBas_e {u : Int → Int} {b : Int} {c : Int → Int} {k : Int} (h0 : 0 ≤ k) (h1 : k < 24) : fBas b c u (24980 + 26 * b + 2 + k) = c k + 1 := by
  unfold fBas; rw [if_neg (by omega), if_neg (by omega), if_pos (by omega)]; congr 2; omega
theorem fBas_0 {u : Int → Int} {b : Int} {c : Int → Int} : fBas b c u (24980 + 26 * b) = 1 := by
  unfold fBas; rw [if_pos rfl]
theorem fBas_1 {u : Int → Int} {b : Int} {c : Int → Int} : fBas b c u (24980 + 26 * b + 1) = cntC c 24 := by
  unfold fBas; rw [if_neg (by omega), if_pos rfl]
theorem cntE_cntC {u : Int → Int} {b : Int} {c : Int → Int} (hr : ∀ e, 0 ≤ e → e < 24 → -1 ≤ c e ∧ c e < 12) (n : Nat) (hn : n ≤ 24) : cntE (fBas b c u) (24980 + 26 * b + 2) n = cntC c n := by
  induction n with
  | zero => rfl
  | succ n ih =>
    have := hr n (by omega) (by omega)
    unfold cntE cntC
    rw [ih (by omega), fBas_e (by omega) (by omega)]
    congr 1
    repeat' split
    all_goals first | rfl | (exfalso; omega)
theorem wf_bas {v : Int → Int} {b : Int} {c : Int → Int} (hw : wf v) (hb : 0 ≤ b ∧ b < 10) (hr : ∀ e, 0 ≤ e → e < 24 → -1 ≤ c e ∧ c e < 12) : wf (fBas b c v) := by
  obtain ⟨g1, g2, g3, g4, g5, g6⟩ := hw
  have hlow : ∀ k, k < 24980 → fBas b c v k = v k := fun k h => fBas_o (by omega)
  refine ⟨by rw [hlow _ (by omega)]; exact g1, fun p p0 p1 => by rw [hlow _ (by omega)]; exact g2 p p0 p1, by rw [hlow _ (by omega)]; exact g3, fun e e0 e1 => ?_, ?_, fun b' b0 b1 => ?_⟩
  · rw [hlow _ (by omega)] at e1
    exact wfD_c e0 (by rw [hlow _ (by omega)]; omega) (fun d a b => by rw [hlow _ (by omega)]; omega) (fun k k0 k1 => hlow _ (by omega)) (fun r k r0 r1 k0 k1 => hlow _ (by omega)) (g4 e e0 e1)
  · rw [hlow _ (by omega), allR_c _ (fun d a b => hlow _ (by omega))]; exact g5
  · by_cases e : b' = b
    · subst e
      have := cntC_rng c 24
      refine ⟨Or.inr fBas_0, by rw [fBas_1]; omega, fun k k0 k1 => ?_, fun _ => by rw [fBas_1, cntE_cntC hr 24 (by omega)]⟩
      rw [fBas_e k0 k1]; have := hr k k0 k1; omega
    · exact wfB_c b0 (fun k k0 k1 => fBas_o (by omega)) (g6 b' b0 b1)
noncomputable def cosB (v : Int → Int) (d : Int) : Int := 1 + (cntC (cmF v (12 * d + rel v d)) 24 + 7) / 8
theorem eM_baseline {σ : hT} {s : zT} (hs : MSt σ s) (ho : okS s) {b d : Int} (hb : i32 b) (hd : i32 d) {n : Nat} (hn : 25241 ≤ n) :
    RefC (basOk s.1 b d) (cosB s.1 d) (fBas b (cmF s.1 (12 * d + rel s.1 d))) s σ (M_baseline n σ (zI b) (zI d)) (fun th acc => if acc = 1 then cntC (cmF s.1 (12 * d + rel s.1 d)) 24 else if th = 1 then 0 else -1) := by
  have h16 := ho.1.1
  obtain ⟨σ1, why, many, x, e1, e2, e3, e4, e5, e6, e7, e8, e9⟩ := kM_baseline hs.1 ho.1 hb hd (n := n) (by omega)
  have fq := frW e3 (by intro f z; simp only [pRch] at z; omega)
  have hs1 : MSt σ1 s := ⟨e2, fun k x y => by rw [e3.2 16 0 (by decide)]; exact hs.2.1 k x y, by rw [e3.2 504 0 (by decide)]; exact hs.2.2.1, by rw [e3.2 505 0 (by decide)]; exact hs.2.2.2⟩
  have hno : ∀ σ1 (th : Int), σ1.1 500 0 0 = zI th → (th = 0 ∨ th = 1) → ∃ σ2, rM_baseline n (zI b) (zI d) (zI many) (zI why) x (zI b) (zI d) σ1 (zI 0) = some (zI (if (0 : Int) = 1 then cntC (cmF s.1 (12 * d + rel s.1 d)) 24 else if th = 1 then 0 else -1), σ2) ∧ σ2 = σ1 := by
    intro σ1 th h1 h2
    refine ⟨σ1, ?_, rfl⟩
    unfold rM_baseline
    rcases h2 with rfl | rfl
    · simp (disch := omega) only [l0, l1, l2, l3, l4, l5, l6, l7, l8, l10, l12, l16, l20, l24, l26, l40, l64, l80, l100, l255, l256, l288, l312, l400, l992, l1940, l24980, l25240, xI, xL, xR, zI_neg, zI_add, zI_sub, zI_mul, zI_le, zI_lt, zI_eq, zI_in, zI_nat, Option.bind_some, lt9, hq, Int.add_zero, Int.sub_self, true_or, or_true, true_and, and_true, false_or, or_false, Int.cast_ofNat_Int, ↓reduceIte, h1, if_pos, if_neg]
    · simp (disch := omega) only [l0, l1, l2, l3, l4, l5, l6, l7, l8, l10, l12, l16, l20, l24, l26, l40, l64, l80, l100, l255, l256, l288, l312, l400, l992, l1940, l24980, l25240, xI, xL, xR, zI_neg, zI_add, zI_sub, zI_mul, zI_le, zI_lt, zI_eq, zI_in, zI_nat, Option.bind_some, lt9, hq, Int.add_zero, Int.sub_self, true_or, or_true, true_and, and_true, false_or, or_false, Int.cast_ofNat_Int, ↓reduceIte, h1, if_pos, if_neg]
  rw [e1]
  by_cases hok : basOk s.1 b d
  · obtain ⟨c1, c2⟩ := e9 hok
    have hcr := fun e (_ : 0 ≤ e) (_ : e < 24) => cmF_rng s.1 (12 * d + rel s.1 d) e
    subst c2
    have hcc : cosB s.1 d = 1 + (cntC (cmF s.1 (12 * d + rel s.1 d)) 24 + 7) / 8 := rfl
    refine RefC.pre fq.1 fq.2 ?_
    rw [← hcc]
    refine Cm_ref hs1 ho e4 e5 e6 (by omega) (by omega) _ _ hno (fun hk h17 σ2 pl hM hf ht => ?_)
    have hB := hk.1
    have hc2 : cmR σ2 (cmF s.1 (12 * d + rel s.1 d)) := fun k x y => by rw [hf.2 18 0 (by decide)]; exact c1 k x y
    generalize hcd : cmF s.1 (12 * d + rel s.1 d) = c at *
    have n1 := mN_s (x := cntC c 24) (mN_s (x := 1) hM.1 (k := 24980 + 26 * b) (by omega) _ rfl) (k := 24980 + 26 * b + 1) (by omega) _ rfl
    have e0 : wr1 c (uv (uv (mv s.1 (cosB s.1 d)) (24980 + 26 * b) 1) (24980 + 26 * b + 1) (cntC c 24)) (24980 + 26 * b + 2) (0 : Nat) = uv (uv (mv s.1 (cosB s.1 d)) (24980 + 26 * b) 1) (24980 + 26 * b + 1) (cntC c 24) := by
      funext y; unfold wr1; rw [if_neg (by omega)]
    obtain ⟨σ3, q1, q2, q3⟩ := eM_bas_L247 (n := n) (c := c) (a := 24980 + 26 * b) (by omega) (by omega) hcr (uv (uv (mv s.1 (cosB s.1 d)) (24980 + 26 * b) 1) (24980 + 26 * b + 1) (cntC c 24)) (zI (cntC c 24)) (zI why) x (zI b) (zI d) (fun (σ74 : hT) (p75 : Int32) (p76 : Int32) (p77 : Int32) (p78 : Int32) (p79 : Int32) (p80 : Int32) (p81 : Int32) => Option.bind (M_close n σ74) fun z => some (p77, z.2)) n _ 0 (by rw [e0]; exact n1) (cmR_o (cmR_o hc2 (by decide)) (by decide)) (by omega) (by omega)
    have ef : wr1 c (uv (uv (mv s.1 (cosB s.1 d)) (24980 + 26 * b) 1) (24980 + 26 * b + 1) (cntC c 24)) (24980 + 26 * b + 2) 24 = fBas b c (mv s.1 (cosB s.1 d)) := by
      funext y
      dsimp only [wr1, uv, fBas]
      repeat' split
      all_goals first | rfl | (exfalso; omega)
    rw [ef] at q2
    obtain ⟨σ4, r1, r2, r3, r4, r5⟩ := body_close hn hM q2 (((fr.rf.s (P := fun f => f = 15) rfl).s rfl).tr q3) (wf_bas (wf_mv ho.1 (by have := cntC_rng c 24; rw [hcc]; omega) h17) hB hcr) ht
    refine ⟨σ4, ?_, r2, r3, r4, r5⟩
    unfold rM_baseline
    simp (disch := omega) only [l0, l1, l2, l3, l4, l5, l6, l7, l8, l10, l12, l16, l20, l24, l26, l40, l64, l80, l100, l255, l256, l288, l312, l400, l992, l1940, l24980, l25240, xI, xL, xR, zI_neg, zI_add, zI_sub, zI_mul, zI_le, zI_lt, zI_eq, zI_in, zI_nat, Option.bind_some, lt9, hq, Int.add_zero, Int.sub_self, true_or, or_true, true_and, and_true, false_or, or_false, Int.cast_ofNat_Int, ↓reduceIte, eM_baselineAt, if_pos, if_neg]
    refine Eq.trans q1 ?_
    rw [r1]
    rfl
  · refine RefC.pre fq.1 fq.2 (RefC.noc (ok := False) (c := 1 + (many + 7) / 8) (f := fun u => u) (ans := fun th acc => if acc = 1 then cntC (cmF s.1 (12 * d + rel s.1 d)) 24 else if th = 1 then 0 else -1) (fun z => z) hok (fun th => rfl) ?_)
    exact Cm_ref (ok := False) (f := fun u => u) hs1 ho e4 e5 ⟨fun z => z.elim, fun z => hok (e6.mpr z)⟩ (by omega) (by omega) (rM_baseline n (zI b) (zI d) (zI many) (zI why) x (zI b) (zI d)) (fun th acc => if acc = 1 then cntC (cmF s.1 (12 * d + rel s.1 d)) 24 else if th = 1 then 0 else -1) hno (fun z => z.elim)
