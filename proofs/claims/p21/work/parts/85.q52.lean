theorem dmL_in {ρ : Int32} {x : Int64} {d e : List (Nat × Nat)} {r : Nat × Nat} (h : r ∈ dmL ρ x d e) : r ∈ d ∨ (r ∈ e ∧ ¬ (ρ = 1 ∨ x = -1)) := by
  unfold dmL at h
  split at h
  · exact Or.inl h
  · rename_i hn
    rcases List.mem_append.mp h with h | h
    · exact Or.inl h
    · exact Or.inr ⟨h, hn⟩
theorem i64m {x : Int} (h : x = -1) : (zI x).toInt64 = -1 := by subst h; decide
def stN (lv : Option (Int32 × hT)) (M : hT → Option (Int32 × hT)) (dom rows : List (Nat × Nat)) : Prop := ∃ (th x : Int) (σ2 σ3 : hT), lv = some (zI th, σ2) ∧ (th = 0 ∨ th = 1) ∧ M σ2 = some (zI x, σ3) ∧ σ3.1 500 0 0 = zI th ∧ (th = 0 → σ3.2.1 24 0 0 = (zI x).toInt64) ∧ RR σ3 (dmL (zI th) (σ2.2.1 24 0 0) dom rows)
theorem stN_C {ok : Prop} {c : Int} {f : (Int → Int) → Int → Int} {s : zT} {g gn : Nat} {σ : hT} {dom rows : List (Nat × Nat)} {V : oT} {M : hT → Option (Int32 × hT)} {y : Int} (hI : vInv σ s g) (hD : ∀ r ∈ dom, dmO s.1 g r) (hc : 0 ≤ c) (hgn : g ≤ gn) (hw : ok → c ≤ s.1 17 → wf (f (mv s.1 c)) ∧ grw (mv s.1 c) (f (mv s.1 c)) ∧ ∀ r ∈ rows, dmO (cls (f (mv s.1 c))) gn r) (hV : ClsC ok c f s g gn σ V (fun acc => if acc = 1 then y else -1)) (hM : ∀ σ2, MSt σ2 s → RefC ok c f s σ2 (M σ2) (fun th acc => if acc = 1 then y else if th = 1 then 0 else -1)) : stN (lI' V) M dom rows := by
  obtain ⟨th, acc, s', σ1, h1, h2, h3⟩ := spC hI hc (fun a b => (hw a b).1) hV hM
  obtain ⟨ha, ht⟩ := h1.a01
  obtain ⟨σ2, l1, l2, l3⟩ := elC h2 ht
  obtain ⟨σ3, m1, m2, m3, m4⟩ := h3 σ2 l2
  have hg := h1.grw hI.1 (fun a b => (hw a b).2.1)
  refine ⟨th, _, σ2, σ3, l1, ht, m1, m3, fun z => ?_, s', _, m4, fun r hr => ?_⟩
  · rw [m2, l3 z]
    subst z
    rcases ha with rfl | rfl
    · rfl
    · rfl
  · rcases dmL_in hr with hr2 | ⟨hr2, hn⟩
    · refine (hD r hr2).g hg ?_
      split <;> omega
    · have h0 : th = 0 := by
        rcases ht with z | z
        · exact z
        · subst z; exact absurd (Or.inl rfl) hn
      subst h0
      rcases ha with rfl | rfl
      · exact absurd (Or.inr (by rw [l3 rfl]; exact i64m rfl)) hn
      · rw [if_pos rfl]
        rcases h1 with ⟨_, _, z, _⟩ | ⟨_, _, _, z, _⟩ | ⟨_, _, _, _, _, _, z, _⟩ | ⟨q1, q2, q3, q4, _, _, rfl⟩
        · exact absurd z (by decide)
        · exact absurd z (by decide)
        · exact absurd z (by decide)
        · exact (hw q2 q3).2.2 r hr2
theorem nm {v : Int → Int} {g : Nat} {dom : List (Nat × Nat)} (hD : ∀ r ∈ dom, dmO v g r) {rows : List (Nat × Nat)} (h : ∀ r ∈ rows, ¬ dmO v g r) : ∀ r ∈ rows, r ∉ dom := fun r a b => h r a (hD r b)
theorem no6 {v : Int → Int} (hw : wf v) {g n : Nat} (hn : (n : Int) = v 16) : ∀ r ∈ row6 n, ¬ dmO v g r := by
  have h16 := hw.1
  intro r hr
  unfold row6 at hr
  simp only [List.mem_cons, List.not_mem_nil, or_false] at hr
  rintro (h | h | h | ⟨a, d, b, c, e⟩ | ⟨d, q, ⟨a1, a2, a3, a4⟩, h2⟩)
  · rcases hr with rfl | rfl | rfl | rfl | rfl | rfl | rfl | rfl | rfl | rfl <;> simp at h
  · rcases hr with rfl | rfl | rfl | rfl | rfl | rfl | rfl | rfl | rfl | rfl <;> simp at h
  · rcases hr with rfl | rfl | rfl | rfl | rfl | rfl | rfl | rfl | rfl | rfl <;> simp at h <;> omega
  · rcases hr with rfl | rfl | rfl | rfl | rfl | rfl | rfl | rfl | rfl | rfl <;> simp at a <;> simp only at e <;> omega
  · have hm := (hw.2.2.2.1 d a1 a2).1
    rcases hr with rfl | rfl | rfl | rfl | rfl | rfl | rfl | rfl | rfl | rfl <;> simp at h2 <;> omega
theorem no7 {v : Int → Int} (hw : wf v) {g n : Nat} (hn : ∀ d q, isRv v d q → (n : Int) ≠ 12 * d + q) : ∀ r ∈ row7 n, ¬ dmO v g r := by
  have h16 := hw.1
  intro r hr
  unfold row7 at hr
  simp only [List.mem_cons, List.not_mem_nil, or_false] at hr
  rintro (h | h | h | ⟨a, d, b, c, e⟩ | ⟨d, q, hi, h2⟩)
  · rcases hr with rfl | rfl | rfl | rfl | rfl <;> simp at h
  · rcases hr with rfl | rfl | rfl | rfl | rfl <;> simp at h
  · rcases hr with rfl | rfl | rfl | rfl | rfl <;> simp at h
  · rcases hr with rfl | rfl | rfl | rfl | rfl <;> simp at a <;> simp only at e <;> omega
  · have := hn d q hi
    rcases hr with rfl | rfl | rfl | rfl | rfl <;> simp at h2 <;> omega
theorem no1 {v : Int → Int} {g : Nat} : ∀ r ∈ row1 (g + 1), ¬ dmO v g r := by
  intro r hr
  unfold row1 at hr
  simp only [List.mem_cons, List.not_mem_nil, or_false] at hr
  rintro (h | h | h | ⟨a, d, b, c, e⟩ | ⟨d, q, hi, h2⟩)
  · rcases hr with rfl | rfl | rfl <;> simp [k5] at h <;> omega
  · rcases hr with rfl | rfl | rfl <;> simp [k5] at h <;> omega
  · rcases hr with rfl | rfl | rfl <;> simp [k5] at h <;> omega
  · rcases hr with rfl | rfl | rfl <;> simp [kC] at a
  · rcases hr with rfl | rfl | rfl <;> simp [kC] at h2
theorem ye6 {v : Int → Int} {g n : Nat} (hn : (n : Int) < v 16) : ∀ r ∈ row6 n, dmO v g r := by
  intro r hr
  unfold row6 at hr
  simp only [List.mem_cons, List.not_mem_nil, or_false] at hr
  rcases hr with rfl | rfl | rfl | rfl | rfl | rfl | rfl | rfl | rfl | rfl
  · exact Or.inr (Or.inr (Or.inl ⟨Or.inl rfl, hn⟩))
  · exact Or.inr (Or.inr (Or.inl ⟨Or.inr rfl, hn⟩))
  all_goals exact Or.inr (Or.inr (Or.inr (Or.inl ⟨by simp [kC], n, by omega, hn, by simp only; omega⟩)))
theorem ye7 {v : Int → Int} {g n : Nat} {d q : Int} (h : isRv v d q) (hn : (n : Int) = 12 * d + q) : ∀ r ∈ row7 n, dmO v g r := by
  intro r hr
  unfold row7 at hr
  simp only [List.mem_cons, List.not_mem_nil, or_false] at hr
  rcases hr with rfl | rfl | rfl | rfl | rfl
  · exact Or.inr (Or.inr (Or.inr (Or.inr ⟨d, q, h, Or.inl ⟨rfl, hn⟩⟩)))
  all_goals exact Or.inr (Or.inr (Or.inr (Or.inr ⟨d, q, h, Or.inr ⟨by simp [kC], by simp only; omega⟩⟩)))
theorem ye1 {v : Int → Int} {g n : Nat} (h : n ≤ g) : ∀ r ∈ row1 n, dmO v g r := by
  intro r hr
  unfold row1 at hr
  simp only [List.mem_cons, List.not_mem_nil, or_false] at hr
  rcases hr with rfl | rfl | rfl
  all_goals exact Or.inr (Or.inl ⟨by simp, h⟩)
theorem st_drawing {σ : hT} {dom : List (Nat × Nat)} (h : RR σ dom) (v1 : Int32) : ∃ nw, (∀ r ∈ row6 nw, r ∉ dom) ∧ (∀ r ∈ row7 (12 * nw), r ∉ dom) ∧ stN (L_drawing 30000 σ v1 nw) (fun σ2 => M_drawing 30000 σ2 v1) dom (row6 nw ++ row7 (12 * nw)) := by
  obtain ⟨s, g, hI, hD⟩ := h
  obtain ⟨e1, i1⟩ := i32v v1
  generalize v1.toInt = p at *
  subst e1
  have h16 := hI.1.1.1
  refine ⟨(s.1 16).toNat, nm hD (no6 hI.1.1 (by omega)), nm hD (no7 hI.1.1 (fun d q hi => ?_)), ?_⟩
  · have hm := (hI.1.1.2.2.2.1 d hi.1 hi.2.1).1
    obtain ⟨a, b, c, e⟩ := hi
    omega
  · have m16 : mv s.1 2 16 = s.1 16 := mv_at (by omega) (by omega)
    refine stN_C hI hD (by omega) (Nat.le_refl g) (fun hk h17 => ?_) (eV_drawing hI.2.2.2 hI.1 i1 (by omega) rfl) (fun σ2 hs => eM_drawing hs hI.1 i1 (by omega))
    have hu := wf_mv (c := 2) hI.1.1 (by omega) h17
    have pr : 0 ≤ p ∧ p < 16 := by
      apply Classical.byContradiction
      intro z
      apply hk.1
      unfold rts; rw [if_neg z]; rfl
    have hA := hI.1.1.2.2.2.2.1
    have hk1 := hk.2.1
    have hk2 := hk.2.2
    have hAe : allR (mv s.1 2) (mv s.1 2 16).toNat = allR s.1 (s.1 16).toNat := by
      rw [m16]; exact allR_c _ (fun e a b => mv_at (by omega) (by omega))
    have f16 : cls (fDrw p (mv s.1 2)) 16 = s.1 16 + 1 := by rw [cls_at (by omega) (by omega), fDrw_16 (by omega), m16]
    have f20 : cls (fDrw p (mv s.1 2)) (20 + 80 * s.1 16) = 1 := by
      rw [cls_at (by omega) (by omega)]
      have := fDrw_d (v := mv s.1 2) (p := p) (k := 0) (by omega) (by omega) (by omega) (by omega)
      rw [Int.add_zero, if_pos rfl, m16] at this
      exact this
    refine ⟨wf_drw hu pr (by omega) (by omega), ⟨by rw [fDrw_16 (by omega)]; omega, fun d d0 d1 => by rw [fDrw_o (by omega) (by omega) (by omega) (by omega)]; exact Int.le_refl _⟩, fun r hr => ?_⟩
    rcases List.mem_append.mp hr with hr | hr
    · exact ye6 (by omega) r hr
    · exact ye7 (d := s.1 16) (q := 0) ⟨by omega, by omega, by omega, by rw [f20]; omega⟩ (by omega) r hr
theorem st_checkIn {σ : hT} {dom : List (Nat × Nat)} (h : RR σ dom) (v1 v2 : Int32) : ∃ nw, (∀ r ∈ row7 nw, r ∉ dom) ∧ stN (L_checkIn 30000 σ v1 v2 nw) (fun σ2 => M_checkIn 30000 σ2 v1 v2) dom (row7 nw) := by
  obtain ⟨s, g, hI, hD⟩ := h
  obtain ⟨e1, i1⟩ := i32v v1
  obtain ⟨e2, i2⟩ := i32v v2
  generalize v1.toInt = d at *
  generalize v2.toInt = p at *
  subst e1 e2
  have h16 := hI.1.1.1
  obtain ⟨nw, hnw1, hnw2⟩ : ∃ nw : Nat, ((0 ≤ d ∧ d < s.1 16) → s.1 (20 + 80 * d) ≠ 12 → nw = sn d (s.1 (20 + 80 * d))) ∧ ∀ e q, isRv s.1 e q → (nw : Int) ≠ 12 * e + q := by
    by_cases hc : (0 ≤ d ∧ d < s.1 16) ∧ s.1 (20 + 80 * d) ≠ 12
    · have hm := (hI.1.1.2.2.2.1 d hc.1.1 hc.1.2).1
      have hsn := sn_v (d := d) (r := s.1 (20 + 80 * d)) hc.1.1 (by omega)
      refine ⟨sn d (s.1 (20 + 80 * d)), fun _ _ => rfl, fun e q hi z => ?_⟩
      have hm2 := (hI.1.1.2.2.2.1 e hi.1 hi.2.1).1
      obtain ⟨a, b, c, f⟩ := hi
      have : e = d := by omega
      subst this
      omega
    · refine ⟨1000, fun a b => absurd ⟨a, b⟩ hc, fun e q hi z => ?_⟩
      have hm2 := (hI.1.1.2.2.2.1 e hi.1 hi.2.1).1
      obtain ⟨a, b, c, f⟩ := hi
      omega
  refine ⟨nw, nm hD (no7 hI.1.1 hnw2), ?_⟩
  by_cases hcw : cpOk s.1 d p
  · obtain ⟨d0, d1, d24, hout, hc, hp16⟩ := cpOk_cw hI.1.1 hcw
    have hcr := cosC_rng hc
    refine stN_C hI hD (by omega) (Nat.le_refl g) (fun hk h17 => ?_) (eV_checkIn hI.2.2.2 hI.1 i1 i2 (by omega) hnw1) (fun σ2 hs => eM_checkIn hs hI.1 i1 i2 (by omega))
    have hu := wf_mv (c := cosC s.1 d) hI.1.1 (by omega) h17
    have mva : ∀ k, k ≠ 17 → k ≠ 18 → mv s.1 (cosC s.1 d) k = s.1 k := fun k a b => mv_at a b
    generalize hU : mv s.1 (cosC s.1 d) = u at *
    have e16 : u 16 = s.1 16 := mva 16 (by omega) (by omega)
    have em : u (20 + 80 * d) = s.1 (20 + 80 * d) := mva _ (by omega) (by omega)
    have eo : u (20 + 80 * d + 1) = s.1 (20 + 80 * d + 1) := mva _ (by omega) (by omega)
    have hDu := hu.2.2.2.1 d d0 (by omega)
    have hmu := hDu.1
    have hcwu := hDu.2.2.1 (by omega)
    have hlk : ¬ lackP u (20 + 80 * d) := fun ⟨k, k0, k1, k2⟩ => hk.2.2.1 ⟨k, k0, by rw [← mva _ (by omega) (by omega)]; exact k1, by
      have hb3 := hcwu.2.1
      have hkk := hcwu.2.2.1 k k0 k1
      have t1 := mva (20 + 80 * d + 4 + 2 * k) (by omega) (by omega)
      have t2 := mva (20 + 80 * d + 4 + 2 * k + 1) (by omega) (by omega)
      rw [t1] at hkk k2
      rw [t2, mva (20 + 80 * s.1 (20 + 80 * d + 4 + 2 * k)) (by omega) (by omega)] at k2
      exact k2⟩
    have hAe : allR u (u 16).toNat = allR s.1 (s.1 16).toNat := by
      rw [e16]; exact allR_c _ (fun e a b => mva _ (by omega) (by omega))
    have hk12 := hk.2.2.2.1
    refine ⟨wf_chk hu d0 (by omega) hp16 hcwu hlk (by omega) (by rw [hAe]; exact hk.2.2.2.2), ⟨by rw [fChk_o d0 (by omega) (by omega) (by omega) (by omega)]; exact Int.le_refl _, fun e e0 e1 => ?_⟩, fun r hr => ?_⟩
    · by_cases ee : e = d
      · subst ee; rw [fChk_0]; omega
      · rw [fChk_o d0 (by omega) (by omega) (by omega) (by omega)]; exact Int.le_refl _
    · have hn := hnw1 ⟨d0, d1⟩ hk12
      have hsn := sn_v (d := d) (r := s.1 (20 + 80 * d)) d0 (by omega)
      refine ye7 (d := d) (q := s.1 (20 + 80 * d)) ⟨d0, ?_, by omega, ?_⟩ (by rw [hn]; exact hsn) r hr
      · rw [cls_at (by omega) (by omega), fChk_o d0 (by omega) (by omega) (by omega) (by omega)]; omega
      · rw [cls_at (by omega) (by omega), fChk_0]; omega
  · have hno : ¬ chkOk s.1 d p := fun z => hcw z.1
    refine stN_C (c := 0) (f := fChk d p) (y := s.1 (20 + 80 * d)) hI hD (by omega) (Nat.le_refl g) (fun hk => absurd hk hno) ((eV_checkIn hI.2.2.2 hI.1 i1 i2 (by omega) hnw1).noc hno hno rfl) (fun σ2 hs => (eM_checkIn hs hI.1 i1 i2 (by omega)).noc hno hno (fun th => rfl))
theorem st_baseline {σ : hT} {dom : List (Nat × Nat)} (h : RR σ dom) (v1 v2 : Int32) : ∃ nw, (∀ r ∈ row1 nw, r ∉ dom) ∧ stN (L_baseline 30000 σ v1 v2 nw) (fun σ2 => M_baseline 30000 σ2 v1 v2) dom (row1 nw) := by
  obtain ⟨s, g, hI, hD⟩ := h
  obtain ⟨e1, i1⟩ := i32v v1
  obtain ⟨e2, i2⟩ := i32v v2
  generalize v1.toInt = b at *
  generalize v2.toInt = d at *
  subst e1 e2
  have h16 := hI.1.1.1
  have hcr := cntC_rng (cmF s.1 (12 * d + rel s.1 d)) 24
  refine ⟨g + 1, nm hD no1, ?_⟩
  refine stN_C hI hD (show 0 ≤ cosB s.1 d by unfold cosB; omega) (Nat.le_succ g) (fun hk h17 => ?_) (eV_baseline hI.2.2.2 hI.1 i1 i2 (by omega)) (fun σ2 hs => eM_baseline hs hI.1 i1 i2 (by omega))
  have hu := wf_mv (c := cosB s.1 d) hI.1.1 (by unfold cosB; omega) h17
  have hu16 := hu.1
  refine ⟨wf_bas hu hk.1 (fun e _ _ => cmF_rng _ _ _), grw_of (fun k hk2 => fBas_o (by have := hk.1; omega)) hu16.2, ye1 (Nat.le_refl _)⟩
