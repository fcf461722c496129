theorem st_look {σ : hT} {dom : List (Nat × Nat)} (h : RR σ dom) (v1 v2 v3 : Int32) : stQ (L_look 30000 σ v1 v2 v3) (fun σ2 => M_look 30000 σ2 v1 v2 v3) dom := by
  obtain ⟨s, g, hI, hD⟩ := h
  obtain ⟨e1, i1⟩ := i32v v1
  obtain ⟨e2, i2⟩ := i32v v2
  obtain ⟨e3, i3⟩ := i32v v3
  generalize v1.toInt = a at *
  generalize v2.toInt = b at *
  generalize v3.toInt = c at *
  subst e1 e2 e3
  exact stQ_Q hI hD (eV_look hI.2.2.2 hI.1 i1 i2 i3 (by omega)) (fun σ2 hs => eM_look hs hI.1 i1 i2 i3 (by omega))
theorem st_reference {σ : hT} {dom : List (Nat × Nat)} (h : RR σ dom) (v1 v2 v3 v4 : Int32) : stQ (L_reference 30000 σ v1 v2 v3 v4) (fun σ2 => M_reference 30000 σ2 v1 v2 v3 v4) dom := by
  obtain ⟨s, g, hI, hD⟩ := h
  obtain ⟨e1, i1⟩ := i32v v1
  obtain ⟨e2, i2⟩ := i32v v2
  obtain ⟨e3, i3⟩ := i32v v3
  obtain ⟨e4, i4⟩ := i32v v4
  generalize v1.toInt = a at *
  generalize v2.toInt = b at *
  generalize v3.toInt = c at *
  generalize v4.toInt = d at *
  subst e1 e2 e3 e4
  exact stQ_Q hI hD (eV_reference hI.2.2.2 hI.1 i1 i2 i3 i4 (by omega)) (fun σ2 hs => eM_reference hs hI.1 i1 i2 i3 i4 (by omega))
theorem st_about {σ : hT} {dom : List (Nat × Nat)} (h : RR σ dom) (v1 v2 : Int32) : stQ (L_about 30000 σ v1 v2) (fun σ2 => M_about 30000 σ2 v1 v2) dom := by
  obtain ⟨s, g, hI, hD⟩ := h
  obtain ⟨e1, i1⟩ := i32v v1
  obtain ⟨e2, i2⟩ := i32v v2
  generalize v1.toInt = a at *
  generalize v2.toInt = b at *
  subst e1 e2
  exact stQ_Q hI hD (eV_about hI.2.2.2 hI.1 i1 i2 (by omega)) (fun σ2 hs => eM_about hs hI.1 i1 i2 (by omega))
theorem st_inBaseline {σ : hT} {dom : List (Nat × Nat)} (h : RR σ dom) (v1 v2 v3 : Int32) : stQ (L_inBaseline 30000 σ v1 v2 v3) (fun σ2 => M_inBaseline 30000 σ2 v1 v2 v3) dom := by
  obtain ⟨s, g, hI, hD⟩ := h
  obtain ⟨e1, i1⟩ := i32v v1
  obtain ⟨e2, i2⟩ := i32v v2
  obtain ⟨e3, i3⟩ := i32v v3
  generalize v1.toInt = a at *
  generalize v2.toInt = b at *
  generalize v3.toInt = c at *
  subst e1 e2 e3
  exact stQ_Q hI hD (eV_inBaseline hI.2.2.2 hI.1 i1 i2 i3 (by omega)) (fun σ2 hs => eM_inBaseline hs hI.1 i1 i2 i3 (by omega))
theorem st_difference {σ : hT} {dom : List (Nat × Nat)} (h : RR σ dom) (v1 v2 v3 v4 : Int32) : stQ (L_difference 30000 σ v1 v2 v3 v4) (fun σ2 => M_difference 30000 σ2 v1 v2 v3 v4) dom := by
  obtain ⟨s, g, hI, hD⟩ := h
  obtain ⟨e1, i1⟩ := i32v v1
  obtain ⟨e2, i2⟩ := i32v v2
  obtain ⟨e3, i3⟩ := i32v v3
  obtain ⟨e4, i4⟩ := i32v v4
  generalize v1.toInt = a at *
  generalize v2.toInt = b at *
  generalize v3.toInt = c at *
  generalize v4.toInt = d at *
  subst e1 e2 e3 e4
  exact stQ_Q hI hD (eV_difference hI.2.2.2 hI.1 i1 i2 i3 i4 (by omega)) (fun σ2 hs => eM_difference hs hI.1 i1 i2 i3 i4 (by omega))
def stP (V : Option (Int32 × hT)) (M : hT → Option (Int32 × hT)) (dom : List (Nat × Nat)) : Prop := ∃ (x : Int) (σ1 σ3 : hT), V = some (zI x, σ1) ∧ M σ1 = some (zI x, σ3) ∧ RR σ3 dom
theorem st_failAfter {σ : hT} {dom : List (Nat × Nat)} (h : RR σ dom) (v1 : Int32) : stP (V_failAfter σ v1) (fun σ2 => M_failAfter σ2 v1) dom := by
  obtain ⟨s, g, hI, hD⟩ := h
  obtain ⟨e1, i1⟩ := i32v v1
  generalize v1.toInt = a at *
  subst e1
  have hi : okS (sFail s a) ∧ rlW (sFail s a).1 (sFail s a).2.1 := by
    unfold sFail
    split
    · rename_i hz
      exact ⟨⟨hI.1.1, hI.1.2.1, by show -1 ≤ a; omega, i1.2⟩, hI.2.1⟩
    · exact ⟨hI.1, hI.2.1⟩
  obtain ⟨σ1, σ3, q1, q2, q3⟩ := spN hI hi (eV_failAfter hI.2.2.2 hI.1 i1) (fun σ2 hs => eM_failAfter hs hI.1 i1)
  refine ⟨_, σ1, σ3, q1, q2, _, g, q3, ?_⟩
  have : (sFail s a).1 = s.1 := by unfold sFail; split <;> rfl
  rw [this]; exact hD
theorem st_start {σ : hT} {dom : List (Nat × Nat)} (h : RR σ dom) : stP (V_start 30000 σ) (fun σ2 => M_start 30000 σ2) dom := by
  obtain ⟨s, g, hI, hD⟩ := h
  have hi : okS (s.2.1, s.2.1, (0 : Int), (-1 : Int)) ∧ rlW s.2.1 s.2.1 := ⟨⟨hI.2.1.1, Or.inl rfl, by show (-1 : Int) ≤ -1; omega, by show (-1 : Int) < 2147483648; omega⟩, rlW.rf hI.2.1.1⟩
  obtain ⟨σ1, σ3, q1, q2, q3⟩ := spN hI hi (eV_start (n := 30000) hI.2.2.2 hI.1 hI.2.1 (by omega)) (fun σ2 hs => eM_start (n := 30000) hs hI.2.1.1 (by omega))
  refine ⟨_, σ1, σ3, q1, q2, _, g, q3, fun r hr => (hD r hr).g ?_ (Nat.le_refl _)⟩
  have h16 := hI.1.1.1
  exact grw_of (fun k hk => hI.2.1.2 k (by omega)) h16.2
theorem st_count {σ : hT} {dom : List (Nat × Nat)} (h : RR σ dom) (v1 : Int32) : stP (V_count 30000 σ v1) (fun σ2 => M_count 30000 σ2 v1) dom := by
  obtain ⟨s, g, hI, hD⟩ := h
  obtain ⟨e1, i1⟩ := i32v v1
  generalize v1.toInt = a at *
  subst e1
  obtain ⟨σ1, σ3, q1, q2, q3⟩ := spN hI ⟨hI.1, hI.2.1⟩ (eV_count (n := 30000) hI.2.2.2 hI.1 i1 (by omega)) (fun σ2 hs => eM_count (n := 30000) hs hI.1 i1 (by omega))
  exact ⟨_, σ1, σ3, q1, q2, s, g, q3, hD⟩
theorem st_user {σ : hT} {dom : List (Nat × Nat)} (h : RR σ dom) (v1 v3 : Int32) (f : Int) (hf : f = 0 ∨ f = 1) : ∃ (x : Int) (σ3 : hT), V_user 30000 σ v1 (zI f) v3 = some (zI x) ∧ M_user 30000 σ v1 (zI f) v3 = some (zI x, σ3) ∧ RR σ3 dom := by
  obtain ⟨s, g, hI, hD⟩ := h
  obtain ⟨e1, i1⟩ := i32v v1
  obtain ⟨e3, i3⟩ := i32v v3
  generalize v1.toInt = a at *
  generalize v3.toInt = c at *
  subst e1 e3
  obtain ⟨σ3, m1, m2, m3, m4⟩ := eM_user hI.2.2.1 hI.1 i1 hf i3 (n := 30000) (by omega)
  exact ⟨_, σ3, eV_user hI.2.2.2.1 hI.1.1 i1 hf i3 (by omega), m1, s, g, ⟨hI.1, hI.2.1, m2, hI.2.2.2.fM m3⟩, hD⟩
theorem st_why {σ : hT} {dom : List (Nat × Nat)} (h : RR σ dom) : ∃ y σ3, M_why σ = some (y, σ3) ∧ RR σ3 dom := by
  obtain ⟨s, g, hI, hD⟩ := h
  exact ⟨_, sI σ 500 0 0 0, rfl, s, g, ⟨hI.1, hI.2.1, MSt.r5 hI.2.2.1, hI.2.2.2.fM (fM.rf.i (by omega))⟩, hD⟩
def v0 : Int → Int := fun k => if k = 17 then 400 else 0
theorem v0_n {k : Int} (h : k ≠ 17) : v0 k = 0 := if_neg h
theorem wf_v0 : wf v0 := by
  have h16 : v0 16 = 0 := rfl
  refine ⟨by rw [h16]; omega, fun p p0 p1 => by rw [v0_n (by omega)]; omega, by show 0 ≤ (400 : Int) ∧ (400 : Int) ≤ 400; omega, fun d d0 d1 => by omega, by rw [h16]; show (0 : Int) ≤ 0 ∧ (0 : Int) ≤ 100; omega, fun b b0 b1 => ⟨Or.inl (v0_n (by omega)), by rw [v0_n (by omega)]; omega, fun k k0 k1 => by rw [v0_n (by omega)]; omega, fun z => by rw [v0_n (by omega)] at z; omega⟩⟩
theorem RR_0 (fk : Nat → Int32) (h : ∀ j < 25240, fk j = upd (fun _ => 0) (17 : Int32).toNatClampNeg 400 j) : RR (st0 fk) dom0 := by
  have hu : ∀ k : Int, 0 ≤ k → k < 25240 → upd (fun _ => (0 : Int32)) (17 : Int32).toNatClampNeg 400 k.toNat = zI (v0 k) := fun k k0 k1 => by
    unfold upd v0
    rw [show (17 : Int32).toNatClampNeg = 17 by decide]
    by_cases e : k = 17
    · subst e; rfl
    · rw [if_neg (by omega), if_neg e]; rfl
  have hz : ∀ f j k, f ≠ 400 → f ≠ 505 → f ≠ 11 → f ≠ 15 → f ≠ 16 → (st0 fk).1 f j k = 0 := fun f j k h1 h2 h3 h4 h5 => by
    show (if f = 400 then (400 : Int32) else if f = 505 then -1 else if f = 11 then (if k < 24 then -1 else 0) else if f = 15 then _ else if f = 16 then _ else 0) = 0
    rw [if_neg h1, if_neg h2, if_neg h3, if_neg h4, if_neg h5]
  have hr : ∀ f j k, f ≠ 105 → (st0 fk).2.2 f j k = none := fun f j k h1 => if_neg h1
  have h16 : v0 16 = 0 := rfl
  refine ⟨(v0, v0, 0, -1), 0, ⟨⟨wf_v0, Or.inl rfl, by show (-1 : Int) ≤ -1; omega, by show (-1 : Int) < 2147483648; omega⟩, rlW.rf wf_v0, ⟨hu, fun k k0 k1 => ?_, hz 504 0 0 (by decide) (by decide) (by decide) (by decide) (by decide), rfl⟩, ⟨fun p p0 p1 => ?_, ?_, ?_, fun d d0 d1 => ?_, fun b b0 b1 => Or.inl ⟨v0_n (by omega), hr 10 0 _ (by decide)⟩, rfl⟩, fun d d0 d1 => ?_, ?_⟩, ?_⟩
  · show fk k.toNat = _
    rw [h _ (by omega)]; exact hu k k0 k1
  · show (st0 fk).1 8 0 p.toNat = zI (v0 p)
    rw [hz 8 _ _ (by decide) (by decide) (by decide) (by decide) (by decide), v0_n (by omega)]; rfl
  · exact hz 102 _ _ (by decide) (by decide) (by decide) (by decide) (by decide)
  · exact hz 103 _ _ (by decide) (by decide) (by decide) (by decide) (by decide)
  · have : d < v0 16 := d1
    omega
  · have : d < v0 16 := d1
    omega
  · exact ⟨rfl, hz 401 _ _ (by decide) (by decide) (by decide) (by decide) (by decide), hz 402 _ _ (by decide) (by decide) (by decide) (by decide) (by decide), hz 403 _ _ (by decide) (by decide) (by decide) (by decide) (by decide), hz 404 _ _ (by decide) (by decide) (by decide) (by decide) (by decide), fun z => absurd rfl z⟩
  · intro r hr
    refine Or.inl ?_
    have : ∀ r ∈ dom0, r.2 = 0 ∧ ¬ k5 r.1 := by decide
    exact this r hr
theorem cmpB {th acc : Int} {σ5 : hT} (h5 : σ5.1 500 0 0 = zI th) (ha : acc = 0 ∨ acc = 1) (h24 : th = 0 → σ5.2.1 24 0 0 = if acc = 0 then 0 else 1) (ht : th = 0 ∨ th = 1) : (if (M_thrown σ5) = zI th then if zI th = 0 then lt9 (α := Int64 → Option (Int32 × hT)) (fun (s11 : Int64) => if (lg_cmp (xL σ5 24 0 0) s11) = 0 then some (1, σ5) else some (0, σ5)) fun x10 => if zI acc = 0 then x10 0 else x10 1 else some (1, σ5) else some (0, σ5)) = some (1, σ5) := by
  rw [if_pos (show M_thrown σ5 = zI th from h5)]
  rcases ht with rfl | rfl
  · rw [if_pos (show zI 0 = 0 from rfl)]
    have e := h24 rfl
    rcases ha with rfl | rfl
    · rw [if_pos rfl] at e
      show (if (lg_cmp (σ5.2.1 24 0 0) 0) = 0 then _ else _) = _
      rw [e]; rfl
    · rw [if_neg (by decide)] at e
      show (if (lg_cmp (σ5.2.1 24 0 0) 1) = 0 then _ else _) = _
      rw [e]; rfl
  · rfl
theorem endU {lv : Option (Int32 × hT)} {M : hT → Option (Int32 × hT)} {th x : Int} {σ2 σ3 : hT} (h1 : lv = some (zI th, σ2)) (h2 : M σ2 = some (zI x, σ3)) : (Option.bind lv fun ⟨y1, σ2⟩ => Option.bind (M σ2) fun ⟨y4, σ5⟩ => some ((1 : Int32), σ5)) = some (1, σ3) := by
  rw [h1, Option.bind_some]
  dsimp only
  rw [h2]; rfl
theorem endB {lv : Option (Int32 × hT)} {M : hT → Option (Int32 × hT)} {dom : List (Nat × Nat)} (h : stB lv M dom) : ∃ σ', (Option.bind lv fun ⟨y1, σ2⟩ => Option.bind (M σ2) fun ⟨y4, σ5⟩ => if (M_thrown σ5) = y1 then if y1 = 0 then lt9 (α := Int64 → Option (Int32 × hT)) (fun (s11 : Int64) => if (lg_cmp (xL σ5 24 0 0) s11) = 0 then some ((1 : Int32), σ5) else some (0, σ5)) fun x10 => if y4 = 0 then x10 0 else x10 1 else some (1, σ5) else some (0, σ5)) = some (1, σ') ∧ RR σ' dom := by
  obtain ⟨th, acc, σ2, σ3, h1, h2, h3, h4, h5, h6, h7⟩ := h
  refine ⟨σ3, ?_, h7⟩
  rw [h1, Option.bind_some]
  dsimp only
  rw [h4, Option.bind_some]
  exact cmpB h5 h2 h6 h3
theorem endS {lv : Option (Int32 × hT)} {M : hT → Option (Int32 × hT)} {dom : List (Nat × Nat)} (h : stB lv M dom) : ∃ σ', (Option.bind lv fun ⟨y1, σ2⟩ => Option.bind (M σ2) fun ⟨y4, σ5⟩ => some ((1 : Int32), σ5)) = some (1, σ') ∧ RR σ' dom := by
  obtain ⟨th, acc, σ2, σ3, h1, h2, h3, h4, h5, h6, h7⟩ := h
  exact ⟨σ3, endU h1 h4, h7⟩
theorem endQ {lv : Option (Int32 × hT)} {M : hT → Option (Int32 × hT)} {dom : List (Nat × Nat)} (h : stQ lv M dom) : ∃ σ', (Option.bind lv fun ⟨y1, σ2⟩ => Option.bind (M σ2) fun ⟨y4, σ5⟩ => some ((1 : Int32), σ5)) = some (1, σ') ∧ RR σ' dom := by
  obtain ⟨th, x, σ2, σ3, h1, h3, h4, h5, h6, h7⟩ := h
  exact ⟨σ3, endU h1 h4, h7⟩
theorem endN {lv : Option (Int32 × hT)} {M : hT → Option (Int32 × hT)} {dom rows : List (Nat × Nat)} (h : stN lv M dom rows) : ∃ σ', (Option.bind lv fun ⟨y1, σ2⟩ => Option.bind (M σ2) fun ⟨y4, σ5⟩ => some ((1 : Int32), σ5)) = some (1, σ') ∧ ∀ y σ1, lv = some (y, σ1) → RR σ' (dmL y (xL σ1 24 0 0) dom rows) := by
  obtain ⟨th, x, σ2, σ3, h1, h3, h4, h5, h6, h7⟩ := h
  refine ⟨σ3, endU h1 h4, fun y σ1 e => ?_⟩
  rw [h1] at e
  cases e
  exact h7
theorem endP {V : Option (Int32 × hT)} {M : hT → Option (Int32 × hT)} {dom : List (Nat × Nat)} (h : stP V M dom) : ∃ σ', (Option.bind V fun ⟨y2, σ3⟩ => Option.bind (M σ3) fun ⟨y5, σ6⟩ => some ((1 : Int32), σ6)) = some (1, σ') ∧ RR σ' dom := by
  obtain ⟨x, σ2, σ3, h1, h4, h7⟩ := h
  exact ⟨σ3, endU h1 h4, h7⟩
