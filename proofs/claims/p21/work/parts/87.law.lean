theorem cmpI {th x : Int} {σ5 : hT} (h5 : σ5.1 500 0 0 = zI th) (h24 : th = 0 → σ5.2.1 24 0 0 = (zI x).toInt64) (ht : th = 0 ∨ th = 1) : (if (M_thrown σ5) = zI th then if zI th = 0 then if (lg_cmp (xL σ5 24 0 0) ((zI x).toInt64)) = 0 then some ((1 : Int32), σ5) else some (0, σ5) else some (1, σ5) else some (0, σ5)) = some (1, σ5) := by
  rw [if_pos (show M_thrown σ5 = zI th from h5)]
  rcases ht with rfl | rfl
  · rw [if_pos (show zI 0 = 0 from rfl)]
    have e := h24 rfl
    show (if (lg_cmp (σ5.2.1 24 0 0) ((zI x).toInt64)) = 0 then _ else _) = _
    rw [e, if_pos (show lg_cmp _ _ = 0 from by rw [l0, lgc])]
  · rfl
abbrev eI (y1 y4 : Int32) (σ5 : hT) : Option (Int32 × hT) := if (M_thrown σ5) = y1 then if y1 = 0 then if (lg_cmp (xL σ5 24 0 0) ((y4).toInt64)) = 0 then some (1, σ5) else some (0, σ5) else some (1, σ5) else some (0, σ5)
theorem endQc {lv : Option (Int32 × hT)} {M : hT → Option (Int32 × hT)} {dom : List (Nat × Nat)} (h : stQ lv M dom) : ∃ σ', (Option.bind lv fun ⟨y1, σ2⟩ => Option.bind (M σ2) fun ⟨y4, σ5⟩ => eI y1 y4 σ5) = some (1, σ') ∧ RR σ' dom := by
  obtain ⟨th, x, σ2, σ3, h1, h3, h4, h5, h6, h7⟩ := h
  refine ⟨σ3, ?_, h7⟩
  rw [h1, Option.bind_some]
  dsimp only
  rw [h4, Option.bind_some]
  exact cmpI h5 h6 h3
theorem endNc {lv : Option (Int32 × hT)} {M : hT → Option (Int32 × hT)} {dom rows : List (Nat × Nat)} (h : stN lv M dom rows) : ∃ σ', (Option.bind lv fun ⟨y1, σ2⟩ => Option.bind (M σ2) fun ⟨y4, σ5⟩ => eI y1 y4 σ5) = some (1, σ') ∧ ∀ y σ1, lv = some (y, σ1) → RR σ' (dmL y (xL σ1 24 0 0) dom rows) := by
  obtain ⟨th, x, σ2, σ3, h1, h3, h4, h5, h6, h7⟩ := h
  refine ⟨σ3, ?_, fun y σ1 e => ?_⟩
  · rw [h1, Option.bind_some]
    dsimp only
    rw [h4, Option.bind_some]
    exact cmpI h5 h6 h3
  · rw [h1] at e
    cases e
    exact h7
theorem law_RR : lawP RR := by
  refine ⟨?_, ?_, ?_, ?_, ?_, ?_, ?_, ?_, ?_, ?_, ?_, ?_, ?_, ?_, ?_, ?_, ?_, ?_, ?_, ?_, ?_, ?_, ?_⟩
  · intro σ dom v1 v2 v3 v4 v5 h
    obtain ⟨σ', q⟩ := endS (st_person h v1 v2)
    exact ⟨30000, σ', q⟩
  · intro σ dom v1 v2 v3 v4 v5 h
    obtain ⟨nw, a, b, c⟩ := st_drawing h v1
    obtain ⟨σ', q1, q2⟩ := endN c
    exact ⟨30000, nw, σ', a, b, q1, q2⟩
  · intro σ dom v1 v2 v3 v4 v5 h
    obtain ⟨σ', q⟩ := endS (st_out h v1 v2)
    exact ⟨30000, σ', q⟩
  · intro σ dom v1 v2 v3 v4 v5 h
    obtain ⟨σ', q⟩ := endS (st_undo h v1 v2)
    exact ⟨30000, σ', q⟩
  · intro σ dom v1 v2 v3 v4 v5 h
    obtain ⟨σ', q⟩ := endS (st_put h v1 v2 v3 v4)
    exact ⟨30000, σ', q⟩
  · intro σ dom v1 v2 v3 v4 v5 h
    obtain ⟨σ', q⟩ := endS (st_resize h v1 v2 v3)
    exact ⟨30000, σ', q⟩
  · intro σ dom v1 v2 v3 v4 v5 h
    obtain ⟨σ', q⟩ := endS (st_ref h v1 v2 v3 v4 v5)
    exact ⟨30000, σ', q⟩
  · intro σ dom v1 v2 v3 v4 v5 h
    obtain ⟨σ', q⟩ := endS (st_drop h v1 v2 v3)
    exact ⟨30000, σ', q⟩
  · intro σ dom v1 v2 v3 v4 v5 h
    obtain ⟨nw, a, c⟩ := st_checkIn h v1 v2
    obtain ⟨σ', q1, q2⟩ := endN c
    exact ⟨30000, nw, σ', a, q1, q2⟩
  · intro σ dom v1 v2 v3 v4 v5 h
    obtain ⟨σ', q⟩ := endS (st_check h v1 v2 v3)
    exact ⟨30000, σ', q⟩
  · intro σ dom v1 v2 v3 v4 v5 h
    obtain ⟨σ', q⟩ := endS (st_release h v1 v2 v3)
    exact ⟨30000, σ', q⟩
  · intro σ dom v1 v2 v3 v4 v5 h
    obtain ⟨σ', q⟩ := endS (st_withdraw h v1 v2 v3)
    exact ⟨30000, σ', q⟩
  · intro σ dom v1 v2 v3 v4 v5 h
    obtain ⟨nw, a, c⟩ := st_baseline h v1 v2
    obtain ⟨σ', q1, q2⟩ := endN c
    exact ⟨30000, nw, σ', a, q1, q2⟩
  · intro σ dom v1 v2 v3 v4 v5 h
    obtain ⟨y, σ', q1, q2⟩ := st_why h
    exact ⟨30000, σ', (by unfold LC_13; rw [q1]; rfl), q2⟩
  · intro σ dom v1 v2 v3 v4 v5 h
    obtain ⟨σ', q⟩ := endQ (st_look h v1 v2 v3)
    exact ⟨30000, σ', q⟩
  · intro σ dom v1 v2 v3 v4 v5 h
    obtain ⟨σ', q⟩ := endQ (st_reference h v1 v2 v3 v4)
    exact ⟨30000, σ', q⟩
  · intro σ dom v1 v2 v3 v4 v5 h
    obtain ⟨σ', q⟩ := endQ (st_about h v1 v2)
    exact ⟨30000, σ', q⟩
  · intro σ dom v1 v2 v3 v4 v5 h
    obtain ⟨σ', q⟩ := endQ (st_inBaseline h v1 v2 v3)
    exact ⟨30000, σ', q⟩
  · intro σ dom v1 v2 v3 v4 v5 h
    by_cases e : v2 = 0
    · obtain ⟨x, σ', q1, q2, q3⟩ := st_user h v1 v3 0 (Or.inl rfl)
      refine ⟨30000, σ', ?_, q3⟩
      unfold LC_18 lt9
      simp only [if_pos e]
      show Option.bind (V_user 30000 σ v1 (zI 0) v3) (fun y5 => Option.bind (M_user 30000 σ v1 (zI 0) v3) _) = _
      rw [q1, q2]
      rfl
    · obtain ⟨x, σ', q1, q2, q3⟩ := st_user h v1 v3 1 (Or.inr rfl)
      refine ⟨30000, σ', ?_, q3⟩
      unfold LC_18 lt9
      simp only [if_neg e]
      show Option.bind (V_user 30000 σ v1 (zI 1) v3) (fun y5 => Option.bind (M_user 30000 σ v1 (zI 1) v3) _) = _
      rw [q1, q2]
      rfl
  · intro σ dom v1 v2 v3 v4 v5 h
    obtain ⟨σ', q⟩ := endQc (st_difference h v1 v2 v3 v4)
    exact ⟨30000, σ', q⟩
  · intro σ dom v1 v2 v3 v4 v5 h
    obtain ⟨σ', q⟩ := endP (st_failAfter h v1)
    exact ⟨30000, σ', q⟩
  · intro σ dom v1 v2 v3 v4 v5 h
    obtain ⟨σ', q⟩ := endP (st_start h)
    exact ⟨30000, σ', q⟩
  · intro σ dom v1 v2 v3 v4 v5 h
    obtain ⟨σ', q⟩ := endP (st_count h v1)
    exact ⟨30000, σ', q⟩
