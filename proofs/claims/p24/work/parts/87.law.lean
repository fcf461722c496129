theorem endPc {V : Option (Int32 × hT)} {M : hT → Option (Int32 × hT)} {dom : List (Nat × Nat)} (h : stP V M dom) : ∃ σ', (Option.bind V fun ⟨y2, σ3⟩ => Option.bind (M σ3) fun ⟨y5, σ6⟩ => if y2 = y5 then some ((1 : Int32), σ6) else some (0, σ6)) = some (1, σ') ∧ RR σ' dom := by
  obtain ⟨x, σ2, σ3, h1, h4, h7⟩ := h
  refine ⟨σ3, ?_, h7⟩
  rw [h1, Option.bind_some]
  dsimp only
  rw [h4, Option.bind_some]
  exact if_pos rfl
theorem law_RR : lawP RR := by
  refine ⟨?_, ?_, ?_, ?_, ?_, ?_, ?_, ?_, ?_, ?_, ?_, ?_, ?_, ?_, ?_, ?_, ?_, ?_, ?_, ?_, ?_, ?_, ?_⟩
  · intro σ dom v1 v2 v3 v4 v5 h
    obtain ⟨σ', q⟩ := endS (st_person h v1 v2)
    exact ⟨30000, σ', q⟩
  · intro σ dom v1 v2 v3 v4 v5 h
    obtain ⟨nw, a, b, c⟩ := st_drawing h v1
    obtain ⟨σ', q1, q2⟩ := endN c
    exact ⟨30000, nw, σ', a, b, q1, q2⟩
  · intro σ dom v1 v2 v3 v4 v5 h
    obtain ⟨σ', q⟩ := endS (st_out h v1 v2)
    exact ⟨30000, σ', q⟩
  · intro σ dom v1 v2 v3 v4 v5 h
    obtain ⟨σ', q⟩ := endS (st_undo h v1 v2)
    exact ⟨30000, σ', q⟩
  · intro σ dom v1 v2 v3 v4 v5 h
    obtain ⟨σ', q⟩ := endS (st_put h v1 v2 v3 v4)
    exact ⟨30000, σ', q⟩
  · intro σ dom v1 v2 v3 v4 v5 h
    obtain ⟨σ', q⟩ := endS (st_resize h v1 v2 v3)
    exact ⟨30000, σ', q⟩
  · intro σ dom v1 v2 v3 v4 v5 h
    obtain ⟨σ', q⟩ := endS (st_ref h v1 v2 v3 v4 v5)
    exact ⟨30000, σ', q⟩
  · intro σ dom v1 v2 v3 v4 v5 h
    obtain ⟨σ', q⟩ := endS (st_drop h v1 v2 v3)
    exact ⟨30000, σ', q⟩
  · intro σ dom v1 v2 v3 v4 v5 h
    obtain ⟨nw, a, c⟩ := st_checkIn h v1 v2
    obtain ⟨σ', q1, q2⟩ := endN c
    exact ⟨30000, nw, σ', a, q1, q2⟩
  · intro σ dom v1 v2 v3 v4 v5 h
    obtain ⟨σ', q⟩ := endS (st_check h v1 v2 v3)
    exact ⟨30000, σ', q⟩
  · intro σ dom v1 v2 v3 v4 v5 h
    obtain ⟨σ', q⟩ := endS (st_release h v1 v2 v3)
    exact ⟨30000, σ', q⟩
  · intro σ dom v1 v2 v3 v4 v5 h
    obtain ⟨σ', q⟩ := endS (st_withdraw h v1 v2 v3)
    exact ⟨30000, σ', q⟩
  · intro σ dom v1 v2 v3 v4 v5 h
    obtain ⟨nw, a, c⟩ := st_baseline h v1 v2
    obtain ⟨σ', q1, q2⟩ := endN c
    exact ⟨30000, nw, σ', a, q1, q2⟩
  · intro σ dom v1 v2 v3 v4 v5 h
    obtain ⟨y, σ', q1, q2⟩ := st_why h
    exact ⟨30000, σ', (by unfold LC_13; rw [q1]; rfl), q2⟩
  · intro σ dom v1 v2 v3 v4 v5 h
    obtain ⟨σ', q⟩ := endQ (st_look h v1 v2 v3)
    exact ⟨30000, σ', q⟩
  · intro σ dom v1 v2 v3 v4 v5 h
    obtain ⟨σ', q⟩ := endQ (st_reference h v1 v2 v3 v4)
    exact ⟨30000, σ', q⟩
  · intro σ dom v1 v2 v3 v4 v5 h
    obtain ⟨σ', q⟩ := endQ (st_about h v1 v2)
    exact ⟨30000, σ', q⟩
  · intro σ dom v1 v2 v3 v4 v5 h
    obtain ⟨σ', q⟩ := endQ (st_inBaseline h v1 v2 v3)
    exact ⟨30000, σ', q⟩
  · intro σ dom v1 v2 v3 v4 v5 h
    by_cases e : v2 = 0
    · obtain ⟨x, σ', q1, q2, q3⟩ := st_user h v1 v3 0 (Or.inl rfl)
      refine ⟨30000, σ', ?_, q3⟩
      unfold LC_18 lt9
      simp only [if_pos e]
      show Option.bind (V_user 30000 σ v1 (zI 0) v3) (fun y5 => Option.bind (M_user 30000 σ v1 (zI 0) v3) _) = _
      rw [q1, q2]
      rfl
    · obtain ⟨x, σ', q1, q2, q3⟩ := st_user h v1 v3 1 (Or.inr rfl)
      refine ⟨30000, σ', ?_, q3⟩
      unfold LC_18 lt9
      simp only [if_neg e]
      show Option.bind (V_user 30000 σ v1 (zI 1) v3) (fun y5 => Option.bind (M_user 30000 σ v1 (zI 1) v3) _) = _
      rw [q1, q2]
      rfl
  · intro σ dom v1 v2 v3 v4 v5 h
    obtain ⟨σ', q⟩ := endQ (st_difference h v1 v2 v3 v4)
    exact ⟨30000, σ', q⟩
  · intro σ dom v1 v2 v3 v4 v5 h
    obtain ⟨σ', q⟩ := endP (st_failAfter h v1)
    exact ⟨30000, σ', q⟩
  · intro σ dom v1 v2 v3 v4 v5 h
    obtain ⟨σ', q⟩ := endP (st_start h)
    exact ⟨30000, σ', q⟩
  · intro σ dom v1 v2 v3 v4 v5 h
    obtain ⟨σ', q⟩ := endPc (st_count h v1)
    exact ⟨30000, σ', q⟩
