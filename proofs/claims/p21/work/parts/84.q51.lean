abbrev kC (f : Nat) : Prop := f = 5 ∨ f = 20 ∨ f = 21 ∨ f = 22
abbrev k5 (f : Nat) : Prop := f = 5 ∨ f = 6 ∨ f = 7 ∨ f = 20 ∨ f = 21 ∨ f = 22 ∨ f = 23
def dmO (v : Int → Int) (g : Nat) (r : Nat × Nat) : Prop :=
  (r.2 = 0 ∧ ¬ k5 r.1) ∨ ((r.1 = 1 ∨ r.1 = 11 ∨ r.1 = 12) ∧ r.2 ≤ g) ∨ ((r.1 = 6 ∨ r.1 = 23) ∧ (r.2 : Int) < v 16) ∨ (kC r.1 ∧ ∃ d : Int, 0 ≤ d ∧ d < v 16 ∧ ((r.2 : Int) = 3 * d ∨ (r.2 : Int) = 3 * d + 1)) ∨ (∃ d q : Int, isRv v d q ∧ ((r.1 = 7 ∧ (r.2 : Int) = 12 * d + q) ∨ (kC r.1 ∧ (r.2 : Int) = 3 * (12 * d + q) + 2)))
def RR (σ : hT) (dom : List (Nat × Nat)) : Prop := ∃ s g, vInv σ s g ∧ ∀ r ∈ dom, dmO s.1 g r
def grw (v v' : Int → Int) : Prop := v 16 ≤ v' 16 ∧ ∀ d, 0 ≤ d → d < v 16 → v (20 + 80 * d) ≤ v' (20 + 80 * d)
theorem grw.rf {v : Int → Int} : grw v v := ⟨Int.le_refl _, fun _ _ _ => Int.le_refl _⟩
theorem dmO.g {v v' : Int → Int} {g g' : Nat} {r : Nat × Nat} (h : dmO v g r) (hv : grw v v') (hg : g ≤ g') : dmO v' g' r := by
  rcases h with h | h | h | h | ⟨d, q, h1, h2⟩
  · exact Or.inl h
  · exact Or.inr (Or.inl ⟨h.1, by omega⟩)
  · exact Or.inr (Or.inr (Or.inl ⟨h.1, by have := hv.1; omega⟩))
  · obtain ⟨a, d, b, c, e⟩ := h
    exact Or.inr (Or.inr (Or.inr (Or.inl ⟨a, d, b, by have := hv.1; omega, e⟩)))
  · refine Or.inr (Or.inr (Or.inr (Or.inr ⟨d, q, ⟨h1.1, ?_, h1.2.2.1, ?_⟩, h2⟩)))
    · have := hv.1; have := h1.2.1; omega
    · have := hv.2 d h1.1 h1.2.1; have := h1.2.2.2; omega
theorem cls_at {v : Int → Int} {k : Int} (h1 : k ≠ 17) (h2 : k ≠ 19) : cls v k = v k := by
  unfold cls
  split
  · rw [uv_n h2, uv_n h1]
  · rfl
theorem Cm.grw {ok : Prop} {c : Int} {f : (Int → Int) → Int → Int} {s s' : zT} {th acc : Int} (h : Cm ok c f s th acc s') (ho : okS s) (hf : ok → c ≤ s.1 17 → grw (mv s.1 c) (f (mv s.1 c))) : grw s.1 s'.1 := by
  have h16 := ho.1.1
  rcases h with ⟨_, rfl, rfl, rfl⟩ | ⟨_, _, rfl, rfl, rfl⟩ | ⟨q1, q2, q3, q4, q5, rfl, rfl, rfl⟩ | ⟨q1, q2, q3, q4, rfl, rfl, rfl⟩
  · exact grw.rf
  · exact grw.rf
  · exact grw.rf
  · obtain ⟨g1, g2⟩ := hf q2 q3
    rw [mv_at (by omega) (by omega)] at g1
    refine ⟨?_, fun d d0 d1 => ?_⟩
    · show s.1 16 ≤ cls (f (mv s.1 c)) 16
      rw [cls_at (by omega) (by omega)]; exact g1
    · have := g2 d d0 (by rw [mv_at (by omega) (by omega)]; exact d1)
      rw [mv_at (by omega) (by omega)] at this
      show s.1 (20 + 80 * d) ≤ cls (f (mv s.1 c)) (20 + 80 * d)
      rw [cls_at (by omega) (by omega)]; exact this
theorem Hm.grw {ok : Prop} {f : (Int → Int) → Int → Int} {s s' : zT} {th acc : Int} (h : Hm ok f s th acc s') (ho : okS s) {d : Int} (hw : ok → wf (f s.1) ∧ 0 ≤ d ∧ d < s.1 16 ∧ ∀ k, ¬ (20 + 80 * d + 2 ≤ k ∧ k < 20 + 80 * d + 80) → f s.1 k = s.1 k) : grw s.1 s'.1 := by
  have h16 := ho.1.1
  rcases h with ⟨_, rfl, rfl, rfl⟩ | ⟨_, _, rfl, rfl, rfl⟩ | ⟨q1, q2, rfl, rfl, rfl⟩
  · exact grw.rf
  · exact grw.rf
  · obtain ⟨a, b, c, e⟩ := hw q2
    refine ⟨?_, fun k k0 k1 => ?_⟩
    · show s.1 16 ≤ f s.1 16
      rw [e 16 (by omega)]; exact Int.le_refl _
    · show s.1 (20 + 80 * k) ≤ f s.1 (20 + 80 * k)
      rw [e _ (by omega)]; exact Int.le_refl _
theorem grw_of {v v' : Int → Int} (h : ∀ k, k = 16 ∨ (20 ≤ k ∧ (k - 20) % 80 = 0 ∧ k < 1940) → v' k = v k) (h16 : v 16 ≤ 24) : grw v v' := ⟨by rw [h 16 (Or.inl rfl)]; exact Int.le_refl _, fun d d0 d1 => by rw [h _ (by omega)]; exact Int.le_refl _⟩
def stB (lv : Option (Int32 × hT)) (M : hT → Option (Int32 × hT)) (dom : List (Nat × Nat)) : Prop := ∃ th acc σ2 σ3, lv = some (zI th, σ2) ∧ (acc = 0 ∨ acc = 1) ∧ (th = 0 ∨ th = 1) ∧ M σ2 = some (zI acc, σ3) ∧ σ3.1 500 0 0 = zI th ∧ (th = 0 → σ3.2.1 24 0 0 = if acc = 0 then 0 else 1) ∧ RR σ3 dom
def stQ (lv : Option (Int32 × hT)) (M : hT → Option (Int32 × hT)) (dom : List (Nat × Nat)) : Prop := ∃ (th x : Int) (σ2 σ3 : hT), lv = some (zI th, σ2) ∧ (th = 0 ∨ th = 1) ∧ M σ2 = some (zI x, σ3) ∧ σ3.1 500 0 0 = zI th ∧ (th = 0 → σ3.2.1 24 0 0 = (zI x).toInt64) ∧ RR σ3 dom
theorem stB_C {ok : Prop} {c : Int} {f : (Int → Int) → Int → Int} {s : zT} {g : Nat} {σ : hT} {dom : List (Nat × Nat)} {V : oT} {M : hT → Option (Int32 × hT)} (hI : vInv σ s g) (hD : ∀ r ∈ dom, dmO s.1 g r) (hc : 0 ≤ c) (hw : ok → c ≤ s.1 17 → wf (f (mv s.1 c)) ∧ grw (mv s.1 c) (f (mv s.1 c))) (hV : ClsC ok c f s g g σ V (fun acc => acc)) (hM : ∀ σ2, MSt σ2 s → RefC ok c f s σ2 (M σ2) (fun _ acc => acc)) : stB (lB V) M dom := by
  obtain ⟨th, acc, s', σ1, h1, h2, h3⟩ := spC hI hc (fun a b => (hw a b).1) hV hM
  obtain ⟨ha, ht⟩ := h1.a01
  obtain ⟨σ2, l1, l2, l3⟩ := elB h2 ha ht
  obtain ⟨σ3, m1, m2, m3, m4⟩ := h3 σ2 l2
  have hg := h1.grw hI.1 (fun a b => (hw a b).2)
  rw [show (if acc = 1 then g else g) = g by split <;> rfl] at m4
  exact ⟨th, acc, σ2, σ3, l1, ha, ht, m1, m3, fun z => by rw [m2]; exact l3 z, s', g, m4, fun r hr => (hD r hr).g hg (Nat.le_refl _)⟩
theorem stB_H {ok : Prop} {f : (Int → Int) → Int → Int} {s : zT} {g : Nat} {σ : hT} {dom : List (Nat × Nat)} {V : oT} {M : hT → Option (Int32 × hT)} (hI : vInv σ s g) (hD : ∀ r ∈ dom, dmO s.1 g r) {d : Int} (hw : ok → wf (f s.1) ∧ 0 ≤ d ∧ d < s.1 16 ∧ ∀ k, ¬ (20 + 80 * d + 2 ≤ k ∧ k < 20 + 80 * d + 80) → f s.1 k = s.1 k) (hV : ClsH ok f s g σ V) (hM : ∀ σ2, MSt σ2 s → RefH ok f s σ2 (M σ2)) : stB (lB V) M dom := by
  obtain ⟨th, acc, s', σ1, h1, h2, h3⟩ := spH hI hw hV hM
  obtain ⟨ha, ht⟩ := h1.a01
  obtain ⟨σ2, l1, l2, l3⟩ := elB h2 ha ht
  obtain ⟨σ3, m1, m2, m3, m4⟩ := h3 σ2 l2
  have hg := h1.grw hI.1 hw
  exact ⟨th, acc, σ2, σ3, l1, ha, ht, m1, m3, fun z => by rw [m2]; exact l3 z, s', g, m4, fun r hr => (hD r hr).g hg (Nat.le_refl _)⟩
theorem stQ_Q {q : Option Int} {s : zT} {g : Nat} {σ : hT} {dom : List (Nat × Nat)} {V : oT} {M : hT → Option (Int32 × hT)} (hI : vInv σ s g) (hD : ∀ r ∈ dom, dmO s.1 g r) (hV : ClsQ q s g σ V) (hM : ∀ σ2, MSt σ2 s → RefQ q s σ2 (M σ2)) : stQ (lI' V) M dom := by
  obtain ⟨σ1, h2, h3⟩ := spQ hI hV hM
  obtain ⟨σ2, l1, l2, l3⟩ := elI h2
  obtain ⟨σ3, m1, m2, m3, m4⟩ := h3 σ2 l2
  refine ⟨if q = none then 1 else 0, q.getD 0, σ2, σ3, l1, by split <;> omega, m1, m3, fun z => ?_, s, g, m4, hD⟩
  cases q with
  | none => rw [if_pos rfl] at z; omega
  | some x => rw [m2]; exact l3 x rfl
theorem st_person {σ : hT} {dom : List (Nat × Nat)} (h : RR σ dom) (v1 v2 : Int32) : stB (L_person 30000 σ v1 v2) (fun σ2 => M_person 30000 σ2 v1 v2) dom := by
  obtain ⟨s, g, hI, hD⟩ := h
  obtain ⟨e1, i1⟩ := i32v v1
  obtain ⟨e2, i2⟩ := i32v v2
  generalize v1.toInt = a at *
  generalize v2.toInt = b at *
  subst e1 e2
  have h16 := hI.1.1.1
  exact stB_C hI hD (by omega) (fun hk h17 => ⟨wf_person hI.1.1 h17 hk, grw_of (fun k hk2 => uv_n (by omega)) (by rw [mv_at (by omega) (by omega)]; exact h16.2)⟩) (eV_person hI.2.2.2 hI.1 i1 i2 (by omega)) (fun σ2 hs => eM_person hs hI.1 i1 i2 (by omega))
theorem st_out {σ : hT} {dom : List (Nat × Nat)} (h : RR σ dom) (v1 v2 : Int32) : stB (L_out 30000 σ v1 v2) (fun σ2 => M_out 30000 σ2 v1 v2) dom := by
  obtain ⟨s, g, hI, hD⟩ := h
  obtain ⟨e1, i1⟩ := i32v v1
  obtain ⟨e2, i2⟩ := i32v v2
  generalize v1.toInt = d at *
  generalize v2.toInt = p at *
  subst e1 e2
  have h16 := hI.1.1.1
  have m16 : mv s.1 1 16 = s.1 16 := mv_at (by omega) (by omega)
  refine stB_C hI hD (by omega) (fun hk h17 => ⟨?_, grw_of (fun k hk2 => fOut_o (by omega) (by omega)) (by omega)⟩) (eV_out hI.2.2.2 hI.1 i1 i2 (by omega)) (fun σ2 hs => eM_out hs hI.1 i1 i2 (by omega))
  have pr : 0 ≤ p ∧ p < 16 := by
    apply Classical.byContradiction
    intro z
    apply hk.1
    unfold rts; rw [if_neg z]
  exact wf_out (wf_mv hI.1.1 (by omega) h17) hk.2.1 (by rw [m16]; exact hk.2.2.1) (by rw [mv_at (by omega) (by omega)]; exact hk.2.2.2) pr
theorem st_undo {σ : hT} {dom : List (Nat × Nat)} (h : RR σ dom) (v1 v2 : Int32) : stB (L_undo 30000 σ v1 v2) (fun σ2 => M_undo 30000 σ2 v1 v2) dom := by
  obtain ⟨s, g, hI, hD⟩ := h
  obtain ⟨e1, i1⟩ := i32v v1
  obtain ⟨e2, i2⟩ := i32v v2
  generalize v1.toInt = d at *
  generalize v2.toInt = p at *
  subst e1 e2
  have h16 := hI.1.1.1
  have m16 : mv s.1 1 16 = s.1 16 := mv_at (by omega) (by omega)
  refine stB_C hI hD (by omega) (fun hk h17 => ⟨?_, grw_of (fun k hk2 => uv_n (by omega)) (by omega)⟩) (eV_undo hI.2.2.2 hI.1 i1 i2 (by omega)) (fun σ2 hs => eM_undo hs hI.1 i1 i2 (by omega))
  exact wf_with (wf_mv hI.1.1 (by omega) h17) hk.2.1 (by rw [m16]; exact hk.2.2.1) (by omega) (by omega)
theorem isRv_mv {v : Int → Int} {d r c : Int} (h : isRv v d r) : isRv (mv v c) d r := by
  obtain ⟨a, b, cc, e⟩ := h
  exact ⟨a, by rw [mv_at (by omega) (by omega)]; exact b, cc, by rw [mv_at (by omega) (by omega)]; exact e⟩
theorem st_check {σ : hT} {dom : List (Nat × Nat)} (h : RR σ dom) (v1 v2 v3 : Int32) : stB (L_check 30000 σ v1 v2 v3) (fun σ2 => M_check 30000 σ2 v1 v2 v3) dom := by
  obtain ⟨s, g, hI, hD⟩ := h
  obtain ⟨e1, i1⟩ := i32v v1
  obtain ⟨e2, i2⟩ := i32v v2
  obtain ⟨e3, i3⟩ := i32v v3
  generalize v1.toInt = d at *
  generalize v2.toInt = r at *
  generalize v3.toInt = p at *
  subst e1 e2 e3
  have h16 := hI.1.1.1
  have m16 : mv s.1 1 16 = s.1 16 := mv_at (by omega) (by omega)
  exact stB_C hI hD (by omega) (fun hk h17 => ⟨wf_st (wf_mv hI.1.1 (by omega) h17) (isRv_mv hk.2.1) (by omega), grw_of (fun k hk2 => uv_n (by have := hk.2.1.1; have := hk.2.1.2.2.1; omega)) (by omega)⟩) (eV_check hI.2.2.2 hI.1 i1 i2 i3 (by omega)) (fun σ2 hs => eM_check hs hI.1 i1 i2 i3 (by omega))
theorem st_release {σ : hT} {dom : List (Nat × Nat)} (h : RR σ dom) (v1 v2 v3 : Int32) : stB (L_release 30000 σ v1 v2 v3) (fun σ2 => M_release 30000 σ2 v1 v2 v3) dom := by
  obtain ⟨s, g, hI, hD⟩ := h
  obtain ⟨e1, i1⟩ := i32v v1
  obtain ⟨e2, i2⟩ := i32v v2
  obtain ⟨e3, i3⟩ := i32v v3
  generalize v1.toInt = d at *
  generalize v2.toInt = r at *
  generalize v3.toInt = p at *
  subst e1 e2 e3
  have h16 := hI.1.1.1
  have m16 : mv s.1 1 16 = s.1 16 := mv_at (by omega) (by omega)
  exact stB_C hI hD (by omega) (fun hk h17 => ⟨wf_st (wf_mv hI.1.1 (by omega) h17) (isRv_mv hk.2.1) (by omega), grw_of (fun k hk2 => uv_n (by have := hk.2.1.1; have := hk.2.1.2.2.1; omega)) (by omega)⟩) (eV_release hI.2.2.2 hI.1 i1 i2 i3 (by omega)) (fun σ2 hs => eM_release hs hI.1 i1 i2 i3 (by omega))
theorem st_withdraw {σ : hT} {dom : List (Nat × Nat)} (h : RR σ dom) (v1 v2 v3 : Int32) : stB (L_withdraw 30000 σ v1 v2 v3) (fun σ2 => M_withdraw 30000 σ2 v1 v2 v3) dom := by
  obtain ⟨s, g, hI, hD⟩ := h
  obtain ⟨e1, i1⟩ := i32v v1
  obtain ⟨e2, i2⟩ := i32v v2
  obtain ⟨e3, i3⟩ := i32v v3
  generalize v1.toInt = d at *
  generalize v2.toInt = r at *
  generalize v3.toInt = p at *
  subst e1 e2 e3
  have h16 := hI.1.1.1
  have m16 : mv s.1 1 16 = s.1 16 := mv_at (by omega) (by omega)
  exact stB_C hI hD (by omega) (fun hk h17 => ⟨wf_st (wf_mv hI.1.1 (by omega) h17) (isRv_mv hk.2.1) (by omega), grw_of (fun k hk2 => uv_n (by have := hk.2.1.1; have := hk.2.1.2.2.1; omega)) (by omega)⟩) (eV_withdraw hI.2.2.2 hI.1 i1 i2 i3 (by omega)) (fun σ2 hs => eM_withdraw hs hI.1 i1 i2 i3 (by omega))
theorem st_put {σ : hT} {dom : List (Nat × Nat)} (h : RR σ dom) (v1 v2 v3 v4 : Int32) : stB (L_put σ v1 v2 v3 v4) (fun σ2 => M_put σ2 v1 v2 v3 v4) dom := by
  obtain ⟨s, g, hI, hD⟩ := h
  obtain ⟨e1, i1⟩ := i32v v1
  obtain ⟨e2, i2⟩ := i32v v2
  obtain ⟨e3, i3⟩ := i32v v3
  obtain ⟨e4, i4⟩ := i32v v4
  generalize v1.toInt = d at *
  generalize v2.toInt = p at *
  generalize v3.toInt = i at *
  generalize v4.toInt = x at *
  subst e1 e2 e3 e4
  exact stB_H hI hD (d := d) (fun hk => ⟨wf_put hI.1.1 hk, hk.1.2.1, hk.1.2.2.1, fun k hk2 => uv_n (by have := (cpOk_cw hI.1.1 hk.1).2.2.2.2.1.1; have := hk.2; omega)⟩) (eV_put hI.2.2.2 hI.1 i1 i2 i3 i4) (fun σ2 hs => eM_put hs hI.1 i1 i2 i3 i4)
theorem st_resize {σ : hT} {dom : List (Nat × Nat)} (h : RR σ dom) (v1 v2 v3 : Int32) : stB (L_resize 30000 σ v1 v2 v3) (fun σ2 => M_resize 30000 σ2 v1 v2 v3) dom := by
  obtain ⟨s, g, hI, hD⟩ := h
  obtain ⟨e1, i1⟩ := i32v v1
  obtain ⟨e2, i2⟩ := i32v v2
  obtain ⟨e3, i3⟩ := i32v v3
  generalize v1.toInt = d at *
  generalize v2.toInt = p at *
  generalize v3.toInt = b at *
  subst e1 e2 e3
  exact stB_H hI hD (d := d) (fun hk => ⟨wf_rsz hI.1.1 hk, hk.1.2.1, hk.1.2.2.1, fun k hk2 => fRsz_o (cpOk_cw hI.1.1 hk.1).2.2.2.2.1 hk.2 hk2⟩) (eV_resize hI.2.2.2 hI.1 i1 i2 i3 (by omega)) (fun σ2 hs => eM_resize hs hI.1 i1 i2 i3 (by omega))
theorem st_ref {σ : hT} {dom : List (Nat × Nat)} (h : RR σ dom) (v1 v2 v3 v4 v5 : Int32) : stB (L_ref σ v1 v2 v3 v4 v5) (fun σ2 => M_ref σ2 v1 v2 v3 v4 v5) dom := by
  obtain ⟨s, g, hI, hD⟩ := h
  obtain ⟨e1, i1⟩ := i32v v1
  obtain ⟨e2, i2⟩ := i32v v2
  obtain ⟨e3, i3⟩ := i32v v3
  obtain ⟨e4, i4⟩ := i32v v4
  obtain ⟨e5, i5⟩ := i32v v5
  generalize v1.toInt = d at *
  generalize v2.toInt = p at *
  generalize v3.toInt = k at *
  generalize v4.toInt = t at *
  generalize v5.toInt = r at *
  subst e1 e2 e3 e4 e5
  exact stB_H hI hD (d := d) (fun hk => ⟨wf_ref hI.1.1 i5 hk, hk.1.2.1, hk.1.2.2.1, fun x hk2 => fRef_o (by have := hk.2; omega) (by have := (cpOk_cw hI.1.1 hk.1).2.2.2.2.1.2.1; have := hk.2; omega) hk2⟩) (eV_ref hI.2.2.2 hI.1 i1 i2 i3 i4 i5) (fun σ2 hs => eM_ref hs hI.1 i1 i2 i3 i4 i5)
theorem st_drop {σ : hT} {dom : List (Nat × Nat)} (h : RR σ dom) (v1 v2 v3 : Int32) : stB (L_drop 30000 σ v1 v2 v3) (fun σ2 => M_drop 30000 σ2 v1 v2 v3) dom := by
  obtain ⟨s, g, hI, hD⟩ := h
  obtain ⟨e1, i1⟩ := i32v v1
  obtain ⟨e2, i2⟩ := i32v v2
  obtain ⟨e3, i3⟩ := i32v v3
  generalize v1.toInt = d at *
  generalize v2.toInt = p at *
  generalize v3.toInt = k at *
  subst e1 e2 e3
  exact stB_H hI hD (d := d) (fun hk => ⟨wf_drp hI.1.1 hk, hk.1.2.1, hk.1.2.2.1, fun x hk2 => fDrp_o (cpOk_cw hI.1.1 hk.1).2.2.2.2.1 hk.2.1 hk2⟩) (eV_drop hI.2.2.2 hI.1 i1 i2 i3 (by omega)) (fun σ2 hs => eM_drop hs hI.1 i1 i2 i3 (by omega))
