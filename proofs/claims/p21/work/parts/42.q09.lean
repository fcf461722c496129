abbrev i32 (x : Int) : Prop := -2147483648 ≤ x ∧ x < 2147483648
def mv (v : Int → Int) (c : Int) : Int → Int := uv (uv v 17 (v 17 - c)) 18 (v 18 + 1)
abbrev zT : Type := (Int → Int) × (Int → Int) × Int × Int
def Cm (ok : Prop) (c : Int) (f : (Int → Int) → Int → Int) (s : zT) (th acc : Int) (s' : zT) : Prop :=
  (s.2.2.1 = 1 ∧ th = 1 ∧ acc = 0 ∧ s' = s) ∨
  (s.2.2.1 = 0 ∧ (¬ ok ∨ s.1 17 < c) ∧ th = 0 ∧ acc = 0 ∧ s' = s) ∨
  (s.2.2.1 = 0 ∧ ok ∧ c ≤ s.1 17 ∧ s.2.2.2 ≠ -1 ∧ s.2.2.2 < c ∧ th = 1 ∧ acc = 0 ∧ s' = (s.1, s.2.1, 1, s.2.2.2)) ∨
  (s.2.2.1 = 0 ∧ ok ∧ c ≤ s.1 17 ∧ (s.2.2.2 = -1 ∨ c ≤ s.2.2.2) ∧ th = 0 ∧ acc = 1 ∧ s' = (cls (f (mv s.1 c)), cls (f (mv s.1 c)), 0, if s.2.2.2 = -1 then -1 else s.2.2.2 - c))
theorem Cm.det {ok : Prop} {c : Int} {f : (Int → Int) → Int → Int} {s s1 s2 : zT} {t1 t2 a1 a2 : Int} (h1 : Cm ok c f s t1 a1 s1) (h2 : Cm ok c f s t2 a2 s2) : t1 = t2 ∧ a1 = a2 ∧ s1 = s2 := by
  rcases h1 with ⟨p1, rfl, rfl, rfl⟩ | ⟨p1, p2, rfl, rfl, rfl⟩ | ⟨p1, p2, p3, p4, p5, rfl, rfl, rfl⟩ | ⟨p1, p2, p3, p4, rfl, rfl, rfl⟩ <;> rcases h2 with ⟨q1, rfl, rfl, rfl⟩ | ⟨q1, q2, rfl, rfl, rfl⟩ | ⟨q1, q2, q3, q4, q5, rfl, rfl, rfl⟩ | ⟨q1, q2, q3, q4, rfl, rfl, rfl⟩
  all_goals first
    | exact ⟨rfl, rfl, rfl⟩
    | (exfalso; omega)
    | (exfalso; rcases p2 with z | z <;> first | exact z q2 | omega)
    | (exfalso; rcases q2 with z | z <;> first | exact z p2 | omega)
def Hm (ok : Prop) (f : (Int → Int) → Int → Int) (s : zT) (th acc : Int) (s' : zT) : Prop :=
  (s.2.2.1 = 1 ∧ th = 1 ∧ acc = 0 ∧ s' = s) ∨ (s.2.2.1 = 0 ∧ ¬ ok ∧ th = 0 ∧ acc = 0 ∧ s' = s) ∨ (s.2.2.1 = 0 ∧ ok ∧ th = 0 ∧ acc = 1 ∧ s' = (f s.1, s.2.1, 0, s.2.2.2))
theorem Hm.det {ok : Prop} {f : (Int → Int) → Int → Int} {s s1 s2 : zT} {t1 t2 a1 a2 : Int} (h1 : Hm ok f s t1 a1 s1) (h2 : Hm ok f s t2 a2 s2) : t1 = t2 ∧ a1 = a2 ∧ s1 = s2 := by
  rcases h1 with ⟨p1, rfl, rfl, rfl⟩ | ⟨p1, p2, rfl, rfl, rfl⟩ | ⟨p1, p2, rfl, rfl, rfl⟩ <;> rcases h2 with ⟨q1, rfl, rfl, rfl⟩ | ⟨q1, q2, rfl, rfl, rfl⟩ | ⟨q1, q2, rfl, rfl, rfl⟩
  all_goals first
    | exact ⟨rfl, rfl, rfl⟩
    | (exfalso; omega)
    | (exfalso; exact p2 q2)
    | (exfalso; exact q2 p2)
abbrev MSt (σ : hT) (s : zT) : Prop := MS σ s.1 s.2.1 s.2.2.1 s.2.2.2
def okS (s : zT) : Prop := wf s.1 ∧ (s.2.2.1 = 0 ∨ s.2.2.1 = 1) ∧ -1 ≤ s.2.2.2 ∧ s.2.2.2 < 2147483648
theorem Cm_ref {ok : Prop} {c : Int} {f : (Int → Int) → Int → Int} {s : zT} {σ : hT} (hs : MSt σ s) (ho : okS s) {why : Int} (hy : 0 ≤ why) (hy8 : why ≤ 8) (hok : ok ↔ why = 0) (hc : 0 ≤ c) (hc4 : c ≤ 400) (F : hT → Int32 → Option (Int32 × hT)) (ans : Int → Int → Int)
    (hno : ∀ σ1 (th : Int), σ1.1 500 0 0 = zI th → (th = 0 ∨ th = 1) → ∃ σ2, F σ1 (zI 0) = some (zI (ans th 0), σ2) ∧ σ2 = σ1)
    (hyes : ok → c ≤ s.1 17 → ∀ σ1 pl, MS σ1 (mv s.1 c) s.2.1 0 pl → fr pMay σ σ1 → σ1.1 500 0 0 = zI 0 → ∃ σ2, F σ1 (zI 1) = some (zI (ans 0 1), σ2) ∧ MS σ2 (cls (f (mv s.1 c))) (cls (f (mv s.1 c))) 0 pl ∧ σ2.2 = σ1.2 ∧ (∀ g j, (g < 15 ∨ 19 < g ∧ g < 500 ∨ 600 ≤ g) → σ2.1 g j = σ1.1 g j) ∧ σ2.1 500 0 0 = zI 0) :
    ∃ th acc s' σ', Cm ok c f s th acc s' ∧ Option.bind (M_may σ (zI why) (zI c)) (fun q => F q.2 q.1) = some (zI (ans th acc), σ') ∧ MSt σ' s' ∧ σ'.2 = σ.2 ∧ (∀ g j, (g < 15 ∨ 19 < g ∧ g < 500 ∨ 600 ≤ g) → σ'.1 g j = σ.1 g j) ∧ σ'.1 500 0 0 = zI th := by
  obtain ⟨v, w, fl, pl⟩ := s
  obtain ⟨hw, hfl, hp1, hp2⟩ := ho
  dsimp only [MSt] at *
  have fq : ∀ {σ1 : hT}, fr pMay σ σ1 → σ1.2 = σ.2 ∧ ∀ g j, (g < 15 ∨ 19 < g ∧ g < 500 ∨ 600 ≤ g) → σ1.1 g j = σ.1 g j := fun h => ⟨h.1, fun g j hg => h.2 g j (by simp only [pMay]; omega)⟩
  rcases hfl with rfl | rfl
  · by_cases hr : 0 < why ∨ v 17 < c
    · obtain ⟨σ1, q1, q2, q3, q4⟩ := eM_may_r hs hw hy hy8 hc hc4 hr
      obtain ⟨σ2, r1, rfl⟩ := hno σ1 0 q4 (Or.inl rfl)
      exact ⟨0, 0, _, _, Or.inr (Or.inl ⟨rfl, hr.elim (fun z => Or.inl (fun y => by have := hok.mp y; omega)) Or.inr, rfl, rfl, rfl⟩), by rw [q1]; exact r1, q2, (fq q3).1, (fq q3).2, q4⟩
    · obtain rfl : why = 0 := by omega
      have hk : ok := hok.mpr rfl
      by_cases hp : pl ≠ -1 ∧ pl < c
      · obtain ⟨σ1, q1, q2, q3, q4⟩ := eM_may_p hs hw hc hc4 (by omega) hp.1 hp1 hp2 hp.2
        obtain ⟨σ2, r1, rfl⟩ := hno σ1 1 q4 (Or.inr rfl)
        exact ⟨1, 0, _, _, Or.inr (Or.inr (Or.inl ⟨rfl, hk, (by show c ≤ v 17; omega), hp.1, hp.2, rfl, rfl, rfl⟩)), by rw [q1]; exact r1, q2, (fq q3).1, (fq q3).2, q4⟩
      · obtain ⟨σ1, q1, q2, q3, q4⟩ := eM_may_k hs hw hc hc4 (by omega) hp1 hp2 (by omega)
        obtain ⟨σ2, r1, r2, r3, r4, r5⟩ := hyes hk (by show c ≤ v 17; omega) σ1 _ q2 q3 q4
        exact ⟨0, 1, _, σ2, Or.inr (Or.inr (Or.inr ⟨rfl, hk, (by show c ≤ v 17; omega), (by show pl = -1 ∨ c ≤ pl; omega), rfl, rfl, rfl⟩)), by rw [q1]; exact r1, r2, r3.trans (fq q3).1, fun g j hg => (r4 g j hg).trans ((fq q3).2 g j hg), r5⟩
  · obtain ⟨σ1, q1, q2, q3, q4⟩ := eM_may_f hs hw hy hy8 hc hc4
    obtain ⟨σ2, r1, rfl⟩ := hno σ1 1 q4 (Or.inr rfl)
    exact ⟨1, 0, _, _, Or.inl ⟨rfl, rfl, rfl, rfl⟩, by rw [q1]; exact r1, q2, (fq q3).1, (fq q3).2, q4⟩
