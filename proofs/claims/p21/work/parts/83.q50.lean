def vInv (σ : hT) (s : zT) (g : Nat) : Prop := okS s ∧ rlW s.1 s.2.1 ∧ MSt σ s ∧ CaS σ s g
theorem MSt.f15 {σ σ' : hT} {s : zT} (h : MSt σ s) (hf : f15 σ σ') : MSt σ' s := ⟨fun k k0 k1 => by rw [hf 15 0 (by omega)]; exact h.1 k k0 k1, fun k k0 k1 => by rw [hf 16 0 (by omega)]; exact h.2.1 k k0 k1, by rw [hf 504 0 (by omega)]; exact h.2.2.1, by rw [hf 505 0 (by omega)]; exact h.2.2.2⟩
theorem CaS.fM {σ σ' : hT} {s : zT} {g : Nat} (h : CaS σ s g) (hf : fM σ σ') : CaS σ' s g := h.fr ⟨by rw [hf.1], fun j => by rw [hf.1], fun f j n => hf.2 f j (by omega)⟩ (fun f a b => hf.2 f 0 (by omega))
theorem okS.pl {s : zT} (h : okS s) : -1 ≤ s.2.2.2 ∧ s.2.2.2 < 2147483648 := ⟨h.2.2.1, h.2.2.2⟩
theorem Cm.inv {ok : Prop} {c : Int} {f : (Int → Int) → Int → Int} {s s' : zT} {th acc : Int} (h : Cm ok c f s th acc s') (ho : okS s) (hr : rlW s.1 s.2.1) (hc : 0 ≤ c) (hw : ok → c ≤ s.1 17 → wf (f (mv s.1 c))) : okS s' ∧ rlW s'.1 s'.2.1 := by
  obtain ⟨p1, p2⟩ := ho.pl
  rcases h with ⟨_, rfl, rfl, rfl⟩ | ⟨_, _, rfl, rfl, rfl⟩ | ⟨q1, q2, q3, q4, q5, rfl, rfl, rfl⟩ | ⟨q1, q2, q3, q4, rfl, rfl, rfl⟩
  · exact ⟨ho, hr⟩
  · exact ⟨ho, hr⟩
  · exact ⟨⟨ho.1, Or.inr rfl, p1, p2⟩, hr⟩
  · have hwf := wf_cls (hw q2 q3)
    refine ⟨⟨hwf, Or.inl rfl, ?_, ?_⟩, rlW.rf hwf⟩
    · show -1 ≤ (if s.2.2.2 = -1 then -1 else s.2.2.2 - c)
      split <;> omega
    · show (if s.2.2.2 = -1 then -1 else s.2.2.2 - c) < 2147483648
      split <;> omega
theorem Hm.inv {ok : Prop} {f : (Int → Int) → Int → Int} {s s' : zT} {th acc : Int} (h : Hm ok f s th acc s') (ho : okS s) (hr : rlW s.1 s.2.1) {d : Int} (hw : ok → wf (f s.1) ∧ 0 ≤ d ∧ d < s.1 16 ∧ ∀ k, ¬ (20 + 80 * d + 2 ≤ k ∧ k < 20 + 80 * d + 80) → f s.1 k = s.1 k) : okS s' ∧ rlW s'.1 s'.2.1 := by
  have h16 := ho.1.1
  rcases h with ⟨_, rfl, rfl, rfl⟩ | ⟨_, _, rfl, rfl, rfl⟩ | ⟨q1, q2, rfl, rfl, rfl⟩
  · exact ⟨ho, hr⟩
  · exact ⟨ho, hr⟩
  · obtain ⟨a, b, c, e⟩ := hw q2
    refine ⟨⟨a, Or.inl rfl, ho.pl.1, ho.pl.2⟩, hr.1, fun k hk => ?_⟩
    show s.2.1 k = f s.1 k
    rw [e k (by omega)]; exact hr.2 k hk
theorem Hm.a01 {ok : Prop} {f : (Int → Int) → Int → Int} {s s' : zT} {th acc : Int} (h : Hm ok f s th acc s') : (acc = 0 ∨ acc = 1) ∧ (th = 0 ∨ th = 1) := by
  rcases h with ⟨_, rfl, rfl, rfl⟩ | ⟨_, _, rfl, rfl, rfl⟩ | ⟨q1, q2, rfl, rfl, rfl⟩ <;> omega
abbrev f24 (σ σ' : hT) : Prop := σ' = σ ∨ ∃ x, σ' = sL σ 24 0 0 x
theorem f24.v {g : Nat} {σ σ' : hT} (h : f24 σ σ') : fV g σ σ' := by
  rcases h with rfl | ⟨x, rfl⟩
  · exact fV.rf
  · exact fV.rf.l (by decide)
theorem f24.i {σ σ' : hT} (h : f24 σ σ') : σ'.1 = σ.1 := by
  rcases h with rfl | ⟨x, rfl⟩ <;> rfl
theorem CaS.w24 {σ σ' : hT} {s : zT} {g : Nat} (h : CaS σ s g) (hf : f24 σ σ') : CaS σ' s g := h.fr hf.v (fun f a b => by rw [hf.i])
theorem spC {ok : Prop} {c : Int} {f : (Int → Int) → Int → Int} {s : zT} {g gn : Nat} {σ : hT} {V : oT} {M : hT → Option (Int32 × hT)} {ans : Int → Int → Int} {ansC : Int → Int} (hI : vInv σ s g) (hc : 0 ≤ c) (hw : ok → c ≤ s.1 17 → wf (f (mv s.1 c))) (hV : ClsC ok c f s g gn σ V ansC) (hM : ∀ σ2, MSt σ2 s → RefC ok c f s σ2 (M σ2) ans) :
    ∃ th acc s' σ1, Cm ok c f s th acc s' ∧ V = some (if th = 1 then none else some (zI (ansC acc)), σ1) ∧ ∀ σ2, f24 σ1 σ2 → ∃ σ3, M σ2 = some (zI (ans th acc), σ3) ∧ σ3.2 = σ2.2 ∧ σ3.1 500 0 0 = zI th ∧ vInv σ3 s' (if acc = 1 then gn else g) := by
  obtain ⟨ho, hr, hs, hS⟩ := hI
  obtain ⟨th, acc, s', σ1, h1, h2, h3, h4⟩ := hV
  refine ⟨th, acc, s', σ1, h1, h2, fun σ2 h24 => ?_⟩
  have hs2 : MSt σ2 s := (hs.f15 h4).f15 (fun f j z => by rw [h24.i])
  obtain ⟨th', acc', s'', σ3, m1, m2, m3, m4, m5, m6⟩ := hM σ2 hs2
  obtain ⟨rfl, rfl, rfl⟩ := h1.det m1
  obtain ⟨i1, i2⟩ := h1.inv ho hr hc hw
  exact ⟨σ3, m2, m4, m6, i1, i2, m3, (h3.w24 h24).fM ⟨m4, m5⟩⟩
theorem spH {ok : Prop} {f : (Int → Int) → Int → Int} {s : zT} {g : Nat} {σ : hT} {V : oT} {M : hT → Option (Int32 × hT)} (hI : vInv σ s g) {d : Int} (hw : ok → wf (f s.1) ∧ 0 ≤ d ∧ d < s.1 16 ∧ ∀ k, ¬ (20 + 80 * d + 2 ≤ k ∧ k < 20 + 80 * d + 80) → f s.1 k = s.1 k) (hV : ClsH ok f s g σ V) (hM : ∀ σ2, MSt σ2 s → RefH ok f s σ2 (M σ2)) :
    ∃ th acc s' σ1, Hm ok f s th acc s' ∧ V = some (if th = 1 then none else some (zI acc), σ1) ∧ ∀ σ2, f24 σ1 σ2 → ∃ σ3, M σ2 = some (zI acc, σ3) ∧ σ3.2 = σ2.2 ∧ σ3.1 500 0 0 = zI th ∧ vInv σ3 s' g := by
  obtain ⟨ho, hr, hs, hS⟩ := hI
  obtain ⟨th, acc, s', σ1, h1, h2, h3, h4⟩ := hV
  refine ⟨th, acc, s', σ1, h1, h2, fun σ2 h24 => ?_⟩
  have hs2 : MSt σ2 s := (hs.f15 h4).f15 (fun f j z => by rw [h24.i])
  obtain ⟨th', acc', s'', σ3, m1, m2, m3, m4, m5, m6⟩ := hM σ2 hs2
  obtain ⟨rfl, rfl, rfl⟩ := h1.det m1
  obtain ⟨i1, i2⟩ := h1.inv ho hr hw
  exact ⟨σ3, m2, m4, m6, i1, i2, m3, (h3.w24 h24).fM ⟨m4, m5⟩⟩
theorem spQ {q : Option Int} {s : zT} {g : Nat} {σ : hT} {V : oT} {M : hT → Option (Int32 × hT)} (hI : vInv σ s g) (hV : ClsQ q s g σ V) (hM : ∀ σ2, MSt σ2 s → RefQ q s σ2 (M σ2)) :
    ∃ σ1, V = some (q.map zI, σ1) ∧ ∀ σ2, f24 σ1 σ2 → ∃ σ3, M σ2 = some (zI (q.getD 0), σ3) ∧ σ3.2 = σ2.2 ∧ σ3.1 500 0 0 = zI (if q = none then 1 else 0) ∧ vInv σ3 s g := by
  obtain ⟨ho, hr, hs, hS⟩ := hI
  obtain ⟨σ1, h2, h3, h4⟩ := hV
  refine ⟨σ1, h2, fun σ2 h24 => ?_⟩
  have hs2 : MSt σ2 s := (hs.f15 h4).f15 (fun f j z => by rw [h24.i])
  obtain ⟨σ3, m2, m3, m4, m5⟩ := hM σ2 hs2
  exact ⟨σ3, m2, m4.1, m5, ho, hr, m3, (h3.w24 h24).fM m4⟩
theorem spN {q : Int} {s s' : zT} {g : Nat} {σ : hT} {V : Option (Int32 × hT)} {M : hT → Option (Int32 × hT)} (hI : vInv σ s g) (hi : okS s' ∧ rlW s'.1 s'.2.1) (hV : ClsN q s' g σ V) (hM : ∀ σ2, MSt σ2 s → RefQ (some q) s' σ2 (M σ2)) :
    ∃ σ1 σ3, V = some (zI q, σ1) ∧ M σ1 = some (zI q, σ3) ∧ vInv σ3 s' g := by
  obtain ⟨ho, hr, hs, hS⟩ := hI
  obtain ⟨σ1, h2, h3, h4⟩ := hV
  obtain ⟨σ3, m2, m3, m4, m5⟩ := hM σ1 (hs.f15 h4)
  exact ⟨σ1, σ3, h2, m2, hi.1, hi.2, m3, h3.fM m4⟩
def lB (V : oT) : Option (Int32 × hT) := Option.bind V fun ⟨y2o, σ3⟩ => cx9 y2o (some (1, σ3)) fun y2 => lt9 (α := Int64 → Option (Int32 × hT)) (fun (s6 : Int64) => lt9 (sL σ3 24 0 0 s6) fun σ8 => some (0, σ8)) fun x5 => if y2 = 0 then x5 0 else x5 1
def lI' (V : oT) : Option (Int32 × hT) := Option.bind V fun ⟨y2o, σ3⟩ => cx9 y2o (some (1, σ3)) fun y2 => lt9 (sL σ3 24 0 0 ((y2).toInt64)) fun σ5 => some (0, σ5)
theorem elB {V : oT} {th acc : Int} {σ1 : hT} (h : V = some (if th = 1 then none else some (zI acc), σ1)) (ha : acc = 0 ∨ acc = 1) (ht : th = 0 ∨ th = 1) : ∃ σ2, lB V = some (zI th, σ2) ∧ f24 σ1 σ2 ∧ (th = 0 → σ2.2.1 24 0 0 = if acc = 0 then 0 else 1) := by
  rw [h]
  rcases ht with rfl | rfl
  · rcases ha with rfl | rfl
    · exact ⟨sL σ1 24 0 0 0, rfl, Or.inr ⟨_, rfl⟩, fun _ => sL_self⟩
    · exact ⟨sL σ1 24 0 0 1, rfl, Or.inr ⟨_, rfl⟩, fun _ => sL_self⟩
  · exact ⟨σ1, rfl, Or.inl rfl, fun z => absurd z (by decide)⟩
theorem elI {V : oT} {q : Option Int} {σ1 : hT} (h : V = some (q.map zI, σ1)) : ∃ σ2, lI' V = some (zI (if q = none then 1 else 0), σ2) ∧ f24 σ1 σ2 ∧ (∀ x, q = some x → σ2.2.1 24 0 0 = (zI x).toInt64) := by
  rw [h]
  cases q with
  | none => exact ⟨σ1, rfl, Or.inl rfl, fun x z => nomatch z⟩
  | some y => exact ⟨sL σ1 24 0 0 ((zI y).toInt64), rfl, Or.inr ⟨_, rfl⟩, fun x z => by cases z; exact sL_self⟩
theorem elC {V : oT} {th a : Int} {σ1 : hT} (h : V = some (if th = 1 then none else some (zI a), σ1)) (ht : th = 0 ∨ th = 1) : ∃ σ2, lI' V = some (zI th, σ2) ∧ f24 σ1 σ2 ∧ (th = 0 → σ2.2.1 24 0 0 = (zI a).toInt64) := by
  rw [h]
  rcases ht with rfl | rfl
  · exact ⟨sL σ1 24 0 0 ((zI a).toInt64), rfl, Or.inr ⟨_, rfl⟩, fun _ => sL_self⟩
  · exact ⟨σ1, rfl, Or.inl rfl, fun z => absurd z (by decide)⟩
theorem i32v (x : Int32) : x = zI x.toInt ∧ i32 x.toInt := ⟨zI_of x, by have := Int32.le_toInt x; simpa using this, by have := Int32.toInt_lt x; simpa using this⟩
