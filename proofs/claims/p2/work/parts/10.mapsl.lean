/-! A map's world as a list, in some order that nobody asks for: so that the kit's rows for single instructions serve as they are. -/
def mL (D : va_G) (cl : List vw_C) (A : Nat → Prop) (F : Nat → Option va_E) (H : Heap) (ws : va_W) : Prop := va_P D cl ws H ∧ va_D A ws ∧ ∀ a e, F a = some e ↔ (a, e) ∈ ws
def mUp (F : Nat → Option va_E) (a : Nat) (e : va_E) : Nat → Option va_E := fun b => if b = a then some e else F b
theorem mUp_self {F : Nat → Option va_E} {a : Nat} {e : va_E} : mUp F a e a = some e := if_pos rfl
theorem mUp_ne {F : Nat → Option va_E} {a b : Nat} {e : va_E} (h : b ≠ a) : mUp F a e b = F b := if_neg h
theorem mL.at_ {D : va_G} {cl : List vw_C} {A : Nat → Prop} {F : Nat → Option va_E} {H : Heap} {ws : va_W} (h : mL D cl A F H ws) {a : Nat} {e : va_E} (he : F a = some e) : ∃ k : Nat, ws[k]? = some (a, e) := List.getElem?_of_mem ((h.2.2 a e).mp he)
theorem mL.mW {D : va_G} {cl : List vw_C} {A : Nat → Prop} {F : Nat → Option va_E} {H : Heap} {ws : va_W} (h : mL D cl A F H ws) : mW D cl F H := fun a e he => by
  obtain ⟨k, hk⟩ := h.at_ he
  exact h.1 k _ hk
theorem mL.mA {D : va_G} {cl : List vw_C} {A : Nat → Prop} {F : Nat → Option va_E} {H : Heap} {ws : va_W} (h : mL D cl A F H ws) : mA A F := fun a e he => by
  obtain ⟨k, hk⟩ := h.at_ he
  exact h.2.1.2 k _ hk
/-- behind a write at the place k -/
theorem mL.put {D : va_G} {cl : List vw_C} {A : Nat → Prop} {F : Nat → Option va_E} {H H1 : Heap} {ws : va_W} (h : mL D cl A F H ws) {a k : Nat} {e e1 : va_E} (hk : ws[k]? = some (a, e)) (hP : va_P D cl (ws.set k (a, e1)) H1) (hD : va_D A (ws.set k (a, e1))) : mL D cl A (mUp F a e1) H1 (ws.set k (a, e1)) := by
  refine ⟨hP, hD, fun b f => ?_⟩
  have hl := (List.getElem?_eq_some_iff.mp hk).1
  have hk1 : (ws.set k (a, e1))[k]? = some (a, e1) := List.getElem?_set_self hl
  by_cases hb : b = a
  · subst hb
    rw [mUp_self]
    constructor
    · intro q
      rw [← Option.some.inj q]
      exact List.mem_of_getElem? hk1
    · intro q
      obtain ⟨j, hj⟩ := List.getElem?_of_mem q
      have := hD.1 j k _ _ hj hk1 rfl
      subst this
      have e9 := Option.some.inj (hj.symm.trans hk1)
      rw [(Prod.mk.inj e9).2]
  · rw [mUp_ne hb, h.2.2 b f]
    constructor
    · intro q
      obtain ⟨j, hj⟩ := List.getElem?_of_mem q
      have hjk : j ≠ k := fun z => by
        subst z
        exact hb (Prod.mk.inj (Option.some.inj (hj.symm.trans hk))).1
      exact List.mem_of_getElem? (i := j) (by rw [List.getElem?_set_ne (Ne.symm hjk)]; exact hj)
    · intro q
      obtain ⟨j, hj⟩ := List.getElem?_of_mem q
      have hjk : j ≠ k := fun z => by
        subst z
        exact hb (Prod.mk.inj (Option.some.inj (hj.symm.trans hk1))).1
      rw [List.getElem?_set_ne (Ne.symm hjk)] at hj
      exact List.mem_of_getElem? hj
/-- behind 'new': one cell more -/
theorem mL.push {D : va_G} {cl : List vw_C} {A : Nat → Prop} {F : Nat → Option va_E} {H H1 : Heap} {ws : va_W} (h : mL D cl A F H ws) {q : Nat} {e : va_E} (hP : va_P D cl (ws ++ [(q, e)]) H1) (hD : va_D A (ws ++ [(q, e)])) : mL D cl A (mUp F q e) H1 (ws ++ [(q, e)]) := by
  refine ⟨hP, hD, fun b f => ?_⟩
  have hq : (ws ++ [(q, e)])[ws.length]? = some (q, e) := by rw [List.getElem?_append_right (Nat.le_refl _), Nat.sub_self]; rfl
  by_cases hb : b = q
  · subst hb
    rw [mUp_self]
    constructor
    · intro z
      rw [← Option.some.inj z]
      exact List.mem_append_right _ (List.mem_singleton.mpr rfl)
    · intro z
      obtain ⟨j, hj⟩ := List.getElem?_of_mem z
      have := hD.1 j _ _ _ hj hq rfl
      subst this
      rw [(Prod.mk.inj (Option.some.inj (hj.symm.trans hq))).2]
  · rw [mUp_ne hb, h.2.2 b f, List.mem_append, List.mem_singleton]
    constructor
    · exact Or.inl
    · rintro (z | z)
      · exact z
      · exact absurd (Prod.mk.inj z).1 hb
/-- behind a call that had the cells wc and gives back w1 -/
theorem mL.call {D : va_G} {cl : List vw_C} {A : Nat → Prop} {F : Nat → Option va_E} {H H1 : Heap} {ws wc w1 : va_W} (h : mL D cl A F H ws) (hk : ∀ q : Nat, q < H.size → ¬ va_A wc H.size q → H1[q]? = H[q]?) (hF : ∀ q, va_A wc H.size q → A q) (hP1 : va_P D cl w1 H1) (hD1 : va_D (va_A wc H.size) w1) (hin : ∀ q ∈ wc, ∃ r ∈ w1, r.1 = q.1) :
    mL D cl A (mOv F w1) H1 (ws.filter (fun q => (w1.find? (fun r => r.1 == q.1)).isNone) ++ w1) := by
  have hM := h.mW.over (w1 := w1) hk hP1 hin
  have hA := h.mA.over (w1 := w1) hF hD1
  have key : ∀ a e, mOv F w1 a = some e ↔ (a, e) ∈ ws.filter (fun q => (w1.find? (fun r => r.1 == q.1)).isNone) ++ w1 := by
    intro a e
    rw [List.mem_append, List.mem_filter]
    constructor
    · intro he
      rcases mOv_or he with hm | ⟨hF2, hno⟩
      · exact Or.inr hm
      · refine Or.inl ⟨(h.2.2 a e).mp hF2, ?_⟩
        rw [Option.isNone_iff_eq_none, List.find?_eq_none]
        intro r hr
        simpa using hno r hr
    · rintro (⟨h1, h2⟩ | h1)
      · unfold mOv
        rw [Option.isNone_iff_eq_none] at h2
        have h2 : w1.find? (fun r => r.1 == a) = none := h2
        rw [h2]
        exact (h.2.2 a e).mpr h1
      · unfold mOv
        cases hf : w1.find? (fun r => r.1 == a) with
        | none => exact absurd (List.find?_eq_none.mp hf _ h1) (by simp)
        | some r =>
          have hr := List.mem_of_find?_eq_some hf
          have hra : r.1 = a := by simpa using List.find?_some hf
          obtain ⟨i, hi⟩ := List.getElem?_of_mem hr
          obtain ⟨j, hj⟩ := List.getElem?_of_mem h1
          have := hD1.1 i j _ _ hi hj hra
          subst this
          rw [Option.some.inj (hi.symm.trans hj)]
  refine ⟨hM.list (fun q hq => (key q.1 q.2).mpr hq), hA.list (fun q hq => (key q.1 q.2).mpr hq) ?_, key⟩
  rw [List.map_append, List.nodup_append]
  have hnd : ∀ {B : Nat → Prop} {w : va_W}, va_D B w → (w.map (fun q => q.1)).Nodup := by
    intro B w hw
    refine List.pairwise_iff_getElem.mpr (fun i j hi hj hij he => ?_)
    rw [List.getElem_map, List.getElem_map] at he
    rw [List.length_map] at hi hj
    have := hw.1 i j _ _ (List.getElem?_eq_getElem hi) (List.getElem?_eq_getElem hj) he
    omega
  refine ⟨?_, hnd hD1, ?_⟩
  · exact ((List.filter_sublist).map _).nodup (hnd h.2.1)
  · intro a ha b hb hab
    subst hab
    obtain ⟨q, hq, rfl⟩ := List.mem_map.mp ha
    obtain ⟨r, hr, hra⟩ := List.mem_map.mp hb
    have h2 := (List.mem_filter.mp hq).2
    rw [Option.isNone_iff_eq_none, List.find?_eq_none] at h2
    exact h2 r hr (by simpa using hra)
