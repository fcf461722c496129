/-! Worlds as maps: F a = some e: the cell at a is e. For states with any number of objects. -/
def mW (D : va_G) (cl : List vw_C) (F : Nat → Option va_E) (H : Heap) : Prop := ∀ a e, F a = some e → va_at D cl (a, e) H
def mA (A : Nat → Prop) (F : Nat → Option va_E) : Prop := ∀ a e, F a = some e → A a
theorem mW.list {D : va_G} {cl : List vw_C} {F : Nat → Option va_E} {H : Heap} (h : mW D cl F H) {ws : va_W} (hw : ∀ q ∈ ws, F q.1 = some q.2) : va_P D cl ws H := fun k q hk => h q.1 q.2 (hw q (List.mem_of_getElem? hk))
theorem mW.one {D : va_G} {cl : List vw_C} {F : Nat → Option va_E} {H : Heap} (h : mW D cl F H) {a : Nat} {e : va_E} (he : F a = some e) : va_P D cl [(a, e)] H := h.list (fun q hq => by rw [List.mem_singleton.mp hq]; exact he)
theorem mA.list {A : Nat → Prop} {F : Nat → Option va_E} (h : mA A F) {ws : va_W} (hw : ∀ q ∈ ws, F q.1 = some q.2) (hn : (ws.map (fun q => q.1)).Nodup) : va_D A ws := by
  refine ⟨fun i j p q hp hq hpq => ?_, fun k q hk => h q.1 q.2 (hw q (List.mem_of_getElem? hk))⟩
  have hi : i < (ws.map (fun q => q.1)).length := by rw [List.length_map]; exact (List.getElem?_eq_some_iff.mp hp).1
  have hj : j < (ws.map (fun q => q.1)).length := by rw [List.length_map]; exact (List.getElem?_eq_some_iff.mp hq).1
  refine (List.getElem_inj (h₀ := hi) (h₁ := hj) hn).mp ?_
  rw [List.getElem_map, List.getElem_map, (List.getElem?_eq_some_iff.mp hp).2, (List.getElem?_eq_some_iff.mp hq).2]
  exact hpq
/-- the map with the cells of w laid over it -/
def mOv (F : Nat → Option va_E) (w : va_W) : Nat → Option va_E := fun a => match w.find? (fun q => q.1 == a) with
  | some q => some q.2
  | none => F a
theorem mOv_or {F : Nat → Option va_E} {w : va_W} {a : Nat} {e : va_E} (h : mOv F w a = some e) : (a, e) ∈ w ∨ (F a = some e ∧ ∀ q ∈ w, q.1 ≠ a) := by
  unfold mOv at h
  cases hf : w.find? (fun q => q.1 == a) with
  | some q =>
    rw [hf] at h
    have h1 := List.mem_of_find?_eq_some hf
    have h2 : q.1 = a := by
      have := List.find?_some hf
      simpa using this
    have h3 : q.2 = e := Option.some.inj h
    refine Or.inl ?_
    rw [← h2, ← h3]
    exact h1
  | none =>
    rw [hf] at h
    refine Or.inr ⟨h, fun q hq e2 => ?_⟩
    have := List.find?_eq_none.mp hf q hq
    simp [e2] at this
/-- behind a call: the callee's cells laid over the others, which are unchanged -/
theorem mW.over {D : va_G} {cl : List vw_C} {F : Nat → Option va_E} {H H1 : Heap} {wc w1 : va_W} (h : mW D cl F H) (hk : ∀ q : Nat, q < H.size → ¬ va_A wc H.size q → H1[q]? = H[q]?) (hP1 : va_P D cl w1 H1) (hin : ∀ q ∈ wc, ∃ r ∈ w1, r.1 = q.1) : mW D cl (mOv F w1) H1 := by
  intro a e he
  rcases mOv_or he with hm | ⟨hF, hno⟩
  · obtain ⟨k, hk2⟩ := List.getElem?_of_mem hm
    exact hP1 k _ hk2
  · refine (h a e hF).kept (hk a (h a e hF).lt ?_)
    rintro (⟨k, e2, h2⟩ | h2)
    · obtain ⟨r, hr, hre⟩ := hin _ (List.mem_of_getElem? h2)
      exact hno r hr hre
    · exact absurd (h a e hF).lt (Nat.not_lt.mpr h2)
theorem mA.over {A : Nat → Prop} {F : Nat → Option va_E} {H : Heap} {wc w1 : va_W} (h : mA A F) (hF : ∀ q, va_A wc H.size q → A q) (hD1 : va_D (va_A wc H.size) w1) : mA A (mOv F w1) := by
  intro a e he
  rcases mOv_or he with hm | ⟨hF2, -⟩
  · obtain ⟨k, hk⟩ := List.getElem?_of_mem hm
    exact hF a (hD1.2 k _ hk)
  · exact h a e hF2
