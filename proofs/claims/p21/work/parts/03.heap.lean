
set_option linter.unusedVariables false

/-! A state as tables: ints, longs, references, by field, object's number, place. -/
abbrev hT : Type := (Nat → Nat → Nat → Int32) × (Nat → Nat → Nat → Int64) × (Nat → Nat → Nat → Option Nat)
def r3 {α : Type} (x : Nat → Nat → Nat → α) (f j : Nat) (g : Nat → α) : Nat → Nat → Nat → α := fun f' j' => if f' = f ∧ j' = j then g else x f' j'
def up9 {α : Type} (f : Nat → α) (k : Nat) (v : α) : Nat → α := fun i => if i = k then v else f i
def cp9 {α : Type} (f g : Nat → α) (n : Nat) : Nat → α := fun i => if i < n then f i else g i
abbrev xI (σ : hT) (f j k : Nat) : Int32 := σ.1 f j k
abbrev xL (σ : hT) (f j k : Nat) : Int64 := σ.2.1 f j k
abbrev xR (σ : hT) (f j k : Nat) : Option Nat := σ.2.2 f j k
def sI9 (σ : hT) (f j : Nat) (g : Nat → Int32) : hT := (r3 σ.1 f j g, σ.2)
def sL9 (σ : hT) (f j : Nat) (g : Nat → Int64) : hT := (σ.1, r3 σ.2.1 f j g, σ.2.2)
def sR9 (σ : hT) (f j : Nat) (g : Nat → Option Nat) : hT := (σ.1, σ.2.1, r3 σ.2.2 f j g)
def sI (σ : hT) (f j k : Nat) (v : Int32) : hT := sI9 σ f j (up9 (σ.1 f j) k v)
def sL (σ : hT) (f j k : Nat) (v : Int64) : hT := sL9 σ f j (up9 (σ.2.1 f j) k v)
def sR (σ : hT) (f j k : Nat) (v : Option Nat) : hT := sR9 σ f j (up9 (σ.2.2 f j) k v)
abbrev in9 (i : Int32) (n : Nat) : Prop := ¬ (i < 0 ∨ n ≤ i.toNatClampNeg)
def lt9 {α β : Type} (x : α) (k : α → β) : β := k x
def hq {β : Type} (e : Option Nat) (a : β) (b : Nat → β) : β := match e with
  | none => a
  | some j => b j
def ex9 {α β : Type} (o : Option α) (σ : hT) (k : α → Option (Option β × hT)) : Option (Option β × hT) := match o with
  | none => some (none, σ)
  | some y => k y
def nrZ (x : Int32) : Int32 := x &&& 1
def nrB (x : Int32) : Int32 := x.toInt8.toInt32
theorem r3_self {α : Type} {x : Nat → Nat → Nat → α} {f j : Nat} {g : Nat → α} : r3 x f j g f j = g := if_pos ⟨rfl, rfl⟩
theorem r3_ne {α : Type} {x : Nat → Nat → Nat → α} {f j f' j' : Nat} {g : Nat → α} (h : ¬ (f' = f ∧ j' = j)) : r3 x f j g f' j' = x f' j' := if_neg h
theorem ite_t {α : Type} {c : Prop} [Decidable c] {a b r : α} (h : c) (hf : (if c then a else b) = r) : a = r := by rw [if_pos h] at hf; exact hf
theorem ite_f {α : Type} {c : Prop} [Decidable c] {a b r : α} (h : ¬ c) (hf : (if c then a else b) = r) : b = r := by rw [if_neg h] at hf; exact hf
theorem ite_s {α : Type} {c : Prop} [Decidable c] {a : Option α} {r : α} (hf : (if c then a else none) = some r) : c ∧ a = some r := by
  by_cases h : c
  · exact ⟨h, ite_t h hf⟩
  · exact nomatch ite_f h hf
theorem ob {α β : Type} {x : Option α} {k : α → Option β} {r : β} (hf : Option.bind x k = some r) : ∃ y, x = some y ∧ k y = some r := by
  cases x with
  | none => exact nomatch hf
  | some y => exact ⟨y, rfl, hf⟩
theorem lt_9 {α β : Type} {x : α} {k : α → β} {r : β} (hf : lt9 x k = r) : ∃ y, y = x ∧ k y = r := ⟨x, rfl, hf⟩
theorem hq_n {β : Type} {e : Option Nat} {a r : β} {b : Nat → β} (h : e = none) (hf : hq e a b = r) : a = r := by subst h; exact hf
theorem hq_s {β : Type} {e : Option Nat} {a r : β} {b : Nat → β} {j : Nat} (h : e = some j) (hf : hq e a b = r) : b j = r := by subst h; exact hf
theorem ex9_n {α β : Type} {σ σ' : hT} {k : α → Option (Option β × hT)} {r : β} (hf : ex9 none σ k = some (some r, σ')) : False := nomatch (show some ((none : Option β), σ) = some (some r, σ') from hf)
theorem ex9_s {α β : Type} {σ : hT} {y : α} {k : α → Option (Option β × hT)} {r : Option (Option β × hT)} (hf : ex9 (some y) σ k = r) : k y = r := hf
def cx9 {α β : Type} (o : Option α) (a : β) (k : α → β) : β := match o with
  | none => a
  | some y => k y
theorem cx_n {α β : Type} {a r : β} {k : α → β} (hf : cx9 none a k = r) : a = r := hf
theorem cx_s {α β : Type} {y : α} {a r : β} {k : α → β} (hf : cx9 (some y) a k = r) : k y = r := hf
theorem sL_self {σ : hT} {f j k : Nat} {v : Int64} : (sL σ f j k v).2.1 f j k = v := by
  show r3 σ.2.1 f j (up9 (σ.2.1 f j) k v) f j k = v
  rw [r3_self]; exact if_pos rfl
/-- never a throw -/
def nt {β : Type} (x : Option (Option β × hT)) : Prop := ∀ σ', x ≠ some (none, σ')
theorem nt9 {β : Type} {x : Option (Option β × hT)} {σ' : hT} {P : Prop} (h : nt x) (hf : x = some (none, σ')) : P := absurd hf (h σ')
theorem nt_n {β : Type} : nt (none : Option (Option β × hT)) := fun _ h => nomatch h
theorem nt_s {β : Type} {r : β} {σ : hT} : nt (some (some r, σ)) := fun _ h => nomatch h
theorem nt_i {β : Type} {c : Prop} [Decidable c] {a b : Option (Option β × hT)} (h1 : nt a) (h2 : nt b) : nt (if c then a else b) := by split <;> assumption
theorem nt_b {α β : Type} {x : Option α} {k : α → Option (Option β × hT)} (h : ∀ y, nt (k y)) : nt (Option.bind x k) := by
  cases x with
  | none => exact nt_n
  | some y => exact h y
theorem nt_l {α β : Type} {x : α} {k : α → Option (Option β × hT)} (h : ∀ y, nt (k y)) : nt (lt9 x k) := h x
theorem nt_q {β : Type} {e : Option Nat} {a : Option (Option β × hT)} {b : Nat → Option (Option β × hT)} (h1 : nt a) (h2 : ∀ j, nt (b j)) : nt (hq e a b) := by
  cases e with
  | none => exact h1
  | some j => exact h2 j
theorem ite_n {α : Type} {c : Prop} [Decidable c] {a : Option α} {r : α} (hf : (if c then none else a) = some r) : ¬ c ∧ a = some r := by
  by_cases h : c
  · exact nomatch ite_t h hf
  · exact ⟨h, ite_f h hf⟩
def dm9 (ρ : Int32) (d e : List (Nat × Nat)) : List (Nat × Nat) := if ρ = -1 then d else d ++ e
theorem dm9_n {ρ : Int32} {d e : List (Nat × Nat)} (h : ρ = -1) : dm9 ρ d e = d := if_pos h
theorem dm9_y {ρ : Int32} {d e : List (Nat × Nat)} (h : ¬ ρ = -1) : dm9 ρ d e = d ++ e := if_neg h
theorem dm9_m {ρ : Int32} {d e : List (Nat × Nat)} {r : Nat × Nat} (h : r ∈ d) : r ∈ dm9 ρ d e := by
  unfold dm9; split
  · exact h
  · exact List.mem_append_left _ h
def dmL (ρ : Int32) (x : Int64) (d e : List (Nat × Nat)) : List (Nat × Nat) := if ρ = 1 ∨ x = -1 then d else d ++ e
theorem dmL_n {ρ : Int32} {x : Int64} {d e : List (Nat × Nat)} (h : ρ = 1) : dmL ρ x d e = d := if_pos (Or.inl h)
theorem i64_m1 {y : Int32} : y.toInt64 = -1 ↔ y = -1 := by
  constructor
  · intro h
    have h2 : y.toInt64.toInt = (-1 : Int64).toInt := by rw [h]
    rw [Int32.toInt_toInt64] at h2
    exact Int32.toInt_inj.mp (h2.trans (by decide))
  · intro h; subst h; decide
theorem dmL_y {y : Int32} {x : Int64} {d e : List (Nat × Nat)} (h : x = y.toInt64) : dm9 y d e = dmL 0 x d e := by
  unfold dm9 dmL
  by_cases hy : y = -1
  · rw [if_pos hy, if_pos (Or.inr (by rw [h]; exact i64_m1.mpr hy))]
  · rw [if_neg hy, if_neg (fun z => z.elim (by decide) (fun z => hy (i64_m1.mp (h ▸ z))))]
/-- where roads meet: the rest once -/
theorem jnF {τ ρT ν : Type} (G : Nat → ν → τ → Prop) {pc0 : Nat} {st0 : ν} {z0 : τ} (ex : Nat) (sx : τ → ν) (I : τ → Prop) (kx : τ → Option ρT) (r : ρT) (hb : (∀ z, I z → kx z = some r → G ex (sx z) z) → G pc0 st0 z0) (hE : ∀ z, I z → kx z = some r → G ex (sx z) z) : G pc0 st0 z0 := hb hE
/-- a loop, by the fuel that its function has -/
theorem lpF {τ ρT : Type} (G : Nat → τ → Prop) (hd ex : Nat) (I : τ → Prop) (F : Nat → τ → Option ρT) (kx : τ → Option ρT) (r : ρT) (h0 : ∀ z, F 0 z = none)
    (hs : ∀ k z, I z → F (k + 1) z = some r → (∀ z', I z' → F k z' = some r → G hd z') → (∀ z', I z' → kx z' = some r → G ex z') → G hd z)
    (hE : ∀ z, I z → kx z = some r → G ex z) (n : Nat) (z : τ) (hI : I z) (hf : F n z = some r) : G hd z := by
  induction n generalizing z with
  | zero => rw [h0] at hf; exact nomatch hf
  | succ k ih => exact hs k z hI hf (fun z' hI' hf' => ih z' hI' hf') hE
def e9 (ad : Nat → Nat → Nat) (ca : Nat → Nat → ClassId) (σ : hT) (κ j : Nat) : va_E := match κ with
  | 0 => .inr (0, [.ref (ad 8 j), .ref (ad 9 j), .int (xI σ 102 j 0), .int (xI σ 103 j 0), .ref (ad 10 j), va_re (ad 1) (xR σ 105 j 0), .ref (ad 2 0), .ref (ad 3 0), .int (xI σ 108 j 0)])
  | 1 => .inr (1, [.ref (ad 11 j), .ref (ad 12 j), .int (xI σ 202 j 0)])
  | 2 => .inr (2, [.ref (ad 13 j), .ref (ad 14 j), .int (xI σ 302 j 0)])
  | 3 => .inr (3, [.int (xI σ 400 j 0), .int (xI σ 401 j 0), .int (xI σ 402 j 0), .int (xI σ 403 j 0), .int (xI σ 404 j 0), .int (xI σ 405 j 0)])
  | 4 => .inr (4, [.int (xI σ 500 j 0), .int (xI σ 501 j 0), .ref (ad 15 j), .ref (ad 16 j), .int (xI σ 504 j 0), .int (xI σ 505 j 0), .ref (ad 17 j), .ref (ad 18 j), .int (xI σ 508 j 0), .int (xI σ 509 j 0), .ref (ad 19 j)])
  | 5 => .inr (5, [.ref (ad 20 j), .int (xI σ 601 j 0), .ref (ad 21 j), .ref (ad 22 j), .int (xI σ 604 j 0)])
  | 6 => .inr (6, [.ref (ad 23 j), .int (xI σ 701 j 0), .int (xI σ 702 j 0), .ref (ad 5 (3 * j)), .ref (ad 5 (3 * j + 1))])
  | 7 => .inr (7, [.ref (ad 5 (3 * j + 2)), .int (xI σ 801 j 0), .int (xI σ 802 j 0)])
  | 8 => .inl (ca 8 j, 16, .inl (σ.1 8 j))
  | 9 => .inl (ca 9 j, 24, .inr (.inr (.inr (.inr (fun i => ((σ.2.2 9 j) i).map (ad 6))))))
  | 10 => .inl (ca 10 j, 10, .inr (.inr (.inr (.inr (fun i => ((σ.2.2 10 j) i).map (ad 1))))))
  | 11 => .inl (ca 11 j, 24, .inl (σ.1 11 j))
  | 12 => .inl (ca 12 j, 24, .inl (σ.1 12 j))
  | 13 => .inl (ca 13 j, 992, .inr (.inl (σ.2.1 13 j)))
  | 14 => .inl (ca 14 j, 992, .inl (σ.1 14 j))
  | 15 => .inl (ca 15 j, 25240, .inl (σ.1 15 j))
  | 16 => .inl (ca 16 j, 25240, .inl (σ.1 16 j))
  | 17 => .inl (ca 17 j, 24, .inl (σ.1 17 j))
  | 18 => .inl (ca 18 j, 24, .inl (σ.1 18 j))
  | 19 => .inl (ca 19 j, 288, .inl (σ.1 19 j))
  | 20 => .inl (ca 20 j, 8, .inr (.inl (σ.2.1 20 j)))
  | 21 => .inl (ca 21 j, 6, .inl (σ.1 21 j))
  | 22 => .inl (ca 22 j, 6, .inl (σ.1 22 j))
  | 23 => .inl (ca 23 j, 12, .inr (.inr (.inr (.inr (fun i => ((σ.2.2 23 j) i).map (ad 7))))))
  | 24 => .inl (ca 24 j, 1, .inr (.inl (σ.2.1 24 j)))
  | _ => .inl (ca κ j, 0, .inl (fun _ => 0))
def cell9 (ad : Nat → Nat → Nat) (ca : Nat → Nat → ClassId) (σ : hT) (r : Nat × Nat) : Nat × va_E := (ad r.1 r.2, e9 ad ca σ r.1 r.2)
def w9 (ad : Nat → Nat → Nat) (ca : Nat → Nat → ClassId) (dom : List (Nat × Nat)) (σ : hT) : va_W := dom.map (cell9 ad ca σ)
def own9 (f : Nat) : Nat := if f < 100 then f else f / 100 - 1
theorem w9_at {ad : Nat → Nat → Nat} {ca : Nat → Nat → ClassId} {σ : hT} {dom : List (Nat × Nat)} {r : Nat × Nat} (h : r ∈ dom) : ∃ q : Nat, dom[q]? = some r ∧ (w9 ad ca dom σ)[q]? = some (cell9 ad ca σ r) := by
  obtain ⟨q, hq⟩ := List.getElem?_of_mem h
  exact ⟨q, hq, by unfold w9; rw [List.getElem?_map, hq]; rfl⟩
theorem w9_set {ad : Nat → Nat → Nat} {ca : Nat → Nat → ClassId} {dom : List (Nat × Nat)} {σ σ1 : hT} {q : Nat} {r : Nat × Nat} {x : Nat × va_E} (hn : dom.Nodup) (hq : dom[q]? = some r) (ho : ∀ r', r' ≠ r → cell9 ad ca σ1 r' = cell9 ad ca σ r') (hx : cell9 ad ca σ1 r = x) : (w9 ad ca dom σ).set q x = w9 ad ca dom σ1 := by
  subst hx
  unfold w9
  apply List.ext_getElem?
  intro k
  have hl := (List.getElem?_eq_some_iff.mp hq).1
  by_cases hk : k = q
  · subst hk
    rw [List.getElem?_set_self (by rw [List.length_map]; exact hl), List.getElem?_map, hq]
    rfl
  · rw [List.getElem?_set_ne (Ne.symm hk), List.getElem?_map, List.getElem?_map]
    cases hd : dom[k]? with
    | none => rfl
    | some r' =>
      have hne : r' ≠ r := fun e => hk ((List.getElem?_inj (List.getElem?_eq_some_iff.mp hd).1 hn).mp (by rw [hd, hq, e]))
      exact congrArg some (ho r' hne).symm
theorem e9_I {ad : Nat → Nat → Nat} {ca : Nat → Nat → ClassId} {σ : hT} {f j0 : Nat} {g : Nat → Int32} : ∀ {κ j : Nat}, ¬ (own9 f = κ ∧ j = j0) → e9 ad ca (sI9 σ f j0 g) κ j = e9 ad ca σ κ j := by
  intro κ j h
  have key : ∀ f', own9 f' = κ → (sI9 σ f j0 g).1 f' j = σ.1 f' j := fun f' hf' => r3_ne (fun z => h ⟨z.1 ▸ hf', z.2⟩)
  exact match κ, key with
    | 0, key => by
      show (.inr (0, [.ref (ad 8 j), .ref (ad 9 j), .int ((sI9 σ f j0 g).1 102 j 0), .int ((sI9 σ f j0 g).1 103 j 0), .ref (ad 10 j), va_re (ad 1) ((sI9 σ f j0 g).2.2 105 j 0), .ref (ad 2 0), .ref (ad 3 0), .int ((sI9 σ f j0 g).1 108 j 0)]) : va_E) = .inr (0, [.ref (ad 8 j), .ref (ad 9 j), .int (σ.1 102 j 0), .int (σ.1 103 j 0), .ref (ad 10 j), va_re (ad 1) (σ.2.2 105 j 0), .ref (ad 2 0), .ref (ad 3 0), .int (σ.1 108 j 0)])
      rw [key 102 rfl, key 103 rfl, key 108 rfl]
      try rfl
    | 1, key => by
      show (.inr (1, [.ref (ad 11 j), .ref (ad 12 j), .int ((sI9 σ f j0 g).1 202 j 0)]) : va_E) = .inr (1, [.ref (ad 11 j), .ref (ad 12 j), .int (σ.1 202 j 0)])
      rw [key 202 rfl]
      try rfl
    | 2, key => by
      show (.inr (2, [.ref (ad 13 j), .ref (ad 14 j), .int ((sI9 σ f j0 g).1 302 j 0)]) : va_E) = .inr (2, [.ref (ad 13 j), .ref (ad 14 j), .int (σ.1 302 j 0)])
      rw [key 302 rfl]
      try rfl
    | 3, key => by
      show (.inr (3, [.int ((sI9 σ f j0 g).1 400 j 0), .int ((sI9 σ f j0 g).1 401 j 0), .int ((sI9 σ f j0 g).1 402 j 0), .int ((sI9 σ f j0 g).1 403 j 0), .int ((sI9 σ f j0 g).1 404 j 0), .int ((sI9 σ f j0 g).1 405 j 0)]) : va_E) = .inr (3, [.int (σ.1 400 j 0), .int (σ.1 401 j 0), .int (σ.1 402 j 0), .int (σ.1 403 j 0), .int (σ.1 404 j 0), .int (σ.1 405 j 0)])
      rw [key 400 rfl, key 401 rfl, key 402 rfl, key 403 rfl, key 404 rfl, key 405 rfl]
      try rfl
    | 4, key => by
      show (.inr (4, [.int ((sI9 σ f j0 g).1 500 j 0), .int ((sI9 σ f j0 g).1 501 j 0), .ref (ad 15 j), .ref (ad 16 j), .int ((sI9 σ f j0 g).1 504 j 0), .int ((sI9 σ f j0 g).1 505 j 0), .ref (ad 17 j), .ref (ad 18 j), .int ((sI9 σ f j0 g).1 508 j 0), .int ((sI9 σ f j0 g).1 509 j 0), .ref (ad 19 j)]) : va_E) = .inr (4, [.int (σ.1 500 j 0), .int (σ.1 501 j 0), .ref (ad 15 j), .ref (ad 16 j), .int (σ.1 504 j 0), .int (σ.1 505 j 0), .ref (ad 17 j), .ref (ad 18 j), .int (σ.1 508 j 0), .int (σ.1 509 j 0), .ref (ad 19 j)])
      rw [key 500 rfl, key 501 rfl, key 504 rfl, key 505 rfl, key 508 rfl, key 509 rfl]
      try rfl
    | 5, key => by
      show (.inr (5, [.ref (ad 20 j), .int ((sI9 σ f j0 g).1 601 j 0), .ref (ad 21 j), .ref (ad 22 j), .int ((sI9 σ f j0 g).1 604 j 0)]) : va_E) = .inr (5, [.ref (ad 20 j), .int (σ.1 601 j 0), .ref (ad 21 j), .ref (ad 22 j), .int (σ.1 604 j 0)])
      rw [key 601 rfl, key 604 rfl]
      try rfl
    | 6, key => by
      show (.inr (6, [.ref (ad 23 j), .int ((sI9 σ f j0 g).1 701 j 0), .int ((sI9 σ f j0 g).1 702 j 0), .ref (ad 5 (3 * j)), .ref (ad 5 (3 * j + 1))]) : va_E) = .inr (6, [.ref (ad 23 j), .int (σ.1 701 j 0), .int (σ.1 702 j 0), .ref (ad 5 (3 * j)), .ref (ad 5 (3 * j + 1))])
      rw [key 701 rfl, key 702 rfl]
      try rfl
    | 7, key => by
      show (.inr (7, [.ref (ad 5 (3 * j + 2)), .int ((sI9 σ f j0 g).1 801 j 0), .int ((sI9 σ f j0 g).1 802 j 0)]) : va_E) = .inr (7, [.ref (ad 5 (3 * j + 2)), .int (σ.1 801 j 0), .int (σ.1 802 j 0)])
      rw [key 801 rfl, key 802 rfl]
      try rfl
    | 8, key => by
      show (.inl (ca 8 j, 16, .inl ((sI9 σ f j0 g).1 8 j)) : va_E) = .inl (ca 8 j, 16, .inl (σ.1 8 j))
      rw [key 8 rfl]
      try rfl
    | 9, _ => rfl
    | 10, _ => rfl
    | 11, key => by
      show (.inl (ca 11 j, 24, .inl ((sI9 σ f j0 g).1 11 j)) : va_E) = .inl (ca 11 j, 24, .inl (σ.1 11 j))
      rw [key 11 rfl]
      try rfl
    | 12, key => by
      show (.inl (ca 12 j, 24, .inl ((sI9 σ f j0 g).1 12 j)) : va_E) = .inl (ca 12 j, 24, .inl (σ.1 12 j))
      rw [key 12 rfl]
      try rfl
    | 13, _ => rfl
    | 14, key => by
      show (.inl (ca 14 j, 992, .inl ((sI9 σ f j0 g).1 14 j)) : va_E) = .inl (ca 14 j, 992, .inl (σ.1 14 j))
      rw [key 14 rfl]
      try rfl
    | 15, key => by
      show (.inl (ca 15 j, 25240, .inl ((sI9 σ f j0 g).1 15 j)) : va_E) = .inl (ca 15 j, 25240, .inl (σ.1 15 j))
      rw [key 15 rfl]
      try rfl
    | 16, key => by
      show (.inl (ca 16 j, 25240, .inl ((sI9 σ f j0 g).1 16 j)) : va_E) = .inl (ca 16 j, 25240, .inl (σ.1 16 j))
      rw [key 16 rfl]
      try rfl
    | 17, key => by
      show (.inl (ca 17 j, 24, .inl ((sI9 σ f j0 g).1 17 j)) : va_E) = .inl (ca 17 j, 24, .inl (σ.1 17 j))
      rw [key 17 rfl]
      try rfl
    | 18, key => by
      show (.inl (ca 18 j, 24, .inl ((sI9 σ f j0 g).1 18 j)) : va_E) = .inl (ca 18 j, 24, .inl (σ.1 18 j))
      rw [key 18 rfl]
      try rfl
    | 19, key => by
      show (.inl (ca 19 j, 288, .inl ((sI9 σ f j0 g).1 19 j)) : va_E) = .inl (ca 19 j, 288, .inl (σ.1 19 j))
      rw [key 19 rfl]
      try rfl
    | 20, _ => rfl
    | 21, key => by
      show (.inl (ca 21 j, 6, .inl ((sI9 σ f j0 g).1 21 j)) : va_E) = .inl (ca 21 j, 6, .inl (σ.1 21 j))
      rw [key 21 rfl]
      try rfl
    | 22, key => by
      show (.inl (ca 22 j, 6, .inl ((sI9 σ f j0 g).1 22 j)) : va_E) = .inl (ca 22 j, 6, .inl (σ.1 22 j))
      rw [key 22 rfl]
      try rfl
    | 23, _ => rfl
    | 24, _ => rfl
    | _ + 25, _ => rfl
theorem w9_rI {D : va_G} {A : Nat → Prop} {H : Heap} {ad : Nat → Nat → Nat} {ca : Nat → Nat → ClassId} {dom : List (Nat × Nat)} {σ σ1 : hT} (f : Nat) {c j : Nat} {g : Nat → Int32} {q : Nat} {x : Nat × va_E} (hc : own9 f = c) (hn : dom.Nodup) (hq : dom[q]? = some (c, j)) (h1 : σ1 = sI9 σ f j g) (hx : cell9 ad ca (sI9 σ f j g) (c, j) = x) (hP : va_P D kCl ((w9 ad ca dom σ).set q x) H) (hD : va_D A ((w9 ad ca dom σ).set q x)) : va_P D kCl (w9 ad ca dom σ1) H ∧ va_D A (w9 ad ca dom σ1) := by
  subst h1
  have e : (w9 ad ca dom σ).set q x = w9 ad ca dom (sI9 σ f j g) := w9_set hn hq (fun r' hr => by
    obtain ⟨κ, j'⟩ := r'
    show (ad κ j', _) = (ad κ j', _)
    rw [e9_I (fun z => hr (Prod.ext (z.1.symm.trans hc) z.2))]) hx
  rw [← e]
  exact ⟨hP, hD⟩
theorem e9_L {ad : Nat → Nat → Nat} {ca : Nat → Nat → ClassId} {σ : hT} {f j0 : Nat} {g : Nat → Int64} : ∀ {κ j : Nat}, ¬ (own9 f = κ ∧ j = j0) → e9 ad ca (sL9 σ f j0 g) κ j = e9 ad ca σ κ j := by
  intro κ j h
  have key : ∀ f', own9 f' = κ → (sL9 σ f j0 g).2.1 f' j = σ.2.1 f' j := fun f' hf' => r3_ne (fun z => h ⟨z.1 ▸ hf', z.2⟩)
  exact match κ, key with
    | 0, _ => rfl
    | 1, _ => rfl
    | 2, _ => rfl
    | 3, _ => rfl
    | 4, _ => rfl
    | 5, _ => rfl
    | 6, _ => rfl
    | 7, _ => rfl
    | 8, _ => rfl
    | 9, _ => rfl
    | 10, _ => rfl
    | 11, _ => rfl
    | 12, _ => rfl
    | 13, key => by
      show (.inl (ca 13 j, 992, .inr (.inl ((sL9 σ f j0 g).2.1 13 j))) : va_E) = .inl (ca 13 j, 992, .inr (.inl (σ.2.1 13 j)))
      rw [key 13 rfl]
      try rfl
    | 14, _ => rfl
    | 15, _ => rfl
    | 16, _ => rfl
    | 17, _ => rfl
    | 18, _ => rfl
    | 19, _ => rfl
    | 20, key => by
      show (.inl (ca 20 j, 8, .inr (.inl ((sL9 σ f j0 g).2.1 20 j))) : va_E) = .inl (ca 20 j, 8, .inr (.inl (σ.2.1 20 j)))
      rw [key 20 rfl]
      try rfl
    | 21, _ => rfl
    | 22, _ => rfl
    | 23, _ => rfl
    | 24, key => by
      show (.inl (ca 24 j, 1, .inr (.inl ((sL9 σ f j0 g).2.1 24 j))) : va_E) = .inl (ca 24 j, 1, .inr (.inl (σ.2.1 24 j)))
      rw [key 24 rfl]
      try rfl
    | _ + 25, _ => rfl
theorem w9_rL {D : va_G} {A : Nat → Prop} {H : Heap} {ad : Nat → Nat → Nat} {ca : Nat → Nat → ClassId} {dom : List (Nat × Nat)} {σ σ1 : hT} (f : Nat) {c j : Nat} {g : Nat → Int64} {q : Nat} {x : Nat × va_E} (hc : own9 f = c) (hn : dom.Nodup) (hq : dom[q]? = some (c, j)) (h1 : σ1 = sL9 σ f j g) (hx : cell9 ad ca (sL9 σ f j g) (c, j) = x) (hP : va_P D kCl ((w9 ad ca dom σ).set q x) H) (hD : va_D A ((w9 ad ca dom σ).set q x)) : va_P D kCl (w9 ad ca dom σ1) H ∧ va_D A (w9 ad ca dom σ1) := by
  subst h1
  have e : (w9 ad ca dom σ).set q x = w9 ad ca dom (sL9 σ f j g) := w9_set hn hq (fun r' hr => by
    obtain ⟨κ, j'⟩ := r'
    show (ad κ j', _) = (ad κ j', _)
    rw [e9_L (fun z => hr (Prod.ext (z.1.symm.trans hc) z.2))]) hx
  rw [← e]
  exact ⟨hP, hD⟩
theorem e9_R {ad : Nat → Nat → Nat} {ca : Nat → Nat → ClassId} {σ : hT} {f j0 : Nat} {g : Nat → Option Nat} : ∀ {κ j : Nat}, ¬ (own9 f = κ ∧ j = j0) → e9 ad ca (sR9 σ f j0 g) κ j = e9 ad ca σ κ j := by
  intro κ j h
  have key : ∀ f', own9 f' = κ → (sR9 σ f j0 g).2.2 f' j = σ.2.2 f' j := fun f' hf' => r3_ne (fun z => h ⟨z.1 ▸ hf', z.2⟩)
  exact match κ, key with
    | 0, key => by
      show (.inr (0, [.ref (ad 8 j), .ref (ad 9 j), .int ((sR9 σ f j0 g).1 102 j 0), .int ((sR9 σ f j0 g).1 103 j 0), .ref (ad 10 j), va_re (ad 1) ((sR9 σ f j0 g).2.2 105 j 0), .ref (ad 2 0), .ref (ad 3 0), .int ((sR9 σ f j0 g).1 108 j 0)]) : va_E) = .inr (0, [.ref (ad 8 j), .ref (ad 9 j), .int (σ.1 102 j 0), .int (σ.1 103 j 0), .ref (ad 10 j), va_re (ad 1) (σ.2.2 105 j 0), .ref (ad 2 0), .ref (ad 3 0), .int (σ.1 108 j 0)])
      rw [key 105 rfl]
      try rfl
    | 1, _ => rfl
    | 2, _ => rfl
    | 3, _ => rfl
    | 4, _ => rfl
    | 5, _ => rfl
    | 6, _ => rfl
    | 7, _ => rfl
    | 8, _ => rfl
    | 9, key => by
      show (.inl (ca 9 j, 24, .inr (.inr (.inr (.inr (fun i => (((sR9 σ f j0 g).2.2 9 j) i).map (ad 6)))))) : va_E) = .inl (ca 9 j, 24, .inr (.inr (.inr (.inr (fun i => ((σ.2.2 9 j) i).map (ad 6))))))
      rw [key 9 rfl]
      try rfl
    | 10, key => by
      show (.inl (ca 10 j, 10, .inr (.inr (.inr (.inr (fun i => (((sR9 σ f j0 g).2.2 10 j) i).map (ad 1)))))) : va_E) = .inl (ca 10 j, 10, .inr (.inr (.inr (.inr (fun i => ((σ.2.2 10 j) i).map (ad 1))))))
      rw [key 10 rfl]
      try rfl
    | 11, _ => rfl
    | 12, _ => rfl
    | 13, _ => rfl
    | 14, _ => rfl
    | 15, _ => rfl
    | 16, _ => rfl
    | 17, _ => rfl
    | 18, _ => rfl
    | 19, _ => rfl
    | 20, _ => rfl
    | 21, _ => rfl
    | 22, _ => rfl
    | 23, key => by
      show (.inl (ca 23 j, 12, .inr (.inr (.inr (.inr (fun i => (((sR9 σ f j0 g).2.2 23 j) i).map (ad 7)))))) : va_E) = .inl (ca 23 j, 12, .inr (.inr (.inr (.inr (fun i => ((σ.2.2 23 j) i).map (ad 7))))))
      rw [key 23 rfl]
      try rfl
    | 24, _ => rfl
    | _ + 25, _ => rfl
theorem w9_rR {D : va_G} {A : Nat → Prop} {H : Heap} {ad : Nat → Nat → Nat} {ca : Nat → Nat → ClassId} {dom : List (Nat × Nat)} {σ σ1 : hT} (f : Nat) {c j : Nat} {g : Nat → Option Nat} {q : Nat} {x : Nat × va_E} (hc : own9 f = c) (hn : dom.Nodup) (hq : dom[q]? = some (c, j)) (h1 : σ1 = sR9 σ f j g) (hx : cell9 ad ca (sR9 σ f j g) (c, j) = x) (hP : va_P D kCl ((w9 ad ca dom σ).set q x) H) (hD : va_D A ((w9 ad ca dom σ).set q x)) : va_P D kCl (w9 ad ca dom σ1) H ∧ va_D A (w9 ad ca dom σ1) := by
  subst h1
  have e : (w9 ad ca dom σ).set q x = w9 ad ca dom (sR9 σ f j g) := w9_set hn hq (fun r' hr => by
    obtain ⟨κ, j'⟩ := r'
    show (ad κ j', _) = (ad κ j', _)
    rw [e9_R (fun z => hr (Prod.ext (z.1.symm.trans hc) z.2))]) hx
  rw [← e]
  exact ⟨hP, hD⟩
theorem at_0 {ad : Nat → Nat → Nat} {ca : Nat → Nat → ClassId} {σ : hT} {dom : List (Nat × Nat)} {j : Nat} (h : (0, j) ∈ dom) : ∃ q : Nat, dom[q]? = some (0, j) ∧ (w9 ad ca dom σ)[q]? = some (ad 0 j, .inr (0, [.ref (ad 8 j), .ref (ad 9 j), .int (xI σ 102 j 0), .int (xI σ 103 j 0), .ref (ad 10 j), va_re (ad 1) (xR σ 105 j 0), .ref (ad 2 0), .ref (ad 3 0), .int (xI σ 108 j 0)])) := w9_at h
theorem at_1 {ad : Nat → Nat → Nat} {ca : Nat → Nat → ClassId} {σ : hT} {dom : List (Nat × Nat)} {j : Nat} (h : (1, j) ∈ dom) : ∃ q : Nat, dom[q]? = some (1, j) ∧ (w9 ad ca dom σ)[q]? = some (ad 1 j, .inr (1, [.ref (ad 11 j), .ref (ad 12 j), .int (xI σ 202 j 0)])) := w9_at h
theorem at_2 {ad : Nat → Nat → Nat} {ca : Nat → Nat → ClassId} {σ : hT} {dom : List (Nat × Nat)} {j : Nat} (h : (2, j) ∈ dom) : ∃ q : Nat, dom[q]? = some (2, j) ∧ (w9 ad ca dom σ)[q]? = some (ad 2 j, .inr (2, [.ref (ad 13 j), .ref (ad 14 j), .int (xI σ 302 j 0)])) := w9_at h
theorem at_3 {ad : Nat → Nat → Nat} {ca : Nat → Nat → ClassId} {σ : hT} {dom : List (Nat × Nat)} {j : Nat} (h : (3, j) ∈ dom) : ∃ q : Nat, dom[q]? = some (3, j) ∧ (w9 ad ca dom σ)[q]? = some (ad 3 j, .inr (3, [.int (xI σ 400 j 0), .int (xI σ 401 j 0), .int (xI σ 402 j 0), .int (xI σ 403 j 0), .int (xI σ 404 j 0), .int (xI σ 405 j 0)])) := w9_at h
theorem at_4 {ad : Nat → Nat → Nat} {ca : Nat → Nat → ClassId} {σ : hT} {dom : List (Nat × Nat)} {j : Nat} (h : (4, j) ∈ dom) : ∃ q : Nat, dom[q]? = some (4, j) ∧ (w9 ad ca dom σ)[q]? = some (ad 4 j, .inr (4, [.int (xI σ 500 j 0), .int (xI σ 501 j 0), .ref (ad 15 j), .ref (ad 16 j), .int (xI σ 504 j 0), .int (xI σ 505 j 0), .ref (ad 17 j), .ref (ad 18 j), .int (xI σ 508 j 0), .int (xI σ 509 j 0), .ref (ad 19 j)])) := w9_at h
theorem at_5 {ad : Nat → Nat → Nat} {ca : Nat → Nat → ClassId} {σ : hT} {dom : List (Nat × Nat)} {j : Nat} (h : (5, j) ∈ dom) : ∃ q : Nat, dom[q]? = some (5, j) ∧ (w9 ad ca dom σ)[q]? = some (ad 5 j, .inr (5, [.ref (ad 20 j), .int (xI σ 601 j 0), .ref (ad 21 j), .ref (ad 22 j), .int (xI σ 604 j 0)])) := w9_at h
theorem at_6 {ad : Nat → Nat → Nat} {ca : Nat → Nat → ClassId} {σ : hT} {dom : List (Nat × Nat)} {j : Nat} (h : (6, j) ∈ dom) : ∃ q : Nat, dom[q]? = some (6, j) ∧ (w9 ad ca dom σ)[q]? = some (ad 6 j, .inr (6, [.ref (ad 23 j), .int (xI σ 701 j 0), .int (xI σ 702 j 0), .ref (ad 5 (3 * j)), .ref (ad 5 (3 * j + 1))])) := w9_at h
theorem at_7 {ad : Nat → Nat → Nat} {ca : Nat → Nat → ClassId} {σ : hT} {dom : List (Nat × Nat)} {j : Nat} (h : (7, j) ∈ dom) : ∃ q : Nat, dom[q]? = some (7, j) ∧ (w9 ad ca dom σ)[q]? = some (ad 7 j, .inr (7, [.ref (ad 5 (3 * j + 2)), .int (xI σ 801 j 0), .int (xI σ 802 j 0)])) := w9_at h
theorem at_8 {ad : Nat → Nat → Nat} {ca : Nat → Nat → ClassId} {σ : hT} {dom : List (Nat × Nat)} {j : Nat} (h : (8, j) ∈ dom) : ∃ q : Nat, dom[q]? = some (8, j) ∧ (w9 ad ca dom σ)[q]? = some (ad 8 j, .inl (ca 8 j, 16, .inl (σ.1 8 j))) := w9_at h
theorem at_9 {ad : Nat → Nat → Nat} {ca : Nat → Nat → ClassId} {σ : hT} {dom : List (Nat × Nat)} {j : Nat} (h : (9, j) ∈ dom) : ∃ q : Nat, dom[q]? = some (9, j) ∧ (w9 ad ca dom σ)[q]? = some (ad 9 j, .inl (ca 9 j, 24, .inr (.inr (.inr (.inr (fun i => ((σ.2.2 9 j) i).map (ad 6))))))) := w9_at h
theorem at_10 {ad : Nat → Nat → Nat} {ca : Nat → Nat → ClassId} {σ : hT} {dom : List (Nat × Nat)} {j : Nat} (h : (10, j) ∈ dom) : ∃ q : Nat, dom[q]? = some (10, j) ∧ (w9 ad ca dom σ)[q]? = some (ad 10 j, .inl (ca 10 j, 10, .inr (.inr (.inr (.inr (fun i => ((σ.2.2 10 j) i).map (ad 1))))))) := w9_at h
theorem at_11 {ad : Nat → Nat → Nat} {ca : Nat → Nat → ClassId} {σ : hT} {dom : List (Nat × Nat)} {j : Nat} (h : (11, j) ∈ dom) : ∃ q : Nat, dom[q]? = some (11, j) ∧ (w9 ad ca dom σ)[q]? = some (ad 11 j, .inl (ca 11 j, 24, .inl (σ.1 11 j))) := w9_at h
theorem at_12 {ad : Nat → Nat → Nat} {ca : Nat → Nat → ClassId} {σ : hT} {dom : List (Nat × Nat)} {j : Nat} (h : (12, j) ∈ dom) : ∃ q : Nat, dom[q]? = some (12, j) ∧ (w9 ad ca dom σ)[q]? = some (ad 12 j, .inl (ca 12 j, 24, .inl (σ.1 12 j))) := w9_at h
theorem at_13 {ad : Nat → Nat → Nat} {ca : Nat → Nat → ClassId} {σ : hT} {dom : List (Nat × Nat)} {j : Nat} (h : (13, j) ∈ dom) : ∃ q : Nat, dom[q]? = some (13, j) ∧ (w9 ad ca dom σ)[q]? = some (ad 13 j, .inl (ca 13 j, 992, .inr (.inl (σ.2.1 13 j)))) := w9_at h
theorem at_14 {ad : Nat → Nat → Nat} {ca : Nat → Nat → ClassId} {σ : hT} {dom : List (Nat × Nat)} {j : Nat} (h : (14, j) ∈ dom) : ∃ q : Nat, dom[q]? = some (14, j) ∧ (w9 ad ca dom σ)[q]? = some (ad 14 j, .inl (ca 14 j, 992, .inl (σ.1 14 j))) := w9_at h
theorem at_15 {ad : Nat → Nat → Nat} {ca : Nat → Nat → ClassId} {σ : hT} {dom : List (Nat × Nat)} {j : Nat} (h : (15, j) ∈ dom) : ∃ q : Nat, dom[q]? = some (15, j) ∧ (w9 ad ca dom σ)[q]? = some (ad 15 j, .inl (ca 15 j, 25240, .inl (σ.1 15 j))) := w9_at h
theorem at_16 {ad : Nat → Nat → Nat} {ca : Nat → Nat → ClassId} {σ : hT} {dom : List (Nat × Nat)} {j : Nat} (h : (16, j) ∈ dom) : ∃ q : Nat, dom[q]? = some (16, j) ∧ (w9 ad ca dom σ)[q]? = some (ad 16 j, .inl (ca 16 j, 25240, .inl (σ.1 16 j))) := w9_at h
theorem at_17 {ad : Nat → Nat → Nat} {ca : Nat → Nat → ClassId} {σ : hT} {dom : List (Nat × Nat)} {j : Nat} (h : (17, j) ∈ dom) : ∃ q : Nat, dom[q]? = some (17, j) ∧ (w9 ad ca dom σ)[q]? = some (ad 17 j, .inl (ca 17 j, 24, .inl (σ.1 17 j))) := w9_at h
theorem at_18 {ad : Nat → Nat → Nat} {ca : Nat → Nat → ClassId} {σ : hT} {dom : List (Nat × Nat)} {j : Nat} (h : (18, j) ∈ dom) : ∃ q : Nat, dom[q]? = some (18, j) ∧ (w9 ad ca dom σ)[q]? = some (ad 18 j, .inl (ca 18 j, 24, .inl (σ.1 18 j))) := w9_at h
theorem at_19 {ad : Nat → Nat → Nat} {ca : Nat → Nat → ClassId} {σ : hT} {dom : List (Nat × Nat)} {j : Nat} (h : (19, j) ∈ dom) : ∃ q : Nat, dom[q]? = some (19, j) ∧ (w9 ad ca dom σ)[q]? = some (ad 19 j, .inl (ca 19 j, 288, .inl (σ.1 19 j))) := w9_at h
theorem at_20 {ad : Nat → Nat → Nat} {ca : Nat → Nat → ClassId} {σ : hT} {dom : List (Nat × Nat)} {j : Nat} (h : (20, j) ∈ dom) : ∃ q : Nat, dom[q]? = some (20, j) ∧ (w9 ad ca dom σ)[q]? = some (ad 20 j, .inl (ca 20 j, 8, .inr (.inl (σ.2.1 20 j)))) := w9_at h
theorem at_21 {ad : Nat → Nat → Nat} {ca : Nat → Nat → ClassId} {σ : hT} {dom : List (Nat × Nat)} {j : Nat} (h : (21, j) ∈ dom) : ∃ q : Nat, dom[q]? = some (21, j) ∧ (w9 ad ca dom σ)[q]? = some (ad 21 j, .inl (ca 21 j, 6, .inl (σ.1 21 j))) := w9_at h
theorem at_22 {ad : Nat → Nat → Nat} {ca : Nat → Nat → ClassId} {σ : hT} {dom : List (Nat × Nat)} {j : Nat} (h : (22, j) ∈ dom) : ∃ q : Nat, dom[q]? = some (22, j) ∧ (w9 ad ca dom σ)[q]? = some (ad 22 j, .inl (ca 22 j, 6, .inl (σ.1 22 j))) := w9_at h
theorem at_23 {ad : Nat → Nat → Nat} {ca : Nat → Nat → ClassId} {σ : hT} {dom : List (Nat × Nat)} {j : Nat} (h : (23, j) ∈ dom) : ∃ q : Nat, dom[q]? = some (23, j) ∧ (w9 ad ca dom σ)[q]? = some (ad 23 j, .inl (ca 23 j, 12, .inr (.inr (.inr (.inr (fun i => ((σ.2.2 23 j) i).map (ad 7))))))) := w9_at h
theorem at_24 {ad : Nat → Nat → Nat} {ca : Nat → Nat → ClassId} {σ : hT} {dom : List (Nat × Nat)} {j : Nat} (h : (24, j) ∈ dom) : ∃ q : Nat, dom[q]? = some (24, j) ∧ (w9 ad ca dom σ)[q]? = some (ad 24 j, .inl (ca 24 j, 1, .inr (.inl (σ.2.1 24 j)))) := w9_at h
theorem pu_102 {ad : Nat → Nat → Nat} {ca : Nat → Nat → ClassId} {σ : hT} {j : Nat} {v : Int32} : cell9 ad ca (sI σ 102 j 0 v) (0, j) = (ad 0 j, .inr (0, [.ref (ad 8 j), .ref (ad 9 j), .int v, .int (xI σ 103 j 0), .ref (ad 10 j), va_re (ad 1) (xR σ 105 j 0), .ref (ad 2 0), .ref (ad 3 0), .int (xI σ 108 j 0)])) := by
  simp [cell9, e9, sI, sI9, sR, sR9, r3, up9, xI, xR]
theorem pu_103 {ad : Nat → Nat → Nat} {ca : Nat → Nat → ClassId} {σ : hT} {j : Nat} {v : Int32} : cell9 ad ca (sI σ 103 j 0 v) (0, j) = (ad 0 j, .inr (0, [.ref (ad 8 j), .ref (ad 9 j), .int (xI σ 102 j 0), .int v, .ref (ad 10 j), va_re (ad 1) (xR σ 105 j 0), .ref (ad 2 0), .ref (ad 3 0), .int (xI σ 108 j 0)])) := by
  simp [cell9, e9, sI, sI9, sR, sR9, r3, up9, xI, xR]
theorem pu_105 {ad : Nat → Nat → Nat} {ca : Nat → Nat → ClassId} {σ : hT} {j : Nat} {v : Option Nat} : cell9 ad ca (sR σ 105 j 0 v) (0, j) = (ad 0 j, .inr (0, [.ref (ad 8 j), .ref (ad 9 j), .int (xI σ 102 j 0), .int (xI σ 103 j 0), .ref (ad 10 j), va_re (ad 1) v, .ref (ad 2 0), .ref (ad 3 0), .int (xI σ 108 j 0)])) := by
  simp [cell9, e9, sI, sI9, sR, sR9, r3, up9, xI, xR]
theorem pu_108 {ad : Nat → Nat → Nat} {ca : Nat → Nat → ClassId} {σ : hT} {j : Nat} {v : Int32} : cell9 ad ca (sI σ 108 j 0 v) (0, j) = (ad 0 j, .inr (0, [.ref (ad 8 j), .ref (ad 9 j), .int (xI σ 102 j 0), .int (xI σ 103 j 0), .ref (ad 10 j), va_re (ad 1) (xR σ 105 j 0), .ref (ad 2 0), .ref (ad 3 0), .int v])) := by
  simp [cell9, e9, sI, sI9, sR, sR9, r3, up9, xI, xR]
theorem pu_202 {ad : Nat → Nat → Nat} {ca : Nat → Nat → ClassId} {σ : hT} {j : Nat} {v : Int32} : cell9 ad ca (sI σ 202 j 0 v) (1, j) = (ad 1 j, .inr (1, [.ref (ad 11 j), .ref (ad 12 j), .int v])) := by
  simp [cell9, e9, sI, sI9, sR, sR9, r3, up9, xI, xR]
theorem pu_302 {ad : Nat → Nat → Nat} {ca : Nat → Nat → ClassId} {σ : hT} {j : Nat} {v : Int32} : cell9 ad ca (sI σ 302 j 0 v) (2, j) = (ad 2 j, .inr (2, [.ref (ad 13 j), .ref (ad 14 j), .int v])) := by
  simp [cell9, e9, sI, sI9, sR, sR9, r3, up9, xI, xR]
theorem pu_400 {ad : Nat → Nat → Nat} {ca : Nat → Nat → ClassId} {σ : hT} {j : Nat} {v : Int32} : cell9 ad ca (sI σ 400 j 0 v) (3, j) = (ad 3 j, .inr (3, [.int v, .int (xI σ 401 j 0), .int (xI σ 402 j 0), .int (xI σ 403 j 0), .int (xI σ 404 j 0), .int (xI σ 405 j 0)])) := by
  simp [cell9, e9, sI, sI9, sR, sR9, r3, up9, xI, xR]
theorem pu_401 {ad : Nat → Nat → Nat} {ca : Nat → Nat → ClassId} {σ : hT} {j : Nat} {v : Int32} : cell9 ad ca (sI σ 401 j 0 v) (3, j) = (ad 3 j, .inr (3, [.int (xI σ 400 j 0), .int v, .int (xI σ 402 j 0), .int (xI σ 403 j 0), .int (xI σ 404 j 0), .int (xI σ 405 j 0)])) := by
  simp [cell9, e9, sI, sI9, sR, sR9, r3, up9, xI, xR]
theorem pu_402 {ad : Nat → Nat → Nat} {ca : Nat → Nat → ClassId} {σ : hT} {j : Nat} {v : Int32} : cell9 ad ca (sI σ 402 j 0 v) (3, j) = (ad 3 j, .inr (3, [.int (xI σ 400 j 0), .int (xI σ 401 j 0), .int v, .int (xI σ 403 j 0), .int (xI σ 404 j 0), .int (xI σ 405 j 0)])) := by
  simp [cell9, e9, sI, sI9, sR, sR9, r3, up9, xI, xR]
theorem pu_403 {ad : Nat → Nat → Nat} {ca : Nat → Nat → ClassId} {σ : hT} {j : Nat} {v : Int32} : cell9 ad ca (sI σ 403 j 0 v) (3, j) = (ad 3 j, .inr (3, [.int (xI σ 400 j 0), .int (xI σ 401 j 0), .int (xI σ 402 j 0), .int v, .int (xI σ 404 j 0), .int (xI σ 405 j 0)])) := by
  simp [cell9, e9, sI, sI9, sR, sR9, r3, up9, xI, xR]
theorem pu_404 {ad : Nat → Nat → Nat} {ca : Nat → Nat → ClassId} {σ : hT} {j : Nat} {v : Int32} : cell9 ad ca (sI σ 404 j 0 v) (3, j) = (ad 3 j, .inr (3, [.int (xI σ 400 j 0), .int (xI σ 401 j 0), .int (xI σ 402 j 0), .int (xI σ 403 j 0), .int v, .int (xI σ 405 j 0)])) := by
  simp [cell9, e9, sI, sI9, sR, sR9, r3, up9, xI, xR]
theorem pu_405 {ad : Nat → Nat → Nat} {ca : Nat → Nat → ClassId} {σ : hT} {j : Nat} {v : Int32} : cell9 ad ca (sI σ 405 j 0 v) (3, j) = (ad 3 j, .inr (3, [.int (xI σ 400 j 0), .int (xI σ 401 j 0), .int (xI σ 402 j 0), .int (xI σ 403 j 0), .int (xI σ 404 j 0), .int v])) := by
  simp [cell9, e9, sI, sI9, sR, sR9, r3, up9, xI, xR]
theorem pu_500 {ad : Nat → Nat → Nat} {ca : Nat → Nat → ClassId} {σ : hT} {j : Nat} {v : Int32} : cell9 ad ca (sI σ 500 j 0 v) (4, j) = (ad 4 j, .inr (4, [.int v, .int (xI σ 501 j 0), .ref (ad 15 j), .ref (ad 16 j), .int (xI σ 504 j 0), .int (xI σ 505 j 0), .ref (ad 17 j), .ref (ad 18 j), .int (xI σ 508 j 0), .int (xI σ 509 j 0), .ref (ad 19 j)])) := by
  simp [cell9, e9, sI, sI9, sR, sR9, r3, up9, xI, xR]
theorem pu_501 {ad : Nat → Nat → Nat} {ca : Nat → Nat → ClassId} {σ : hT} {j : Nat} {v : Int32} : cell9 ad ca (sI σ 501 j 0 v) (4, j) = (ad 4 j, .inr (4, [.int (xI σ 500 j 0), .int v, .ref (ad 15 j), .ref (ad 16 j), .int (xI σ 504 j 0), .int (xI σ 505 j 0), .ref (ad 17 j), .ref (ad 18 j), .int (xI σ 508 j 0), .int (xI σ 509 j 0), .ref (ad 19 j)])) := by
  simp [cell9, e9, sI, sI9, sR, sR9, r3, up9, xI, xR]
theorem pu_504 {ad : Nat → Nat → Nat} {ca : Nat → Nat → ClassId} {σ : hT} {j : Nat} {v : Int32} : cell9 ad ca (sI σ 504 j 0 v) (4, j) = (ad 4 j, .inr (4, [.int (xI σ 500 j 0), .int (xI σ 501 j 0), .ref (ad 15 j), .ref (ad 16 j), .int v, .int (xI σ 505 j 0), .ref (ad 17 j), .ref (ad 18 j), .int (xI σ 508 j 0), .int (xI σ 509 j 0), .ref (ad 19 j)])) := by
  simp [cell9, e9, sI, sI9, sR, sR9, r3, up9, xI, xR]
theorem pu_505 {ad : Nat → Nat → Nat} {ca : Nat → Nat → ClassId} {σ : hT} {j : Nat} {v : Int32} : cell9 ad ca (sI σ 505 j 0 v) (4, j) = (ad 4 j, .inr (4, [.int (xI σ 500 j 0), .int (xI σ 501 j 0), .ref (ad 15 j), .ref (ad 16 j), .int (xI σ 504 j 0), .int v, .ref (ad 17 j), .ref (ad 18 j), .int (xI σ 508 j 0), .int (xI σ 509 j 0), .ref (ad 19 j)])) := by
  simp [cell9, e9, sI, sI9, sR, sR9, r3, up9, xI, xR]
theorem pu_508 {ad : Nat → Nat → Nat} {ca : Nat → Nat → ClassId} {σ : hT} {j : Nat} {v : Int32} : cell9 ad ca (sI σ 508 j 0 v) (4, j) = (ad 4 j, .inr (4, [.int (xI σ 500 j 0), .int (xI σ 501 j 0), .ref (ad 15 j), .ref (ad 16 j), .int (xI σ 504 j 0), .int (xI σ 505 j 0), .ref (ad 17 j), .ref (ad 18 j), .int v, .int (xI σ 509 j 0), .ref (ad 19 j)])) := by
  simp [cell9, e9, sI, sI9, sR, sR9, r3, up9, xI, xR]
theorem pu_509 {ad : Nat → Nat → Nat} {ca : Nat → Nat → ClassId} {σ : hT} {j : Nat} {v : Int32} : cell9 ad ca (sI σ 509 j 0 v) (4, j) = (ad 4 j, .inr (4, [.int (xI σ 500 j 0), .int (xI σ 501 j 0), .ref (ad 15 j), .ref (ad 16 j), .int (xI σ 504 j 0), .int (xI σ 505 j 0), .ref (ad 17 j), .ref (ad 18 j), .int (xI σ 508 j 0), .int v, .ref (ad 19 j)])) := by
  simp [cell9, e9, sI, sI9, sR, sR9, r3, up9, xI, xR]
theorem pu_601 {ad : Nat → Nat → Nat} {ca : Nat → Nat → ClassId} {σ : hT} {j : Nat} {v : Int32} : cell9 ad ca (sI σ 601 j 0 v) (5, j) = (ad 5 j, .inr (5, [.ref (ad 20 j), .int v, .ref (ad 21 j), .ref (ad 22 j), .int (xI σ 604 j 0)])) := by
  simp [cell9, e9, sI, sI9, sR, sR9, r3, up9, xI, xR]
theorem pu_604 {ad : Nat → Nat → Nat} {ca : Nat → Nat → ClassId} {σ : hT} {j : Nat} {v : Int32} : cell9 ad ca (sI σ 604 j 0 v) (5, j) = (ad 5 j, .inr (5, [.ref (ad 20 j), .int (xI σ 601 j 0), .ref (ad 21 j), .ref (ad 22 j), .int v])) := by
  simp [cell9, e9, sI, sI9, sR, sR9, r3, up9, xI, xR]
theorem pu_701 {ad : Nat → Nat → Nat} {ca : Nat → Nat → ClassId} {σ : hT} {j : Nat} {v : Int32} : cell9 ad ca (sI σ 701 j 0 v) (6, j) = (ad 6 j, .inr (6, [.ref (ad 23 j), .int v, .int (xI σ 702 j 0), .ref (ad 5 (3 * j)), .ref (ad 5 (3 * j + 1))])) := by
  simp [cell9, e9, sI, sI9, sR, sR9, r3, up9, xI, xR]
theorem pu_702 {ad : Nat → Nat → Nat} {ca : Nat → Nat → ClassId} {σ : hT} {j : Nat} {v : Int32} : cell9 ad ca (sI σ 702 j 0 v) (6, j) = (ad 6 j, .inr (6, [.ref (ad 23 j), .int (xI σ 701 j 0), .int v, .ref (ad 5 (3 * j)), .ref (ad 5 (3 * j + 1))])) := by
  simp [cell9, e9, sI, sI9, sR, sR9, r3, up9, xI, xR]
theorem pu_801 {ad : Nat → Nat → Nat} {ca : Nat → Nat → ClassId} {σ : hT} {j : Nat} {v : Int32} : cell9 ad ca (sI σ 801 j 0 v) (7, j) = (ad 7 j, .inr (7, [.ref (ad 5 (3 * j + 2)), .int v, .int (xI σ 802 j 0)])) := by
  simp [cell9, e9, sI, sI9, sR, sR9, r3, up9, xI, xR]
theorem pu_802 {ad : Nat → Nat → Nat} {ca : Nat → Nat → ClassId} {σ : hT} {j : Nat} {v : Int32} : cell9 ad ca (sI σ 802 j 0 v) (7, j) = (ad 7 j, .inr (7, [.ref (ad 5 (3 * j + 2)), .int (xI σ 801 j 0), .int v])) := by
  simp [cell9, e9, sI, sI9, sR, sR9, r3, up9, xI, xR]
theorem pr_8 {ad : Nat → Nat → Nat} {ca : Nat → Nat → ClassId} {σ : hT} {j : Nat} {g : Nat → Int32} : cell9 ad ca (sI9 σ 8 j g) (8, j) = (ad 8 j, .inl (ca 8 j, 16, .inl g)) := by
  simp [cell9, e9, sI9, sL9, sR9, r3]
theorem pr_9 {ad : Nat → Nat → Nat} {ca : Nat → Nat → ClassId} {σ : hT} {j : Nat} {g : Nat → Option Nat} : cell9 ad ca (sR9 σ 9 j g) (9, j) = (ad 9 j, .inl (ca 9 j, 24, .inr (.inr (.inr (.inr (fun i => (g i).map (ad 6))))))) := by
  simp [cell9, e9, sI9, sL9, sR9, r3]
theorem pa_9 {ad : Nat → Nat → Nat} {ca : Nat → Nat → ClassId} {σ : hT} {j i v : Nat} : cell9 ad ca (sR σ 9 j i (some v)) (9, j) = (ad 9 j, .inl (ca 9 j, 24, .inr (.inr (.inr (.inr (va_up (fun i => (σ.2.2 9 j i).map (ad 6)) i (some (ad 6 v)))))))) := by
  refine (pr_9 (g := up9 (σ.2.2 9 j) i (some v))).trans ?_
  congr 7
  refine congrArg Sum.inr (funext fun x => ?_)
  unfold up9 va_up
  by_cases h : x = i
  · rw [if_pos h, if_pos h]; rfl
  · rw [if_neg h, if_neg h]
theorem pr_10 {ad : Nat → Nat → Nat} {ca : Nat → Nat → ClassId} {σ : hT} {j : Nat} {g : Nat → Option Nat} : cell9 ad ca (sR9 σ 10 j g) (10, j) = (ad 10 j, .inl (ca 10 j, 10, .inr (.inr (.inr (.inr (fun i => (g i).map (ad 1))))))) := by
  simp [cell9, e9, sI9, sL9, sR9, r3]
theorem pa_10 {ad : Nat → Nat → Nat} {ca : Nat → Nat → ClassId} {σ : hT} {j i v : Nat} : cell9 ad ca (sR σ 10 j i (some v)) (10, j) = (ad 10 j, .inl (ca 10 j, 10, .inr (.inr (.inr (.inr (va_up (fun i => (σ.2.2 10 j i).map (ad 1)) i (some (ad 1 v)))))))) := by
  refine (pr_10 (g := up9 (σ.2.2 10 j) i (some v))).trans ?_
  congr 7
  refine congrArg Sum.inr (funext fun x => ?_)
  unfold up9 va_up
  by_cases h : x = i
  · rw [if_pos h, if_pos h]; rfl
  · rw [if_neg h, if_neg h]
theorem pr_11 {ad : Nat → Nat → Nat} {ca : Nat → Nat → ClassId} {σ : hT} {j : Nat} {g : Nat → Int32} : cell9 ad ca (sI9 σ 11 j g) (11, j) = (ad 11 j, .inl (ca 11 j, 24, .inl g)) := by
  simp [cell9, e9, sI9, sL9, sR9, r3]
theorem pr_12 {ad : Nat → Nat → Nat} {ca : Nat → Nat → ClassId} {σ : hT} {j : Nat} {g : Nat → Int32} : cell9 ad ca (sI9 σ 12 j g) (12, j) = (ad 12 j, .inl (ca 12 j, 24, .inl g)) := by
  simp [cell9, e9, sI9, sL9, sR9, r3]
theorem pr_13 {ad : Nat → Nat → Nat} {ca : Nat → Nat → ClassId} {σ : hT} {j : Nat} {g : Nat → Int64} : cell9 ad ca (sL9 σ 13 j g) (13, j) = (ad 13 j, .inl (ca 13 j, 992, .inr (.inl g))) := by
  simp [cell9, e9, sI9, sL9, sR9, r3]
theorem pr_14 {ad : Nat → Nat → Nat} {ca : Nat → Nat → ClassId} {σ : hT} {j : Nat} {g : Nat → Int32} : cell9 ad ca (sI9 σ 14 j g) (14, j) = (ad 14 j, .inl (ca 14 j, 992, .inl g)) := by
  simp [cell9, e9, sI9, sL9, sR9, r3]
theorem pr_15 {ad : Nat → Nat → Nat} {ca : Nat → Nat → ClassId} {σ : hT} {j : Nat} {g : Nat → Int32} : cell9 ad ca (sI9 σ 15 j g) (15, j) = (ad 15 j, .inl (ca 15 j, 25240, .inl g)) := by
  simp [cell9, e9, sI9, sL9, sR9, r3]
theorem pr_16 {ad : Nat → Nat → Nat} {ca : Nat → Nat → ClassId} {σ : hT} {j : Nat} {g : Nat → Int32} : cell9 ad ca (sI9 σ 16 j g) (16, j) = (ad 16 j, .inl (ca 16 j, 25240, .inl g)) := by
  simp [cell9, e9, sI9, sL9, sR9, r3]
theorem pr_17 {ad : Nat → Nat → Nat} {ca : Nat → Nat → ClassId} {σ : hT} {j : Nat} {g : Nat → Int32} : cell9 ad ca (sI9 σ 17 j g) (17, j) = (ad 17 j, .inl (ca 17 j, 24, .inl g)) := by
  simp [cell9, e9, sI9, sL9, sR9, r3]
theorem pr_18 {ad : Nat → Nat → Nat} {ca : Nat → Nat → ClassId} {σ : hT} {j : Nat} {g : Nat → Int32} : cell9 ad ca (sI9 σ 18 j g) (18, j) = (ad 18 j, .inl (ca 18 j, 24, .inl g)) := by
  simp [cell9, e9, sI9, sL9, sR9, r3]
theorem pr_19 {ad : Nat → Nat → Nat} {ca : Nat → Nat → ClassId} {σ : hT} {j : Nat} {g : Nat → Int32} : cell9 ad ca (sI9 σ 19 j g) (19, j) = (ad 19 j, .inl (ca 19 j, 288, .inl g)) := by
  simp [cell9, e9, sI9, sL9, sR9, r3]
theorem pr_20 {ad : Nat → Nat → Nat} {ca : Nat → Nat → ClassId} {σ : hT} {j : Nat} {g : Nat → Int64} : cell9 ad ca (sL9 σ 20 j g) (20, j) = (ad 20 j, .inl (ca 20 j, 8, .inr (.inl g))) := by
  simp [cell9, e9, sI9, sL9, sR9, r3]
theorem pr_21 {ad : Nat → Nat → Nat} {ca : Nat → Nat → ClassId} {σ : hT} {j : Nat} {g : Nat → Int32} : cell9 ad ca (sI9 σ 21 j g) (21, j) = (ad 21 j, .inl (ca 21 j, 6, .inl g)) := by
  simp [cell9, e9, sI9, sL9, sR9, r3]
theorem pr_22 {ad : Nat → Nat → Nat} {ca : Nat → Nat → ClassId} {σ : hT} {j : Nat} {g : Nat → Int32} : cell9 ad ca (sI9 σ 22 j g) (22, j) = (ad 22 j, .inl (ca 22 j, 6, .inl g)) := by
  simp [cell9, e9, sI9, sL9, sR9, r3]
theorem pr_23 {ad : Nat → Nat → Nat} {ca : Nat → Nat → ClassId} {σ : hT} {j : Nat} {g : Nat → Option Nat} : cell9 ad ca (sR9 σ 23 j g) (23, j) = (ad 23 j, .inl (ca 23 j, 12, .inr (.inr (.inr (.inr (fun i => (g i).map (ad 7))))))) := by
  simp [cell9, e9, sI9, sL9, sR9, r3]
theorem pa_23 {ad : Nat → Nat → Nat} {ca : Nat → Nat → ClassId} {σ : hT} {j i v : Nat} : cell9 ad ca (sR σ 23 j i (some v)) (23, j) = (ad 23 j, .inl (ca 23 j, 12, .inr (.inr (.inr (.inr (va_up (fun i => (σ.2.2 23 j i).map (ad 7)) i (some (ad 7 v)))))))) := by
  refine (pr_23 (g := up9 (σ.2.2 23 j) i (some v))).trans ?_
  congr 7
  refine congrArg Sum.inr (funext fun x => ?_)
  unfold up9 va_up
  by_cases h : x = i
  · rw [if_pos h, if_pos h]; rfl
  · rw [if_neg h, if_neg h]
theorem pr_24 {ad : Nat → Nat → Nat} {ca : Nat → Nat → ClassId} {σ : hT} {j : Nat} {g : Nat → Int64} : cell9 ad ca (sL9 σ 24 j g) (24, j) = (ad 24 j, .inl (ca 24 j, 1, .inr (.inl g))) := by
  simp [cell9, e9, sI9, sL9, sR9, r3]
/-- what is there refers only to what is there -/
def clo (dom : List (Nat × Nat)) (xr : Nat → Nat → Nat → Option Nat) : Prop := (∀ j, (0, j) ∈ dom → (8, j) ∈ dom) ∧ (∀ j, (0, j) ∈ dom → (9, j) ∈ dom) ∧ (∀ j, (0, j) ∈ dom → (10, j) ∈ dom) ∧ (∀ j b, (0, j) ∈ dom → xr 105 j 0 = some b → (1, b) ∈ dom) ∧ (∀ j, (0, j) ∈ dom → (2, 0) ∈ dom) ∧ (∀ j, (0, j) ∈ dom → (3, 0) ∈ dom) ∧ (∀ j, (1, j) ∈ dom → (11, j) ∈ dom) ∧ (∀ j, (1, j) ∈ dom → (12, j) ∈ dom) ∧ (∀ j, (2, j) ∈ dom → (13, j) ∈ dom) ∧ (∀ j, (2, j) ∈ dom → (14, j) ∈ dom) ∧ (∀ j, (4, j) ∈ dom → (15, j) ∈ dom) ∧ (∀ j, (4, j) ∈ dom → (16, j) ∈ dom) ∧ (∀ j, (4, j) ∈ dom → (17, j) ∈ dom) ∧ (∀ j, (4, j) ∈ dom → (18, j) ∈ dom) ∧ (∀ j, (4, j) ∈ dom → (19, j) ∈ dom) ∧ (∀ j, (5, j) ∈ dom → (20, j) ∈ dom) ∧ (∀ j, (5, j) ∈ dom → (21, j) ∈ dom) ∧ (∀ j, (5, j) ∈ dom → (22, j) ∈ dom) ∧ (∀ j, (6, j) ∈ dom → (23, j) ∈ dom) ∧ (∀ j, (6, j) ∈ dom → (5, (3 * j)) ∈ dom) ∧ (∀ j, (6, j) ∈ dom → (5, (3 * j + 1)) ∈ dom) ∧ (∀ j, (7, j) ∈ dom → (5, (3 * j + 2)) ∈ dom) ∧ (∀ j k b, (9, j) ∈ dom → xr 9 j k = some b → (6, b) ∈ dom) ∧ (∀ j k b, (10, j) ∈ dom → xr 10 j k = some b → (1, b) ∈ dom) ∧ (∀ j k b, (23, j) ∈ dom → xr 23 j k = some b → (7, b) ∈ dom)
theorem cm_0_0 {dom : List (Nat × Nat)} {xr : Nat → Nat → Nat → Option Nat} (h : clo dom xr) {j : Nat} (h0 : (0, j) ∈ dom) : (8, j) ∈ dom := h.1 j h0
theorem cm_0_1 {dom : List (Nat × Nat)} {xr : Nat → Nat → Nat → Option Nat} (h : clo dom xr) {j : Nat} (h0 : (0, j) ∈ dom) : (9, j) ∈ dom := h.2.1 j h0
theorem cm_0_4 {dom : List (Nat × Nat)} {xr : Nat → Nat → Nat → Option Nat} (h : clo dom xr) {j : Nat} (h0 : (0, j) ∈ dom) : (10, j) ∈ dom := h.2.2.1 j h0
theorem cq_0_5 {dom : List (Nat × Nat)} {xr : Nat → Nat → Nat → Option Nat} (h : clo dom xr) {j b : Nat} (h0 : (0, j) ∈ dom) (h1 : xr 105 j 0 = some b) : (1, b) ∈ dom := h.2.2.2.1 j b h0 h1
theorem cm_0_6 {dom : List (Nat × Nat)} {xr : Nat → Nat → Nat → Option Nat} (h : clo dom xr) {j : Nat} (h0 : (0, j) ∈ dom) : (2, 0) ∈ dom := h.2.2.2.2.1 j h0
theorem cm_0_7 {dom : List (Nat × Nat)} {xr : Nat → Nat → Nat → Option Nat} (h : clo dom xr) {j : Nat} (h0 : (0, j) ∈ dom) : (3, 0) ∈ dom := h.2.2.2.2.2.1 j h0
theorem cm_1_0 {dom : List (Nat × Nat)} {xr : Nat → Nat → Nat → Option Nat} (h : clo dom xr) {j : Nat} (h0 : (1, j) ∈ dom) : (11, j) ∈ dom := h.2.2.2.2.2.2.1 j h0
theorem cm_1_1 {dom : List (Nat × Nat)} {xr : Nat → Nat → Nat → Option Nat} (h : clo dom xr) {j : Nat} (h0 : (1, j) ∈ dom) : (12, j) ∈ dom := h.2.2.2.2.2.2.2.1 j h0
theorem cm_2_0 {dom : List (Nat × Nat)} {xr : Nat → Nat → Nat → Option Nat} (h : clo dom xr) {j : Nat} (h0 : (2, j) ∈ dom) : (13, j) ∈ dom := h.2.2.2.2.2.2.2.2.1 j h0
theorem cm_2_1 {dom : List (Nat × Nat)} {xr : Nat → Nat → Nat → Option Nat} (h : clo dom xr) {j : Nat} (h0 : (2, j) ∈ dom) : (14, j) ∈ dom := h.2.2.2.2.2.2.2.2.2.1 j h0
theorem cm_4_2 {dom : List (Nat × Nat)} {xr : Nat → Nat → Nat → Option Nat} (h : clo dom xr) {j : Nat} (h0 : (4, j) ∈ dom) : (15, j) ∈ dom := h.2.2.2.2.2.2.2.2.2.2.1 j h0
theorem cm_4_3 {dom : List (Nat × Nat)} {xr : Nat → Nat → Nat → Option Nat} (h : clo dom xr) {j : Nat} (h0 : (4, j) ∈ dom) : (16, j) ∈ dom := h.2.2.2.2.2.2.2.2.2.2.2.1 j h0
theorem cm_4_6 {dom : List (Nat × Nat)} {xr : Nat → Nat → Nat → Option Nat} (h : clo dom xr) {j : Nat} (h0 : (4, j) ∈ dom) : (17, j) ∈ dom := h.2.2.2.2.2.2.2.2.2.2.2.2.1 j h0
theorem cm_4_7 {dom : List (Nat × Nat)} {xr : Nat → Nat → Nat → Option Nat} (h : clo dom xr) {j : Nat} (h0 : (4, j) ∈ dom) : (18, j) ∈ dom := h.2.2.2.2.2.2.2.2.2.2.2.2.2.1 j h0
theorem cm_4_10 {dom : List (Nat × Nat)} {xr : Nat → Nat → Nat → Option Nat} (h : clo dom xr) {j : Nat} (h0 : (4, j) ∈ dom) : (19, j) ∈ dom := h.2.2.2.2.2.2.2.2.2.2.2.2.2.2.1 j h0
theorem cm_5_0 {dom : List (Nat × Nat)} {xr : Nat → Nat → Nat → Option Nat} (h : clo dom xr) {j : Nat} (h0 : (5, j) ∈ dom) : (20, j) ∈ dom := h.2.2.2.2.2.2.2.2.2.2.2.2.2.2.2.1 j h0
theorem cm_5_2 {dom : List (Nat × Nat)} {xr : Nat → Nat → Nat → Option Nat} (h : clo dom xr) {j : Nat} (h0 : (5, j) ∈ dom) : (21, j) ∈ dom := h.2.2.2.2.2.2.2.2.2.2.2.2.2.2.2.2.1 j h0
theorem cm_5_3 {dom : List (Nat × Nat)} {xr : Nat → Nat → Nat → Option Nat} (h : clo dom xr) {j : Nat} (h0 : (5, j) ∈ dom) : (22, j) ∈ dom := h.2.2.2.2.2.2.2.2.2.2.2.2.2.2.2.2.2.1 j h0
theorem cm_6_0 {dom : List (Nat × Nat)} {xr : Nat → Nat → Nat → Option Nat} (h : clo dom xr) {j : Nat} (h0 : (6, j) ∈ dom) : (23, j) ∈ dom := h.2.2.2.2.2.2.2.2.2.2.2.2.2.2.2.2.2.2.1 j h0
theorem cm_6_3 {dom : List (Nat × Nat)} {xr : Nat → Nat → Nat → Option Nat} (h : clo dom xr) {j : Nat} (h0 : (6, j) ∈ dom) : (5, (3 * j)) ∈ dom := h.2.2.2.2.2.2.2.2.2.2.2.2.2.2.2.2.2.2.2.1 j h0
theorem cm_6_4 {dom : List (Nat × Nat)} {xr : Nat → Nat → Nat → Option Nat} (h : clo dom xr) {j : Nat} (h0 : (6, j) ∈ dom) : (5, (3 * j + 1)) ∈ dom := h.2.2.2.2.2.2.2.2.2.2.2.2.2.2.2.2.2.2.2.2.1 j h0
theorem cm_7_0 {dom : List (Nat × Nat)} {xr : Nat → Nat → Nat → Option Nat} (h : clo dom xr) {j : Nat} (h0 : (7, j) ∈ dom) : (5, (3 * j + 2)) ∈ dom := h.2.2.2.2.2.2.2.2.2.2.2.2.2.2.2.2.2.2.2.2.2.1 j h0
theorem cr_9 {dom : List (Nat × Nat)} {xr : Nat → Nat → Nat → Option Nat} (h : clo dom xr) {j k b : Nat} (h0 : (9, j) ∈ dom) (h1 : xr 9 j k = some b) : (6, b) ∈ dom := h.2.2.2.2.2.2.2.2.2.2.2.2.2.2.2.2.2.2.2.2.2.2.1 j k b h0 h1
theorem cr_10 {dom : List (Nat × Nat)} {xr : Nat → Nat → Nat → Option Nat} (h : clo dom xr) {j k b : Nat} (h0 : (10, j) ∈ dom) (h1 : xr 10 j k = some b) : (1, b) ∈ dom := h.2.2.2.2.2.2.2.2.2.2.2.2.2.2.2.2.2.2.2.2.2.2.2.1 j k b h0 h1
theorem cr_23 {dom : List (Nat × Nat)} {xr : Nat → Nat → Nat → Option Nat} (h : clo dom xr) {j k b : Nat} (h0 : (23, j) ∈ dom) (h1 : xr 23 j k = some b) : (7, b) ∈ dom := h.2.2.2.2.2.2.2.2.2.2.2.2.2.2.2.2.2.2.2.2.2.2.2.2 j k b h0 h1
theorem sR_ne {σ : hT} {f j k : Nat} {v : Option Nat} {f' j' : Nat} (h : f' ≠ f) : (sR σ f j k v).2.2 f' j' = σ.2.2 f' j' := r3_ne (fun z => h z.1)
theorem sR_or {σ : hT} {f j k : Nat} {v : Option Nat} {j' k' b : Nat} (h : (sR σ f j k v).2.2 f j' k' = some b) : v = some b ∨ σ.2.2 f j' k' = some b := by
  have h : r3 σ.2.2 f j (up9 (σ.2.2 f j) k v) f j' k' = some b := h
  by_cases e : j' = j
  · subst e
    rw [r3_self] at h
    unfold up9 at h
    by_cases e2 : k' = k
    · rw [if_pos e2] at h; exact Or.inl h
    · rw [if_neg e2] at h; exact Or.inr h
  · rw [r3_ne (fun z => e z.2)] at h
    exact Or.inr h
theorem cs_105 {dom : List (Nat × Nat)} {σ : hT} {j k : Nat} {v : Option Nat} (hC : clo dom σ.2.2) (hv : ∀ b, v = some b → (1, b) ∈ dom) : clo dom (sR σ 105 j k v).2.2 :=
  ⟨hC.1, hC.2.1, hC.2.2.1, (fun j' b hm hb => (sR_or hb).elim (fun z => hv b z) (fun z => hC.2.2.2.1 j' b hm z)), hC.2.2.2.2.1, hC.2.2.2.2.2.1, hC.2.2.2.2.2.2.1, hC.2.2.2.2.2.2.2.1, hC.2.2.2.2.2.2.2.2.1, hC.2.2.2.2.2.2.2.2.2.1, hC.2.2.2.2.2.2.2.2.2.2.1, hC.2.2.2.2.2.2.2.2.2.2.2.1, hC.2.2.2.2.2.2.2.2.2.2.2.2.1, hC.2.2.2.2.2.2.2.2.2.2.2.2.2.1, hC.2.2.2.2.2.2.2.2.2.2.2.2.2.2.1, hC.2.2.2.2.2.2.2.2.2.2.2.2.2.2.2.1, hC.2.2.2.2.2.2.2.2.2.2.2.2.2.2.2.2.1, hC.2.2.2.2.2.2.2.2.2.2.2.2.2.2.2.2.2.1, hC.2.2.2.2.2.2.2.2.2.2.2.2.2.2.2.2.2.2.1, hC.2.2.2.2.2.2.2.2.2.2.2.2.2.2.2.2.2.2.2.1, hC.2.2.2.2.2.2.2.2.2.2.2.2.2.2.2.2.2.2.2.2.1, hC.2.2.2.2.2.2.2.2.2.2.2.2.2.2.2.2.2.2.2.2.2.1, (fun j' k' b hm hb => hC.2.2.2.2.2.2.2.2.2.2.2.2.2.2.2.2.2.2.2.2.2.2.1 j' k' b hm (by rw [show (sR σ 105 j k v).2.2 9 j' = σ.2.2 9 j' from sR_ne (by decide)] at hb; exact hb)), (fun j' k' b hm hb => hC.2.2.2.2.2.2.2.2.2.2.2.2.2.2.2.2.2.2.2.2.2.2.2.1 j' k' b hm (by rw [show (sR σ 105 j k v).2.2 10 j' = σ.2.2 10 j' from sR_ne (by decide)] at hb; exact hb)), (fun j' k' b hm hb => hC.2.2.2.2.2.2.2.2.2.2.2.2.2.2.2.2.2.2.2.2.2.2.2.2 j' k' b hm (by rw [show (sR σ 105 j k v).2.2 23 j' = σ.2.2 23 j' from sR_ne (by decide)] at hb; exact hb))⟩
theorem cs_9 {dom : List (Nat × Nat)} {σ : hT} {j k : Nat} {v : Option Nat} (hC : clo dom σ.2.2) (hv : ∀ b, v = some b → (6, b) ∈ dom) : clo dom (sR σ 9 j k v).2.2 :=
  ⟨hC.1, hC.2.1, hC.2.2.1, (fun j' b hm hb => hC.2.2.2.1 j' b hm (by rw [show (sR σ 9 j k v).2.2 105 j' = σ.2.2 105 j' from sR_ne (by decide)] at hb; exact hb)), hC.2.2.2.2.1, hC.2.2.2.2.2.1, hC.2.2.2.2.2.2.1, hC.2.2.2.2.2.2.2.1, hC.2.2.2.2.2.2.2.2.1, hC.2.2.2.2.2.2.2.2.2.1, hC.2.2.2.2.2.2.2.2.2.2.1, hC.2.2.2.2.2.2.2.2.2.2.2.1, hC.2.2.2.2.2.2.2.2.2.2.2.2.1, hC.2.2.2.2.2.2.2.2.2.2.2.2.2.1, hC.2.2.2.2.2.2.2.2.2.2.2.2.2.2.1, hC.2.2.2.2.2.2.2.2.2.2.2.2.2.2.2.1, hC.2.2.2.2.2.2.2.2.2.2.2.2.2.2.2.2.1, hC.2.2.2.2.2.2.2.2.2.2.2.2.2.2.2.2.2.1, hC.2.2.2.2.2.2.2.2.2.2.2.2.2.2.2.2.2.2.1, hC.2.2.2.2.2.2.2.2.2.2.2.2.2.2.2.2.2.2.2.1, hC.2.2.2.2.2.2.2.2.2.2.2.2.2.2.2.2.2.2.2.2.1, hC.2.2.2.2.2.2.2.2.2.2.2.2.2.2.2.2.2.2.2.2.2.1, (fun j' k' b hm hb => (sR_or hb).elim (fun z => hv b z) (fun z => hC.2.2.2.2.2.2.2.2.2.2.2.2.2.2.2.2.2.2.2.2.2.2.1 j' k' b hm z)), (fun j' k' b hm hb => hC.2.2.2.2.2.2.2.2.2.2.2.2.2.2.2.2.2.2.2.2.2.2.2.1 j' k' b hm (by rw [show (sR σ 9 j k v).2.2 10 j' = σ.2.2 10 j' from sR_ne (by decide)] at hb; exact hb)), (fun j' k' b hm hb => hC.2.2.2.2.2.2.2.2.2.2.2.2.2.2.2.2.2.2.2.2.2.2.2.2 j' k' b hm (by rw [show (sR σ 9 j k v).2.2 23 j' = σ.2.2 23 j' from sR_ne (by decide)] at hb; exact hb))⟩
theorem cs_10 {dom : List (Nat × Nat)} {σ : hT} {j k : Nat} {v : Option Nat} (hC : clo dom σ.2.2) (hv : ∀ b, v = some b → (1, b) ∈ dom) : clo dom (sR σ 10 j k v).2.2 :=
  ⟨hC.1, hC.2.1, hC.2.2.1, (fun j' b hm hb => hC.2.2.2.1 j' b hm (by rw [show (sR σ 10 j k v).2.2 105 j' = σ.2.2 105 j' from sR_ne (by decide)] at hb; exact hb)), hC.2.2.2.2.1, hC.2.2.2.2.2.1, hC.2.2.2.2.2.2.1, hC.2.2.2.2.2.2.2.1, hC.2.2.2.2.2.2.2.2.1, hC.2.2.2.2.2.2.2.2.2.1, hC.2.2.2.2.2.2.2.2.2.2.1, hC.2.2.2.2.2.2.2.2.2.2.2.1, hC.2.2.2.2.2.2.2.2.2.2.2.2.1, hC.2.2.2.2.2.2.2.2.2.2.2.2.2.1, hC.2.2.2.2.2.2.2.2.2.2.2.2.2.2.1, hC.2.2.2.2.2.2.2.2.2.2.2.2.2.2.2.1, hC.2.2.2.2.2.2.2.2.2.2.2.2.2.2.2.2.1, hC.2.2.2.2.2.2.2.2.2.2.2.2.2.2.2.2.2.1, hC.2.2.2.2.2.2.2.2.2.2.2.2.2.2.2.2.2.2.1, hC.2.2.2.2.2.2.2.2.2.2.2.2.2.2.2.2.2.2.2.1, hC.2.2.2.2.2.2.2.2.2.2.2.2.2.2.2.2.2.2.2.2.1, hC.2.2.2.2.2.2.2.2.2.2.2.2.2.2.2.2.2.2.2.2.2.1, (fun j' k' b hm hb => hC.2.2.2.2.2.2.2.2.2.2.2.2.2.2.2.2.2.2.2.2.2.2.1 j' k' b hm (by rw [show (sR σ 10 j k v).2.2 9 j' = σ.2.2 9 j' from sR_ne (by decide)] at hb; exact hb)), (fun j' k' b hm hb => (sR_or hb).elim (fun z => hv b z) (fun z => hC.2.2.2.2.2.2.2.2.2.2.2.2.2.2.2.2.2.2.2.2.2.2.2.1 j' k' b hm z)), (fun j' k' b hm hb => hC.2.2.2.2.2.2.2.2.2.2.2.2.2.2.2.2.2.2.2.2.2.2.2.2 j' k' b hm (by rw [show (sR σ 10 j k v).2.2 23 j' = σ.2.2 23 j' from sR_ne (by decide)] at hb; exact hb))⟩
theorem cs_23 {dom : List (Nat × Nat)} {σ : hT} {j k : Nat} {v : Option Nat} (hC : clo dom σ.2.2) (hv : ∀ b, v = some b → (7, b) ∈ dom) : clo dom (sR σ 23 j k v).2.2 :=
  ⟨hC.1, hC.2.1, hC.2.2.1, (fun j' b hm hb => hC.2.2.2.1 j' b hm (by rw [show (sR σ 23 j k v).2.2 105 j' = σ.2.2 105 j' from sR_ne (by decide)] at hb; exact hb)), hC.2.2.2.2.1, hC.2.2.2.2.2.1, hC.2.2.2.2.2.2.1, hC.2.2.2.2.2.2.2.1, hC.2.2.2.2.2.2.2.2.1, hC.2.2.2.2.2.2.2.2.2.1, hC.2.2.2.2.2.2.2.2.2.2.1, hC.2.2.2.2.2.2.2.2.2.2.2.1, hC.2.2.2.2.2.2.2.2.2.2.2.2.1, hC.2.2.2.2.2.2.2.2.2.2.2.2.2.1, hC.2.2.2.2.2.2.2.2.2.2.2.2.2.2.1, hC.2.2.2.2.2.2.2.2.2.2.2.2.2.2.2.1, hC.2.2.2.2.2.2.2.2.2.2.2.2.2.2.2.2.1, hC.2.2.2.2.2.2.2.2.2.2.2.2.2.2.2.2.2.1, hC.2.2.2.2.2.2.2.2.2.2.2.2.2.2.2.2.2.2.1, hC.2.2.2.2.2.2.2.2.2.2.2.2.2.2.2.2.2.2.2.1, hC.2.2.2.2.2.2.2.2.2.2.2.2.2.2.2.2.2.2.2.2.1, hC.2.2.2.2.2.2.2.2.2.2.2.2.2.2.2.2.2.2.2.2.2.1, (fun j' k' b hm hb => hC.2.2.2.2.2.2.2.2.2.2.2.2.2.2.2.2.2.2.2.2.2.2.1 j' k' b hm (by rw [show (sR σ 23 j k v).2.2 9 j' = σ.2.2 9 j' from sR_ne (by decide)] at hb; exact hb)), (fun j' k' b hm hb => hC.2.2.2.2.2.2.2.2.2.2.2.2.2.2.2.2.2.2.2.2.2.2.2.1 j' k' b hm (by rw [show (sR σ 23 j k v).2.2 10 j' = σ.2.2 10 j' from sR_ne (by decide)] at hb; exact hb)), (fun j' k' b hm hb => (sR_or hb).elim (fun z => hv b z) (fun z => hC.2.2.2.2.2.2.2.2.2.2.2.2.2.2.2.2.2.2.2.2.2.2.2.2 j' k' b hm z))⟩
def ty9 (κ : Nat) : Option FieldType := match κ with
  | 8 => some .int
  | 9 => some (.object "DrawingVault$Drawing")
  | 10 => some (.object "DrawingVault$Baseline")
  | 11 => some .int
  | 12 => some .int
  | 13 => some .long
  | 14 => some .byte
  | 15 => some .int
  | 16 => some .int
  | 17 => some .boolean
  | 18 => some .int
  | 19 => some .boolean
  | 20 => some .long
  | 21 => some .int
  | 22 => some .int
  | 23 => some (.object "DrawingVault$Revision")
  | 24 => some .long
  | _ => none
def hkt (D : va_G) (ca : Nat → Nat → ClassId) (dom : List (Nat × Nat)) (U : State) : Prop := va_K D kCl [] U ∧ ∀ (κ j : Nat) (ty : FieldType), (κ, j) ∈ dom → ty9 κ = some ty → va_K D kCl [(ca κ j, ty)] U
theorem hkt.moved {D : va_G} {ca : Nat → Nat → ClassId} {dom : List (Nat × Nat)} {u U : State} (hvm : u.vm.Alike U.vm) (h : hkt D ca dom u) : hkt D ca dom U := ⟨va_K.moved hvm h.1, fun κ j ty hm ht => va_K.moved hvm (h.2 κ j ty hm ht)⟩
/-- the start of a method that only reads -/
def hR (D : va_G) (ad : Nat → Nat → Nat) (ca : Nat → Nat → ClassId) (dom : List (Nat × Nat)) (σ : hT) (av : List Value) : Array Value → State → Prop := va_Pc av (fun U => va_P D kCl (w9 ad ca dom σ) U.heap ∧ hkt D ca dom U ∧ eG U)
theorem hR_blind {D : va_G} {ad : Nat → Nat → Nat} {ca : Nat → Nat → ClassId} {dom : List (Nat × Nat)} {σ : hT} {av : List Value} : FrameBlind (hR D ad ca dom σ av) := fun a U g mk h => ⟨h.1, h.2.1, hkt.moved (u := U) (U := U.calling g mk a) (Vm.Alike.refl U.vm) h.2.2.1, eG_same (u := U) rfl h.2.2.2⟩
theorem hR_pre {D : va_G} {ad : Nat → Nat → Nat} {ca : Nat → Nat → ClassId} {dom : List (Nat × Nat)} {σ : hT} {av : List Value} {s : State} {H : Heap} (hP : va_P D kCl (w9 ad ca dom σ) H) (hK : hkt D ca dom s) (hG : eG s) : ∀ U : State, U.heap = H → s.WarmedH U.vm → hR D ad ca dom σ av av.toArray U := fun U hU hW => ⟨rfl, by rw [hU]; exact hP, hK.moved hW.alike, eG_warm hW hG⟩
/-- the start of a method that writes -/
def hW (D : va_G) (sz : Nat) (ad : Nat → Nat → Nat) (ca : Nat → Nat → ClassId) (dom : List (Nat × Nat)) (σ : hT) (av : List Value) : Array Value → State → Prop := va_Pc av (fun U => U.heap.size = sz ∧ va_P D kCl (w9 ad ca dom σ) U.heap ∧ hkt D ca dom U ∧ va_D (fun _ => True) (w9 ad ca dom σ) ∧ eG U)
theorem hW_blind {D : va_G} {sz : Nat} {ad : Nat → Nat → Nat} {ca : Nat → Nat → ClassId} {dom : List (Nat × Nat)} {σ : hT} {av : List Value} : FrameBlind (hW D sz ad ca dom σ av) := fun a U g mk h => ⟨h.1, h.2.1, h.2.2.1, hkt.moved (u := U) (U := U.calling g mk a) (Vm.Alike.refl U.vm) h.2.2.2.1, h.2.2.2.2.1, eG_same (u := U) rfl h.2.2.2.2.2⟩
theorem hW_pre {D : va_G} {ad : Nat → Nat → Nat} {ca : Nat → Nat → ClassId} {dom : List (Nat × Nat)} {σ : hT} {av : List Value} {s : State} {H : Heap} {A : Nat → Prop} (hP : va_P D kCl (w9 ad ca dom σ) H) (hK : hkt D ca dom s) (hD : va_D A (w9 ad ca dom σ)) (hG : eG s) : ∀ U : State, U.heap = H → s.WarmedH U.vm → hW D H.size ad ca dom σ av av.toArray U := fun U hU hW => ⟨rfl, by rw [hU], by rw [hU]; exact hP, hK.moved hW.alike, hD.weaken (fun _ _ _ _ => trivial), eG_warm hW hG⟩
def hB (D : va_G) (A : Nat → Prop) (ad : Nat → Nat → Nat) (ca : Nat → Nat → ClassId) (dom : List (Nat × Nat)) (σ : hT) (t : State) : Prop := va_P D kCl (w9 ad ca dom σ) t.heap ∧ va_D A (w9 ad ca dom σ) ∧ clo dom σ.2.2
theorem w9_free {A : Nat → Prop} {ad : Nat → Nat → Nat} {ca : Nat → Nat → ClassId} {dom : List (Nat × Nat)} {σ : hT} {H0 H : Heap} {locs : List Loc} (hD : va_D A (w9 ad ca dom σ)) (hS : va_S A H0 H locs) (hA : ∀ q, H0.size ≤ q → A q) : ∀ q, va_A (w9 ad ca dom σ) H.size q → A q := fun q h => h.elim (fun ⟨k, e, h⟩ => hD.2 k (q, e) h) (fun h => hA q (Nat.le_trans hS.1 h))
def hBn (D : va_G) (A : Nat → Prop) (ad : Nat → Nat → Nat) (dom : List (Nat × Nat)) (ad1 : Nat → Nat → Nat) (ca1 : Nat → Nat → ClassId) (dom1 : List (Nat × Nat)) (σ : hT) (t : State) : Prop := (∀ κ j, (κ, j) ∈ dom → ad1 κ j = ad κ j) ∧ va_P D kCl (w9 ad1 ca1 dom1 σ) t.heap ∧ va_D A (w9 ad1 ca1 dom1 σ) ∧ hkt D ca1 dom1 t ∧ clo dom1 σ.2.2 ∧ dom1.Nodup
theorem la9 {D : va_G} {ws : va_W} {c : Nat × va_E} {H : Heap} (h : va_P D kCl (ws ++ [c]) H) : va_P D kCl [c] H := fun k q hk => by
  have := List.mem_singleton.mp (List.mem_of_getElem? hk)
  subst this
  exact h ws.length _ (by rw [List.getElem?_append_right (Nat.le_refl _), Nat.sub_self]; rfl)
theorem lb9 {A : Nat → Prop} {ws : va_W} {c : Nat × va_E} (h : va_D A (ws ++ [c])) : va_D A [c] := by
  have hc : (ws ++ [c])[ws.length]? = some c := by rw [List.getElem?_append_right (Nat.le_refl _), Nat.sub_self]; rfl
  refine ⟨fun i j p q hi hj _ => ?_, fun k q hk => ?_⟩
  · have h1 : i < 1 := (List.getElem?_eq_some_iff.mp hi).1
    have h2 : j < 1 := (List.getElem?_eq_some_iff.mp hj).1
    omega
  · have := List.mem_singleton.mp (List.mem_of_getElem? hk)
    subst this
    exact h.2 _ _ hc
theorem lc9 {A : Nat → Prop} {ws : va_W} {c : Nat × va_E} {H0 H : Heap} {locs : List Loc} (h : va_D A (ws ++ [c])) (hS : va_S A H0 H locs) (hA : ∀ q, H0.size ≤ q → A q) : ∀ z, va_A [c] H.size z → A z := by
  rintro z (⟨k, e, hz⟩ | hz)
  · exact (lb9 h).2 k _ hz
  · exact hA z (Nat.le_trans hS.1 hz)
theorem nar01 {v : Int32} (h : v = 0 ∨ v = 1) : narrow .boolean (.int v) = .int v := by rcases h with rfl | rfl <;> rfl
theorem fit01 {v : Int32} (h : v = 0 ∨ v = 1) : fits .boolean (.int v) = true := by rcases h with rfl | rfl <;> rfl
theorem narZ {x : Int32} : vp_nar .boolean x = nrZ x := rfl
theorem narB {x : Int32} : vp_nar .byte x = nrB x := rfl
theorem cpy_8 {α : Type} {f g : Nat → α} : va_cpy f g (0 : Int32).toNatClampNeg (0 : Int32).toNatClampNeg (8 : Int32).toNatClampNeg = cp9 f g 8 := by
  funext k
  show (if 0 ≤ k ∧ k < 0 + 8 then f (0 + (k - 0)) else g k) = if k < 8 then f k else g k
  by_cases h : k < 8
  · rw [if_pos h, if_pos ⟨Nat.zero_le _, by omega⟩]; congr 1; omega
  · rw [if_neg h, if_neg (fun z => h (by omega))]
theorem cpy_6 {α : Type} {f g : Nat → α} : va_cpy f g (0 : Int32).toNatClampNeg (0 : Int32).toNatClampNeg (6 : Int32).toNatClampNeg = cp9 f g 6 := by
  funext k
  show (if 0 ≤ k ∧ k < 0 + 6 then f (0 + (k - 0)) else g k) = if k < 6 then f k else g k
  by_cases h : k < 6
  · rw [if_pos h, if_pos ⟨Nat.zero_le _, by omega⟩]; congr 1; omega
  · rw [if_neg h, if_neg (fun z => h (by omega))]

