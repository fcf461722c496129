
def nS (σ : hT) (n : Nat) (au : Int32) : hT := (sI9 (sI9 (sL9 (sI9 (sI9 (sI9 (sI9 σ 801 n (fun _ => au)) 802 n (fun _ => 0)) 601 (3 * n + 2) (fun _ => 0)) 604 (3 * n + 2) (fun _ => 0)) 20 (3 * n + 2) (fun _ => 0)) 21 (3 * n + 2) (fun _ => 0)) 22 (3 * n + 2) (fun _ => 0))
def row7 (n : Nat) : List (Nat × Nat) := [(7, n), (5, (3 * n + 2)), (20, (3 * n + 2)), (21, (3 * n + 2)), (22, (3 * n + 2))]
def nD (σ : hT) (n : Nat) : hT := (sI9 (sI9 (sL9 (sI9 (sI9 (sI9 (sI9 (sL9 (sI9 (sI9 (sI9 (sI9 (sR9 σ 23 n (fun _ => none)) 701 n (fun _ => 0)) 702 n (fun _ => -1)) 601 (3 * n) (fun _ => 0)) 604 (3 * n) (fun _ => 0)) 20 (3 * n) (fun _ => 0)) 21 (3 * n) (fun _ => 0)) 22 (3 * n) (fun _ => 0)) 601 (3 * n + 1) (fun _ => 0)) 604 (3 * n + 1) (fun _ => 0)) 20 (3 * n + 1) (fun _ => 0)) 21 (3 * n + 1) (fun _ => 0)) 22 (3 * n + 1) (fun _ => 0))
def row6 (n : Nat) : List (Nat × Nat) := [(6, n), (23, n), (5, (3 * n)), (20, (3 * n)), (21, (3 * n)), (22, (3 * n)), (5, (3 * n + 1)), (20, (3 * n + 1)), (21, (3 * n + 1)), (22, (3 * n + 1))]
def nB (σ : hT) (n : Nat) : hT := (sI9 (sI9 (sI9 σ 202 n (fun _ => 0)) 11 n (fun i => if i < 24 then -1 else 0)) 12 n (fun _ => 0))
def row1 (n : Nat) : List (Nat × Nat) := [(1, n), (11, n), (12, n)]
def up2 {α : Type} (f : Nat → Nat → α) (κ j : Nat) (a : α) : Nat → Nat → α := fun κ' j' => if κ' = κ ∧ j' = j then a else f κ' j'
theorem up2_ne {α : Type} {f : Nat → Nat → α} {κ j : Nat} {a : α} {κ' j' : Nat} (h : (κ', j') ≠ (κ, j)) : up2 f κ j a κ' j' = f κ' j' := if_neg (fun z => h (by rw [z.1, z.2]))
theorem map_ad {ad ad1 : Nat → Nat} {o : Option Nat} (h : ∀ b, o = some b → ad1 b = ad b) : o.map ad1 = o.map ad := by
  cases o with
  | none => rfl
  | some b => exact congrArg some (h b rfl)
theorem e9_ext {ad ad1 : Nat → Nat → Nat} {ca ca1 : Nat → Nat → ClassId} {dom : List (Nat × Nat)} {σ σ1 : hT} (hC : clo dom σ.2.2) (ha : ∀ κ j, (κ, j) ∈ dom → ad1 κ j = ad κ j) (hc : ∀ κ j, (κ, j) ∈ dom → ca1 κ j = ca κ j) (hs : ∀ κ j, (κ, j) ∈ dom → ∀ f, own9 f = κ → σ1.1 f j = σ.1 f j ∧ σ1.2.1 f j = σ.2.1 f j ∧ σ1.2.2 f j = σ.2.2 f j) : ∀ {κ j : Nat}, (κ, j) ∈ dom → e9 ad1 ca1 σ1 κ j = e9 ad ca σ κ j := by
  intro κ j h
  exact match κ, h with
    | 0, h => by
      show (.inr (0, [.ref (ad1 8 j), .ref (ad1 9 j), .int (σ1.1 102 j 0), .int (σ1.1 103 j 0), .ref (ad1 10 j), va_re (ad1 1) (σ1.2.2 105 j 0), .ref (ad1 2 0), .ref (ad1 3 0), .int (σ1.1 108 j 0)]) : va_E) = .inr (0, [.ref (ad 8 j), .ref (ad 9 j), .int (σ.1 102 j 0), .int (σ.1 103 j 0), .ref (ad 10 j), va_re (ad 1) (σ.2.2 105 j 0), .ref (ad 2 0), .ref (ad 3 0), .int (σ.1 108 j 0)])
      rw [ha 8 j (cm_0_0 hC h), ha 9 j (cm_0_1 hC h), (hs 0 j h 102 rfl).1, (hs 0 j h 103 rfl).1, ha 10 j (cm_0_4 hC h), (hs 0 j h 105 rfl).2.2, ha 2 0 (cm_0_6 hC h), ha 3 0 (cm_0_7 hC h), (hs 0 j h 108 rfl).1]
      have e9 : va_re (ad1 1) (σ.2.2 105 j 0) = va_re (ad 1) (σ.2.2 105 j 0) := congrArg va_rf (map_ad (fun b hb => ha 1 b (cq_0_5 hC h hb)))
      rw [e9]
    | 1, h => by
      show (.inr (1, [.ref (ad1 11 j), .ref (ad1 12 j), .int (σ1.1 202 j 0)]) : va_E) = .inr (1, [.ref (ad 11 j), .ref (ad 12 j), .int (σ.1 202 j 0)])
      rw [ha 11 j (cm_1_0 hC h), ha 12 j (cm_1_1 hC h), (hs 1 j h 202 rfl).1]
    | 2, h => by
      show (.inr (2, [.ref (ad1 13 j), .ref (ad1 14 j), .int (σ1.1 302 j 0)]) : va_E) = .inr (2, [.ref (ad 13 j), .ref (ad 14 j), .int (σ.1 302 j 0)])
      rw [ha 13 j (cm_2_0 hC h), ha 14 j (cm_2_1 hC h), (hs 2 j h 302 rfl).1]
    | 3, h => by
      show (.inr (3, [.int (σ1.1 400 j 0), .int (σ1.1 401 j 0), .int (σ1.1 402 j 0), .int (σ1.1 403 j 0), .int (σ1.1 404 j 0), .int (σ1.1 405 j 0)]) : va_E) = .inr (3, [.int (σ.1 400 j 0), .int (σ.1 401 j 0), .int (σ.1 402 j 0), .int (σ.1 403 j 0), .int (σ.1 404 j 0), .int (σ.1 405 j 0)])
      rw [(hs 3 j h 400 rfl).1, (hs 3 j h 401 rfl).1, (hs 3 j h 402 rfl).1, (hs 3 j h 403 rfl).1, (hs 3 j h 404 rfl).1, (hs 3 j h 405 rfl).1]
    | 4, h => by
      show (.inr (4, [.int (σ1.1 500 j 0), .int (σ1.1 501 j 0), .ref (ad1 15 j), .ref (ad1 16 j), .int (σ1.1 504 j 0), .int (σ1.1 505 j 0), .ref (ad1 17 j), .ref (ad1 18 j), .int (σ1.1 508 j 0), .int (σ1.1 509 j 0), .ref (ad1 19 j)]) : va_E) = .inr (4, [.int (σ.1 500 j 0), .int (σ.1 501 j 0), .ref (ad 15 j), .ref (ad 16 j), .int (σ.1 504 j 0), .int (σ.1 505 j 0), .ref (ad 17 j), .ref (ad 18 j), .int (σ.1 508 j 0), .int (σ.1 509 j 0), .ref (ad 19 j)])
      rw [(hs 4 j h 500 rfl).1, (hs 4 j h 501 rfl).1, ha 15 j (cm_4_2 hC h), ha 16 j (cm_4_3 hC h), (hs 4 j h 504 rfl).1, (hs 4 j h 505 rfl).1, ha 17 j (cm_4_6 hC h), ha 18 j (cm_4_7 hC h), (hs 4 j h 508 rfl).1, (hs 4 j h 509 rfl).1, ha 19 j (cm_4_10 hC h)]
    | 5, h => by
      show (.inr (5, [.ref (ad1 20 j), .int (σ1.1 601 j 0), .ref (ad1 21 j), .ref (ad1 22 j), .int (σ1.1 604 j 0)]) : va_E) = .inr (5, [.ref (ad 20 j), .int (σ.1 601 j 0), .ref (ad 21 j), .ref (ad 22 j), .int (σ.1 604 j 0)])
      rw [ha 20 j (cm_5_0 hC h), (hs 5 j h 601 rfl).1, ha 21 j (cm_5_2 hC h), ha 22 j (cm_5_3 hC h), (hs 5 j h 604 rfl).1]
    | 6, h => by
      show (.inr (6, [.ref (ad1 23 j), .int (σ1.1 701 j 0), .int (σ1.1 702 j 0), .ref (ad1 5 (3 * j)), .ref (ad1 5 (3 * j + 1))]) : va_E) = .inr (6, [.ref (ad 23 j), .int (σ.1 701 j 0), .int (σ.1 702 j 0), .ref (ad 5 (3 * j)), .ref (ad 5 (3 * j + 1))])
      rw [ha 23 j (cm_6_0 hC h), (hs 6 j h 701 rfl).1, (hs 6 j h 702 rfl).1, ha 5 (3 * j) (cm_6_3 hC h), ha 5 (3 * j + 1) (cm_6_4 hC h)]
    | 7, h => by
      show (.inr (7, [.ref (ad1 5 (3 * j + 2)), .int (σ1.1 801 j 0), .int (σ1.1 802 j 0)]) : va_E) = .inr (7, [.ref (ad 5 (3 * j + 2)), .int (σ.1 801 j 0), .int (σ.1 802 j 0)])
      rw [ha 5 (3 * j + 2) (cm_7_0 hC h), (hs 7 j h 801 rfl).1, (hs 7 j h 802 rfl).1]
    | 8, h => by
      show (.inl (ca1 8 j, 16, .inl (σ1.1 8 j)) : va_E) = .inl (ca 8 j, 16, .inl (σ.1 8 j))
      rw [hc 8 j h, (hs 8 j h 8 rfl).1]
    | 9, h => by
      show (.inl (ca1 9 j, 24, .inr (.inr (.inr (.inr (fun i => (σ1.2.2 9 j i).map (ad1 6)))))) : va_E) = .inl (ca 9 j, 24, .inr (.inr (.inr (.inr (fun i => (σ.2.2 9 j i).map (ad 6))))))
      have e9 : (fun i => (σ1.2.2 9 j i).map (ad1 6)) = fun i => (σ.2.2 9 j i).map (ad 6) := funext fun i => by
        rw [(hs 9 j h 9 rfl).2.2]
        exact map_ad (fun b hb => ha 6 b (cr_9 hC h hb))
      rw [hc 9 j h, e9]
    | 10, h => by
      show (.inl (ca1 10 j, 10, .inr (.inr (.inr (.inr (fun i => (σ1.2.2 10 j i).map (ad1 1)))))) : va_E) = .inl (ca 10 j, 10, .inr (.inr (.inr (.inr (fun i => (σ.2.2 10 j i).map (ad 1))))))
      have e9 : (fun i => (σ1.2.2 10 j i).map (ad1 1)) = fun i => (σ.2.2 10 j i).map (ad 1) := funext fun i => by
        rw [(hs 10 j h 10 rfl).2.2]
        exact map_ad (fun b hb => ha 1 b (cr_10 hC h hb))
      rw [hc 10 j h, e9]
    | 11, h => by
      show (.inl (ca1 11 j, 24, .inl (σ1.1 11 j)) : va_E) = .inl (ca 11 j, 24, .inl (σ.1 11 j))
      rw [hc 11 j h, (hs 11 j h 11 rfl).1]
    | 12, h => by
      show (.inl (ca1 12 j, 24, .inl (σ1.1 12 j)) : va_E) = .inl (ca 12 j, 24, .inl (σ.1 12 j))
      rw [hc 12 j h, (hs 12 j h 12 rfl).1]
    | 13, h => by
      show (.inl (ca1 13 j, 992, .inr (.inl (σ1.2.1 13 j))) : va_E) = .inl (ca 13 j, 992, .inr (.inl (σ.2.1 13 j)))
      rw [hc 13 j h, (hs 13 j h 13 rfl).2.1]
    | 14, h => by
      show (.inl (ca1 14 j, 992, .inl (σ1.1 14 j)) : va_E) = .inl (ca 14 j, 992, .inl (σ.1 14 j))
      rw [hc 14 j h, (hs 14 j h 14 rfl).1]
    | 15, h => by
      show (.inl (ca1 15 j, 25240, .inl (σ1.1 15 j)) : va_E) = .inl (ca 15 j, 25240, .inl (σ.1 15 j))
      rw [hc 15 j h, (hs 15 j h 15 rfl).1]
    | 16, h => by
      show (.inl (ca1 16 j, 25240, .inl (σ1.1 16 j)) : va_E) = .inl (ca 16 j, 25240, .inl (σ.1 16 j))
      rw [hc 16 j h, (hs 16 j h 16 rfl).1]
    | 17, h => by
      show (.inl (ca1 17 j, 24, .inl (σ1.1 17 j)) : va_E) = .inl (ca 17 j, 24, .inl (σ.1 17 j))
      rw [hc 17 j h, (hs 17 j h 17 rfl).1]
    | 18, h => by
      show (.inl (ca1 18 j, 24, .inl (σ1.1 18 j)) : va_E) = .inl (ca 18 j, 24, .inl (σ.1 18 j))
      rw [hc 18 j h, (hs 18 j h 18 rfl).1]
    | 19, h => by
      show (.inl (ca1 19 j, 288, .inl (σ1.1 19 j)) : va_E) = .inl (ca 19 j, 288, .inl (σ.1 19 j))
      rw [hc 19 j h, (hs 19 j h 19 rfl).1]
    | 20, h => by
      show (.inl (ca1 20 j, 8, .inr (.inl (σ1.2.1 20 j))) : va_E) = .inl (ca 20 j, 8, .inr (.inl (σ.2.1 20 j)))
      rw [hc 20 j h, (hs 20 j h 20 rfl).2.1]
    | 21, h => by
      show (.inl (ca1 21 j, 6, .inl (σ1.1 21 j)) : va_E) = .inl (ca 21 j, 6, .inl (σ.1 21 j))
      rw [hc 21 j h, (hs 21 j h 21 rfl).1]
    | 22, h => by
      show (.inl (ca1 22 j, 6, .inl (σ1.1 22 j)) : va_E) = .inl (ca 22 j, 6, .inl (σ.1 22 j))
      rw [hc 22 j h, (hs 22 j h 22 rfl).1]
    | 23, h => by
      show (.inl (ca1 23 j, 12, .inr (.inr (.inr (.inr (fun i => (σ1.2.2 23 j i).map (ad1 7)))))) : va_E) = .inl (ca 23 j, 12, .inr (.inr (.inr (.inr (fun i => (σ.2.2 23 j i).map (ad 7))))))
      have e9 : (fun i => (σ1.2.2 23 j i).map (ad1 7)) = fun i => (σ.2.2 23 j i).map (ad 7) := funext fun i => by
        rw [(hs 23 j h 23 rfl).2.2]
        exact map_ad (fun b hb => ha 7 b (cr_23 hC h hb))
      rw [hc 23 j h, e9]
    | 24, h => by
      show (.inl (ca1 24 j, 1, .inr (.inl (σ1.2.1 24 j))) : va_E) = .inl (ca 24 j, 1, .inr (.inl (σ.2.1 24 j)))
      rw [hc 24 j h, (hs 24 j h 24 rfl).2.1]
    | k + 25, h => by
      show (.inl (ca1 (k + 25) j, 0, .inl (fun _ => 0)) : va_E) = .inl (ca (k + 25) j, 0, .inl (fun _ => 0))
      rw [hc (k + 25) j h]
theorem imp9 {ad ad1 : Nat → Nat → Nat} {ca ca1 : Nat → Nat → ClassId} {dom : List (Nat × Nat)} {σ σ1 : hT} {nr : List (Nat × Nat)} {new : va_W} (hC : clo dom σ.2.2) (ha : ∀ κ j, (κ, j) ∈ dom → ad1 κ j = ad κ j) (hc : ∀ κ j, (κ, j) ∈ dom → ca1 κ j = ca κ j) (hs : ∀ κ j, (κ, j) ∈ dom → ∀ f, own9 f = κ → σ1.1 f j = σ.1 f j ∧ σ1.2.1 f j = σ.2.1 f j ∧ σ1.2.2 f j = σ.2.2 f j) (hn : nr.map (cell9 ad1 ca1 σ1) = new) : w9 ad1 ca1 (dom ++ nr) σ1 = w9 ad ca dom σ ++ new := by
  unfold w9
  rw [List.map_append, hn]
  congr 1
  apply List.map_congr_left
  rintro ⟨κ, j⟩ hr
  show (ad1 κ j, e9 ad1 ca1 σ1 κ j) = (ad κ j, e9 ad ca σ κ j)
  rw [ha κ j hr, e9_ext hC ha hc hs hr]
/-- behind a constructor: the new object's cells for its blank one -/
theorem jn_c9 {A0 : Nat → Prop} {D : va_G} {ws w1 : va_W} {c : Nat × va_E} {H H1 : Heap} (hP : va_P D kCl (ws ++ [c]) H) (hD : va_D A0 (ws ++ [c])) (hk : ∀ q : Nat, q < H.size → ¬ va_A [c] H.size q → H1[q]? = H[q]?) (hF : ∀ q, va_A [c] H.size q → A0 q) (hP1 : va_P D kCl w1 H1) (hD1 : va_D (va_A [c] H.size) w1) : va_P D kCl (ws ++ w1) H1 ∧ va_D A0 (ws ++ w1) := by
  have hlt : ∀ (k : Nat) (q : Nat × va_E), ws[k]? = some q → (ws ++ [c])[k]? = some q := fun k q h => by rw [List.getElem?_append_left (List.getElem?_eq_some_iff.mp h).1]; exact h
  have hc : (ws ++ [c])[ws.length]? = some c := by rw [List.getElem?_append_right (Nat.le_refl _), Nat.sub_self]; rfl
  have apart : ∀ (k : Nat) (q : Nat × va_E), ws[k]? = some q → q.1 < H.size ∧ ¬ va_A [c] H.size q.1 := by
    intro k q hq
    refine ⟨(hP k q (hlt k q hq)).lt, ?_⟩
    rintro (⟨k2, e, h⟩ | h)
    · have h2 : (q.1, e) = c := by
        have := List.mem_of_getElem? h
        exact List.mem_singleton.mp this
      have h3 := hD.1 k ws.length q c (hlt k q hq) hc (by rw [← h2])
      have h4 := (List.getElem?_eq_some_iff.mp hq).1
      omega
    · exact absurd (hP k q (hlt k q hq)).lt (Nat.not_lt.mpr h)
  refine ⟨va_P.app (fun k q hq => (hP k q (hlt k q hq)).kept (hk q.1 (apart k q hq).1 (apart k q hq).2)) hP1, va_D.app ⟨fun i j p q hp hq hpq => hD.1 i j p q (hlt i p hp) (hlt j q hq) hpq, fun k q hq => hD.2 k q (hlt k q hq)⟩ (hD1.weaken (fun k q _ h => hF q.1 h)) (fun i j x y hx hy hxy => ?_)⟩
  exact (apart i x hx).2 (by rw [hxy]; exact hD1.2 j y hy)
theorem nd_app {α : Type} {l r : List α} (hl : l.Nodup) (hr : r.Nodup) (h : ∀ x ∈ r, x ∉ l) : (l ++ r).Nodup := List.nodup_append.mpr ⟨hl, hr, fun a ha b hb e => h b hb (e ▸ ha)⟩
def ad_7 (ad : Nat → Nat → Nat) (n : Nat) (rv : Nat) (ct : Nat) (pc9 : Nat) (tg : Nat) (fx : Nat) : Nat → Nat → Nat := (up2 (up2 (up2 (up2 (up2 ad 7 n rv) 5 (3 * n + 2) ct) 20 (3 * n + 2) pc9) 21 (3 * n + 2) tg) 22 (3 * n + 2) fx)
def ca_7 (ca : Nat → Nat → ClassId) (n : Nat) (cP : ClassId) (cT : ClassId) (cX : ClassId) : Nat → Nat → ClassId := (up2 (up2 (up2 ca 20 (3 * n + 2) cP) 21 (3 * n + 2) cT) 22 (3 * n + 2) cX)
theorem ad_7_o {ad : Nat → Nat → Nat} {dom : List (Nat × Nat)} {n : Nat} {rv ct pc9 tg fx : Nat} (hfr : ∀ r ∈ row7 n, r ∉ dom) : ∀ κ j, (κ, j) ∈ dom → (ad_7 ad n rv ct pc9 tg fx) κ j = ad κ j := by
  intro κ j h
  unfold ad_7
  rw [up2_ne (fun z => hfr _ (by simp [row7]) (z ▸ h)), up2_ne (fun z => hfr _ (by simp [row7]) (z ▸ h)), up2_ne (fun z => hfr _ (by simp [row7]) (z ▸ h)), up2_ne (fun z => hfr _ (by simp [row7]) (z ▸ h)), up2_ne (fun z => hfr _ (by simp [row7]) (z ▸ h))]
theorem ca_7_o {ca : Nat → Nat → ClassId} {dom : List (Nat × Nat)} {n : Nat} {cP cT cX : ClassId} (hfr : ∀ r ∈ row7 n, r ∉ dom) : ∀ κ j, (κ, j) ∈ dom → (ca_7 ca n cP cT cX) κ j = ca κ j := by
  intro κ j h
  unfold ca_7
  rw [up2_ne (fun z => hfr _ (by simp [row7]) (z ▸ h)), up2_ne (fun z => hfr _ (by simp [row7]) (z ▸ h)), up2_ne (fun z => hfr _ (by simp [row7]) (z ▸ h))]
theorem nS_o {dom : List (Nat × Nat)} {σ : hT} {n : Nat} {au : Int32} (hfr : ∀ r ∈ row7 n, r ∉ dom) : ∀ κ j, (κ, j) ∈ dom → ∀ f, own9 f = κ → (nS σ n au).1 f j = σ.1 f j ∧ (nS σ n au).2.1 f j = σ.2.1 f j ∧ (nS σ n au).2.2 f j = σ.2.2 f j := by
  intro κ j h f hf
  refine ⟨?_, ?_, ?_⟩
  · show (r3 (r3 (r3 (r3 (r3 (r3 σ.1 801 n (fun _ => au)) 802 n (fun _ => 0)) 601 (3 * n + 2) (fun _ => 0)) 604 (3 * n + 2) (fun _ => 0)) 21 (3 * n + 2) (fun _ => 0)) 22 (3 * n + 2) (fun _ => 0)) f j = σ.1 f j
    rw [r3_ne (fun z => hfr (22, (3 * n + 2)) (by simp [row7]) (by rw [← z.2, show 22 = κ from (show 22 = own9 f by rw [z.1]; rfl).trans hf]; exact h)), r3_ne (fun z => hfr (21, (3 * n + 2)) (by simp [row7]) (by rw [← z.2, show 21 = κ from (show 21 = own9 f by rw [z.1]; rfl).trans hf]; exact h)), r3_ne (fun z => hfr (5, (3 * n + 2)) (by simp [row7]) (by rw [← z.2, show 5 = κ from (show 5 = own9 f by rw [z.1]; rfl).trans hf]; exact h)), r3_ne (fun z => hfr (5, (3 * n + 2)) (by simp [row7]) (by rw [← z.2, show 5 = κ from (show 5 = own9 f by rw [z.1]; rfl).trans hf]; exact h)), r3_ne (fun z => hfr (7, n) (by simp [row7]) (by rw [← z.2, show 7 = κ from (show 7 = own9 f by rw [z.1]; rfl).trans hf]; exact h)), r3_ne (fun z => hfr (7, n) (by simp [row7]) (by rw [← z.2, show 7 = κ from (show 7 = own9 f by rw [z.1]; rfl).trans hf]; exact h))]
  · show (r3 σ.2.1 20 (3 * n + 2) (fun _ => 0)) f j = σ.2.1 f j
    rw [r3_ne (fun z => hfr (20, (3 * n + 2)) (by simp [row7]) (by rw [← z.2, show 20 = κ from (show 20 = own9 f by rw [z.1]; rfl).trans hf]; exact h))]
  · rfl
theorem new_7 {ad : Nat → Nat → Nat} {ca : Nat → Nat → ClassId} {σ : hT} {n : Nat} {au : Int32} {rv ct pc9 tg fx : Nat} {cP cT cX : ClassId} : (row7 n).map (cell9 (ad_7 ad n rv ct pc9 tg fx) (ca_7 ca n cP cT cX) (nS σ n au)) = [(rv, .inr (7, [.ref ct, .int au, .int 0])), (ct, .inr (5, [.ref pc9, .int 0, .ref tg, .ref fx, .int 0])), (pc9, .inl (cP, 8, .inr (.inl (fun _ => 0)))), (tg, .inl (cT, 6, .inl (fun _ => 0))), (fx, .inl (cX, 6, .inl (fun _ => 0)))] := by
  simp [row7, cell9, e9, ad_7, ca_7, nS, up2, sI9, sL9, sR9, r3, xI, xR]
theorem imx_7 {D : va_G} {A : Nat → Prop} {H : Heap} {s : State} {ad : Nat → Nat → Nat} {ca : Nat → Nat → ClassId} {dom : List (Nat × Nat)} {σ : hT} {n : Nat} {au : Int32} {rv ct pc9 tg fx : Nat} {cP cT cX : ClassId} (hN : dom.Nodup) (hC : clo dom σ.2.2) (hK : hkt D ca dom s) (hfr : ∀ r ∈ row7 n, r ∉ dom) (hK1 : va_K D kCl [(cP, .long), (cT, .int), (cX, .int)] s)
    (hP : va_P D kCl (w9 ad ca dom σ ++ [(rv, .inr (7, [.ref ct, .int au, .int 0])), (ct, .inr (5, [.ref pc9, .int 0, .ref tg, .ref fx, .int 0])), (pc9, .inl (cP, 8, .inr (.inl (fun _ => 0)))), (tg, .inl (cT, 6, .inl (fun _ => 0))), (fx, .inl (cX, 6, .inl (fun _ => 0)))]) H) (hD : va_D A (w9 ad ca dom σ ++ [(rv, .inr (7, [.ref ct, .int au, .int 0])), (ct, .inr (5, [.ref pc9, .int 0, .ref tg, .ref fx, .int 0])), (pc9, .inl (cP, 8, .inr (.inl (fun _ => 0)))), (tg, .inl (cT, 6, .inl (fun _ => 0))), (fx, .inl (cX, 6, .inl (fun _ => 0)))])) :
    ∃ (ad1 : Nat → Nat → Nat) (ca1 : Nat → Nat → ClassId), (∀ κ j, (κ, j) ∈ dom → ad1 κ j = ad κ j) ∧ ad1 7 n = rv ∧ va_P D kCl (w9 ad1 ca1 (dom ++ row7 n) (nS σ n au)) H ∧ va_D A (w9 ad1 ca1 (dom ++ row7 n) (nS σ n au)) ∧ hkt D ca1 (dom ++ row7 n) s ∧ clo (dom ++ row7 n) (nS σ n au).2.2 ∧ (dom ++ row7 n).Nodup := by
  have hI := imp9 (ad1 := ad_7 ad n rv ct pc9 tg fx) (ca1 := ca_7 ca n cP cT cX) hC (ad_7_o hfr) (ca_7_o hfr) (nS_o (n := n) (au := au) hfr) (new_7 (ad := ad) (ca := ca))
  rw [← hI] at hP hD
  refine ⟨ad_7 ad n rv ct pc9 tg fx, ca_7 ca n cP cT cX, ad_7_o hfr, by simp [ad_7, up2], hP, hD, ⟨hK.1, fun κ j ty h ht => ?_⟩, ⟨(fun j h => (List.mem_append.mp h).elim (fun h => List.mem_append_left _ (hC.1 j h)) (fun h => List.mem_append_right _ (by simp [row7] at h ⊢ <;> omega))), (fun j h => (List.mem_append.mp h).elim (fun h => List.mem_append_left _ (hC.2.1 j h)) (fun h => List.mem_append_right _ (by simp [row7] at h ⊢ <;> omega))), (fun j h => (List.mem_append.mp h).elim (fun h => List.mem_append_left _ (hC.2.2.1 j h)) (fun h => List.mem_append_right _ (by simp [row7] at h ⊢ <;> omega))), (fun j b h hb => (List.mem_append.mp h).elim (fun h => List.mem_append_left _ (hC.2.2.2.1 j b h (by rw [← (nS_o hfr 0 j h 105 rfl).2.2]; exact hb))) (fun h => by simp [row7] at h)), (fun j h => (List.mem_append.mp h).elim (fun h => List.mem_append_left _ (hC.2.2.2.2.1 j h)) (fun h => List.mem_append_right _ (by simp [row7] at h ⊢ <;> omega))), (fun j h => (List.mem_append.mp h).elim (fun h => List.mem_append_left _ (hC.2.2.2.2.2.1 j h)) (fun h => List.mem_append_right _ (by simp [row7] at h ⊢ <;> omega))), (fun j h => (List.mem_append.mp h).elim (fun h => List.mem_append_left _ (hC.2.2.2.2.2.2.1 j h)) (fun h => List.mem_append_right _ (by simp [row7] at h ⊢ <;> omega))), (fun j h => (List.mem_append.mp h).elim (fun h => List.mem_append_left _ (hC.2.2.2.2.2.2.2.1 j h)) (fun h => List.mem_append_right _ (by simp [row7] at h ⊢ <;> omega))), (fun j h => (List.mem_append.mp h).elim (fun h => List.mem_append_left _ (hC.2.2.2.2.2.2.2.2.1 j h)) (fun h => List.mem_append_right _ (by simp [row7] at h ⊢ <;> omega))), (fun j h => (List.mem_append.mp h).elim (fun h => List.mem_append_left _ (hC.2.2.2.2.2.2.2.2.2.1 j h)) (fun h => List.mem_append_right _ (by simp [row7] at h ⊢ <;> omega))), (fun j h => (List.mem_append.mp h).elim (fun h => List.mem_append_left _ (hC.2.2.2.2.2.2.2.2.2.2.1 j h)) (fun h => List.mem_append_right _ (by simp [row7] at h ⊢ <;> omega))), (fun j h => (List.mem_append.mp h).elim (fun h => List.mem_append_left _ (hC.2.2.2.2.2.2.2.2.2.2.2.1 j h)) (fun h => List.mem_append_right _ (by simp [row7] at h ⊢ <;> omega))), (fun j h => (List.mem_append.mp h).elim (fun h => List.mem_append_left _ (hC.2.2.2.2.2.2.2.2.2.2.2.2.1 j h)) (fun h => List.mem_append_right _ (by simp [row7] at h ⊢ <;> omega))), (fun j h => (List.mem_append.mp h).elim (fun h => List.mem_append_left _ (hC.2.2.2.2.2.2.2.2.2.2.2.2.2.1 j h)) (fun h => List.mem_append_right _ (by simp [row7] at h ⊢ <;> omega))), (fun j h => (List.mem_append.mp h).elim (fun h => List.mem_append_left _ (hC.2.2.2.2.2.2.2.2.2.2.2.2.2.2.1 j h)) (fun h => List.mem_append_right _ (by simp [row7] at h ⊢ <;> omega))), (fun j h => (List.mem_append.mp h).elim (fun h => List.mem_append_left _ (hC.2.2.2.2.2.2.2.2.2.2.2.2.2.2.2.1 j h)) (fun h => List.mem_append_right _ (by simp [row7] at h ⊢ <;> omega))), (fun j h => (List.mem_append.mp h).elim (fun h => List.mem_append_left _ (hC.2.2.2.2.2.2.2.2.2.2.2.2.2.2.2.2.1 j h)) (fun h => List.mem_append_right _ (by simp [row7] at h ⊢ <;> omega))), (fun j h => (List.mem_append.mp h).elim (fun h => List.mem_append_left _ (hC.2.2.2.2.2.2.2.2.2.2.2.2.2.2.2.2.2.1 j h)) (fun h => List.mem_append_right _ (by simp [row7] at h ⊢ <;> omega))), (fun j h => (List.mem_append.mp h).elim (fun h => List.mem_append_left _ (hC.2.2.2.2.2.2.2.2.2.2.2.2.2.2.2.2.2.2.1 j h)) (fun h => List.mem_append_right _ (by simp [row7] at h ⊢ <;> omega))), (fun j h => (List.mem_append.mp h).elim (fun h => List.mem_append_left _ (hC.2.2.2.2.2.2.2.2.2.2.2.2.2.2.2.2.2.2.2.1 j h)) (fun h => List.mem_append_right _ (by simp [row7] at h ⊢ <;> omega))), (fun j h => (List.mem_append.mp h).elim (fun h => List.mem_append_left _ (hC.2.2.2.2.2.2.2.2.2.2.2.2.2.2.2.2.2.2.2.2.1 j h)) (fun h => List.mem_append_right _ (by simp [row7] at h ⊢ <;> omega))), (fun j h => (List.mem_append.mp h).elim (fun h => List.mem_append_left _ (hC.2.2.2.2.2.2.2.2.2.2.2.2.2.2.2.2.2.2.2.2.2.1 j h)) (fun h => List.mem_append_right _ (by simp [row7] at h ⊢ <;> omega))), (fun j k b h hb => (List.mem_append.mp h).elim (fun h => List.mem_append_left _ (hC.2.2.2.2.2.2.2.2.2.2.2.2.2.2.2.2.2.2.2.2.2.2.1 j k b h (by rw [← (nS_o hfr 9 j h 9 rfl).2.2]; exact hb))) (fun h => by simp [row7] at h)), (fun j k b h hb => (List.mem_append.mp h).elim (fun h => List.mem_append_left _ (hC.2.2.2.2.2.2.2.2.2.2.2.2.2.2.2.2.2.2.2.2.2.2.2.1 j k b h (by rw [← (nS_o hfr 10 j h 10 rfl).2.2]; exact hb))) (fun h => by simp [row7] at h)), (fun j k b h hb => (List.mem_append.mp h).elim (fun h => List.mem_append_left _ (hC.2.2.2.2.2.2.2.2.2.2.2.2.2.2.2.2.2.2.2.2.2.2.2.2 j k b h (by rw [← (nS_o hfr 23 j h 23 rfl).2.2]; exact hb))) (fun h => by simp [row7] at h))⟩, nd_app hN (by simp [row7] <;> omega) hfr⟩
  rcases List.mem_append.mp h with h | h
  · rw [ca_7_o hfr κ j h]; exact hK.2 κ j ty h ht
  · simp only [row7, List.mem_cons, List.not_mem_nil, or_false, Prod.mk.injEq] at h
    rcases h with ⟨rfl, h9⟩ | ⟨rfl, h9⟩ | ⟨rfl, h9⟩ | ⟨rfl, h9⟩ | ⟨rfl, h9⟩
    · exact nomatch ht
    · exact nomatch ht
    · have e9 : (ca_7 ca n cP cT cX) 20 (3 * n + 2) = cP := by simp [ca_7, up2]
      have e8 : ty = .long := (Option.some.inj ht).symm
      rw [h9, e9, e8]
      exact hK1.sub [0] rfl
    · have e9 : (ca_7 ca n cP cT cX) 21 (3 * n + 2) = cT := by simp [ca_7, up2]
      have e8 : ty = .int := (Option.some.inj ht).symm
      rw [h9, e9, e8]
      exact hK1.sub [1] rfl
    · have e9 : (ca_7 ca n cP cT cX) 22 (3 * n + 2) = cX := by simp [ca_7, up2]
      have e8 : ty = .int := (Option.some.inj ht).symm
      rw [h9, e9, e8]
      exact hK1.sub [2] rfl
def ad_6 (ad : Nat → Nat → Nat) (n : Nat) (dw : Nat) (ra : Nat) (ct1 : Nat) (pc1 : Nat) (tg1 : Nat) (fx1 : Nat) (ct2 : Nat) (pc2 : Nat) (tg2 : Nat) (fx2 : Nat) : Nat → Nat → Nat := (up2 (up2 (up2 (up2 (up2 (up2 (up2 (up2 (up2 (up2 ad 6 n dw) 23 n ra) 5 (3 * n) ct1) 20 (3 * n) pc1) 21 (3 * n) tg1) 22 (3 * n) fx1) 5 (3 * n + 1) ct2) 20 (3 * n + 1) pc2) 21 (3 * n + 1) tg2) 22 (3 * n + 1) fx2)
def ca_6 (ca : Nat → Nat → ClassId) (n : Nat) (cR : ClassId) (cP1 : ClassId) (cT1 : ClassId) (cX1 : ClassId) (cP2 : ClassId) (cT2 : ClassId) (cX2 : ClassId) : Nat → Nat → ClassId := (up2 (up2 (up2 (up2 (up2 (up2 (up2 ca 23 n cR) 20 (3 * n) cP1) 21 (3 * n) cT1) 22 (3 * n) cX1) 20 (3 * n + 1) cP2) 21 (3 * n + 1) cT2) 22 (3 * n + 1) cX2)
theorem ad_6_o {ad : Nat → Nat → Nat} {dom : List (Nat × Nat)} {n : Nat} {dw ra ct1 pc1 tg1 fx1 ct2 pc2 tg2 fx2 : Nat} (hfr : ∀ r ∈ row6 n, r ∉ dom) : ∀ κ j, (κ, j) ∈ dom → (ad_6 ad n dw ra ct1 pc1 tg1 fx1 ct2 pc2 tg2 fx2) κ j = ad κ j := by
  intro κ j h
  unfold ad_6
  rw [up2_ne (fun z => hfr _ (by simp [row6]) (z ▸ h)), up2_ne (fun z => hfr _ (by simp [row6]) (z ▸ h)), up2_ne (fun z => hfr _ (by simp [row6]) (z ▸ h)), up2_ne (fun z => hfr _ (by simp [row6]) (z ▸ h)), up2_ne (fun z => hfr _ (by simp [row6]) (z ▸ h)), up2_ne (fun z => hfr _ (by simp [row6]) (z ▸ h)), up2_ne (fun z => hfr _ (by simp [row6]) (z ▸ h)), up2_ne (fun z => hfr _ (by simp [row6]) (z ▸ h)), up2_ne (fun z => hfr _ (by simp [row6]) (z ▸ h)), up2_ne (fun z => hfr _ (by simp [row6]) (z ▸ h))]
theorem ca_6_o {ca : Nat → Nat → ClassId} {dom : List (Nat × Nat)} {n : Nat} {cR cP1 cT1 cX1 cP2 cT2 cX2 : ClassId} (hfr : ∀ r ∈ row6 n, r ∉ dom) : ∀ κ j, (κ, j) ∈ dom → (ca_6 ca n cR cP1 cT1 cX1 cP2 cT2 cX2) κ j = ca κ j := by
  intro κ j h
  unfold ca_6
  rw [up2_ne (fun z => hfr _ (by simp [row6]) (z ▸ h)), up2_ne (fun z => hfr _ (by simp [row6]) (z ▸ h)), up2_ne (fun z => hfr _ (by simp [row6]) (z ▸ h)), up2_ne (fun z => hfr _ (by simp [row6]) (z ▸ h)), up2_ne (fun z => hfr _ (by simp [row6]) (z ▸ h)), up2_ne (fun z => hfr _ (by simp [row6]) (z ▸ h)), up2_ne (fun z => hfr _ (by simp [row6]) (z ▸ h))]
theorem nD_o {dom : List (Nat × Nat)} {σ : hT} {n : Nat} (hfr : ∀ r ∈ row6 n, r ∉ dom) : ∀ κ j, (κ, j) ∈ dom → ∀ f, own9 f = κ → (nD σ n).1 f j = σ.1 f j ∧ (nD σ n).2.1 f j = σ.2.1 f j ∧ (nD σ n).2.2 f j = σ.2.2 f j := by
  intro κ j h f hf
  refine ⟨?_, ?_, ?_⟩
  · show (r3 (r3 (r3 (r3 (r3 (r3 (r3 (r3 (r3 (r3 σ.1 701 n (fun _ => 0)) 702 n (fun _ => -1)) 601 (3 * n) (fun _ => 0)) 604 (3 * n) (fun _ => 0)) 21 (3 * n) (fun _ => 0)) 22 (3 * n) (fun _ => 0)) 601 (3 * n + 1) (fun _ => 0)) 604 (3 * n + 1) (fun _ => 0)) 21 (3 * n + 1) (fun _ => 0)) 22 (3 * n + 1) (fun _ => 0)) f j = σ.1 f j
    rw [r3_ne (fun z => hfr (22, (3 * n + 1)) (by simp [row6]) (by rw [← z.2, show 22 = κ from (show 22 = own9 f by rw [z.1]; rfl).trans hf]; exact h)), r3_ne (fun z => hfr (21, (3 * n + 1)) (by simp [row6]) (by rw [← z.2, show 21 = κ from (show 21 = own9 f by rw [z.1]; rfl).trans hf]; exact h)), r3_ne (fun z => hfr (5, (3 * n + 1)) (by simp [row6]) (by rw [← z.2, show 5 = κ from (show 5 = own9 f by rw [z.1]; rfl).trans hf]; exact h)), r3_ne (fun z => hfr (5, (3 * n + 1)) (by simp [row6]) (by rw [← z.2, show 5 = κ from (show 5 = own9 f by rw [z.1]; rfl).trans hf]; exact h)), r3_ne (fun z => hfr (22, (3 * n)) (by simp [row6]) (by rw [← z.2, show 22 = κ from (show 22 = own9 f by rw [z.1]; rfl).trans hf]; exact h)), r3_ne (fun z => hfr (21, (3 * n)) (by simp [row6]) (by rw [← z.2, show 21 = κ from (show 21 = own9 f by rw [z.1]; rfl).trans hf]; exact h)), r3_ne (fun z => hfr (5, (3 * n)) (by simp [row6]) (by rw [← z.2, show 5 = κ from (show 5 = own9 f by rw [z.1]; rfl).trans hf]; exact h)), r3_ne (fun z => hfr (5, (3 * n)) (by simp [row6]) (by rw [← z.2, show 5 = κ from (show 5 = own9 f by rw [z.1]; rfl).trans hf]; exact h)), r3_ne (fun z => hfr (6, n) (by simp [row6]) (by rw [← z.2, show 6 = κ from (show 6 = own9 f by rw [z.1]; rfl).trans hf]; exact h)), r3_ne (fun z => hfr (6, n) (by simp [row6]) (by rw [← z.2, show 6 = κ from (show 6 = own9 f by rw [z.1]; rfl).trans hf]; exact h))]
  · show (r3 (r3 σ.2.1 20 (3 * n) (fun _ => 0)) 20 (3 * n + 1) (fun _ => 0)) f j = σ.2.1 f j
    rw [r3_ne (fun z => hfr (20, (3 * n + 1)) (by simp [row6]) (by rw [← z.2, show 20 = κ from (show 20 = own9 f by rw [z.1]; rfl).trans hf]; exact h)), r3_ne (fun z => hfr (20, (3 * n)) (by simp [row6]) (by rw [← z.2, show 20 = κ from (show 20 = own9 f by rw [z.1]; rfl).trans hf]; exact h))]
  · show (r3 σ.2.2 23 n (fun _ => none)) f j = σ.2.2 f j
    rw [r3_ne (fun z => hfr (23, n) (by simp [row6]) (by rw [← z.2, show 23 = κ from (show 23 = own9 f by rw [z.1]; rfl).trans hf]; exact h))]
theorem new_6 {ad : Nat → Nat → Nat} {ca : Nat → Nat → ClassId} {σ : hT} {n : Nat} {dw ra ct1 pc1 tg1 fx1 ct2 pc2 tg2 fx2 : Nat} {cR cP1 cT1 cX1 cP2 cT2 cX2 : ClassId} : (row6 n).map (cell9 (ad_6 ad n dw ra ct1 pc1 tg1 fx1 ct2 pc2 tg2 fx2) (ca_6 ca n cR cP1 cT1 cX1 cP2 cT2 cX2) (nD σ n)) = [(dw, .inr (6, [.ref ra, .int 0, .int (-1), .ref ct1, .ref ct2])), (ra, .inl (cR, 12, .inr (.inr (.inr (.inr (fun _ => none)))))), (ct1, .inr (5, [.ref pc1, .int 0, .ref tg1, .ref fx1, .int 0])), (pc1, .inl (cP1, 8, .inr (.inl (fun _ => 0)))), (tg1, .inl (cT1, 6, .inl (fun _ => 0))), (fx1, .inl (cX1, 6, .inl (fun _ => 0))), (ct2, .inr (5, [.ref pc2, .int 0, .ref tg2, .ref fx2, .int 0])), (pc2, .inl (cP2, 8, .inr (.inl (fun _ => 0)))), (tg2, .inl (cT2, 6, .inl (fun _ => 0))), (fx2, .inl (cX2, 6, .inl (fun _ => 0)))] := by
  simp [row6, cell9, e9, ad_6, ca_6, nD, up2, sI9, sL9, sR9, r3, xI, xR]
theorem imx_6 {D : va_G} {A : Nat → Prop} {H : Heap} {s : State} {ad : Nat → Nat → Nat} {ca : Nat → Nat → ClassId} {dom : List (Nat × Nat)} {σ : hT} {n : Nat} {dw ra ct1 pc1 tg1 fx1 ct2 pc2 tg2 fx2 : Nat} {cR cP1 cT1 cX1 cP2 cT2 cX2 : ClassId} (hN : dom.Nodup) (hC : clo dom σ.2.2) (hK : hkt D ca dom s) (hfr : ∀ r ∈ row6 n, r ∉ dom) (hK1 : va_K D kCl [(cR, .object "DrawingVault$Revision"), (cP1, .long), (cT1, .int), (cX1, .int), (cP2, .long), (cT2, .int), (cX2, .int)] s)
    (hP : va_P D kCl (w9 ad ca dom σ ++ [(dw, .inr (6, [.ref ra, .int 0, .int (-1), .ref ct1, .ref ct2])), (ra, .inl (cR, 12, .inr (.inr (.inr (.inr (fun _ => none)))))), (ct1, .inr (5, [.ref pc1, .int 0, .ref tg1, .ref fx1, .int 0])), (pc1, .inl (cP1, 8, .inr (.inl (fun _ => 0)))), (tg1, .inl (cT1, 6, .inl (fun _ => 0))), (fx1, .inl (cX1, 6, .inl (fun _ => 0))), (ct2, .inr (5, [.ref pc2, .int 0, .ref tg2, .ref fx2, .int 0])), (pc2, .inl (cP2, 8, .inr (.inl (fun _ => 0)))), (tg2, .inl (cT2, 6, .inl (fun _ => 0))), (fx2, .inl (cX2, 6, .inl (fun _ => 0)))]) H) (hD : va_D A (w9 ad ca dom σ ++ [(dw, .inr (6, [.ref ra, .int 0, .int (-1), .ref ct1, .ref ct2])), (ra, .inl (cR, 12, .inr (.inr (.inr (.inr (fun _ => none)))))), (ct1, .inr (5, [.ref pc1, .int 0, .ref tg1, .ref fx1, .int 0])), (pc1, .inl (cP1, 8, .inr (.inl (fun _ => 0)))), (tg1, .inl (cT1, 6, .inl (fun _ => 0))), (fx1, .inl (cX1, 6, .inl (fun _ => 0))), (ct2, .inr (5, [.ref pc2, .int 0, .ref tg2, .ref fx2, .int 0])), (pc2, .inl (cP2, 8, .inr (.inl (fun _ => 0)))), (tg2, .inl (cT2, 6, .inl (fun _ => 0))), (fx2, .inl (cX2, 6, .inl (fun _ => 0)))])) :
    ∃ (ad1 : Nat → Nat → Nat) (ca1 : Nat → Nat → ClassId), (∀ κ j, (κ, j) ∈ dom → ad1 κ j = ad κ j) ∧ ad1 6 n = dw ∧ va_P D kCl (w9 ad1 ca1 (dom ++ row6 n) (nD σ n)) H ∧ va_D A (w9 ad1 ca1 (dom ++ row6 n) (nD σ n)) ∧ hkt D ca1 (dom ++ row6 n) s ∧ clo (dom ++ row6 n) (nD σ n).2.2 ∧ (dom ++ row6 n).Nodup := by
  have hI := imp9 (ad1 := ad_6 ad n dw ra ct1 pc1 tg1 fx1 ct2 pc2 tg2 fx2) (ca1 := ca_6 ca n cR cP1 cT1 cX1 cP2 cT2 cX2) hC (ad_6_o hfr) (ca_6_o hfr) (nD_o (n := n) hfr) (new_6 (ad := ad) (ca := ca))
  rw [← hI] at hP hD
  refine ⟨ad_6 ad n dw ra ct1 pc1 tg1 fx1 ct2 pc2 tg2 fx2, ca_6 ca n cR cP1 cT1 cX1 cP2 cT2 cX2, ad_6_o hfr, by simp [ad_6, up2], hP, hD, ⟨hK.1, fun κ j ty h ht => ?_⟩, ⟨(fun j h => (List.mem_append.mp h).elim (fun h => List.mem_append_left _ (hC.1 j h)) (fun h => List.mem_append_right _ (by simp [row6] at h ⊢ <;> omega))), (fun j h => (List.mem_append.mp h).elim (fun h => List.mem_append_left _ (hC.2.1 j h)) (fun h => List.mem_append_right _ (by simp [row6] at h ⊢ <;> omega))), (fun j h => (List.mem_append.mp h).elim (fun h => List.mem_append_left _ (hC.2.2.1 j h)) (fun h => List.mem_append_right _ (by simp [row6] at h ⊢ <;> omega))), (fun j b h hb => (List.mem_append.mp h).elim (fun h => List.mem_append_left _ (hC.2.2.2.1 j b h (by rw [← (nD_o hfr 0 j h 105 rfl).2.2]; exact hb))) (fun h => by simp [row6] at h)), (fun j h => (List.mem_append.mp h).elim (fun h => List.mem_append_left _ (hC.2.2.2.2.1 j h)) (fun h => List.mem_append_right _ (by simp [row6] at h ⊢ <;> omega))), (fun j h => (List.mem_append.mp h).elim (fun h => List.mem_append_left _ (hC.2.2.2.2.2.1 j h)) (fun h => List.mem_append_right _ (by simp [row6] at h ⊢ <;> omega))), (fun j h => (List.mem_append.mp h).elim (fun h => List.mem_append_left _ (hC.2.2.2.2.2.2.1 j h)) (fun h => List.mem_append_right _ (by simp [row6] at h ⊢ <;> omega))), (fun j h => (List.mem_append.mp h).elim (fun h => List.mem_append_left _ (hC.2.2.2.2.2.2.2.1 j h)) (fun h => List.mem_append_right _ (by simp [row6] at h ⊢ <;> omega))), (fun j h => (List.mem_append.mp h).elim (fun h => List.mem_append_left _ (hC.2.2.2.2.2.2.2.2.1 j h)) (fun h => List.mem_append_right _ (by simp [row6] at h ⊢ <;> omega))), (fun j h => (List.mem_append.mp h).elim (fun h => List.mem_append_left _ (hC.2.2.2.2.2.2.2.2.2.1 j h)) (fun h => List.mem_append_right _ (by simp [row6] at h ⊢ <;> omega))), (fun j h => (List.mem_append.mp h).elim (fun h => List.mem_append_left _ (hC.2.2.2.2.2.2.2.2.2.2.1 j h)) (fun h => List.mem_append_right _ (by simp [row6] at h ⊢ <;> omega))), (fun j h => (List.mem_append.mp h).elim (fun h => List.mem_append_left _ (hC.2.2.2.2.2.2.2.2.2.2.2.1 j h)) (fun h => List.mem_append_right _ (by simp [row6] at h ⊢ <;> omega))), (fun j h => (List.mem_append.mp h).elim (fun h => List.mem_append_left _ (hC.2.2.2.2.2.2.2.2.2.2.2.2.1 j h)) (fun h => List.mem_append_right _ (by simp [row6] at h ⊢ <;> omega))), (fun j h => (List.mem_append.mp h).elim (fun h => List.mem_append_left _ (hC.2.2.2.2.2.2.2.2.2.2.2.2.2.1 j h)) (fun h => List.mem_append_right _ (by simp [row6] at h ⊢ <;> omega))), (fun j h => (List.mem_append.mp h).elim (fun h => List.mem_append_left _ (hC.2.2.2.2.2.2.2.2.2.2.2.2.2.2.1 j h)) (fun h => List.mem_append_right _ (by simp [row6] at h ⊢ <;> omega))), (fun j h => (List.mem_append.mp h).elim (fun h => List.mem_append_left _ (hC.2.2.2.2.2.2.2.2.2.2.2.2.2.2.2.1 j h)) (fun h => List.mem_append_right _ (by simp [row6] at h ⊢ <;> omega))), (fun j h => (List.mem_append.mp h).elim (fun h => List.mem_append_left _ (hC.2.2.2.2.2.2.2.2.2.2.2.2.2.2.2.2.1 j h)) (fun h => List.mem_append_right _ (by simp [row6] at h ⊢ <;> omega))), (fun j h => (List.mem_append.mp h).elim (fun h => List.mem_append_left _ (hC.2.2.2.2.2.2.2.2.2.2.2.2.2.2.2.2.2.1 j h)) (fun h => List.mem_append_right _ (by simp [row6] at h ⊢ <;> omega))), (fun j h => (List.mem_append.mp h).elim (fun h => List.mem_append_left _ (hC.2.2.2.2.2.2.2.2.2.2.2.2.2.2.2.2.2.2.1 j h)) (fun h => List.mem_append_right _ (by simp [row6] at h ⊢ <;> omega))), (fun j h => (List.mem_append.mp h).elim (fun h => List.mem_append_left _ (hC.2.2.2.2.2.2.2.2.2.2.2.2.2.2.2.2.2.2.2.1 j h)) (fun h => List.mem_append_right _ (by simp [row6] at h ⊢ <;> omega))), (fun j h => (List.mem_append.mp h).elim (fun h => List.mem_append_left _ (hC.2.2.2.2.2.2.2.2.2.2.2.2.2.2.2.2.2.2.2.2.1 j h)) (fun h => List.mem_append_right _ (by simp [row6] at h ⊢ <;> omega))), (fun j h => (List.mem_append.mp h).elim (fun h => List.mem_append_left _ (hC.2.2.2.2.2.2.2.2.2.2.2.2.2.2.2.2.2.2.2.2.2.1 j h)) (fun h => List.mem_append_right _ (by simp [row6] at h ⊢ <;> omega))), (fun j k b h hb => (List.mem_append.mp h).elim (fun h => List.mem_append_left _ (hC.2.2.2.2.2.2.2.2.2.2.2.2.2.2.2.2.2.2.2.2.2.2.1 j k b h (by rw [← (nD_o hfr 9 j h 9 rfl).2.2]; exact hb))) (fun h => by simp [row6] at h)), (fun j k b h hb => (List.mem_append.mp h).elim (fun h => List.mem_append_left _ (hC.2.2.2.2.2.2.2.2.2.2.2.2.2.2.2.2.2.2.2.2.2.2.2.1 j k b h (by rw [← (nD_o hfr 10 j h 10 rfl).2.2]; exact hb))) (fun h => by simp [row6] at h)), (fun j k b h hb => (List.mem_append.mp h).elim (fun h => List.mem_append_left _ (hC.2.2.2.2.2.2.2.2.2.2.2.2.2.2.2.2.2.2.2.2.2.2.2.2 j k b h (by rw [← (nD_o hfr 23 j h 23 rfl).2.2]; exact hb))) (fun h => by simp [row6] at h; subst h; simp [nD, sI9, sL9, sR9, r3] at hb))⟩, nd_app hN (by simp [row6] <;> omega) hfr⟩
  rcases List.mem_append.mp h with h | h
  · rw [ca_6_o hfr κ j h]; exact hK.2 κ j ty h ht
  · simp only [row6, List.mem_cons, List.not_mem_nil, or_false, Prod.mk.injEq] at h
    rcases h with ⟨rfl, h9⟩ | ⟨rfl, h9⟩ | ⟨rfl, h9⟩ | ⟨rfl, h9⟩ | ⟨rfl, h9⟩ | ⟨rfl, h9⟩ | ⟨rfl, h9⟩ | ⟨rfl, h9⟩ | ⟨rfl, h9⟩ | ⟨rfl, h9⟩
    · exact nomatch ht
    · have e9 : (ca_6 ca n cR cP1 cT1 cX1 cP2 cT2 cX2) 23 n = cR := by simp [ca_6, up2]
      have e8 : ty = .object "DrawingVault$Revision" := (Option.some.inj ht).symm
      rw [h9, e9, e8]
      exact hK1.sub [0] rfl
    · exact nomatch ht
    · have e9 : (ca_6 ca n cR cP1 cT1 cX1 cP2 cT2 cX2) 20 (3 * n) = cP1 := by simp [ca_6, up2]
      have e8 : ty = .long := (Option.some.inj ht).symm
      rw [h9, e9, e8]
      exact hK1.sub [1] rfl
    · have e9 : (ca_6 ca n cR cP1 cT1 cX1 cP2 cT2 cX2) 21 (3 * n) = cT1 := by simp [ca_6, up2]
      have e8 : ty = .int := (Option.some.inj ht).symm
      rw [h9, e9, e8]
      exact hK1.sub [2] rfl
    · have e9 : (ca_6 ca n cR cP1 cT1 cX1 cP2 cT2 cX2) 22 (3 * n) = cX1 := by simp [ca_6, up2]
      have e8 : ty = .int := (Option.some.inj ht).symm
      rw [h9, e9, e8]
      exact hK1.sub [3] rfl
    · exact nomatch ht
    · have e9 : (ca_6 ca n cR cP1 cT1 cX1 cP2 cT2 cX2) 20 (3 * n + 1) = cP2 := by simp [ca_6, up2]
      have e8 : ty = .long := (Option.some.inj ht).symm
      rw [h9, e9, e8]
      exact hK1.sub [4] rfl
    · have e9 : (ca_6 ca n cR cP1 cT1 cX1 cP2 cT2 cX2) 21 (3 * n + 1) = cT2 := by simp [ca_6, up2]
      have e8 : ty = .int := (Option.some.inj ht).symm
      rw [h9, e9, e8]
      exact hK1.sub [5] rfl
    · have e9 : (ca_6 ca n cR cP1 cT1 cX1 cP2 cT2 cX2) 22 (3 * n + 1) = cX2 := by simp [ca_6, up2]
      have e8 : ty = .int := (Option.some.inj ht).symm
      rw [h9, e9, e8]
      exact hK1.sub [6] rfl
def ad_1 (ad : Nat → Nat → Nat) (n : Nat) (df : Nat) (dv : Nat) (do9 : Nat) : Nat → Nat → Nat := (up2 (up2 (up2 ad 1 n df) 11 n dv) 12 n do9)
def ca_1 (ca : Nat → Nat → ClassId) (n : Nat) (cF : ClassId) (cO : ClassId) : Nat → Nat → ClassId := (up2 (up2 ca 11 n cF) 12 n cO)
theorem ad_1_o {ad : Nat → Nat → Nat} {dom : List (Nat × Nat)} {n : Nat} {df dv do9 : Nat} (hfr : ∀ r ∈ row1 n, r ∉ dom) : ∀ κ j, (κ, j) ∈ dom → (ad_1 ad n df dv do9) κ j = ad κ j := by
  intro κ j h
  unfold ad_1
  rw [up2_ne (fun z => hfr _ (by simp [row1]) (z ▸ h)), up2_ne (fun z => hfr _ (by simp [row1]) (z ▸ h)), up2_ne (fun z => hfr _ (by simp [row1]) (z ▸ h))]
theorem ca_1_o {ca : Nat → Nat → ClassId} {dom : List (Nat × Nat)} {n : Nat} {cF cO : ClassId} (hfr : ∀ r ∈ row1 n, r ∉ dom) : ∀ κ j, (κ, j) ∈ dom → (ca_1 ca n cF cO) κ j = ca κ j := by
  intro κ j h
  unfold ca_1
  rw [up2_ne (fun z => hfr _ (by simp [row1]) (z ▸ h)), up2_ne (fun z => hfr _ (by simp [row1]) (z ▸ h))]
theorem nB_o {dom : List (Nat × Nat)} {σ : hT} {n : Nat} (hfr : ∀ r ∈ row1 n, r ∉ dom) : ∀ κ j, (κ, j) ∈ dom → ∀ f, own9 f = κ → (nB σ n).1 f j = σ.1 f j ∧ (nB σ n).2.1 f j = σ.2.1 f j ∧ (nB σ n).2.2 f j = σ.2.2 f j := by
  intro κ j h f hf
  refine ⟨?_, ?_, ?_⟩
  · show (r3 (r3 (r3 σ.1 202 n (fun _ => 0)) 11 n (fun i => if i < 24 then -1 else 0)) 12 n (fun _ => 0)) f j = σ.1 f j
    rw [r3_ne (fun z => hfr (12, n) (by simp [row1]) (by rw [← z.2, show 12 = κ from (show 12 = own9 f by rw [z.1]; rfl).trans hf]; exact h)), r3_ne (fun z => hfr (11, n) (by simp [row1]) (by rw [← z.2, show 11 = κ from (show 11 = own9 f by rw [z.1]; rfl).trans hf]; exact h)), r3_ne (fun z => hfr (1, n) (by simp [row1]) (by rw [← z.2, show 1 = κ from (show 1 = own9 f by rw [z.1]; rfl).trans hf]; exact h))]
  · rfl
  · rfl
theorem new_1 {ad : Nat → Nat → Nat} {ca : Nat → Nat → ClassId} {σ : hT} {n : Nat} {df dv do9 : Nat} {cF cO : ClassId} : (row1 n).map (cell9 (ad_1 ad n df dv do9) (ca_1 ca n cF cO) (nB σ n)) = [(df, .inr (1, [.ref dv, .ref do9, .int 0])), (dv, .inl (cF, 24, .inl (c_fl (fun _ => 0) (-1) 24))), (do9, .inl (cO, 24, .inl (fun _ => 0)))] := by
  simp [row1, cell9, e9, ad_1, ca_1, nB, up2, sI9, sL9, sR9, r3, xI, xR]
  rfl
theorem imx_1 {D : va_G} {A : Nat → Prop} {H : Heap} {s : State} {ad : Nat → Nat → Nat} {ca : Nat → Nat → ClassId} {dom : List (Nat × Nat)} {σ : hT} {n : Nat} {df dv do9 : Nat} {cF cO : ClassId} (hN : dom.Nodup) (hC : clo dom σ.2.2) (hK : hkt D ca dom s) (hfr : ∀ r ∈ row1 n, r ∉ dom) (hK1 : va_K D kCl [(cF, .int), (cO, .int)] s)
    (hP : va_P D kCl (w9 ad ca dom σ ++ [(df, .inr (1, [.ref dv, .ref do9, .int 0])), (dv, .inl (cF, 24, .inl (c_fl (fun _ => 0) (-1) 24))), (do9, .inl (cO, 24, .inl (fun _ => 0)))]) H) (hD : va_D A (w9 ad ca dom σ ++ [(df, .inr (1, [.ref dv, .ref do9, .int 0])), (dv, .inl (cF, 24, .inl (c_fl (fun _ => 0) (-1) 24))), (do9, .inl (cO, 24, .inl (fun _ => 0)))])) :
    ∃ (ad1 : Nat → Nat → Nat) (ca1 : Nat → Nat → ClassId), (∀ κ j, (κ, j) ∈ dom → ad1 κ j = ad κ j) ∧ ad1 1 n = df ∧ va_P D kCl (w9 ad1 ca1 (dom ++ row1 n) (nB σ n)) H ∧ va_D A (w9 ad1 ca1 (dom ++ row1 n) (nB σ n)) ∧ hkt D ca1 (dom ++ row1 n) s ∧ clo (dom ++ row1 n) (nB σ n).2.2 ∧ (dom ++ row1 n).Nodup := by
  have hI := imp9 (ad1 := ad_1 ad n df dv do9) (ca1 := ca_1 ca n cF cO) hC (ad_1_o hfr) (ca_1_o hfr) (nB_o (n := n) hfr) (new_1 (ad := ad) (ca := ca))
  rw [← hI] at hP hD
  refine ⟨ad_1 ad n df dv do9, ca_1 ca n cF cO, ad_1_o hfr, by simp [ad_1, up2], hP, hD, ⟨hK.1, fun κ j ty h ht => ?_⟩, ⟨(fun j h => (List.mem_append.mp h).elim (fun h => List.mem_append_left _ (hC.1 j h)) (fun h => List.mem_append_right _ (by simp [row1] at h ⊢ <;> omega))), (fun j h => (List.mem_append.mp h).elim (fun h => List.mem_append_left _ (hC.2.1 j h)) (fun h => List.mem_append_right _ (by simp [row1] at h ⊢ <;> omega))), (fun j h => (List.mem_append.mp h).elim (fun h => List.mem_append_left _ (hC.2.2.1 j h)) (fun h => List.mem_append_right _ (by simp [row1] at h ⊢ <;> omega))), (fun j b h hb => (List.mem_append.mp h).elim (fun h => List.mem_append_left _ (hC.2.2.2.1 j b h (by rw [← (nB_o hfr 0 j h 105 rfl).2.2]; exact hb))) (fun h => by simp [row1] at h)), (fun j h => (List.mem_append.mp h).elim (fun h => List.mem_append_left _ (hC.2.2.2.2.1 j h)) (fun h => List.mem_append_right _ (by simp [row1] at h ⊢ <;> omega))), (fun j h => (List.mem_append.mp h).elim (fun h => List.mem_append_left _ (hC.2.2.2.2.2.1 j h)) (fun h => List.mem_append_right _ (by simp [row1] at h ⊢ <;> omega))), (fun j h => (List.mem_append.mp h).elim (fun h => List.mem_append_left _ (hC.2.2.2.2.2.2.1 j h)) (fun h => List.mem_append_right _ (by simp [row1] at h ⊢ <;> omega))), (fun j h => (List.mem_append.mp h).elim (fun h => List.mem_append_left _ (hC.2.2.2.2.2.2.2.1 j h)) (fun h => List.mem_append_right _ (by simp [row1] at h ⊢ <;> omega))), (fun j h => (List.mem_append.mp h).elim (fun h => List.mem_append_left _ (hC.2.2.2.2.2.2.2.2.1 j h)) (fun h => List.mem_append_right _ (by simp [row1] at h ⊢ <;> omega))), (fun j h => (List.mem_append.mp h).elim (fun h => List.mem_append_left _ (hC.2.2.2.2.2.2.2.2.2.1 j h)) (fun h => List.mem_append_right _ (by simp [row1] at h ⊢ <;> omega))), (fun j h => (List.mem_append.mp h).elim (fun h => List.mem_append_left _ (hC.2.2.2.2.2.2.2.2.2.2.1 j h)) (fun h => List.mem_append_right _ (by simp [row1] at h ⊢ <;> omega))), (fun j h => (List.mem_append.mp h).elim (fun h => List.mem_append_left _ (hC.2.2.2.2.2.2.2.2.2.2.2.1 j h)) (fun h => List.mem_append_right _ (by simp [row1] at h ⊢ <;> omega))), (fun j h => (List.mem_append.mp h).elim (fun h => List.mem_append_left _ (hC.2.2.2.2.2.2.2.2.2.2.2.2.1 j h)) (fun h => List.mem_append_right _ (by simp [row1] at h ⊢ <;> omega))), (fun j h => (List.mem_append.mp h).elim (fun h => List.mem_append_left _ (hC.2.2.2.2.2.2.2.2.2.2.2.2.2.1 j h)) (fun h => List.mem_append_right _ (by simp [row1] at h ⊢ <;> omega))), (fun j h => (List.mem_append.mp h).elim (fun h => List.mem_append_left _ (hC.2.2.2.2.2.2.2.2.2.2.2.2.2.2.1 j h)) (fun h => List.mem_append_right _ (by simp [row1] at h ⊢ <;> omega))), (fun j h => (List.mem_append.mp h).elim (fun h => List.mem_append_left _ (hC.2.2.2.2.2.2.2.2.2.2.2.2.2.2.2.1 j h)) (fun h => List.mem_append_right _ (by simp [row1] at h ⊢ <;> omega))), (fun j h => (List.mem_append.mp h).elim (fun h => List.mem_append_left _ (hC.2.2.2.2.2.2.2.2.2.2.2.2.2.2.2.2.1 j h)) (fun h => List.mem_append_right _ (by simp [row1] at h ⊢ <;> omega))), (fun j h => (List.mem_append.mp h).elim (fun h => List.mem_append_left _ (hC.2.2.2.2.2.2.2.2.2.2.2.2.2.2.2.2.2.1 j h)) (fun h => List.mem_append_right _ (by simp [row1] at h ⊢ <;> omega))), (fun j h => (List.mem_append.mp h).elim (fun h => List.mem_append_left _ (hC.2.2.2.2.2.2.2.2.2.2.2.2.2.2.2.2.2.2.1 j h)) (fun h => List.mem_append_right _ (by simp [row1] at h ⊢ <;> omega))), (fun j h => (List.mem_append.mp h).elim (fun h => List.mem_append_left _ (hC.2.2.2.2.2.2.2.2.2.2.2.2.2.2.2.2.2.2.2.1 j h)) (fun h => List.mem_append_right _ (by simp [row1] at h ⊢ <;> omega))), (fun j h => (List.mem_append.mp h).elim (fun h => List.mem_append_left _ (hC.2.2.2.2.2.2.2.2.2.2.2.2.2.2.2.2.2.2.2.2.1 j h)) (fun h => List.mem_append_right _ (by simp [row1] at h ⊢ <;> omega))), (fun j h => (List.mem_append.mp h).elim (fun h => List.mem_append_left _ (hC.2.2.2.2.2.2.2.2.2.2.2.2.2.2.2.2.2.2.2.2.2.1 j h)) (fun h => List.mem_append_right _ (by simp [row1] at h ⊢ <;> omega))), (fun j k b h hb => (List.mem_append.mp h).elim (fun h => List.mem_append_left _ (hC.2.2.2.2.2.2.2.2.2.2.2.2.2.2.2.2.2.2.2.2.2.2.1 j k b h (by rw [← (nB_o hfr 9 j h 9 rfl).2.2]; exact hb))) (fun h => by simp [row1] at h)), (fun j k b h hb => (List.mem_append.mp h).elim (fun h => List.mem_append_left _ (hC.2.2.2.2.2.2.2.2.2.2.2.2.2.2.2.2.2.2.2.2.2.2.2.1 j k b h (by rw [← (nB_o hfr 10 j h 10 rfl).2.2]; exact hb))) (fun h => by simp [row1] at h)), (fun j k b h hb => (List.mem_append.mp h).elim (fun h => List.mem_append_left _ (hC.2.2.2.2.2.2.2.2.2.2.2.2.2.2.2.2.2.2.2.2.2.2.2.2 j k b h (by rw [← (nB_o hfr 23 j h 23 rfl).2.2]; exact hb))) (fun h => by simp [row1] at h))⟩, nd_app hN (by simp [row1] <;> omega) hfr⟩
  rcases List.mem_append.mp h with h | h
  · rw [ca_1_o hfr κ j h]; exact hK.2 κ j ty h ht
  · simp only [row1, List.mem_cons, List.not_mem_nil, or_false, Prod.mk.injEq] at h
    rcases h with ⟨rfl, h9⟩ | ⟨rfl, h9⟩ | ⟨rfl, h9⟩
    · exact nomatch ht
    · have e9 : (ca_1 ca n cF cO) 11 n = cF := by simp [ca_1, up2]
      have e8 : ty = .int := (Option.some.inj ht).symm
      rw [h9, e9, e8]
      exact hK1.sub [0] rfl
    · have e9 : (ca_1 ca n cF cO) 12 n = cO := by simp [ca_1, up2]
      have e8 : ty = .int := (Option.some.inj ht).symm
      rw [h9, e9, e8]
      exact hK1.sub [1] rfl
