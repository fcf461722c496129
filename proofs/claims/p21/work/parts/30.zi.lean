/-! ints as Int32 -/
def zI (a : Int) : Int32 := Int32.ofInt a
theorem zI_toInt {a : Int} (h1 : -2147483648 ≤ a) (h2 : a < 2147483648) : (zI a).toInt = a := by
  unfold zI
  exact Int32.toInt_ofInt_of_le (by simpa using h1) (by simpa using h2)
theorem zI_of (x : Int32) : x = zI x.toInt := by
  unfold zI; simp
theorem zI_add (a b : Int) : zI a + zI b = zI (a + b) := by
  unfold zI; rw [Int32.ofInt_add]
theorem zI_sub (a b : Int) : zI a - zI b = zI (a - b) := by
  unfold zI; rw [Int32.ofInt_sub]
theorem zI_mul (a b : Int) : zI a * zI b = zI (a * b) := by
  unfold zI; rw [Int32.ofInt_mul]
theorem zI_le {a b : Int} (h1 : -2147483648 ≤ a) (h2 : a < 2147483648) (h3 : -2147483648 ≤ b) (h4 : b < 2147483648) : (zI a ≤ zI b) = (a ≤ b) := by
  rw [Int32.le_iff_toInt_le, zI_toInt h1 h2, zI_toInt h3 h4]
theorem zI_lt {a b : Int} (h1 : -2147483648 ≤ a) (h2 : a < 2147483648) (h3 : -2147483648 ≤ b) (h4 : b < 2147483648) : (zI a < zI b) = (a < b) := by
  rw [Int32.lt_iff_toInt_lt, zI_toInt h1 h2, zI_toInt h3 h4]
theorem zI_eq {a b : Int} (h1 : -2147483648 ≤ a) (h2 : a < 2147483648) (h3 : -2147483648 ≤ b) (h4 : b < 2147483648) : (zI a = zI b) = (a = b) := by
  rw [← Int32.toInt_inj, zI_toInt h1 h2, zI_toInt h3 h4]
theorem zI_nat {a : Int} (h1 : 0 ≤ a) (h2 : a < 2147483648) : (zI a).toNatClampNeg = a.toNat := by
  unfold Int32.toNatClampNeg
  rw [zI_toInt (by omega) h2]
theorem zI_in {a : Int} {n : Nat} (h1 : -2147483648 ≤ a) (h2 : a < 2147483648) : in9 (zI a) n = (0 ≤ a ∧ a < n) := by
  have h0 : (0 : Int32) = zI 0 := rfl
  unfold in9
  rw [h0, zI_lt h1 h2 (by omega) (by omega)]
  apply propext
  constructor
  · intro h
    have ha : 0 ≤ a := by
      apply Classical.byContradiction; intro z; exact h (Or.inl (by omega))
    refine ⟨ha, ?_⟩
    apply Classical.byContradiction
    intro z
    refine h (Or.inr ?_)
    rw [zI_nat ha h2]; omega
  · rintro ⟨ha, hb⟩ (z | z)
    · omega
    · rw [zI_nat ha h2] at z; omega
theorem zI_div {a b : Int} (h1 : 0 ≤ a) (h2 : a < 2147483648) (h3 : 0 < b) (h4 : b < 2147483648) : zI a / zI b = zI (a / b) := by
  have hb : zI b ≠ -1 := by
    intro h
    have : (zI b).toInt = (-1 : Int32).toInt := by rw [h]
    rw [zI_toInt (by omega) h4] at this
    have h9 : (-1 : Int32).toInt = -1 := by decide
    omega
  rw [← Int32.toInt_inj, Int32.toInt_div_of_ne_right _ _ hb, zI_toInt (by omega) h2, zI_toInt (by omega) h4, zI_toInt]
  · exact Int.tdiv_eq_ediv_of_nonneg h1
  · have := Int.ediv_nonneg h1 (by omega : 0 ≤ b); omega
  · have := Int.ediv_le_self b h1; omega
theorem zI_neg (a : Int) : -zI a = zI (-a) := by
  have h0 : zI 0 = 0 := rfl
  have := zI_sub 0 a
  rw [h0] at this
  simpa using this
