theorem l_eq {x y : Int64} : lg_cmp x y = 0 ↔ x = y := by
  unfold lg_cmp
  split
  · constructor
    · intro h; exact absurd h (by decide)
    · intro h; grind
  · split
    · simp_all
    · constructor
      · intro h; exact absurd h (by decide)
      · intro h; contradiction
theorem l_lt {x y : Int64} : lg_cmp x y < 0 ↔ x < y := by
  unfold lg_cmp
  split
  · constructor
    · intro h; exact absurd h (by decide)
    · intro h; grind
  · split
    · constructor
      · intro h; exact absurd h (by decide)
      · intro h; grind
    · constructor
      · intro h; grind
      · intro h; decide
theorem l_ge {x y : Int64} : 0 ≤ lg_cmp x y ↔ y ≤ x := by
  unfold lg_cmp
  split
  · constructor
    · intro h; grind
    · intro h; decide
  · split
    · constructor
      · intro h; grind
      · intro h; decide
    · constructor
      · intro h; exact absurd h (by decide)
      · intro h; grind
theorem l_gt {x y : Int64} : 0 < lg_cmp x y ↔ y < x := by
  unfold lg_cmp
  split
  · constructor
    · intro h; grind
    · intro h; decide
  · split
    · constructor
      · intro h; exact absurd h (by decide)
      · intro h; grind
    · constructor
      · intro h; exact absurd h (by decide)
      · intro h; grind
theorem l_le {x y : Int64} : lg_cmp x y ≤ 0 ↔ x ≤ y := by
  unfold lg_cmp
  split
  · constructor
    · intro h; exact absurd h (by decide)
    · intro h; grind
  · split
    · constructor
      · intro h; grind
      · intro h; decide
    · constructor
      · intro h; grind
      · intro h; decide
theorem s_isInt1 {s : Int64} (h1 : -2147483648 ≤ s) (h2 : s ≤ 2147483647) : M_MO_isInt s = some 1 := by
  rw [M_MO_isInt, if_neg (by rw [l_lt]; grind), if_neg (by rw [l_gt]; grind)]
theorem s_isInt0 {s : Int64} (h : ¬ (-2147483648 ≤ s ∧ s ≤ 2147483647)) : M_MO_isInt s = some 0 := by
  rw [M_MO_isInt]
  by_cases h1 : s < -2147483648
  · rw [if_pos (l_lt.mpr h1)]
  · rw [if_neg (by rw [l_lt]; exact h1), if_pos (by rw [l_gt]; grind)]
theorem s_giveN1 {s ct : Int64} {f kd : Int32} (h1 : -2147483648 ≤ s) (h2 : s ≤ 2147483647) : M_Deed_giveNumber f kd ct s = some (f, 0, s) := by
  rw [M_Deed_giveNumber, if_neg (by rw [l_lt]; grind), if_pos (by rw [l_le]; exact h2), M_Deed_give, k2]
theorem s_giveN0 {s ct : Int64} {f kd : Int32} (h : ¬ (-2147483648 ≤ s ∧ s ≤ 2147483647)) : M_Deed_giveNumber f kd ct s = some (1, kd, ct) := by
  rw [M_Deed_giveNumber]
  by_cases h1 : s < -2147483648
  · rw [if_pos (l_lt.mpr h1)]
  · rw [if_neg (by rw [l_lt]; exact h1), if_neg (by rw [l_le]; grind)]
theorem b_back {s : Int64} (h1 : -2147483648 ≤ s) (h2 : s ≤ 2147483647) : s = s.toInt32.toInt64 := by
  apply Int64.toInt_inj.mp
  have e1 := Int64.le_iff_toInt_le.mp h1
  have e2 := Int64.le_iff_toInt_le.mp h2
  rw [show (-2147483648 : Int64).toInt = -2147483648 from rfl] at e1
  rw [show (2147483647 : Int64).toInt = 2147483647 from rfl] at e2
  rw [Int32.toInt_toInt64, Int64.toInt_toInt32, Int.bmod_eq_of_le (by omega) (by omega)]
theorem s_giveT {ct : Int64} {kd x : Int32} : M_Deed_giveTruth kd ct x = some (1, if x = 0 then 0 else 1) := by
  unfold M_Deed_giveTruth M_Deed_giveTruth_11 M_Deed_give
  split <;> rw [k2]
