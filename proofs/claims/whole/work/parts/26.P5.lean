theorem q_12 {o : Int32} (h0 : 0 ≤ o) (h1 : o ≤ 11) : o = 0 ∨ o = 1 ∨ o = 2 ∨ o = 3 ∨ o = 4 ∨ o = 5 ∨ o = 6 ∨ o = 7 ∨ o = 8 ∨ o = 9 ∨ o = 10 ∨ o = 11 := by grind
theorem q_atF {o : Int32} (h0 : 0 ≤ o) (h1 : o ≤ 11) : at_ 12 tb_FORCES o = q_fo o := by
  rcases q_12 h0 h1 with rfl | rfl | rfl | rfl | rfl | rfl | rfl | rfl | rfl | rfl | rfl | rfl <;> decide
theorem q_atA {o : Int32} (h0 : 0 ≤ o) (h1 : o ≤ 11) : at_ 12 tb_ARGUMENTS o = q_ar o := by
  rcases q_12 h0 h1 with rfl | rfl | rfl | rfl | rfl | rfl | rfl | rfl | rfl | rfl | rfl | rfl <;> decide
theorem q_fo01 (o : Int32) : q_fo o = 0 ∨ q_fo o = 1 := by unfold q_fo; split <;> simp
theorem q_ar13 (o : Int32) : q_ar o = 1 ∨ q_ar o = 2 ∨ q_ar o = 3 := by unfold q_ar; split <;> (try split) <;> simp
theorem s_forcesOf (o : Int32) : M_MO_forcesOf o = some (q_fo o) := by
  unfold M_MO_forcesOf q_fo; split <;> (try split) <;> simp_all
theorem s_argumentsOf (o : Int32) : M_MO_argumentsOf o = some (q_ar o) := by
  unfold M_MO_argumentsOf q_ar; split <;> (try split) <;> simp_all
theorem q_pt {n : Int32} {lam : Nat → Int32} {cnt : Int32} {k : Nat → Int32} {c : Nat → Int64} {l r gv g dp : Nat → Int32} {vals envs : Int32} {K N : Nat → Int32} {B : Nat → Int64} {P A Y G H O : Nat → Int32} {v w : Int32} (hS : q_S n lam cnt k c l r gv g dp vals envs K N B P A Y G H O) (hV : q_V vals cnt k g v w) : q_I n lam k c l r gv g dp vals envs K N B P A Y G H O v w ∧ (K (Int32.toNatClampNeg (w))) = (k (Int32.toNatClampNeg (v))) ∧ 0 ≤ (k (Int32.toNatClampNeg (v))) ∧ (k (Int32.toNatClampNeg (v))) ≤ 6 ∧ v < 600 ∧ w < 600 := by
  obtain ⟨a1, a2, a3, a4, a5, a6, a7⟩ := hS
  obtain ⟨b1, b2, b3, b4, b5, b6⟩ := hV
  have := a7 v b1 b2 (by grind)
  rw [b6] at this
  exact ⟨this, (this.2.1 b3).2.1, (this.2.1 b3).2.2.1, (this.2.1 b3).2.2.2, by grind, by grind⟩
theorem s_wF {n : Int32} {lam : Nat → Int32} {cnt : Int32} {k : Nat → Int32} {c : Nat → Int64} {l r gv g dp : Nat → Int32} {vals envs : Int32} {K N : Nat → Int32} {B : Nat → Int64} {P A Y G H O : Nat → Int32} {v w : Int32} (hS : q_S n lam cnt k c l r gv g dp vals envs K N B P A Y G H O) (hV : q_V vals cnt k g v w) :
    M_Store_wantsForce k c gv v = some (if (k (Int32.toNatClampNeg (v))) = 6 ∧ (A (Int32.toNatClampNeg (w))) < q_fo (P (Int32.toNatClampNeg (w))) then 1 else 0) ∧ M_MO_wantsForce K P A w = some (if (k (Int32.toNatClampNeg (v))) = 6 ∧ (A (Int32.toNatClampNeg (w))) < q_fo (P (Int32.toNatClampNeg (w))) then 1 else 0) := by
  obtain ⟨hI, hK, k0, k6, v6, w6⟩ := q_pt hS hV
  have v0 := hV.1
  have w0 := hV.2.2.2.1
  have w7 : w < 700 := by grind
  by_cases hk : (k (Int32.toNatClampNeg (v))) = 6
  · obtain ⟨e1, e2, e3, e4, e5, e6, e7, e8⟩ := hI.2.2.2.2.2.2.1 hk
    have e9 := hI.2.2.2.2.2.2.2.1 hk
    have eo : (atL 600 c v).toInt32 = (P (Int32.toNatClampNeg (w))) := by rw [q_atL600 v0 v6, e1]; simp
    have := q_fo01 (P (Int32.toNatClampNeg (w)))
    constructor
    · simp only [M_Store_wantsForce, M_Store_operationOf, q_at600 v0 v6, hk, if_true, c1, eo, q_atF e2 e3, e8]
      by_cases h : q_fo (P (Int32.toNatClampNeg (w))) ≤ (A (Int32.toNatClampNeg (w))) + (Y (Int32.toNatClampNeg (w)))
      · rw [if_pos h, if_neg (by grind)]
      · rw [if_neg h, if_pos (by grind)]
    · simp only [M_MO_wantsForce, chk, w0, w7, and_self, if_true, hK, hk, s_forcesOf, c1]
      by_cases h : q_fo (P (Int32.toNatClampNeg (w))) ≤ (A (Int32.toNatClampNeg (w)))
      · rw [if_pos h, if_neg (by grind)]
      · rw [if_neg h, if_pos (by grind)]
  · constructor
    · simp only [M_Store_wantsForce, q_at600 v0 v6, hk, if_false, false_and]
    · simp only [M_MO_wantsForce, chk, w0, w7, and_self, if_true, hK, hk, if_false, false_and]
theorem s_wA {n : Int32} {lam : Nat → Int32} {cnt : Int32} {k : Nat → Int32} {c : Nat → Int64} {l r gv g dp : Nat → Int32} {vals envs : Int32} {K N : Nat → Int32} {B : Nat → Int64} {P A Y G H O : Nat → Int32} {v w : Int32} (hS : q_S n lam cnt k c l r gv g dp vals envs K N B P A Y G H O) (hV : q_V vals cnt k g v w) :
    M_Store_wantsArgument k c gv v = some (if (k (Int32.toNatClampNeg (v))) = 6 ∧ (A (Int32.toNatClampNeg (w))) = q_fo (P (Int32.toNatClampNeg (w))) then 1 else 0) ∧ M_MO_wantsArgument K P A Y w = some (if (k (Int32.toNatClampNeg (v))) = 6 ∧ (A (Int32.toNatClampNeg (w))) = q_fo (P (Int32.toNatClampNeg (w))) then 1 else 0) := by
  obtain ⟨hI, hK, k0, k6, v6, w6⟩ := q_pt hS hV
  have v0 := hV.1
  have w0 := hV.2.2.2.1
  have w7 : w < 700 := by grind
  by_cases hk : (k (Int32.toNatClampNeg (v))) = 6
  · obtain ⟨e1, e2, e3, e4, e5, e6, e7, e8⟩ := hI.2.2.2.2.2.2.1 hk
    have e9 := hI.2.2.2.2.2.2.2.1 hk
    have eo : (atL 600 c v).toInt32 = (P (Int32.toNatClampNeg (w))) := by rw [q_atL600 v0 v6, e1]; simp
    have := q_fo01 (P (Int32.toNatClampNeg (w)))
    constructor
    · simp only [M_Store_wantsArgument, M_Store_operationOf, q_at600 v0 v6, hk, if_true, c1, eo, q_atF e2 e3, e8]
      by_cases h : (A (Int32.toNatClampNeg (w))) + (Y (Int32.toNatClampNeg (w))) < q_fo (P (Int32.toNatClampNeg (w)))
      · rw [if_pos h, if_neg (by grind)]
      · rw [if_neg h, if_pos (by grind)]
    · simp only [M_MO_wantsArgument, chk, w0, w7, and_self, if_true, hK, hk, (s_wF hS hV).2, c1, s_argumentsOf]
      by_cases h : (A (Int32.toNatClampNeg (w))) < q_fo (P (Int32.toNatClampNeg (w)))
      · have h2 : ¬ (A (Int32.toNatClampNeg (w))) = q_fo (P (Int32.toNatClampNeg (w))) := by grind
        simp [h, h2]
      · have h2 : (A (Int32.toNatClampNeg (w))) = q_fo (P (Int32.toNatClampNeg (w))) := by grind
        have h3 : ¬ q_ar (P (Int32.toNatClampNeg (w))) ≤ (Y (Int32.toNatClampNeg (w))) := by grind
        simp [h2, h3]
  · constructor
    · simp only [M_Store_wantsArgument, q_at600 v0 v6, hk, if_false, false_and]
    · simp only [M_MO_wantsArgument, chk, w0, w7, and_self, if_true, hK, hk, if_false, false_and]
theorem s_w1 {n : Int32} {lam : Nat → Int32} {cnt : Int32} {k : Nat → Int32} {c : Nat → Int64} {l r gv g dp : Nat → Int32} {vals envs : Int32} {K N : Nat → Int32} {B : Nat → Int64} {P A Y G H O : Nat → Int32} {v w : Int32} (hS : q_S n lam cnt k c l r gv g dp vals envs K N B P A Y G H O) (hV : q_V vals cnt k g v w) :
    M_Store_wantsOneArgument k c gv v = some (if (k (Int32.toNatClampNeg (v))) = 6 ∧ (A (Int32.toNatClampNeg (w))) = q_fo (P (Int32.toNatClampNeg (w))) ∧ (Y (Int32.toNatClampNeg (w))) + 1 = q_ar (P (Int32.toNatClampNeg (w))) then 1 else 0) := by
  obtain ⟨hI, hK, k0, k6, v6, w6⟩ := q_pt hS hV
  have v0 := hV.1
  have w0 := hV.2.2.2.1
  simp only [M_Store_wantsOneArgument, M_Store_operationOf, c1, (s_wA hS hV).1]
  by_cases hk : (k (Int32.toNatClampNeg (v))) = 6
  · obtain ⟨e1, e2, e3, e4, e5, e6, e7, e8⟩ := hI.2.2.2.2.2.2.1 hk
    have eo : (atL 600 c v).toInt32 = (P (Int32.toNatClampNeg (w))) := by rw [q_atL600 v0 v6, e1]; simp
    have := q_fo01 (P (Int32.toNatClampNeg (w)))
    have := q_ar13 (P (Int32.toNatClampNeg (w)))
    rw [eo, q_atF e2 e3, q_atA e2 e3, q_at600 v0 v6, e8]
    by_cases h : (A (Int32.toNatClampNeg (w))) = q_fo (P (Int32.toNatClampNeg (w)))
    · rw [if_pos (And.intro hk h), if_neg (by decide)]
      by_cases h2 : (Y (Int32.toNatClampNeg (w))) + 1 = q_ar (P (Int32.toNatClampNeg (w)))
      · rw [if_pos (by grind), if_pos (by grind)]
      · rw [if_neg (by grind), if_neg (by grind)]
    · simp [h]
  · simp [hk]
theorem s_addGrown {cnt : Int32} {k : Nat → Int32} {c : Nat → Int64} {l r gv : Nat → Int32} {x1 x2 : Int32} (h0 : 0 ≤ cnt) (h1 : cnt < 600) (x0 : 0 ≤ x1) (xc : x1 < cnt) :
    M_Store_addGrown cnt k c l r gv x1 x2 = some (cnt, cnt + 1, upd k cnt.toNatClampNeg 6, vp_updL c cnt.toNatClampNeg (c (Int32.toNatClampNeg (x1))), upd l cnt.toNatClampNeg x2, upd r cnt.toNatClampNeg x1, upd gv cnt.toNatClampNeg ((gv (Int32.toNatClampNeg (x1))) + 1)) := by
  have x6 : x1 < 600 := by grind
  rw [M_Store_addGrown, s_Store_add h0 h1]
  simp only [c7]
  rw [if_neg (by grind), chk, if_pos (And.intro h0 h1), q_atL600 x0 x6, q_at600 x0 x6, q_ne x0 xc, q_upd2]
theorem s_more0 {vals : Int32} {K N : Nat → Int32} {B : Nat → Int64} {P A Y G : Nat → Int32} {w : Int32} (h0 : 0 ≤ vals) (h1 : vals < 700) (w0 : 0 ≤ w) (wv : w < vals) (hY : (Y (Int32.toNatClampNeg (w))) = 0) :
    M_MO_more vals K N B P A Y G w (-1) = some (vals, vals + 1, upd K vals.toNatClampNeg 6, upd N vals.toNatClampNeg 0, vp_updL B vals.toNatClampNeg 0, upd P vals.toNatClampNeg (P (Int32.toNatClampNeg (w))), upd A vals.toNatClampNeg ((A (Int32.toNatClampNeg (w))) + 1), upd Y vals.toNatClampNeg 0, G) := by
  have w7 : w < 700 := by grind
  simp only [M_MO_more, M_MO_more_26, s_MO_newValue h0 h1, c8, chk, w0, w7, and_self, if_true]
  rw [M_MO_more_34]
  simp only [chk, w0, w7, h0, h1, and_self, if_true, q_ne w0 wv, hY, Int32.le_refl, q_upd2]
theorem s_more1 {vals : Int32} {K N : Nat → Int32} {B : Nat → Int64} {P A Y G : Nat → Int32} {w x : Int32} (h0 : 0 ≤ vals) (h1 : vals < 700) (w0 : 0 ≤ w) (wv : w < vals) (hY : (Y (Int32.toNatClampNeg (w))) = 0) (hx : x ≠ -1) :
    M_MO_more vals K N B P A Y G w x = some (vals, vals + 1, upd K vals.toNatClampNeg 6, upd N vals.toNatClampNeg 0, vp_updL B vals.toNatClampNeg 0, upd P vals.toNatClampNeg (P (Int32.toNatClampNeg (w))), upd A vals.toNatClampNeg (A (Int32.toNatClampNeg (w))), upd Y vals.toNatClampNeg 1, upd G (3 * vals).toNatClampNeg x) := by
  have w7 : w < 700 := by grind
  have e1 : (A (Int32.toNatClampNeg (w))) + 0 = (A (Int32.toNatClampNeg (w))) := by grind
  have e2 : 3 * vals + 0 = 3 * vals := by grind
  have e3 : 0 ≤ 3 * vals := by grind
  have e4 : 3 * vals < 2100 := by grind
  have e5 : (0 : Int32) + 1 = 1 := by decide
  simp only [M_MO_more, M_MO_more_26, s_MO_newValue h0 h1, c8, chk, w0, w7, and_self, if_true, hx, if_false]
  rw [M_MO_more_34]
  simp only [chk, w0, w7, h0, h1, and_self, if_true, q_ne w0 wv, hY, Int32.le_refl, q_upd2, hx, if_false, q_eq, e1, e2, e3, e4, e5]
theorem s_more2 {vals : Int32} {K N : Nat → Int32} {B : Nat → Int64} {P A Y G : Nat → Int32} {w x : Int32} (h0 : 0 ≤ vals) (h1 : vals < 700) (w0 : 0 ≤ w) (wv : w < vals) (hY : (Y (Int32.toNatClampNeg (w))) = 1) (hx : x ≠ -1) :
    M_MO_more vals K N B P A Y G w x = some (vals, vals + 1, upd K vals.toNatClampNeg 6, upd N vals.toNatClampNeg 0, vp_updL B vals.toNatClampNeg 0, upd P vals.toNatClampNeg (P (Int32.toNatClampNeg (w))), upd A vals.toNatClampNeg (A (Int32.toNatClampNeg (w))), upd Y vals.toNatClampNeg 2, upd (upd G (3 * vals).toNatClampNeg (G (Int32.toNatClampNeg (3 * w)))) (3 * vals + 1).toNatClampNeg x) := by
  have w7 : w < 700 := by grind
  have e1 : (A (Int32.toNatClampNeg (w))) + 0 = (A (Int32.toNatClampNeg (w))) := by grind
  have e2 : 3 * vals + 0 = 3 * vals := by grind
  have e2' : 3 * w + 0 = 3 * w := by grind
  have e3 : 0 ≤ 3 * vals := by grind
  have e4 : 3 * vals < 2100 := by grind
  have e3' : 0 ≤ 3 * w := by grind
  have e4' : 3 * w < 2100 := by grind
  have e6 : 0 ≤ 3 * vals + 1 := by grind
  have e7 : 3 * vals + 1 < 2100 := by grind
  have e5 : (0 : Int32) + 1 = 1 := by decide
  have e8 : ¬ (1 : Int32) ≤ 0 := by decide
  have e9 : (1 : Int32) + 1 = 2 := by decide
  simp only [M_MO_more, M_MO_more_26, s_MO_newValue h0 h1, c8, chk, w0, w7, and_self, if_true, hx, if_false]
  rw [M_MO_more_34]
  simp only [chk, w0, w7, h0, h1, and_self, if_true, q_ne w0 wv, hY, e8, if_false, e1, e2, e2', e3, e4, e3', e4', e5]
  rw [M_MO_more_34]
  simp only [chk, w0, w7, h0, h1, and_self, if_true, q_ne w0 wv, hY, Int32.le_refl, q_upd2, hx, if_false, q_eq, e6, e7, e9]
