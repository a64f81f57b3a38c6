theorem q_perf {n : Int32} {lam : Nat → Int32} {cnt : Int32} {k : Nat → Int32} {c : Nat → Int64} {l r gv g dp : Nat → Int32} {vals envs : Int32} {K N : Nat → Int32} {B : Nat → Int64} {P A Y G H O : Nat → Int32} {w u x0 x1 x2 a0 a1 a2 f0 h0 kd0 : Int32} {ct0 : Int64} {ag : Nat → Int32}
    (hS : q_S n lam cnt k c l r gv g dp vals envs K N B P A Y G H O) (w0 : 0 ≤ w) (w7 : w < 700) (o0 : 0 ≤ (P (Int32.toNatClampNeg (w)))) (o1 : (P (Int32.toNatClampNeg (w))) ≤ 11)
    (y0 : ag 0 = a0) (y1 : q_ar (P (Int32.toNatClampNeg (w))) ≠ 1 → ag 1 = a1) (y2 : q_ar (P (Int32.toNatClampNeg (w))) = 3 → ag 2 = a2)
    (g0 : M_MO_argument Y G w u 0 = some x0) (g1 : M_MO_argument Y G w u 1 = some x1) (g2 : M_MO_argument Y G w u 2 = some x2)
    (hV0 : q_V vals cnt k g a0 x0) (hV1 : q_V vals cnt k g a1 x1) (hV2 : q_V vals cnt k g a2 x2) :
    ∃ fl cs kd ct, M_Deed_perform (P (Int32.toNatClampNeg (w))) (q_ar (P (Int32.toNatClampNeg (w)))) f0 h0 kd0 ct0 ag k c = some (fl, cs, kd, ct) ∧
      ((fl = 1 ∧ M_MO_gives K N P Y G w u = some 0) ∨
       (fl = 0 ∧ M_MO_gives K N P Y G w u = some 1 ∧ ((P (Int32.toNatClampNeg (w))) = 6 ∨ (P (Int32.toNatClampNeg (w))) = 10) ∧ ∃ x, q_V vals cnt k g cs x ∧ M_MO_result vals K N B P A Y G w u = some (x, vals, K, N, B, P, A, Y)) ∨
       (fl = 0 ∧ M_MO_gives K N P Y G w u = some 1 ∧ (P (Int32.toNatClampNeg (w))) ≠ 6 ∧ (P (Int32.toNatClampNeg (w))) ≠ 10 ∧ cs = -1 ∧ 0 ≤ kd ∧ kd ≤ 3 ∧ ∃ nn bb, q_C kd nn ct bb ∧ M_MO_result vals K N B P A Y G w u = some (vals, vals + 1, upd K vals.toNatClampNeg kd, upd N vals.toNatClampNeg nn, vp_updL B vals.toNatClampNeg bb, upd P vals.toNatClampNeg 0, upd A vals.toNatClampNeg 0, upd Y vals.toNatClampNeg 0))) := by
  obtain ⟨s1, s2, s3, s4, s5, s6, s7⟩ := id hS
  obtain ⟨I0, K0, p0, p06, a06, x06⟩ := q_pt hS hV0
  obtain ⟨I1, K1, p1, p16, a16, x16⟩ := q_pt hS hV1
  have cc0 := I0.2.2.1
  have cc1 := I1.2.2.1
  have b0 := hV0.1
  have b1 := hV1.1
  have x00 := hV0.2.2.2.1
  have x10 := hV1.2.2.2.1
  have x20 := hV2.2.2.2.1
  have x07 : x0 < 700 := by grind
  have x17 : x1 < 700 := by grind
  have x27 : x2 < 700 := by have := (q_pt hS hV2).2.2.2.2.2; grind
  have v7 : vals < 700 := by grind
  have ec0 : atL 600 c a0 = (c (Int32.toNatClampNeg (a0))) := q_atL600 b0 a06
  have ec1 : atL 600 c a1 = (c (Int32.toNatClampNeg (a1))) := q_atL600 b1 a16
  have fC := s_fitsC (k := k) o0 o1 y0 y1 b0 a06 b1 a16
  have fR := s_fitsR (K := K) o0 o1 w0 w7 g0 g1 g2 x00 x07 x10 x17 x20 x27
  rw [K0, K1] at fR
  clear I0 I1 s7
  by_cases hf : q_ft (P (Int32.toNatClampNeg (w))) (k (Int32.toNatClampNeg (a0))) (k (Int32.toNatClampNeg (a1))) = 0
  · refine ⟨1, -1, kd0, ct0, ?_, .inl ⟨rfl, ?_⟩⟩
    · simp [M_Deed_perform, fC, hf, k1, M_Deed_perform_14, chk]
    · simp [M_MO_gives, fR, hf, k1]
  have ea0 : ag 0 = a0 := y0
  rcases q_12 o0 o1 with eo | eo | eo | eo | eo | eo | eo | eo | eo | eo | eo | eo
  all_goals rw [eo] at fC fR hf y1 y2
  all_goals simp only [eo]
  · have er : q_ar 0 = 2 := by decide
    rw [er] at fC
    have ea1 : ag 1 = a1 := y1 (by decide)
    have ea2 : True := trivial
    obtain ⟨z0, z1⟩ : (k (Int32.toNatClampNeg (a0))) = 0 ∧ (k (Int32.toNatClampNeg (a1))) = 0 := by
      unfold q_ft at hf; simp at hf; grind
    have d0 : (c (Int32.toNatClampNeg (a0))) = (N (Int32.toNatClampNeg (x0))).toInt64 := by
      rcases cc0 (by rw [z0]; decide) with h | h | h | h <;> grind
    have d1 : (c (Int32.toNatClampNeg (a1))) = (N (Int32.toNatClampNeg (x1))).toInt64 := by
      rcases cc1 (by rw [z1]; decide) with h | h | h | h <;> grind
    have e1 : q_ft 0 0 0 = 1 := by decide
    rw [z0, z1, e1] at fC fR
    rw [d0] at ec0
    rw [d1] at ec1
    obtain ⟨X, hX⟩ : ∃ X, X = (N (Int32.toNatClampNeg (x0))).toInt64 := ⟨_, rfl⟩
    obtain ⟨Z, hZ⟩ : ∃ Z, Z = (N (Int32.toNatClampNeg (x1))).toInt64 := ⟨_, rfl⟩
    rw [← hX] at ec0
    rw [← hZ] at ec1
    by_cases hi : -2147483648 ≤ X + Z ∧ X + Z ≤ 2147483647
    · refine ⟨0, -1, 0, X + Z, ?_, .inr (.inr ⟨rfl, ?_, by decide, by decide, rfl, by decide, by decide, (X + Z).toInt32, 0, .inl ⟨rfl, b_back hi.1 hi.2⟩, ?_⟩)⟩
      · simp [M_Deed_perform, fC, k1, k2, k3, M_Deed_perform_14, chk, M_Deed_perform_69, er, ea0, ea1, ea2, ec0, ec1, M_Deed_workNumbers, s_giveN1 hi.1 hi.2]
      · simp [M_MO_gives, fR, k1, chk, w0, w7, g0, g1, x00, x07, x10, x17, eo, ← hX, ← hZ, M_MO_gives_147, s_isInt1 hi.1 hi.2]
      · simp [M_MO_result, k1, k8, chk, w0, w7, g0, g1, x00, x07, x10, x17, eo, ← hX, ← hZ, M_MO_result_321, s_MO_newValue s3 v7]
        simp [hX, hZ]
    · refine ⟨1, -1, kd0, ct0, ?_, .inl ⟨rfl, ?_⟩⟩
      · simp [M_Deed_perform, fC, k1, k2, k3, M_Deed_perform_14, chk, M_Deed_perform_69, er, ea0, ea1, ea2, ec0, ec1, M_Deed_workNumbers, s_giveN0 hi]
      · simp [M_MO_gives, fR, k1, chk, w0, w7, g0, g1, x00, x07, x10, x17, eo, ← hX, ← hZ, M_MO_gives_147, s_isInt0 hi]
  · have er : q_ar 1 = 2 := by decide
    rw [er] at fC
    have ea1 : ag 1 = a1 := y1 (by decide)
    have ea2 : True := trivial
    obtain ⟨z0, z1⟩ : (k (Int32.toNatClampNeg (a0))) = 0 ∧ (k (Int32.toNatClampNeg (a1))) = 0 := by
      unfold q_ft at hf; simp at hf; grind
    have d0 : (c (Int32.toNatClampNeg (a0))) = (N (Int32.toNatClampNeg (x0))).toInt64 := by
      rcases cc0 (by rw [z0]; decide) with h | h | h | h <;> grind
    have d1 : (c (Int32.toNatClampNeg (a1))) = (N (Int32.toNatClampNeg (x1))).toInt64 := by
      rcases cc1 (by rw [z1]; decide) with h | h | h | h <;> grind
    have e1 : q_ft 1 0 0 = 1 := by decide
    rw [z0, z1, e1] at fC fR
    rw [d0] at ec0
    rw [d1] at ec1
    obtain ⟨X, hX⟩ : ∃ X, X = (N (Int32.toNatClampNeg (x0))).toInt64 := ⟨_, rfl⟩
    obtain ⟨Z, hZ⟩ : ∃ Z, Z = (N (Int32.toNatClampNeg (x1))).toInt64 := ⟨_, rfl⟩
    rw [← hX] at ec0
    rw [← hZ] at ec1
    by_cases hi : -2147483648 ≤ X - Z ∧ X - Z ≤ 2147483647
    · refine ⟨0, -1, 0, X - Z, ?_, .inr (.inr ⟨rfl, ?_, by decide, by decide, rfl, by decide, by decide, (X - Z).toInt32, 0, .inl ⟨rfl, b_back hi.1 hi.2⟩, ?_⟩)⟩
      · simp [M_Deed_perform, fC, k1, k2, k3, M_Deed_perform_14, chk, M_Deed_perform_69, er, ea0, ea1, ea2, ec0, ec1, M_Deed_workNumbers, s_giveN1 hi.1 hi.2]
      · simp [M_MO_gives, fR, k1, chk, w0, w7, g0, g1, x00, x07, x10, x17, eo, ← hX, ← hZ, M_MO_gives_147, s_isInt1 hi.1 hi.2]
      · simp [M_MO_result, k1, k8, chk, w0, w7, g0, g1, x00, x07, x10, x17, eo, ← hX, ← hZ, M_MO_result_321, s_MO_newValue s3 v7]
        simp [hX, hZ]
    · refine ⟨1, -1, kd0, ct0, ?_, .inl ⟨rfl, ?_⟩⟩
      · simp [M_Deed_perform, fC, k1, k2, k3, M_Deed_perform_14, chk, M_Deed_perform_69, er, ea0, ea1, ea2, ec0, ec1, M_Deed_workNumbers, s_giveN0 hi]
      · simp [M_MO_gives, fR, k1, chk, w0, w7, g0, g1, x00, x07, x10, x17, eo, ← hX, ← hZ, M_MO_gives_147, s_isInt0 hi]
  · have er : q_ar 2 = 2 := by decide
    rw [er] at fC
    have ea1 : ag 1 = a1 := y1 (by decide)
    have ea2 : True := trivial
    obtain ⟨z0, z1⟩ : (k (Int32.toNatClampNeg (a0))) = 0 ∧ (k (Int32.toNatClampNeg (a1))) = 0 := by
      unfold q_ft at hf; simp at hf; grind
    have d0 : (c (Int32.toNatClampNeg (a0))) = (N (Int32.toNatClampNeg (x0))).toInt64 := by
      rcases cc0 (by rw [z0]; decide) with h | h | h | h <;> grind
    have d1 : (c (Int32.toNatClampNeg (a1))) = (N (Int32.toNatClampNeg (x1))).toInt64 := by
      rcases cc1 (by rw [z1]; decide) with h | h | h | h <;> grind
    have e1 : q_ft 2 0 0 = 1 := by decide
    rw [z0, z1, e1] at fC fR
    rw [d0] at ec0
    rw [d1] at ec1
    obtain ⟨X, hX⟩ : ∃ X, X = (N (Int32.toNatClampNeg (x0))).toInt64 := ⟨_, rfl⟩
    obtain ⟨Z, hZ⟩ : ∃ Z, Z = (N (Int32.toNatClampNeg (x1))).toInt64 := ⟨_, rfl⟩
    rw [← hX] at ec0
    rw [← hZ] at ec1
    by_cases hi : -2147483648 ≤ X * Z ∧ X * Z ≤ 2147483647
    · refine ⟨0, -1, 0, X * Z, ?_, .inr (.inr ⟨rfl, ?_, by decide, by decide, rfl, by decide, by decide, (X * Z).toInt32, 0, .inl ⟨rfl, b_back hi.1 hi.2⟩, ?_⟩)⟩
      · simp [M_Deed_perform, fC, k1, k2, k3, M_Deed_perform_14, chk, M_Deed_perform_69, er, ea0, ea1, ea2, ec0, ec1, M_Deed_workNumbers, s_giveN1 hi.1 hi.2]
      · simp [M_MO_gives, fR, k1, chk, w0, w7, g0, g1, x00, x07, x10, x17, eo, ← hX, ← hZ, M_MO_gives_147, s_isInt1 hi.1 hi.2]
      · simp [M_MO_result, k1, k8, chk, w0, w7, g0, g1, x00, x07, x10, x17, eo, ← hX, ← hZ, M_MO_result_321, s_MO_newValue s3 v7]
        simp [hX, hZ]
    · refine ⟨1, -1, kd0, ct0, ?_, .inl ⟨rfl, ?_⟩⟩
      · simp [M_Deed_perform, fC, k1, k2, k3, M_Deed_perform_14, chk, M_Deed_perform_69, er, ea0, ea1, ea2, ec0, ec1, M_Deed_workNumbers, s_giveN0 hi]
      · simp [M_MO_gives, fR, k1, chk, w0, w7, g0, g1, x00, x07, x10, x17, eo, ← hX, ← hZ, M_MO_gives_147, s_isInt0 hi]
  · have er : q_ar 3 = 2 := by decide
    rw [er] at fC
    have ea1 : ag 1 = a1 := y1 (by decide)
    have ea2 : True := trivial
    obtain ⟨z0, z1⟩ : (k (Int32.toNatClampNeg (a0))) = 0 ∧ (k (Int32.toNatClampNeg (a1))) = 0 := by
      unfold q_ft at hf; simp at hf; grind
    have d0 : (c (Int32.toNatClampNeg (a0))) = (N (Int32.toNatClampNeg (x0))).toInt64 := by
      rcases cc0 (by rw [z0]; decide) with h | h | h | h <;> grind
    have d1 : (c (Int32.toNatClampNeg (a1))) = (N (Int32.toNatClampNeg (x1))).toInt64 := by
      rcases cc1 (by rw [z1]; decide) with h | h | h | h <;> grind
    have e1 : q_ft 3 0 0 = 1 := by decide
    rw [z0, z1, e1] at fC fR
    rw [d0] at ec0
    rw [d1] at ec1
    obtain ⟨X, hX⟩ : ∃ X, X = (N (Int32.toNatClampNeg (x0))).toInt64 := ⟨_, rfl⟩
    obtain ⟨Z, hZ⟩ : ∃ Z, Z = (N (Int32.toNatClampNeg (x1))).toInt64 := ⟨_, rfl⟩
    rw [← hX] at ec0
    rw [← hZ] at ec1
    by_cases hz : Z = 0
    · refine ⟨1, -1, kd0, ct0, ?_, .inl ⟨rfl, ?_⟩⟩
      · simp [M_Deed_perform, fC, k1, k2, k3, M_Deed_perform_14, chk, M_Deed_perform_69, er, ea0, ea1, ea2, ec0, ec1, M_Deed_workNumbers, l_eq, hz]
      · simp [M_MO_gives, fR, k1, chk, w0, w7, g0, g1, x00, x07, x10, x17, eo, ← hX, ← hZ, l_eq, hz]
    · by_cases hi : -2147483648 ≤ X / Z ∧ X / Z ≤ 2147483647
      · refine ⟨0, -1, 0, X / Z, ?_, .inr (.inr ⟨rfl, ?_, by decide, by decide, rfl, by decide, by decide, (X / Z).toInt32, 0, .inl ⟨rfl, b_back hi.1 hi.2⟩, ?_⟩)⟩
        · simp [M_Deed_perform, fC, k1, k2, k3, M_Deed_perform_14, chk, M_Deed_perform_69, er, ea0, ea1, ea2, ec0, ec1, M_Deed_workNumbers, l_eq, hz, s_giveN1 hi.1 hi.2]
        · simp [M_MO_gives, fR, k1, chk, w0, w7, g0, g1, x00, x07, x10, x17, eo, ← hX, ← hZ, l_eq, hz, s_isInt1 hi.1 hi.2]
        · simp [M_MO_result, k1, k8, chk, w0, w7, g0, g1, x00, x07, x10, x17, eo, ← hX, ← hZ, hz, M_MO_result_321, s_MO_newValue s3 v7]
      · refine ⟨1, -1, kd0, ct0, ?_, .inl ⟨rfl, ?_⟩⟩
        · simp [M_Deed_perform, fC, k1, k2, k3, M_Deed_perform_14, chk, M_Deed_perform_69, er, ea0, ea1, ea2, ec0, ec1, M_Deed_workNumbers, l_eq, hz, s_giveN0 hi]
        · simp [M_MO_gives, fR, k1, chk, w0, w7, g0, g1, x00, x07, x10, x17, eo, ← hX, ← hZ, l_eq, hz, s_isInt0 hi]
  · have er : q_ar 4 = 2 := by decide
    rw [er] at fC
    have ea1 : ag 1 = a1 := y1 (by decide)
    have ea2 : True := trivial
    obtain ⟨z0, z1⟩ : (k (Int32.toNatClampNeg (a0))) = 0 ∧ (k (Int32.toNatClampNeg (a1))) = 0 := by
      unfold q_ft at hf; simp at hf; grind
    have d0 : (c (Int32.toNatClampNeg (a0))) = (N (Int32.toNatClampNeg (x0))).toInt64 := by
      rcases cc0 (by rw [z0]; decide) with h | h | h | h <;> grind
    have d1 : (c (Int32.toNatClampNeg (a1))) = (N (Int32.toNatClampNeg (x1))).toInt64 := by
      rcases cc1 (by rw [z1]; decide) with h | h | h | h <;> grind
    have e1 : q_ft 4 0 0 = 1 := by decide
    rw [z0, z1, e1] at fC fR
    rw [d0] at ec0
    rw [d1] at ec1
    obtain ⟨X, hX⟩ : ∃ X, X = (N (Int32.toNatClampNeg (x0))).toInt64 := ⟨_, rfl⟩
    obtain ⟨Z, hZ⟩ : ∃ Z, Z = (N (Int32.toNatClampNeg (x1))).toInt64 := ⟨_, rfl⟩
    rw [← hX] at ec0
    rw [← hZ] at ec1
    have hn1 : X = Z ↔ (N (Int32.toNatClampNeg (x0))) = (N (Int32.toNatClampNeg (x1))) := by
      rw [hX, hZ]
      exact ⟨fun z => by have := congrArg Int64.toInt32 z; simpa using this, fun z => by rw [z]⟩
    have hn2 : Z ≤ X ↔ (N (Int32.toNatClampNeg (x1))) ≤ (N (Int32.toNatClampNeg (x0))) := by rw [hX, hZ, Int32.toInt64_le]
    by_cases hi : X = Z
    · refine ⟨0, -1, 1, 1, ?_, .inr (.inr ⟨rfl, ?_, by decide, by decide, rfl, by decide, by decide, 1, 0, .inr (.inl ⟨rfl, by decide⟩), ?_⟩)⟩
      · simp [M_Deed_perform, fC, k1, k2, k3, M_Deed_perform_14, chk, M_Deed_perform_69, er, ea0, ea1, ea2, ec0, ec1, M_Deed_workNumbers, M_Deed_workNumbers_110, M_Deed_workNumbers_128, s_giveT, l_eq, l_ge, hi]
      · simp [M_MO_gives, fR, k1, chk, w0, w7, g0, g1, x00, x07, x10, x17, eo, ← hX, ← hZ]
      · simp [M_MO_result, k1, k8, chk, w0, w7, g0, g1, x00, x07, x10, x17, eo, ← hX, ← hZ, M_MO_result_148, M_MO_result_221, M_MO_result_235, l_eq, l_ge, hi, hn1.mp hi, s_MO_newValue s3 v7]
    · have hq1 : ¬ (N (Int32.toNatClampNeg (x0))) = (N (Int32.toNatClampNeg (x1))) := fun z => hi (hn1.mpr z)
      refine ⟨0, -1, 1, 0, ?_, .inr (.inr ⟨rfl, ?_, by decide, by decide, rfl, by decide, by decide, 0, 0, .inr (.inl ⟨rfl, by decide⟩), ?_⟩)⟩
      · simp [M_Deed_perform, fC, k1, k2, k3, M_Deed_perform_14, chk, M_Deed_perform_69, er, ea0, ea1, ea2, ec0, ec1, M_Deed_workNumbers, M_Deed_workNumbers_110, M_Deed_workNumbers_128, s_giveT, l_eq, l_ge, hi]
      · simp [M_MO_gives, fR, k1, chk, w0, w7, g0, g1, x00, x07, x10, x17, eo, ← hX, ← hZ]
      · simp [M_MO_result, k1, k8, chk, w0, w7, g0, g1, x00, x07, x10, x17, eo, ← hX, ← hZ, M_MO_result_148, M_MO_result_221, M_MO_result_235, l_eq, l_ge, hi, hq1, s_MO_newValue s3 v7]
  · have er : q_ar 5 = 2 := by decide
    rw [er] at fC
    have ea1 : ag 1 = a1 := y1 (by decide)
    have ea2 : True := trivial
    obtain ⟨z0, z1⟩ : (k (Int32.toNatClampNeg (a0))) = 0 ∧ (k (Int32.toNatClampNeg (a1))) = 0 := by
      unfold q_ft at hf; simp at hf; grind
    have d0 : (c (Int32.toNatClampNeg (a0))) = (N (Int32.toNatClampNeg (x0))).toInt64 := by
      rcases cc0 (by rw [z0]; decide) with h | h | h | h <;> grind
    have d1 : (c (Int32.toNatClampNeg (a1))) = (N (Int32.toNatClampNeg (x1))).toInt64 := by
      rcases cc1 (by rw [z1]; decide) with h | h | h | h <;> grind
    have e1 : q_ft 5 0 0 = 1 := by decide
    rw [z0, z1, e1] at fC fR
    rw [d0] at ec0
    rw [d1] at ec1
    obtain ⟨X, hX⟩ : ∃ X, X = (N (Int32.toNatClampNeg (x0))).toInt64 := ⟨_, rfl⟩
    obtain ⟨Z, hZ⟩ : ∃ Z, Z = (N (Int32.toNatClampNeg (x1))).toInt64 := ⟨_, rfl⟩
    rw [← hX] at ec0
    rw [← hZ] at ec1
    have hn1 : X = Z ↔ (N (Int32.toNatClampNeg (x0))) = (N (Int32.toNatClampNeg (x1))) := by
      rw [hX, hZ]
      exact ⟨fun z => by have := congrArg Int64.toInt32 z; simpa using this, fun z => by rw [z]⟩
    have hn2 : Z ≤ X ↔ (N (Int32.toNatClampNeg (x1))) ≤ (N (Int32.toNatClampNeg (x0))) := by rw [hX, hZ, Int32.toInt64_le]
    by_cases hi : Z ≤ X
    · refine ⟨0, -1, 1, 0, ?_, .inr (.inr ⟨rfl, ?_, by decide, by decide, rfl, by decide, by decide, 0, 0, .inr (.inl ⟨rfl, by decide⟩), ?_⟩)⟩
      · simp [M_Deed_perform, fC, k1, k2, k3, M_Deed_perform_14, chk, M_Deed_perform_69, er, ea0, ea1, ea2, ec0, ec1, M_Deed_workNumbers, M_Deed_workNumbers_110, M_Deed_workNumbers_128, s_giveT, l_eq, l_ge, hi]
      · simp [M_MO_gives, fR, k1, chk, w0, w7, g0, g1, x00, x07, x10, x17, eo, ← hX, ← hZ]
      · simp [M_MO_result, k1, k8, chk, w0, w7, g0, g1, x00, x07, x10, x17, eo, ← hX, ← hZ, M_MO_result_148, M_MO_result_221, M_MO_result_235, l_eq, l_ge, hi, hn2.mp hi, Int32.not_lt.mpr (hn2.mp hi), s_MO_newValue s3 v7]
    · have hq2 : ¬ (N (Int32.toNatClampNeg (x1))) ≤ (N (Int32.toNatClampNeg (x0))) := fun z => hi (hn2.mpr z)
      refine ⟨0, -1, 1, 1, ?_, .inr (.inr ⟨rfl, ?_, by decide, by decide, rfl, by decide, by decide, 1, 0, .inr (.inl ⟨rfl, by decide⟩), ?_⟩)⟩
      · simp [M_Deed_perform, fC, k1, k2, k3, M_Deed_perform_14, chk, M_Deed_perform_69, er, ea0, ea1, ea2, ec0, ec1, M_Deed_workNumbers, M_Deed_workNumbers_110, M_Deed_workNumbers_128, s_giveT, l_eq, l_ge, hi]
      · simp [M_MO_gives, fR, k1, chk, w0, w7, g0, g1, x00, x07, x10, x17, eo, ← hX, ← hZ]
      · simp [M_MO_result, k1, k8, chk, w0, w7, g0, g1, x00, x07, x10, x17, eo, ← hX, ← hZ, M_MO_result_148, M_MO_result_221, M_MO_result_235, l_eq, l_ge, hi, hq2, Int32.not_le.mp hq2, s_MO_newValue s3 v7]
  · have er : q_ar 6 = 3 := by decide
    rw [er] at fC
    have ea1 : ag 1 = a1 := y1 (by decide)
    have ea2 : ag 2 = a2 := y2 (by decide)
    have z0 : (k (Int32.toNatClampNeg (a0))) = 1 := by
      unfold q_ft at hf; simp at hf; grind
    have d0 : (c (Int32.toNatClampNeg (a0))) = (N (Int32.toNatClampNeg (x0))).toInt64 := by
      rcases cc0 (by rw [z0]; decide) with h | h | h | h <;> grind
    have e1 : q_ft 6 1 (k (Int32.toNatClampNeg (a1))) = 1 := by simp [q_ft]
    rw [z0, e1] at fC fR
    rw [d0] at ec0
    by_cases hi : (N (Int32.toNatClampNeg (x0))).toInt64 = 1
    · refine ⟨0, a1, kd0, ct0, ?_, .inr (.inl ⟨rfl, ?_, .inl trivial, x1, hV1, ?_⟩)⟩
      · simp [M_Deed_perform, fC, k1, k2, k3, M_Deed_perform_14, chk, M_Deed_perform_69, er, ea0, ea1, ea2, ec0, ec1, l_eq, hi]
      · simp [M_MO_gives, fR, k1, chk, w0, w7, g0, g1, x00, x07, x10, x17, eo]
      · simp [M_MO_result, k1, k8, chk, w0, w7, g0, g1, x00, x07, x10, x17, eo, l_eq, hi]
    · refine ⟨0, a2, kd0, ct0, ?_, .inr (.inl ⟨rfl, ?_, .inl trivial, x2, hV2, ?_⟩)⟩
      · simp [M_Deed_perform, fC, k1, k2, k3, M_Deed_perform_14, chk, M_Deed_perform_69, er, ea0, ea1, ea2, ec0, ec1, l_eq, hi]
      · simp [M_MO_gives, fR, k1, chk, w0, w7, g0, g1, x00, x07, x10, x17, eo]
      · simp [M_MO_result, k1, k8, chk, w0, w7, g0, g1, x00, x07, x10, x17, eo, l_eq, hi, g2]
  · have er : q_ar 7 = 2 := by decide
    rw [er] at fC
    have ea1 : ag 1 = a1 := y1 (by decide)
    have ea2 : True := trivial
    obtain ⟨z0, z1⟩ : (k (Int32.toNatClampNeg (a0))) = 3 ∧ (k (Int32.toNatClampNeg (a1))) = 3 := by
      unfold q_ft at hf; simp at hf; grind
    obtain ⟨L, hL⟩ : ∃ L, q_by L (N (Int32.toNatClampNeg (x0))) (c (Int32.toNatClampNeg (a0))) (B (Int32.toNatClampNeg (x0))) := by
      rcases cc0 (by rw [z0]; decide) with h | h | h | h
      · grind
      · grind
      · grind
      · exact h.2
    have e1 : q_ft 7 3 3 = 1 := by decide
    rw [z0, z1, e1] at fC fR
    obtain ⟨hl, hl0, hl7⟩ := hL.len
    obtain ⟨L', hL'⟩ : ∃ L, q_by L (N (Int32.toNatClampNeg (x1))) (c (Int32.toNatClampNeg (a1))) (B (Int32.toNatClampNeg (x1))) := by
      rcases cc1 (by rw [z1]; decide) with h | h | h | h
      · grind
      · grind
      · grind
      · exact h.2
    obtain ⟨hm, hm0, hm7⟩ := hL'.len
    have es : 7 < (N (Int32.toNatClampNeg (x0))).toInt64 + (N (Int32.toNatClampNeg (x1))).toInt64 ↔ ¬ (N (Int32.toNatClampNeg (x0))) + (N (Int32.toNatClampNeg (x1))) ≤ 7 := by
      obtain ⟨q1, -, q2, -, -⟩ := id hL
      obtain ⟨q3, -, q4, -, -⟩ := id hL'
      rw [q2, q4]
      have : ∀ n, n ≤ 7 → ∀ m, m ≤ 7 → (7 < (Int32.ofNat n).toInt64 + (Int32.ofNat m).toInt64 ↔ ¬ Int32.ofNat n + Int32.ofNat m ≤ 7) := by decide
      exact this _ q1 _ q3
    by_cases hi : (N (Int32.toNatClampNeg (x0))) + (N (Int32.toNatClampNeg (x1))) ≤ 7
    · have hn : ¬ 7 < (N (Int32.toNatClampNeg (x0))).toInt64 + (N (Int32.toNatClampNeg (x1))).toInt64 := fun z => es.mp z hi
      have hlen : L.length + L'.length ≤ 7 := by
        obtain ⟨q1, -, q2, -, -⟩ := id hL
        obtain ⟨q3, -, q4, -, -⟩ := id hL'
        rw [q2, q4] at hi
        have : ∀ n, n ≤ 7 → ∀ m, m ≤ 7 → Int32.ofNat n + Int32.ofNat m ≤ 7 → n + m ≤ 7 := by decide
        exact this _ q1 _ q3 hi
      obtain ⟨d, j1, j2⟩ := hL.joined hL' hlen
      refine ⟨0, -1, 3, d, ?_, .inr (.inr ⟨rfl, ?_, by decide, by decide, rfl, by decide, by decide, _, _, .inr (.inr (.inr ⟨rfl, _, j2⟩)), ?_⟩)⟩
      · simp [M_Deed_perform, fC, k1, k2, k3, M_Deed_perform_14, chk, M_Deed_perform_69, er, ea0, ea1, ea2, ec0, ec1, M_Deed_workBytes, hl, hm, hi, j1, M_Deed_give]
      · simp [M_MO_gives, fR, k1, chk, w0, w7, g0, g1, x00, x07, x10, x17, eo, l_gt, hn]
      · by_cases h7 : (N (Int32.toNatClampNeg (x0))).toInt64 < 7
        · have h8 : ¬ 7 ≤ (N (Int32.toNatClampNeg (x0))).toInt64 := by grind
          simp [M_MO_result, k1, k8, chk, w0, w7, g0, g1, x00, x07, x10, x17, eo, l_ge, h7, h8, M_MO_result_127, s_MO_newBytes s3 v7]
        · have h8 : 7 ≤ (N (Int32.toNatClampNeg (x0))).toInt64 := by grind
          simp [M_MO_result, k1, k8, chk, w0, w7, g0, g1, x00, x07, x10, x17, eo, l_ge, h7, h8, M_MO_result_127, s_MO_newBytes s3 v7]
    · refine ⟨1, -1, kd0, ct0, ?_, .inl ⟨rfl, ?_⟩⟩
      · simp [M_Deed_perform, fC, k1, k2, k3, M_Deed_perform_14, chk, M_Deed_perform_69, er, ea0, ea1, ea2, ec0, ec1, M_Deed_workBytes, hl, hm, hi]
      · simp [M_MO_gives, fR, k1, chk, w0, w7, g0, g1, x00, x07, x10, x17, eo, l_gt, es.mpr hi]
  · have er : q_ar 8 = 1 := by decide
    rw [er] at fC
    have ea1 : True := trivial
    have ea2 : True := trivial
    have z0 : (k (Int32.toNatClampNeg (a0))) = 3 := by
      unfold q_ft at hf; simp at hf; grind
    obtain ⟨L, hL⟩ : ∃ L, q_by L (N (Int32.toNatClampNeg (x0))) (c (Int32.toNatClampNeg (a0))) (B (Int32.toNatClampNeg (x0))) := by
      rcases cc0 (by rw [z0]; decide) with h | h | h | h
      · grind
      · grind
      · grind
      · exact h.2
    have e1 : q_ft 8 3 (k (Int32.toNatClampNeg (a1))) = 1 := by simp [q_ft]
    rw [z0, e1] at fC fR
    have hl := hL.len.1
    refine ⟨0, -1, 0, (N (Int32.toNatClampNeg (x0))).toInt64, ?_, .inr (.inr ⟨rfl, ?_, by decide, by decide, rfl, by decide, by decide, (N (Int32.toNatClampNeg (x0))), 0, .inl ⟨rfl, rfl⟩, ?_⟩)⟩
    · simp [M_Deed_perform, fC, k1, k2, k3, M_Deed_perform_14, chk, M_Deed_perform_69, er, ea0, ea1, ea2, ec0, ec1, M_Deed_workBytes, hl, M_Deed_give]
    · simp [M_MO_gives, fR, k1, chk, w0, w7, g0, g1, x00, x07, x10, x17, eo]
    · simp [M_MO_result, k1, k8, chk, w0, w7, g0, g1, x00, x07, x10, x17, eo, M_MO_result_321, s_MO_newValue s3 v7]
  · have er : q_ar 9 = 2 := by decide
    rw [er] at fC
    have ea1 : ag 1 = a1 := y1 (by decide)
    have ea2 : True := trivial
    obtain ⟨z0, z1⟩ : (k (Int32.toNatClampNeg (a0))) = 3 ∧ (k (Int32.toNatClampNeg (a1))) = 0 := by
      unfold q_ft at hf; simp at hf; grind
    obtain ⟨L, hL⟩ : ∃ L, q_by L (N (Int32.toNatClampNeg (x0))) (c (Int32.toNatClampNeg (a0))) (B (Int32.toNatClampNeg (x0))) := by
      rcases cc0 (by rw [z0]; decide) with h | h | h | h
      · grind
      · grind
      · grind
      · exact h.2
    have e1 : q_ft 9 3 0 = 1 := by decide
    rw [z0, z1, e1] at fC fR
    obtain ⟨hl, hl0, hl7⟩ := hL.len
    have d1 : (c (Int32.toNatClampNeg (a1))) = (N (Int32.toNatClampNeg (x1))).toInt64 := by
      rcases cc1 (by rw [z1]; decide) with h | h | h | h <;> grind
    rw [d1] at ec1
    have hn0 : (N (Int32.toNatClampNeg (x1))).toInt64 < 0 ↔ (N (Int32.toNatClampNeg (x1))) < 0 := by
      rw [show (0 : Int64) = (0 : Int32).toInt64 from rfl, Int32.toInt64_lt]
    have hn3 : (N (Int32.toNatClampNeg (x1))).toInt64 < (N (Int32.toNatClampNeg (x0))).toInt64 ↔ (N (Int32.toNatClampNeg (x1))) < (N (Int32.toNatClampNeg (x0))) := by simp
    have hn4 : (N (Int32.toNatClampNeg (x0))).toInt64 ≤ (N (Int32.toNatClampNeg (x1))).toInt64 ↔ (N (Int32.toNatClampNeg (x0))) ≤ (N (Int32.toNatClampNeg (x1))) := by simp
    by_cases hi : (N (Int32.toNatClampNeg (x1))).toInt64 < 0
    · refine ⟨1, -1, kd0, ct0, ?_, .inl ⟨rfl, ?_⟩⟩
      · simp [M_Deed_perform, fC, k1, k2, k3, M_Deed_perform_14, chk, M_Deed_perform_69, er, ea0, ea1, ea2, ec0, ec1, M_Deed_workBytes, hl, l_lt, hi]
      · simp [M_MO_gives, fR, k1, chk, w0, w7, g0, g1, x00, x07, x10, x17, eo, l_lt, hi]
    · by_cases hj : (N (Int32.toNatClampNeg (x1))).toInt64 < (N (Int32.toNatClampNeg (x0))).toInt64
      · have hj2 : ¬ (N (Int32.toNatClampNeg (x0))).toInt64 ≤ (N (Int32.toNatClampNeg (x1))).toInt64 := by grind
        obtain ⟨i, hi3, hi4⟩ : ∃ i, (N (Int32.toNatClampNeg (x1))) = Int32.ofNat i ∧ i < L.length := by
          obtain ⟨q1, -, q2, -, -⟩ := id hL
          have t1 : 0 ≤ (N (Int32.toNatClampNeg (x1))) := Int32.not_lt.mp (fun z => hi (hn0.mpr z))
          have t2 := Int64.lt_iff_toInt_lt.mp hj
          rw [Int32.toInt_toInt64, Int32.toInt_toInt64] at t2
          have t3 := q_clamp t1
          have t4 : (N (Int32.toNatClampNeg (x0))).toInt = L.length := by
            rw [q2]
            have : ∀ n, n ≤ 7 → (Int32.ofNat n).toInt = n := by decide
            exact this _ q1
          refine ⟨(N (Int32.toNatClampNeg (x1))).toNatClampNeg, ?_, by omega⟩
          rw [Int32.ofNat_toNatClampNeg]
          exact t1
        obtain ⟨j1, j2⟩ := hL.at hi4
        rw [← hi3] at j1 j2
        refine ⟨0, -1, 0, (Int32.ofNat L[i]).toInt64, ?_, .inr (.inr ⟨rfl, ?_, by decide, by decide, rfl, by decide, by decide, Int32.ofNat L[i], 0, .inl ⟨rfl, rfl⟩, ?_⟩)⟩
        · simp [M_Deed_perform, fC, k1, k2, k3, M_Deed_perform_14, chk, M_Deed_perform_69, er, ea0, ea1, ea2, ec0, ec1, M_Deed_workBytes, hl, l_lt, hi, hn3.mp hj, j1, M_Deed_give]
        · simp [M_MO_gives, fR, k1, chk, w0, w7, g0, g1, x00, x07, x10, x17, eo, l_lt, l_ge, hi, hn3.mp hj, Int32.not_le.mpr (hn3.mp hj)]
        · simp only [M_MO_result, k1, k8, chk, w0, w7, g0, g1, x00, x07, x10, x17, eo, and_self, if_true, M_MO_result_321, s_MO_newValue s3 v7, Int32.toInt32_toInt64, j2]
          simp
      · have hj2 : (N (Int32.toNatClampNeg (x0))).toInt64 ≤ (N (Int32.toNatClampNeg (x1))).toInt64 := by grind
        refine ⟨1, -1, kd0, ct0, ?_, .inl ⟨rfl, ?_⟩⟩
        · simp [M_Deed_perform, fC, k1, k2, k3, M_Deed_perform_14, chk, M_Deed_perform_69, er, ea0, ea1, ea2, ec0, ec1, M_Deed_workBytes, hl, l_lt, hi, Int32.not_lt.mpr (hn4.mp hj2)]
        · simp [M_MO_gives, fR, k1, chk, w0, w7, g0, g1, x00, x07, x10, x17, eo, l_lt, l_ge, hi, hn4.mp hj2, Int32.not_lt.mpr (hn4.mp hj2)]
  · have er : q_ar 10 = 2 := by decide
    rw [er] at fC
    have ea1 : ag 1 = a1 := y1 (by decide)
    have ea2 : True := trivial
    have z0 : (k (Int32.toNatClampNeg (a0))) = 2 := by
      unfold q_ft at hf; simp at hf; grind
    have e1 : q_ft 10 2 (k (Int32.toNatClampNeg (a1))) = 1 := by simp [q_ft]
    rw [z0, e1] at fC fR
    refine ⟨0, a1, kd0, ct0, ?_, .inr (.inl ⟨rfl, ?_, .inr trivial, x1, hV1, ?_⟩)⟩
    · simp [M_Deed_perform, fC, k1, k2, k3, M_Deed_perform_14, chk, M_Deed_perform_69, er, ea0, ea1, ea2, ec0, ec1]
    · simp [M_MO_gives, fR, k1, chk, w0, w7, g0, g1, x00, x07, x10, x17, eo]
    · simp [M_MO_result, k1, k8, chk, w0, w7, g0, g1, x00, x07, x10, x17, eo]
  · have er : q_ar 11 = 2 := by decide
    rw [er] at fC
    have ea1 : ag 1 = a1 := y1 (by decide)
    have ea2 : True := trivial
    obtain ⟨z0, z1⟩ : (k (Int32.toNatClampNeg (a0))) = 3 ∧ (k (Int32.toNatClampNeg (a1))) = 3 := by
      unfold q_ft at hf; simp at hf; grind
    obtain ⟨L, hL⟩ : ∃ L, q_by L (N (Int32.toNatClampNeg (x0))) (c (Int32.toNatClampNeg (a0))) (B (Int32.toNatClampNeg (x0))) := by
      rcases cc0 (by rw [z0]; decide) with h | h | h | h
      · grind
      · grind
      · grind
      · exact h.2
    have e1 : q_ft 11 3 3 = 1 := by decide
    rw [z0, z1, e1] at fC fR
    obtain ⟨hl, hl0, hl7⟩ := hL.len
    obtain ⟨L', hL'⟩ : ∃ L, q_by L (N (Int32.toNatClampNeg (x1))) (c (Int32.toNatClampNeg (a1))) (B (Int32.toNatClampNeg (x1))) := by
      rcases cc1 (by rw [z1]; decide) with h | h | h | h
      · grind
      · grind
      · grind
      · exact h.2
    obtain ⟨hm, hm0, hm7⟩ := hL'.len
    by_cases hi : (c (Int32.toNatClampNeg (a0))) = (c (Int32.toNatClampNeg (a1)))
    · obtain ⟨i1, i2⟩ := (hL.inj hL').mp hi
      refine ⟨0, -1, 1, 1, ?_, .inr (.inr ⟨rfl, ?_, by decide, by decide, rfl, by decide, by decide, 1, 0, .inr (.inl ⟨rfl, by decide⟩), ?_⟩)⟩
      · simp [M_Deed_perform, fC, k1, k2, k3, M_Deed_perform_14, chk, M_Deed_perform_69, er, ea0, ea1, ea2, ec0, ec1, M_Deed_workBytes, M_Deed_workBytes_139, s_giveT, hl, hm, l_eq, hi]
      · simp [M_MO_gives, fR, k1, chk, w0, w7, g0, g1, x00, x07, x10, x17, eo]
      · simp [M_MO_result, k1, k8, chk, w0, w7, g0, g1, x00, x07, x10, x17, eo, M_MO_result_148, M_MO_result_221, M_MO_result_235, l_eq, i1, i2, s_MO_newValue s3 v7]
    · have hi2 : ¬ ((N (Int32.toNatClampNeg (x0))) = (N (Int32.toNatClampNeg (x1))) ∧ (B (Int32.toNatClampNeg (x0))) = (B (Int32.toNatClampNeg (x1)))) := fun z => hi ((hL.inj hL').mpr z)
      refine ⟨0, -1, 1, 0, ?_, .inr (.inr ⟨rfl, ?_, by decide, by decide, rfl, by decide, by decide, 0, 0, .inr (.inl ⟨rfl, by decide⟩), ?_⟩)⟩
      · simp [M_Deed_perform, fC, k1, k2, k3, M_Deed_perform_14, chk, M_Deed_perform_69, er, ea0, ea1, ea2, ec0, ec1, M_Deed_workBytes, M_Deed_workBytes_139, s_giveT, hl, hm, l_eq, hi]
      · simp [M_MO_gives, fR, k1, chk, w0, w7, g0, g1, x00, x07, x10, x17, eo]
      · by_cases i1 : (N (Int32.toNatClampNeg (x0))) = (N (Int32.toNatClampNeg (x1)))
        · have i2 : ¬ (B (Int32.toNatClampNeg (x0))) = (B (Int32.toNatClampNeg (x1))) := fun z => hi2 ⟨i1, z⟩
          simp [M_MO_result, k1, k8, chk, w0, w7, g0, g1, x00, x07, x10, x17, eo, M_MO_result_148, M_MO_result_220, M_MO_result_221, M_MO_result_235, l_eq, i1, i2, s_MO_newValue s3 v7]
        · have i3 : ¬ (N (Int32.toNatClampNeg (x0))).toInt64 = (N (Int32.toNatClampNeg (x1))).toInt64 := fun z => i1 (by have := congrArg Int64.toInt32 z; simpa using this)
          simp [M_MO_result, k1, k8, chk, w0, w7, g0, g1, x00, x07, x10, x17, eo, M_MO_result_148, M_MO_result_220, M_MO_result_221, M_MO_result_235, l_eq, i3, s_MO_newValue s3 v7]
