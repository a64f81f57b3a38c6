theorem q_at36 {f : Nat → Int32} {i : Int32} (h0 : 0 ≤ i) (h1 : i < 36) : at_ 36 f i = (f (Int32.toNatClampNeg (i))) := by
  have e : Int32.ofNat 36 = 36 := rfl
  rw [at_, if_neg (by grind), e, if_neg (by grind)]
theorem q_args {n : Int32} {lam : Nat → Int32} {cnt : Int32} {k : Nat → Int32} {c : Nat → Int64} {l r gv g dp : Nat → Int32} {vals envs : Int32} {K N : Nat → Int32} {B : Nat → Int64} {P A Y G H O : Nat → Int32} {f w v u o0 m0 : Int32} {ag : Nat → Int32}
    (hS : q_S n lam cnt k c l r gv g dp vals envs K N B P A Y G H O) (hF : q_V vals cnt k g f w) (hV : q_V vals cnt k g v u) (hk : (k (Int32.toNatClampNeg (f))) = 6) (hY : (Y (Int32.toNatClampNeg (w))) + 1 = q_ar (P (Int32.toNatClampNeg (w)))) :
    ∃ ag1 a0 a1 a2 x0 x1 x2, M_Deed_prepare o0 m0 ag c l r f v = some ((P (Int32.toNatClampNeg (w))), q_ar (P (Int32.toNatClampNeg (w))), ag1) ∧
      ag1 0 = a0 ∧ (q_ar (P (Int32.toNatClampNeg (w))) ≠ 1 → ag1 1 = a1) ∧ (q_ar (P (Int32.toNatClampNeg (w))) = 3 → ag1 2 = a2) ∧
      M_MO_argument Y G w u 0 = some x0 ∧ M_MO_argument Y G w u 1 = some x1 ∧ M_MO_argument Y G w u 2 = some x2 ∧
      q_V vals cnt k g a0 x0 ∧ q_V vals cnt k g a1 x1 ∧ q_V vals cnt k g a2 x2 := by
  obtain ⟨hI, hK, k0, k6, v6, w6⟩ := q_pt hS hF
  obtain ⟨e1, e2, e3, e4, e5, e6, e7, e8⟩ := hI.2.2.2.2.2.2.1 hk
  have e9 := hI.2.2.2.2.2.2.2.1 hk
  have e10 := hI.2.2.2.2.2.2.2.2 hk
  have f0 := hF.1
  have w0 := hF.2.2.2.1
  have w7 : w < 700 := by grind
  have eo : (atL 600 c f).toInt32 = (P (Int32.toNatClampNeg (w))) := by rw [q_atL600 f0 v6, e1]; simp
  have i0 : (0 : Int32).toNatClampNeg = 0 := rfl
  have i1 : (1 : Int32).toNatClampNeg = 1 := rfl
  have i2 : (2 : Int32).toNatClampNeg = 2 := rfl
  have m0 : 3 * w + 0 = 3 * w := by grind
  have m1 : 0 ≤ 3 * w := by grind
  have m2 : 3 * w < 2100 := by grind
  have m3 : 0 ≤ 3 * w + 1 := by grind
  have m4 : 3 * w + 1 < 2100 := by grind
  have z1 : (1 : Int32) - 1 = 0 := by decide
  have z2 : (2 : Int32) - 1 = 1 := by decide
  have z3 : (3 : Int32) - 1 = 2 := by decide
  have z4 : (0 : Int32) + -1 = -1 := by decide
  have z5 : (1 : Int32) + -1 = 0 := by decide
  have z6 : (2 : Int32) + -1 = 1 := by decide
  have n0 : ¬ (0 : Int32) < 0 := by decide
  have n1 : ¬ (1 : Int32) < 0 := by decide
  have n2 : ¬ (2 : Int32) < 0 := by decide
  have n3 : (-1 : Int32) < 0 := by decide
  have n4 : ¬ (3 : Int32) ≤ 0 := by decide
  have n5 : ¬ (3 : Int32) ≤ 1 := by decide
  have n6 : ¬ (3 : Int32) ≤ 2 := by decide
  have n7 : (0 : Int32) ≤ 0 ∧ (0 : Int32) < 3 := by decide
  have n8 : (0 : Int32) ≤ 1 ∧ (1 : Int32) < 3 := by decide
  have n9 : (0 : Int32) ≤ 2 ∧ (2 : Int32) < 3 := by decide
  have rf : cnt ≤ cnt := Int32.le_rfl
  have rv : vals ≤ vals := Int32.le_rfl
  have fl := Int32.le_of_lt hF.2.1
  rcases q_ar13 (P (Int32.toNatClampNeg (w))) with h | h | h
  · have y : (Y (Int32.toNatClampNeg (w))) = 0 := by grind
    refine ⟨upd ag 0 v, v, v, v, u, u, u, ?_, ?_, ?_, ?_, ?_, ?_, ?_, hV, hV, hV⟩
    · simp only [M_Deed_prepare, M_Store_operationOf, c1, eo, q_atA e2 e3, h, z1]
      rw [M_Deed_prepare_37]
      simp only [n0, n4, n7, and_self, if_false, if_true, chk, z4, i0]
      rw [M_Deed_prepare_37]
      simp only [n3, if_true]
    · simp [upd]
    · intro z; exact absurd h z
    · intro z; rw [h] at z; exact absurd z (by decide)
    · simp [M_MO_argument, chk, w0, w7, y]
    · simp [M_MO_argument, chk, w0, w7, y]
    · simp [M_MO_argument, chk, w0, w7, y]
  · have y : (Y (Int32.toNatClampNeg (w))) = 1 := by grind
    have hV0 := (e9 (by grind)).2.1
    rw [y, show 3 * w + (1 - 1) = 3 * w by grind] at hV0
    refine ⟨upd (upd ag 1 v) 0 (l (Int32.toNatClampNeg (f))), (l (Int32.toNatClampNeg (f))), v, v, (G (Int32.toNatClampNeg (3 * w))), u, u, ?_, ?_, ?_, ?_, ?_, ?_, ?_, hV0.mono rv fl (fun _ _ _ => rfl) (fun _ _ _ => rfl), hV, hV⟩
    · simp only [M_Deed_prepare, M_Store_operationOf, c1, eo, q_atA e2 e3, h, z2]
      rw [M_Deed_prepare_37]
      simp only [n1, n5, n8, and_self, if_false, if_true, chk, z5, i1]
      rw [M_Deed_prepare_37]
      simp only [n0, n4, n7, and_self, if_false, if_true, chk, z4, i0]
      rw [M_Deed_prepare_37]
      simp only [n3, if_true, q_at600 f0 v6]
    · simp [upd]
    · intro z; simp [upd]
    · intro z; rw [h] at z; exact absurd z (by decide)
    · simp [M_MO_argument, chk, w0, w7, y, m0, m1, m2]
    · simp [M_MO_argument, chk, w0, w7, y]
    · simp [M_MO_argument, chk, w0, w7, y]
  · have y : (Y (Int32.toNatClampNeg (w))) = 2 := by grind
    obtain ⟨-, hV1, hR⟩ := e9 (by grind)
    have hV0 := e10 y
    rw [y, show 3 * w + (2 - 1) = 3 * w + 1 by grind] at hV1
    have r0 := hR.1
    have r1 := hR.2.1
    have r6 : (r (Int32.toNatClampNeg (f))) < 600 := by grind
    refine ⟨upd (upd (upd ag 2 v) 1 (l (Int32.toNatClampNeg (f)))) 0 (l (Int32.toNatClampNeg ((r (Int32.toNatClampNeg (f)))))), (l (Int32.toNatClampNeg ((r (Int32.toNatClampNeg (f)))))), (l (Int32.toNatClampNeg (f))), v, (G (Int32.toNatClampNeg (3 * w))), (G (Int32.toNatClampNeg (3 * w + 1))), u, ?_, ?_, ?_, ?_, ?_, ?_, ?_, hV0.mono rv (Int32.le_trans (Int32.le_of_lt r1) fl) (fun _ _ _ => rfl) (fun _ _ _ => rfl), hV1.mono rv fl (fun _ _ _ => rfl) (fun _ _ _ => rfl), hV⟩
    · simp only [M_Deed_prepare, M_Store_operationOf, c1, eo, q_atA e2 e3, h, z3]
      rw [M_Deed_prepare_37]
      simp only [n2, n6, n9, and_self, if_false, if_true, chk, z6, i2]
      rw [M_Deed_prepare_37]
      simp only [n1, n5, n8, and_self, if_false, if_true, chk, z5, i1]
      rw [M_Deed_prepare_37]
      simp only [n0, n4, n7, and_self, if_false, if_true, chk, z4, i0]
      rw [M_Deed_prepare_37]
      simp only [n3, if_true, q_at600 f0 v6, q_at600 r0 r6]
    · simp [upd]
    · intro z; simp [upd]
    · intro z; simp [upd]
    · simp [M_MO_argument, chk, w0, w7, y, m0, m1, m2]
    · simp [M_MO_argument, chk, w0, w7, y, m3, m4]
    · simp [M_MO_argument, chk, w0, w7, y]
def q_ft (o p q : Int32) : Int32 :=
  if o = 6 then (if p = 1 then 1 else 0) else if o = 10 then (if p = 2 then 1 else 0) else if o = 8 then (if p = 3 then 1 else 0) else if o = 9 then (if p = 3 then (if q = 0 then 1 else 0) else 0) else if o = 7 ∨ o = 11 then (if p = 3 then (if q = 3 then 1 else 0) else 0) else (if p = 0 then (if q = 0 then 1 else 0) else 0)
theorem q_W0 : at_ 36 tb_WANTED 0 = 0 := by decide
theorem q_W1 : at_ 36 tb_WANTED 1 = 0 := by decide
theorem q_W2 : at_ 36 tb_WANTED 2 = -1 := by decide
theorem q_W3 : at_ 36 tb_WANTED 3 = 0 := by decide
theorem q_W4 : at_ 36 tb_WANTED 4 = 0 := by decide
theorem q_W5 : at_ 36 tb_WANTED 5 = -1 := by decide
theorem q_W6 : at_ 36 tb_WANTED 6 = 0 := by decide
theorem q_W7 : at_ 36 tb_WANTED 7 = 0 := by decide
theorem q_W8 : at_ 36 tb_WANTED 8 = -1 := by decide
theorem q_W9 : at_ 36 tb_WANTED 9 = 0 := by decide
theorem q_W10 : at_ 36 tb_WANTED 10 = 0 := by decide
theorem q_W11 : at_ 36 tb_WANTED 11 = -1 := by decide
theorem q_W12 : at_ 36 tb_WANTED 12 = 0 := by decide
theorem q_W13 : at_ 36 tb_WANTED 13 = 0 := by decide
theorem q_W14 : at_ 36 tb_WANTED 14 = -1 := by decide
theorem q_W15 : at_ 36 tb_WANTED 15 = 0 := by decide
theorem q_W16 : at_ 36 tb_WANTED 16 = 0 := by decide
theorem q_W17 : at_ 36 tb_WANTED 17 = -1 := by decide
theorem q_W18 : at_ 36 tb_WANTED 18 = 1 := by decide
theorem q_W19 : at_ 36 tb_WANTED 19 = -1 := by decide
theorem q_W20 : at_ 36 tb_WANTED 20 = -1 := by decide
theorem q_W21 : at_ 36 tb_WANTED 21 = 3 := by decide
theorem q_W22 : at_ 36 tb_WANTED 22 = 3 := by decide
theorem q_W23 : at_ 36 tb_WANTED 23 = -1 := by decide
theorem q_W24 : at_ 36 tb_WANTED 24 = 3 := by decide
theorem q_W25 : at_ 36 tb_WANTED 25 = -1 := by decide
theorem q_W26 : at_ 36 tb_WANTED 26 = -1 := by decide
theorem q_W27 : at_ 36 tb_WANTED 27 = 3 := by decide
theorem q_W28 : at_ 36 tb_WANTED 28 = 0 := by decide
theorem q_W29 : at_ 36 tb_WANTED 29 = -1 := by decide
theorem q_W30 : at_ 36 tb_WANTED 30 = 2 := by decide
theorem q_W31 : at_ 36 tb_WANTED 31 = -1 := by decide
theorem q_W32 : at_ 36 tb_WANTED 32 = -1 := by decide
theorem q_W33 : at_ 36 tb_WANTED 33 = 3 := by decide
theorem q_W34 : at_ 36 tb_WANTED 34 = 3 := by decide
theorem q_W35 : at_ 36 tb_WANTED 35 = -1 := by decide
theorem q_D0 : at_ 12 tb_COSTS 0 = 2 := by decide
theorem q_D1 : at_ 12 tb_COSTS 1 = 2 := by decide
theorem q_D2 : at_ 12 tb_COSTS 2 = 4 := by decide
theorem q_D3 : at_ 12 tb_COSTS 3 = 4 := by decide
theorem q_D4 : at_ 12 tb_COSTS 4 = 2 := by decide
theorem q_D5 : at_ 12 tb_COSTS 5 = 2 := by decide
theorem q_D6 : at_ 12 tb_COSTS 6 = 1 := by decide
theorem q_D7 : at_ 12 tb_COSTS 7 = 1 := by decide
theorem q_D8 : at_ 12 tb_COSTS 8 = 1 := by decide
theorem q_D9 : at_ 12 tb_COSTS 9 = 1 := by decide
theorem q_D10 : at_ 12 tb_COSTS 10 = 1 := by decide
theorem q_D11 : at_ 12 tb_COSTS 11 = 2 := by decide
theorem s_fitsC {o a0 a1 : Int32} {ag k : Nat → Int32} (h0 : 0 ≤ o) (h1 : o ≤ 11) (g0 : ag 0 = a0) (g1 : q_ar o ≠ 1 → ag 1 = a1) (b0 : 0 ≤ a0) (b1 : a0 < 600) (b2 : 0 ≤ a1) (b3 : a1 < 600) :
    M_Deed_fits o (q_ar o) ag k = some (q_ft o (k (Int32.toNatClampNeg (a0))) (k (Int32.toNatClampNeg (a1)))) := by
  have t0 : at_ 3 ag 0 = a0 := by rw [q_at3 (by decide) (by decide)]; exact g0
  have t1 : q_ar o ≠ 1 → at_ 3 ag 1 = a1 := fun z => by rw [q_at3 (by decide) (by decide)]; exact g1 z
  have t2 : at_ 600 k a0 = (k (Int32.toNatClampNeg (a0))) := q_at600 b0 b1
  have t3 : at_ 600 k a1 = (k (Int32.toNatClampNeg (a1))) := q_at600 b2 b3
  clear g0 g1 b0 b1 b2 b3
  generalize (k (Int32.toNatClampNeg (a0))) = p at *
  generalize (k (Int32.toNatClampNeg (a1))) = q at *
  rcases q_12 h0 h1 with rfl | rfl | rfl | rfl | rfl | rfl | rfl | rfl | rfl | rfl | rfl | rfl
  all_goals simp only [q_ar, q_ft] at *
  all_goals simp at t1
  · by_cases e0 : p = 0 <;> by_cases e1 : q = 0 <;> simp [M_Deed_fits, M_Deed_fits_2, q_W0, q_W1, q_W2, q_W3, q_W4, q_W5, q_W6, q_W7, q_W8, q_W9, q_W10, q_W11, q_W12, q_W13, q_W14, q_W15, q_W16, q_W17, q_W18, q_W19, q_W20, q_W21, q_W22, q_W23, q_W24, q_W25, q_W26, q_W27, q_W28, q_W29, q_W30, q_W31, q_W32, q_W33, q_W34, q_W35, t0, t1, t2, t3, e0, e1]
  · by_cases e0 : p = 0 <;> by_cases e1 : q = 0 <;> simp [M_Deed_fits, M_Deed_fits_2, q_W0, q_W1, q_W2, q_W3, q_W4, q_W5, q_W6, q_W7, q_W8, q_W9, q_W10, q_W11, q_W12, q_W13, q_W14, q_W15, q_W16, q_W17, q_W18, q_W19, q_W20, q_W21, q_W22, q_W23, q_W24, q_W25, q_W26, q_W27, q_W28, q_W29, q_W30, q_W31, q_W32, q_W33, q_W34, q_W35, t0, t1, t2, t3, e0, e1]
  · by_cases e0 : p = 0 <;> by_cases e1 : q = 0 <;> simp [M_Deed_fits, M_Deed_fits_2, q_W0, q_W1, q_W2, q_W3, q_W4, q_W5, q_W6, q_W7, q_W8, q_W9, q_W10, q_W11, q_W12, q_W13, q_W14, q_W15, q_W16, q_W17, q_W18, q_W19, q_W20, q_W21, q_W22, q_W23, q_W24, q_W25, q_W26, q_W27, q_W28, q_W29, q_W30, q_W31, q_W32, q_W33, q_W34, q_W35, t0, t1, t2, t3, e0, e1]
  · by_cases e0 : p = 0 <;> by_cases e1 : q = 0 <;> simp [M_Deed_fits, M_Deed_fits_2, q_W0, q_W1, q_W2, q_W3, q_W4, q_W5, q_W6, q_W7, q_W8, q_W9, q_W10, q_W11, q_W12, q_W13, q_W14, q_W15, q_W16, q_W17, q_W18, q_W19, q_W20, q_W21, q_W22, q_W23, q_W24, q_W25, q_W26, q_W27, q_W28, q_W29, q_W30, q_W31, q_W32, q_W33, q_W34, q_W35, t0, t1, t2, t3, e0, e1]
  · by_cases e0 : p = 0 <;> by_cases e1 : q = 0 <;> simp [M_Deed_fits, M_Deed_fits_2, q_W0, q_W1, q_W2, q_W3, q_W4, q_W5, q_W6, q_W7, q_W8, q_W9, q_W10, q_W11, q_W12, q_W13, q_W14, q_W15, q_W16, q_W17, q_W18, q_W19, q_W20, q_W21, q_W22, q_W23, q_W24, q_W25, q_W26, q_W27, q_W28, q_W29, q_W30, q_W31, q_W32, q_W33, q_W34, q_W35, t0, t1, t2, t3, e0, e1]
  · by_cases e0 : p = 0 <;> by_cases e1 : q = 0 <;> simp [M_Deed_fits, M_Deed_fits_2, q_W0, q_W1, q_W2, q_W3, q_W4, q_W5, q_W6, q_W7, q_W8, q_W9, q_W10, q_W11, q_W12, q_W13, q_W14, q_W15, q_W16, q_W17, q_W18, q_W19, q_W20, q_W21, q_W22, q_W23, q_W24, q_W25, q_W26, q_W27, q_W28, q_W29, q_W30, q_W31, q_W32, q_W33, q_W34, q_W35, t0, t1, t2, t3, e0, e1]
  · by_cases e0 : p = 1 <;> simp [M_Deed_fits, M_Deed_fits_2, q_W0, q_W1, q_W2, q_W3, q_W4, q_W5, q_W6, q_W7, q_W8, q_W9, q_W10, q_W11, q_W12, q_W13, q_W14, q_W15, q_W16, q_W17, q_W18, q_W19, q_W20, q_W21, q_W22, q_W23, q_W24, q_W25, q_W26, q_W27, q_W28, q_W29, q_W30, q_W31, q_W32, q_W33, q_W34, q_W35, t0, t1, t2, t3, e0]
  · by_cases e0 : p = 3 <;> by_cases e1 : q = 3 <;> simp [M_Deed_fits, M_Deed_fits_2, q_W0, q_W1, q_W2, q_W3, q_W4, q_W5, q_W6, q_W7, q_W8, q_W9, q_W10, q_W11, q_W12, q_W13, q_W14, q_W15, q_W16, q_W17, q_W18, q_W19, q_W20, q_W21, q_W22, q_W23, q_W24, q_W25, q_W26, q_W27, q_W28, q_W29, q_W30, q_W31, q_W32, q_W33, q_W34, q_W35, t0, t1, t2, t3, e0, e1]
  · by_cases e0 : p = 3 <;> simp [M_Deed_fits, M_Deed_fits_2, q_W0, q_W1, q_W2, q_W3, q_W4, q_W5, q_W6, q_W7, q_W8, q_W9, q_W10, q_W11, q_W12, q_W13, q_W14, q_W15, q_W16, q_W17, q_W18, q_W19, q_W20, q_W21, q_W22, q_W23, q_W24, q_W25, q_W26, q_W27, q_W28, q_W29, q_W30, q_W31, q_W32, q_W33, q_W34, q_W35, t0, t1, t2, t3, e0]
  · by_cases e0 : p = 3 <;> by_cases e1 : q = 0 <;> simp [M_Deed_fits, M_Deed_fits_2, q_W0, q_W1, q_W2, q_W3, q_W4, q_W5, q_W6, q_W7, q_W8, q_W9, q_W10, q_W11, q_W12, q_W13, q_W14, q_W15, q_W16, q_W17, q_W18, q_W19, q_W20, q_W21, q_W22, q_W23, q_W24, q_W25, q_W26, q_W27, q_W28, q_W29, q_W30, q_W31, q_W32, q_W33, q_W34, q_W35, t0, t1, t2, t3, e0, e1]
  · by_cases e0 : p = 2 <;> simp [M_Deed_fits, M_Deed_fits_2, q_W0, q_W1, q_W2, q_W3, q_W4, q_W5, q_W6, q_W7, q_W8, q_W9, q_W10, q_W11, q_W12, q_W13, q_W14, q_W15, q_W16, q_W17, q_W18, q_W19, q_W20, q_W21, q_W22, q_W23, q_W24, q_W25, q_W26, q_W27, q_W28, q_W29, q_W30, q_W31, q_W32, q_W33, q_W34, q_W35, t0, t1, t2, t3, e0]
  · by_cases e0 : p = 3 <;> by_cases e1 : q = 3 <;> simp [M_Deed_fits, M_Deed_fits_2, q_W0, q_W1, q_W2, q_W3, q_W4, q_W5, q_W6, q_W7, q_W8, q_W9, q_W10, q_W11, q_W12, q_W13, q_W14, q_W15, q_W16, q_W17, q_W18, q_W19, q_W20, q_W21, q_W22, q_W23, q_W24, q_W25, q_W26, q_W27, q_W28, q_W29, q_W30, q_W31, q_W32, q_W33, q_W34, q_W35, t0, t1, t2, t3, e0, e1]
theorem s_fs {w u o j x y : Int32} {K P Y G : Nat → Int32} {f : Nat} (hj : ¬ q_ar o ≤ j) (hw : M_MO_wanted o j = some x) (g : M_MO_argument Y G w u j = some y) (b0 : 0 ≤ y) (b1 : y < 700) :
    M_MO_fits_13 K P Y G (f + 1) w u o 1 j = M_MO_fits_13 K P Y G f w u o (if x = -1 ∨ (K (Int32.toNatClampNeg (y))) = x then 1 else 0) (j + 1) := by
  have z5 : ¬ (1:Int32) = 0 := by decide
  rw [M_MO_fits_13]
  simp only [s_argumentsOf, c1, hj, z5, if_false, hw, g, chk, b0, b1, and_self, if_true]
  by_cases e : x = -1
  · simp only [e, if_true, true_or]
  · by_cases e2 : (K (Int32.toNatClampNeg (y))) = x
    · simp only [e2, if_true, or_true, e, if_false]
    · simp only [e2, e, if_false, or_self]
theorem s_fz {w u o j : Int32} {K P Y G : Nat → Int32} {f : Nat} (hj : ¬ q_ar o ≤ j) :
    M_MO_fits_13 K P Y G (f + 1) w u o 0 j = M_MO_fits_13 K P Y G f w u o 0 (j + 1) := by
  rw [M_MO_fits_13]
  simp only [s_argumentsOf, c1, hj, if_false, if_true]
theorem s_fe {w u o j x : Int32} {K P Y G : Nat → Int32} {f : Nat} (hj : q_ar o ≤ j) (hx : x = 0 ∨ x = 1) :
    M_MO_fits_13 K P Y G (f + 1) w u o x j = some x := by
  rw [M_MO_fits_13]
  simp only [s_argumentsOf, c1, hj, if_true, chk, hx]
theorem s_fitsR1 {w u x0 x1 x2 o : Int32} {K P Y G : Nat → Int32} (F : Nat) (h0 : 0 ≤ o) (h1 : o ≤ 11) (g0 : M_MO_argument Y G w u 0 = some x0) (g1 : M_MO_argument Y G w u 1 = some x1) (g2 : M_MO_argument Y G w u 2 = some x2) (b0 : 0 ≤ x0) (b1 : x0 < 700) (b2 : 0 ≤ x1) (b3 : x1 < 700) (b4 : 0 ≤ x2) (b5 : x2 < 700) :
    M_MO_fits_13 K P Y G (F + 1 + 1 + 1 + 1) w u o 1 0 = some (q_ft o (K (Int32.toNatClampNeg (x0))) (K (Int32.toNatClampNeg (x1)))) := by
  have z1 : (0 : Int32) + 1 = 1 := by decide
  have z2 : (1 : Int32) + 1 = 2 := by decide
  have z3 : (2 : Int32) + 1 = 3 := by decide
  rcases q_12 h0 h1 with rfl | rfl | rfl | rfl | rfl | rfl | rfl | rfl | rfl | rfl | rfl | rfl
  · by_cases e0 : (K (Int32.toNatClampNeg (x0))) = 0
    · by_cases e1 : (K (Int32.toNatClampNeg (x1))) = 0
      · rw [s_fs (x := 0) (by decide) (by decide) g0 b0 b1, if_pos (.inr e0), z1, s_fs (x := 0) (by decide) (by decide) g1 b2 b3, if_pos (.inr e1), z2, s_fe (by decide) (by decide)]
        simp [q_ft, e0, e1]
      · rw [s_fs (x := 0) (by decide) (by decide) g0 b0 b1, if_pos (.inr e0), z1, s_fs (x := 0) (by decide) (by decide) g1 b2 b3, if_neg (fun z => z.elim (by decide) e1), z2, s_fe (by decide) (by decide)]
        simp [q_ft, e0, e1]
    · by_cases e1 : (K (Int32.toNatClampNeg (x1))) = 0
      · rw [s_fs (x := 0) (by decide) (by decide) g0 b0 b1, if_neg (fun z => z.elim (by decide) e0), z1, s_fz (by decide), z2, s_fe (by decide) (by decide)]
        simp [q_ft, e0, e1]
      · rw [s_fs (x := 0) (by decide) (by decide) g0 b0 b1, if_neg (fun z => z.elim (by decide) e0), z1, s_fz (by decide), z2, s_fe (by decide) (by decide)]
        simp [q_ft, e0, e1]
  · by_cases e0 : (K (Int32.toNatClampNeg (x0))) = 0
    · by_cases e1 : (K (Int32.toNatClampNeg (x1))) = 0
      · rw [s_fs (x := 0) (by decide) (by decide) g0 b0 b1, if_pos (.inr e0), z1, s_fs (x := 0) (by decide) (by decide) g1 b2 b3, if_pos (.inr e1), z2, s_fe (by decide) (by decide)]
        simp [q_ft, e0, e1]
      · rw [s_fs (x := 0) (by decide) (by decide) g0 b0 b1, if_pos (.inr e0), z1, s_fs (x := 0) (by decide) (by decide) g1 b2 b3, if_neg (fun z => z.elim (by decide) e1), z2, s_fe (by decide) (by decide)]
        simp [q_ft, e0, e1]
    · by_cases e1 : (K (Int32.toNatClampNeg (x1))) = 0
      · rw [s_fs (x := 0) (by decide) (by decide) g0 b0 b1, if_neg (fun z => z.elim (by decide) e0), z1, s_fz (by decide), z2, s_fe (by decide) (by decide)]
        simp [q_ft, e0, e1]
      · rw [s_fs (x := 0) (by decide) (by decide) g0 b0 b1, if_neg (fun z => z.elim (by decide) e0), z1, s_fz (by decide), z2, s_fe (by decide) (by decide)]
        simp [q_ft, e0, e1]
  · by_cases e0 : (K (Int32.toNatClampNeg (x0))) = 0
    · by_cases e1 : (K (Int32.toNatClampNeg (x1))) = 0
      · rw [s_fs (x := 0) (by decide) (by decide) g0 b0 b1, if_pos (.inr e0), z1, s_fs (x := 0) (by decide) (by decide) g1 b2 b3, if_pos (.inr e1), z2, s_fe (by decide) (by decide)]
        simp [q_ft, e0, e1]
      · rw [s_fs (x := 0) (by decide) (by decide) g0 b0 b1, if_pos (.inr e0), z1, s_fs (x := 0) (by decide) (by decide) g1 b2 b3, if_neg (fun z => z.elim (by decide) e1), z2, s_fe (by decide) (by decide)]
        simp [q_ft, e0, e1]
    · by_cases e1 : (K (Int32.toNatClampNeg (x1))) = 0
      · rw [s_fs (x := 0) (by decide) (by decide) g0 b0 b1, if_neg (fun z => z.elim (by decide) e0), z1, s_fz (by decide), z2, s_fe (by decide) (by decide)]
        simp [q_ft, e0, e1]
      · rw [s_fs (x := 0) (by decide) (by decide) g0 b0 b1, if_neg (fun z => z.elim (by decide) e0), z1, s_fz (by decide), z2, s_fe (by decide) (by decide)]
        simp [q_ft, e0, e1]
  · by_cases e0 : (K (Int32.toNatClampNeg (x0))) = 0
    · by_cases e1 : (K (Int32.toNatClampNeg (x1))) = 0
      · rw [s_fs (x := 0) (by decide) (by decide) g0 b0 b1, if_pos (.inr e0), z1, s_fs (x := 0) (by decide) (by decide) g1 b2 b3, if_pos (.inr e1), z2, s_fe (by decide) (by decide)]
        simp [q_ft, e0, e1]
      · rw [s_fs (x := 0) (by decide) (by decide) g0 b0 b1, if_pos (.inr e0), z1, s_fs (x := 0) (by decide) (by decide) g1 b2 b3, if_neg (fun z => z.elim (by decide) e1), z2, s_fe (by decide) (by decide)]
        simp [q_ft, e0, e1]
    · by_cases e1 : (K (Int32.toNatClampNeg (x1))) = 0
      · rw [s_fs (x := 0) (by decide) (by decide) g0 b0 b1, if_neg (fun z => z.elim (by decide) e0), z1, s_fz (by decide), z2, s_fe (by decide) (by decide)]
        simp [q_ft, e0, e1]
      · rw [s_fs (x := 0) (by decide) (by decide) g0 b0 b1, if_neg (fun z => z.elim (by decide) e0), z1, s_fz (by decide), z2, s_fe (by decide) (by decide)]
        simp [q_ft, e0, e1]
  · by_cases e0 : (K (Int32.toNatClampNeg (x0))) = 0
    · by_cases e1 : (K (Int32.toNatClampNeg (x1))) = 0
      · rw [s_fs (x := 0) (by decide) (by decide) g0 b0 b1, if_pos (.inr e0), z1, s_fs (x := 0) (by decide) (by decide) g1 b2 b3, if_pos (.inr e1), z2, s_fe (by decide) (by decide)]
        simp [q_ft, e0, e1]
      · rw [s_fs (x := 0) (by decide) (by decide) g0 b0 b1, if_pos (.inr e0), z1, s_fs (x := 0) (by decide) (by decide) g1 b2 b3, if_neg (fun z => z.elim (by decide) e1), z2, s_fe (by decide) (by decide)]
        simp [q_ft, e0, e1]
    · by_cases e1 : (K (Int32.toNatClampNeg (x1))) = 0
      · rw [s_fs (x := 0) (by decide) (by decide) g0 b0 b1, if_neg (fun z => z.elim (by decide) e0), z1, s_fz (by decide), z2, s_fe (by decide) (by decide)]
        simp [q_ft, e0, e1]
      · rw [s_fs (x := 0) (by decide) (by decide) g0 b0 b1, if_neg (fun z => z.elim (by decide) e0), z1, s_fz (by decide), z2, s_fe (by decide) (by decide)]
        simp [q_ft, e0, e1]
  · by_cases e0 : (K (Int32.toNatClampNeg (x0))) = 0
    · by_cases e1 : (K (Int32.toNatClampNeg (x1))) = 0
      · rw [s_fs (x := 0) (by decide) (by decide) g0 b0 b1, if_pos (.inr e0), z1, s_fs (x := 0) (by decide) (by decide) g1 b2 b3, if_pos (.inr e1), z2, s_fe (by decide) (by decide)]
        simp [q_ft, e0, e1]
      · rw [s_fs (x := 0) (by decide) (by decide) g0 b0 b1, if_pos (.inr e0), z1, s_fs (x := 0) (by decide) (by decide) g1 b2 b3, if_neg (fun z => z.elim (by decide) e1), z2, s_fe (by decide) (by decide)]
        simp [q_ft, e0, e1]
    · by_cases e1 : (K (Int32.toNatClampNeg (x1))) = 0
      · rw [s_fs (x := 0) (by decide) (by decide) g0 b0 b1, if_neg (fun z => z.elim (by decide) e0), z1, s_fz (by decide), z2, s_fe (by decide) (by decide)]
        simp [q_ft, e0, e1]
      · rw [s_fs (x := 0) (by decide) (by decide) g0 b0 b1, if_neg (fun z => z.elim (by decide) e0), z1, s_fz (by decide), z2, s_fe (by decide) (by decide)]
        simp [q_ft, e0, e1]
  · by_cases e0 : (K (Int32.toNatClampNeg (x0))) = 1
    · rw [s_fs (x := 1) (by decide) (by decide) g0 b0 b1, if_pos (.inr e0), z1, s_fs (x := -1) (by decide) (by decide) g1 b2 b3, if_pos (.inl rfl), z2, s_fs (x := -1) (by decide) (by decide) g2 b4 b5, if_pos (.inl rfl), z3, s_fe (by decide) (by decide)]
      simp [q_ft, e0]
    · rw [s_fs (x := 1) (by decide) (by decide) g0 b0 b1, if_neg (fun z => z.elim (by decide) e0), z1, s_fz (by decide), z2, s_fz (by decide), z3, s_fe (by decide) (by decide)]
      simp [q_ft, e0]
  · by_cases e0 : (K (Int32.toNatClampNeg (x0))) = 3
    · by_cases e1 : (K (Int32.toNatClampNeg (x1))) = 3
      · rw [s_fs (x := 3) (by decide) (by decide) g0 b0 b1, if_pos (.inr e0), z1, s_fs (x := 3) (by decide) (by decide) g1 b2 b3, if_pos (.inr e1), z2, s_fe (by decide) (by decide)]
        simp [q_ft, e0, e1]
      · rw [s_fs (x := 3) (by decide) (by decide) g0 b0 b1, if_pos (.inr e0), z1, s_fs (x := 3) (by decide) (by decide) g1 b2 b3, if_neg (fun z => z.elim (by decide) e1), z2, s_fe (by decide) (by decide)]
        simp [q_ft, e0, e1]
    · by_cases e1 : (K (Int32.toNatClampNeg (x1))) = 3
      · rw [s_fs (x := 3) (by decide) (by decide) g0 b0 b1, if_neg (fun z => z.elim (by decide) e0), z1, s_fz (by decide), z2, s_fe (by decide) (by decide)]
        simp [q_ft, e0, e1]
      · rw [s_fs (x := 3) (by decide) (by decide) g0 b0 b1, if_neg (fun z => z.elim (by decide) e0), z1, s_fz (by decide), z2, s_fe (by decide) (by decide)]
        simp [q_ft, e0, e1]
  · by_cases e0 : (K (Int32.toNatClampNeg (x0))) = 3
    · rw [s_fs (x := 3) (by decide) (by decide) g0 b0 b1, if_pos (.inr e0), z1, s_fe (by decide) (by decide)]
      simp [q_ft, e0]
    · rw [s_fs (x := 3) (by decide) (by decide) g0 b0 b1, if_neg (fun z => z.elim (by decide) e0), z1, s_fe (by decide) (by decide)]
      simp [q_ft, e0]
  · by_cases e0 : (K (Int32.toNatClampNeg (x0))) = 3
    · by_cases e1 : (K (Int32.toNatClampNeg (x1))) = 0
      · rw [s_fs (x := 3) (by decide) (by decide) g0 b0 b1, if_pos (.inr e0), z1, s_fs (x := 0) (by decide) (by decide) g1 b2 b3, if_pos (.inr e1), z2, s_fe (by decide) (by decide)]
        simp [q_ft, e0, e1]
      · rw [s_fs (x := 3) (by decide) (by decide) g0 b0 b1, if_pos (.inr e0), z1, s_fs (x := 0) (by decide) (by decide) g1 b2 b3, if_neg (fun z => z.elim (by decide) e1), z2, s_fe (by decide) (by decide)]
        simp [q_ft, e0, e1]
    · by_cases e1 : (K (Int32.toNatClampNeg (x1))) = 0
      · rw [s_fs (x := 3) (by decide) (by decide) g0 b0 b1, if_neg (fun z => z.elim (by decide) e0), z1, s_fz (by decide), z2, s_fe (by decide) (by decide)]
        simp [q_ft, e0, e1]
      · rw [s_fs (x := 3) (by decide) (by decide) g0 b0 b1, if_neg (fun z => z.elim (by decide) e0), z1, s_fz (by decide), z2, s_fe (by decide) (by decide)]
        simp [q_ft, e0, e1]
  · by_cases e0 : (K (Int32.toNatClampNeg (x0))) = 2
    · rw [s_fs (x := 2) (by decide) (by decide) g0 b0 b1, if_pos (.inr e0), z1, s_fs (x := -1) (by decide) (by decide) g1 b2 b3, if_pos (.inl rfl), z2, s_fe (by decide) (by decide)]
      simp [q_ft, e0]
    · rw [s_fs (x := 2) (by decide) (by decide) g0 b0 b1, if_neg (fun z => z.elim (by decide) e0), z1, s_fz (by decide), z2, s_fe (by decide) (by decide)]
      simp [q_ft, e0]
  · by_cases e0 : (K (Int32.toNatClampNeg (x0))) = 3
    · by_cases e1 : (K (Int32.toNatClampNeg (x1))) = 3
      · rw [s_fs (x := 3) (by decide) (by decide) g0 b0 b1, if_pos (.inr e0), z1, s_fs (x := 3) (by decide) (by decide) g1 b2 b3, if_pos (.inr e1), z2, s_fe (by decide) (by decide)]
        simp [q_ft, e0, e1]
      · rw [s_fs (x := 3) (by decide) (by decide) g0 b0 b1, if_pos (.inr e0), z1, s_fs (x := 3) (by decide) (by decide) g1 b2 b3, if_neg (fun z => z.elim (by decide) e1), z2, s_fe (by decide) (by decide)]
        simp [q_ft, e0, e1]
    · by_cases e1 : (K (Int32.toNatClampNeg (x1))) = 3
      · rw [s_fs (x := 3) (by decide) (by decide) g0 b0 b1, if_neg (fun z => z.elim (by decide) e0), z1, s_fz (by decide), z2, s_fe (by decide) (by decide)]
        simp [q_ft, e0, e1]
      · rw [s_fs (x := 3) (by decide) (by decide) g0 b0 b1, if_neg (fun z => z.elim (by decide) e0), z1, s_fz (by decide), z2, s_fe (by decide) (by decide)]
        simp [q_ft, e0, e1]
theorem s_fitsR {w u x0 x1 x2 : Int32} {K P Y G : Nat → Int32} (h0 : 0 ≤ (P (Int32.toNatClampNeg (w)))) (h1 : (P (Int32.toNatClampNeg (w))) ≤ 11) (w0 : 0 ≤ w) (w7 : w < 700) (g0 : M_MO_argument Y G w u 0 = some x0) (g1 : M_MO_argument Y G w u 1 = some x1) (g2 : M_MO_argument Y G w u 2 = some x2) (b0 : 0 ≤ x0) (b1 : x0 < 700) (b2 : 0 ≤ x1) (b3 : x1 < 700) (b4 : 0 ≤ x2) (b5 : x2 < 700) :
    M_MO_fits K P Y G w u = some (q_ft (P (Int32.toNatClampNeg (w))) (K (Int32.toNatClampNeg (x0))) (K (Int32.toNatClampNeg (x1)))) := by
  rw [M_MO_fits, chk, if_pos (And.intro w0 w7)]
  exact s_fitsR1 996 h0 h1 g0 g1 g2 b0 b1 b2 b3 b4 b5
theorem s_cost {w u x0 x1 o a0 a1 n0 n1 : Int32} {K N P Y G k ag : Nat → Int32} {c : Nat → Int64} (h0 : 0 ≤ (P (Int32.toNatClampNeg (w)))) (h1 : (P (Int32.toNatClampNeg (w))) ≤ 11) (w0 : 0 ≤ w) (w7 : w < 700) (g0 : M_MO_argument Y G w u 0 = some x0) (g1 : M_MO_argument Y G w u 1 = some x1) (b0 : 0 ≤ x0) (b1 : x0 < 700) (b2 : 0 ≤ x1) (b3 : x1 < 700)
    (y0 : ag 0 = a0) (y1 : q_ar (P (Int32.toNatClampNeg (w))) ≠ 1 → ag 1 = a1) (d0 : 0 ≤ a0) (d1 : a0 < 600) (d2 : 0 ≤ a1) (d3 : a1 < 600) (k0 : (K (Int32.toNatClampNeg (x0))) = (k (Int32.toNatClampNeg (a0)))) (k1 : (K (Int32.toNatClampNeg (x1))) = (k (Int32.toNatClampNeg (a1))))
    (l0 : (k (Int32.toNatClampNeg (a0))) = 3 → M_Packed_length (c (Int32.toNatClampNeg (a0))) = some (N (Int32.toNatClampNeg (x0))) ∧ 0 ≤ (N (Int32.toNatClampNeg (x0))) ∧ (N (Int32.toNatClampNeg (x0))) ≤ 7) (l1 : (k (Int32.toNatClampNeg (a1))) = 3 → M_Packed_length (c (Int32.toNatClampNeg (a1))) = some (N (Int32.toNatClampNeg (x1))) ∧ 0 ≤ (N (Int32.toNatClampNeg (x1))) ∧ (N (Int32.toNatClampNeg (x1))) ≤ 7) :
    ∃ p, M_Deed_cost (P (Int32.toNatClampNeg (w))) (q_ar (P (Int32.toNatClampNeg (w)))) ag k c = some p ∧ M_MO_price K N P Y G w u = some p ∧ 0 ≤ p ∧ p ≤ 15 := by
  have t0 : at_ 3 ag 0 = a0 := by rw [q_at3 (by decide) (by decide)]; exact y0
  have t1 : q_ar (P (Int32.toNatClampNeg (w))) ≠ 1 → at_ 3 ag 1 = a1 := fun z => by rw [q_at3 (by decide) (by decide)]; exact y1 z
  have t2 : at_ 600 k a0 = (k (Int32.toNatClampNeg (a0))) := q_at600 d0 d1
  have t3 : at_ 600 k a1 = (k (Int32.toNatClampNeg (a1))) := q_at600 d2 d3
  have t4 : atL 600 c a0 = (c (Int32.toNatClampNeg (a0))) := q_atL600 d0 d1
  have t5 : atL 600 c a1 = (c (Int32.toNatClampNeg (a1))) := q_atL600 d2 d3
  rw [M_MO_price, chk, if_pos (And.intro w0 w7)]
  clear y0 y1
  generalize (P (Int32.toNatClampNeg (w))) = o at *
  rcases q_12 h0 h1 with rfl | rfl | rfl | rfl | rfl | rfl | rfl | rfl | rfl | rfl | rfl | rfl
  · exact ⟨2, by simp [M_Deed_cost, q_ar, q_D0, q_D1, q_D2, q_D3, q_D4, q_D5, q_D6, q_D7, q_D8, q_D9, q_D10, q_D11], by simp [M_MO_price_13], by decide, by decide⟩
  · exact ⟨2, by simp [M_Deed_cost, q_ar, q_D0, q_D1, q_D2, q_D3, q_D4, q_D5, q_D6, q_D7, q_D8, q_D9, q_D10, q_D11], by simp [M_MO_price_13], by decide, by decide⟩
  · exact ⟨4, by simp [M_Deed_cost, q_ar, q_D0, q_D1, q_D2, q_D3, q_D4, q_D5, q_D6, q_D7, q_D8, q_D9, q_D10, q_D11], by simp [M_MO_price_13], by decide, by decide⟩
  · exact ⟨4, by simp [M_Deed_cost, q_ar, q_D0, q_D1, q_D2, q_D3, q_D4, q_D5, q_D6, q_D7, q_D8, q_D9, q_D10, q_D11], by simp [M_MO_price_13], by decide, by decide⟩
  · exact ⟨2, by simp [M_Deed_cost, q_ar, q_D0, q_D1, q_D2, q_D3, q_D4, q_D5, q_D6, q_D7, q_D8, q_D9, q_D10, q_D11], by simp [M_MO_price_13], by decide, by decide⟩
  · exact ⟨2, by simp [M_Deed_cost, q_ar, q_D0, q_D1, q_D2, q_D3, q_D4, q_D5, q_D6, q_D7, q_D8, q_D9, q_D10, q_D11], by simp [M_MO_price_13], by decide, by decide⟩
  · exact ⟨1, by simp [M_Deed_cost, q_ar, q_D0, q_D1, q_D2, q_D3, q_D4, q_D5, q_D6, q_D7, q_D8, q_D9, q_D10, q_D11], by simp [M_MO_price_13], by decide, by decide⟩
  · simp [q_ar] at t1
    by_cases e0 : (k (Int32.toNatClampNeg (a0))) = 3 <;> by_cases e1 : (k (Int32.toNatClampNeg (a1))) = 3
    · obtain ⟨z1, z2, z3⟩ := l0 e0
      obtain ⟨z4, z5, z6⟩ := l1 e1
      refine ⟨1 + (N (Int32.toNatClampNeg (x0))) + (N (Int32.toNatClampNeg (x1))), ?_, ?_, by grind, by grind⟩
      · simp [M_Deed_cost, M_Deed_cost_31, q_ar, q_D0, q_D1, q_D2, q_D3, q_D4, q_D5, q_D6, q_D7, q_D8, q_D9, q_D10, q_D11, t0, t1, t2, t3, t4, t5, e0, e1, z1, z4, c1]
      · simp [M_MO_price_13, M_MO_price_33, c1, chk, g0, g1, b0, b1, b2, b3, k0, k1, e0, e1, Int32.add_assoc]
    · obtain ⟨z1, z2, z3⟩ := l0 e0
      refine ⟨1 + (N (Int32.toNatClampNeg (x0))), ?_, ?_, by grind, by grind⟩
      · simp [M_Deed_cost, M_Deed_cost_31, q_ar, q_D0, q_D1, q_D2, q_D3, q_D4, q_D5, q_D6, q_D7, q_D8, q_D9, q_D10, q_D11, t0, t1, t2, t3, t4, t5, e0, e1, z1, c1]
      · simp [M_MO_price_13, M_MO_price_33, c1, chk, g0, g1, b0, b1, b2, b3, k0, k1, e0, e1, Int32.add_assoc]
    · obtain ⟨z4, z5, z6⟩ := l1 e1
      refine ⟨1 + (N (Int32.toNatClampNeg (x1))), ?_, ?_, by grind, by grind⟩
      · simp [M_Deed_cost, M_Deed_cost_31, q_ar, q_D0, q_D1, q_D2, q_D3, q_D4, q_D5, q_D6, q_D7, q_D8, q_D9, q_D10, q_D11, t0, t1, t2, t3, t4, t5, e0, e1, z4, c1]
      · simp [M_MO_price_13, M_MO_price_33, c1, chk, g0, g1, b0, b1, b2, b3, k0, k1, e0, e1, Int32.add_assoc]
    · refine ⟨1, ?_, ?_, by decide, by decide⟩
      · simp [M_Deed_cost, M_Deed_cost_31, q_ar, q_D0, q_D1, q_D2, q_D3, q_D4, q_D5, q_D6, q_D7, q_D8, q_D9, q_D10, q_D11, t0, t1, t2, t3, t4, t5, e0, e1, c1]
      · simp [M_MO_price_13, M_MO_price_33, c1, chk, g0, g1, b0, b1, b2, b3, k0, k1, e0, e1, Int32.add_assoc]
  · exact ⟨1, by simp [M_Deed_cost, q_ar, q_D0, q_D1, q_D2, q_D3, q_D4, q_D5, q_D6, q_D7, q_D8, q_D9, q_D10, q_D11], by simp [M_MO_price_13], by decide, by decide⟩
  · simp [q_ar] at t1
    by_cases e0 : (k (Int32.toNatClampNeg (a0))) = 3 <;> by_cases e1 : (k (Int32.toNatClampNeg (a1))) = 3
    · obtain ⟨z1, z2, z3⟩ := l0 e0
      obtain ⟨z4, z5, z6⟩ := l1 e1
      refine ⟨1 + (N (Int32.toNatClampNeg (x0))) + (N (Int32.toNatClampNeg (x1))), ?_, ?_, by grind, by grind⟩
      · simp [M_Deed_cost, M_Deed_cost_31, q_ar, q_D0, q_D1, q_D2, q_D3, q_D4, q_D5, q_D6, q_D7, q_D8, q_D9, q_D10, q_D11, t0, t1, t2, t3, t4, t5, e0, e1, z1, z4, c1]
      · simp [M_MO_price_13, M_MO_price_33, c1, chk, g0, g1, b0, b1, b2, b3, k0, k1, e0, e1, Int32.add_assoc]
    · obtain ⟨z1, z2, z3⟩ := l0 e0
      refine ⟨1 + (N (Int32.toNatClampNeg (x0))), ?_, ?_, by grind, by grind⟩
      · simp [M_Deed_cost, M_Deed_cost_31, q_ar, q_D0, q_D1, q_D2, q_D3, q_D4, q_D5, q_D6, q_D7, q_D8, q_D9, q_D10, q_D11, t0, t1, t2, t3, t4, t5, e0, e1, z1, c1]
      · simp [M_MO_price_13, M_MO_price_33, c1, chk, g0, g1, b0, b1, b2, b3, k0, k1, e0, e1, Int32.add_assoc]
    · obtain ⟨z4, z5, z6⟩ := l1 e1
      refine ⟨1 + (N (Int32.toNatClampNeg (x1))), ?_, ?_, by grind, by grind⟩
      · simp [M_Deed_cost, M_Deed_cost_31, q_ar, q_D0, q_D1, q_D2, q_D3, q_D4, q_D5, q_D6, q_D7, q_D8, q_D9, q_D10, q_D11, t0, t1, t2, t3, t4, t5, e0, e1, z4, c1]
      · simp [M_MO_price_13, M_MO_price_33, c1, chk, g0, g1, b0, b1, b2, b3, k0, k1, e0, e1, Int32.add_assoc]
    · refine ⟨1, ?_, ?_, by decide, by decide⟩
      · simp [M_Deed_cost, M_Deed_cost_31, q_ar, q_D0, q_D1, q_D2, q_D3, q_D4, q_D5, q_D6, q_D7, q_D8, q_D9, q_D10, q_D11, t0, t1, t2, t3, t4, t5, e0, e1, c1]
      · simp [M_MO_price_13, M_MO_price_33, c1, chk, g0, g1, b0, b1, b2, b3, k0, k1, e0, e1, Int32.add_assoc]
  · exact ⟨1, by simp [M_Deed_cost, q_ar, q_D0, q_D1, q_D2, q_D3, q_D4, q_D5, q_D6, q_D7, q_D8, q_D9, q_D10, q_D11], by simp [M_MO_price_13], by decide, by decide⟩
  · exact ⟨2, by simp [M_Deed_cost, q_ar, q_D0, q_D1, q_D2, q_D3, q_D4, q_D5, q_D6, q_D7, q_D8, q_D9, q_D10, q_D11], by simp [M_MO_price_13], by decide, by decide⟩
