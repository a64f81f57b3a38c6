theorem s_rt {n at' at1 : Int32} {tx : Nat → Int32} {tg sb nu : Nat → Int32} {ch : Nat → Int64} {de la ow : Nat → Int32} {w c0 d lm x : Nat} (hc : c0 < 60) (hd : d ≤ 20) (hb : M_MO_bits n at' 0 tx 3 = some (Int32.ofNat x, at1, 0)) :
    M_MO_readTerm n at' 0 (Int32.ofNat w) tx tg sb nu ch de la ow (Int32.ofNat (60 + c0)) (Int32.ofNat d) (Int32.ofNat lm) = M_MO_readTerm_36 n tx at1 0 (Int32.ofNat w) tg sb nu ch de la ow (Int32.ofNat (60 + c0)) (Int32.ofNat d) (Int32.ofNat lm) (Int32.ofNat x) := by
  have i1 : ¬ 120 ≤ Int32.ofNat (60 + c0) := by
    rw [show (120 : Int32) = Int32.ofNat 120 from rfl, b_le (by decide) (by omega)]; omega
  have i2 : Int32.ofNat d ≤ 20 := (b_le (b := 20) (by omega) (by decide)).mpr hd
  rw [M_MO_readTerm, hb, k3, if_pos rfl, if_neg i1, if_pos i2]
theorem s_36 {n at' : Int32} {tx : Nat → Int32} {tg sb nu : Nat → Int32} {ch : Nat → Int64} {de la ow : Nat → Int32} {wa x2 x3 : Int32} {c0 x : Nat} (hc : c0 < 60) (h0 : x ≠ 0) (h4 : x ≠ 4) (h7 : x ≠ 7) (h8 : x < 8) :
    M_MO_readTerm_36 n tx at' 0 wa tg sb nu ch de la ow (Int32.ofNat (60 + c0)) x2 x3 (Int32.ofNat x) = M_MO_readTerm_170 n tx at' 0 wa (upd tg (60 + c0) (Int32.ofNat x)) (upd sb (60 + c0) 0) (upd nu (60 + c0) 0) (vp_updL ch (60 + c0) 0) de la ow (Int32.ofNat (60 + c0)) x2 x3 (Int32.ofNat x) := by
  have i0 : (0 : Int32) ≤ Int32.ofNat (60 + c0) := (b_le (a := 0) (by decide) (by omega)).mpr (by omega)
  have i1 : Int32.ofNat (60 + c0) < 120 := (b_lt (b := 120) (by omega) (by decide)).mpr (by omega)
  have z0 : ¬ Int32.ofNat x = 0 := fun z => h0 (b_inj32 (b := 0) (by omega) (by decide) z)
  have z4 : ¬ Int32.ofNat x = 4 := fun z => h4 (b_inj32 (b := 4) (by omega) (by decide) z)
  have z7 : ¬ Int32.ofNat x = 7 := fun z => h7 (b_inj32 (b := 7) (by omega) (by decide) z)
  have p0 : (0 : Int32) ≤ 0 := Int32.le_rfl
  simp only [M_MO_readTerm_36, p0, if_true, chk, i0, i1, and_self, z0, z4, z7, if_false, b_clamp (show 60 + c0 < 2 ^ 31 by omega)]
theorem s_cl {F : Nat} {n pl wr pl1 : Int32} {by' : Nat → Int32} {pk pf ps : Nat → Int32} {pc : Nat → Int64} {c0 d lm x : Nat} (hc : c0 < 60) (hd : d ≤ 20) (hb : M_Text_take n pl wr by' 3 = some (Int32.ofNat x, pl1, -1)) :
    M_Program_fillTerm (F + 1) (Int32.ofNat c0) pk pf ps pc n pl wr by' (Int32.ofNat d) (Int32.ofNat lm) = M_Program_fillTerm_43 (fun y0 y1 y2 y3 y4 y5 y6 y7 y8 y9 y10 => M_Program_fillTerm F y0 y1 y2 y3 y4 y5 y6 y7 y8 y9 y10) n by' (Int32.ofNat (c0 + 1)) (upd pk c0 (Int32.ofNat x)) (upd pf c0 (-1)) (upd ps c0 (-1)) (vp_updL pc c0 0) pl1 (-1) (Int32.ofNat d) (Int32.ofNat lm) (Int32.ofNat x) (Int32.ofNat c0) := by
  have i2 : Int32.ofNat d ≤ 20 := (b_le (b := 20) (by omega) (by decide)).mpr hd
  have i0 : (0 : Int32) ≤ Int32.ofNat c0 := (b_le (a := 0) (by decide) (by omega)).mpr (by omega)
  have i1 : Int32.ofNat c0 < 60 := (b_lt (b := 60) (by omega) (by decide)).mpr (by omega)
  have e1 : Int32.ofNat c0 + 1 = Int32.ofNat (c0 + 1) := by rw [show (1 : Int32) = Int32.ofNat 1 from rfl, b_add]
  have e2 : Int32.ofNat (c0 + 1) - 1 = Int32.ofNat c0 := b_sub (b := 1) (by omega) (by omega)
  have ha : M_Program_add (Int32.ofNat c0) pk pf ps pc (Int32.ofNat x) = some (Int32.ofNat c0, Int32.ofNat (c0 + 1), upd pk c0 (Int32.ofNat x), upd pf c0 (-1), upd ps c0 (-1), vp_updL pc c0 0) := by
    simp only [M_Program_add, i0, i1, if_true, chk, and_self, e1, e2, b_clamp (show c0 < 2 ^ 31 by omega)]
  rw [M_Program_fillTerm, hb, k3, if_pos rfl, if_pos i2, M_Program_fillTerm_26, if_pos rfl, ha, k6]
theorem s_zz {c0 : Nat} (hc : c0 < 60) : Int32.ofNat c0 ≠ -1 ∧ (0 : Int32) ≤ Int32.ofNat c0 ∧ Int32.ofNat c0 < 60 ∧ (Int32.ofNat c0).toNatClampNeg = c0 := by
  have i0 : (0 : Int32) ≤ Int32.ofNat c0 := (b_le (a := 0) (by decide) (by omega)).mpr (by omega)
  refine ⟨fun z => ?_, i0, (b_lt (b := 60) (by omega) (by decide)).mpr (by omega), b_clamp (by omega)⟩
  rw [z] at i0; exact absurd i0 (by decide)
theorem q_Sm1 {c0 c1 : Nat} {f : Nat → Int32} (h : f (60 + c0) = Int32.ofNat (60 + c1)) (hc : c1 ≤ 60) : q_Sm f c0 = Int32.ofNat c1 := by
  rw [q_Sm, h, show (60 : Int32) = Int32.ofNat 60 from rfl, b_sub (by omega) (by omega)]; congr 1; omega
theorem q_node1 {n lm c0 w : Nat} {tx : Nat → Int32} {ve at' er : Int32} {lam pk pf ps : Nat → Int32} {pc : Nat → Int64} {tg sb nu : Nat → Int32} {ch : Nat → Int64} {fi se de la ow : Nat → Int32} {x lm1 : Nat} {a1 rr cnt1 : Int32} {pk1 pf1 ps1 : Nat → Int32} {pc1 : Nat → Int64} {pl1 wr1 : Int32} (hw : w < 60) (hc : c0 < 60) (he : er = 0) (ho : q_Ow (ow w) c0) (hl : lm ≤ 20) (hx : x = 1 ∨ x = 2 ∨ x = 5) (hl1 : lm1 = if x = 2 then lm + 1 else lm) {de1 la1 : Nat → Int32}
    (hr : M_MO_readTerm (Int32.ofNat n) at' 0 (Int32.ofNat w) tx tg sb nu ch de la ow (Int32.ofNat (60 + c0)) (de w) (la w) = some (a1, 0, Int32.ofNat (w + 1), upd tg (60 + c0) (Int32.ofNat x), upd sb (60 + c0) 0, upd nu (60 + c0) 0, vp_updL ch (60 + c0) 0, de1, la1, upd ow w (Int32.ofNat (2 * (60 + c0)))))
    (hd : ∀ j, j < w → de1 j = de j ∧ la1 j = la j)
    (hG : q_Good n lm1 (c0 + 1) w tx ve a1 0 (upd lam c0 (Int32.ofNat lm)) (upd pk c0 (Int32.ofNat x)) (upd pf c0 (-1)) (upd ps c0 (-1)) (vp_updL pc c0 0) (upd tg (60 + c0) (Int32.ofNat x)) (upd sb (60 + c0) 0) (upd nu (60 + c0) 0) (vp_updL ch (60 + c0) 0) (q_of (ow w) (Int32.ofNat (60 + c0)) fi) (q_os (ow w) (Int32.ofNat (60 + c0)) se) de1 la1 (upd ow w (Int32.ofNat (2 * (60 + c0)))) rr cnt1 pk1 pf1 ps1 pc1 pl1 wr1) :
    q_Good n lm c0 w tx ve at' er lam pk pf ps pc tg sb nu ch fi se de la ow (Int32.ofNat c0) cnt1 pk1 (upd pf1 c0 rr) ps1 pc1 pl1 wr1 := by
  obtain ⟨c1, lo1, lam1, at1, er1, tg1, sb1, nu1, ch1, fi1, se1, de2, la2, ow2, rfl, rfl, a3, a4, a5, a6, a7, a8, a9, a10, a11, a12, a13⟩ := hG
  subst he
  obtain ⟨o1, o2, o3⟩ := q_own (q := c0) (b := 0) hc (by decide)
  have hfo : ∀ f : Nat → Int32, q_of ((upd ow w (Int32.ofNat (2 * (60 + c0)))) w) (Int32.ofNat (60 + (c0 + 1))) f = upd f (60 + c0) (Int32.ofNat (60 + (c0 + 1))) := fun f => by
    have e : (upd ow w (Int32.ofNat (2 * (60 + c0)))) w = Int32.ofNat (2 * (60 + c0) + 0) := by simp [upd]
    rw [e, q_of, if_neg o3, o2, if_pos (by decide), o1, b_clamp (by omega)]
  have hso : ∀ f : Nat → Int32, q_os ((upd ow w (Int32.ofNat (2 * (60 + c0)))) w) (Int32.ofNat (60 + (c0 + 1))) f = f := fun f => by
    have e : (upd ow w (Int32.ofNat (2 * (60 + c0)))) w = Int32.ofNat (2 * (60 + c0) + 0) := by simp [upd]
    rw [e, q_os, if_neg o3, o2, if_pos (by decide)]
  rw [hfo, hso] at a10
  obtain ⟨z1, z2, z3, z4, z5, z6⟩ := a10 (60 + c0) (by omega)
  obtain ⟨y1, y2, y3, y4, y5⟩ := a11 c0 (by omega)
  have u1 : ∀ (f : Nat → Int32) (i : Nat) (v : Int32), upd f i v i = v := fun f i v => by simp [upd]
  have uL : ∀ (f : Nat → Int64) (i : Nat) (v : Int64), vp_updL f i v i = v := fun f i v => by simp [vp_updL]
  rw [u1] at z1 z2 z3 z5 y1 y2 y3 y5
  rw [uL] at z4 y4
  have hq : q_Sm fi1 c0 = Int32.ofNat (c0 + 1) := q_Sm1 z5 (by omega)
  have n1 : Int32.ofNat (c0 + 1) < Int32.ofNat c1 := (b_lt (by omega) (by omega)).mpr (by omega)
  have n0 : (0 : Int32) ≤ Int32.ofNat (c0 + 1) := (b_le (a := 0) (by decide) (by omega)).mpr (by omega)
  have l0 : (0 : Int32) ≤ Int32.ofNat lm := (b_le (a := 0) (by decide) (by omega)).mpr (by omega)
  have l21 : Int32.ofNat lm ≤ 21 := (b_le (b := 21) (by omega) (by decide)).mpr (by omega)
  refine ⟨c1, lo1, lam1, at1, er1, tg1, sb1, nu1, ch1, fi1, se1, de2, la2, ow2, rfl, rfl, by omega, a4, a5, a6, a7, fun g => ?_, fun j hj => ?_, fun j hj => ?_, fun j hj => ?_, y5, fun t t0 t1 => ?_⟩
  · rw [show g + (c1 - c0) = (g + (c1 - (c0 + 1))) + 1 by omega, s_61 (by omega) (by omega) ho hr, if_pos rfl, q_fo1]
    exact a8 g
  · obtain ⟨x1, x2, x3⟩ := a9 j hj
    rw [x1, x2, x3, (hd j hj).1, (hd j hj).2]
    exact ⟨rfl, rfl, by simp only [upd]; rw [if_neg (by omega)]⟩
  · obtain ⟨x1, x2, x3, x4, x5, x6⟩ := a10 j (by omega)
    rw [x1, x2, x3, x4, x5, x6]
    simp only [upd, vp_updL, if_neg (show ¬ j = 60 + c0 by omega), and_self]
  · obtain ⟨x1, x2, x3, x4, x5⟩ := a11 j (by omega)
    simp only [upd, if_neg (show ¬ j = c0 by omega)]
    rw [x1, x2, x3, x4, x5]
    simp only [upd, vp_updL, if_neg (show ¬ j = c0 by omega), and_self]
  · by_cases ht : t = c0
    · subst ht
      have bc := b_clamp (a := t) (by omega)
      have bc1 := b_clamp (a := t + 1) (by omega)
      have T1 : (q_Sh tg1) t = Int32.ofNat x := z1
      unfold q_T
      rw [bc, T1, y1, y5, u1, hq, bc1, a12]
      refine ⟨rfl, ?_, ?_, l0, l21, ?_, fun _ => ⟨rfl, n0, n1⟩, ?_, ?_, ?_, ?_, ?_⟩
      · rcases hx with rfl | rfl | rfl <;> decide
      · rcases hx with rfl | rfl | rfl <;> decide
      · intro z; rcases hx with rfl | rfl | rfl <;> exact absurd z (by decide)
      · intro z
        rcases hx with rfl | rfl | rfl
        · rw [hl1, if_neg (by decide)]
        · exact absurd z (by decide)
        · rw [hl1, if_neg (by decide)]
      · intro z
        rcases hx with rfl | rfl | rfl
        · exact absurd z (by decide)
        · rw [hl1, if_pos rfl, show (1 : Int32) = Int32.ofNat 1 from rfl, b_add]
        · exact absurd z (by decide)
      · intro z; rcases hx with rfl | rfl | rfl <;> exact absurd z (by decide)
      · intro z; rcases hx with rfl | rfl | rfl <;> exact absurd z (by decide)
      · intro z; rcases hx with rfl | rfl | rfl <;> exact absurd z (by decide)
    · have hh := a13 t (by omega) t1
      have bc := b_clamp (a := t) (by omega)
      exact hh.mono ((b_le (a := 0) (by decide) (by omega)).mpr (by omega)) ((b_lt (by omega) (by omega)).mpr t1) Int32.le_rfl (fun _ _ _ => rfl) rfl (by rw [bc]; simp only [upd, if_neg ht]) rfl rfl rfl rfl rfl rfl rfl rfl
