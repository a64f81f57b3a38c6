theorem q_node2 {n lm c0 w : Nat} {tx : Nat → Int32} {ve at' er : Int32} {lam pk pf ps : Nat → Int32} {pc : Nat → Int64} {tg sb nu : Nat → Int32} {ch : Nat → Int64} {fi se de la ow : Nat → Int32} {a1 : Int32} (hw : w < 60) (hc : c0 < 60) (he : er = 0) (ho : q_Ow (ow w) c0) (hl : lm ≤ 20) {de1 la1 ow1 : Nat → Int32}
    (hr : M_MO_readTerm (Int32.ofNat n) at' 0 (Int32.ofNat w) tx tg sb nu ch de la ow (Int32.ofNat (60 + c0)) (de w) (la w) = some (a1, 0, Int32.ofNat (w + 2), upd tg (60 + c0) (Int32.ofNat 3), upd sb (60 + c0) 0, upd nu (60 + c0) 0, vp_updL ch (60 + c0) 0, de1, la1, ow1))
    (hd : ∀ j, j < w → de1 j = de j ∧ la1 j = la j ∧ ow1 j = ow j) (how : ow1 w = Int32.ofNat (2 * (60 + c0) + 1)) (how1 : ow1 (w + 1) = Int32.ofNat (2 * (60 + c0)))
    {c1 lo1 : Nat} {lam1 : Nat → Int32} {at1 er1 : Int32} {tg1 sb1 nu1 : Nat → Int32} {ch1 : Nat → Int64} {fi1 se1 de2 la2 ow2 : Nat → Int32} {pk1 pf1 ps1 : Nat → Int32} {pc1 : Nat → Int64}
    (a3 : c0 + 1 < c1) (a4 : c1 ≤ 60)
    (a8 : ∀ g : Nat, M_MO_readText_61 (Int32.ofNat n) tx (g + (c1 - (c0 + 1))) a1 0 (Int32.ofNat (60 + (c0 + 1))) ve (Int32.ofNat (w + 1 + 1)) (upd tg (60 + c0) (Int32.ofNat 3)) (upd sb (60 + c0) 0) (upd nu (60 + c0) 0) (vp_updL ch (60 + c0) 0) (q_of (ow w) (Int32.ofNat (60 + c0)) fi) (q_os (ow w) (Int32.ofNat (60 + c0)) se) de1 la1 ow1 = M_MO_readText_61 (Int32.ofNat n) tx g at1 er1 (Int32.ofNat (60 + c1)) ve (Int32.ofNat (w + 1)) tg1 sb1 nu1 ch1 fi1 se1 de2 la2 ow2)
    (a9 : ∀ j : Nat, j < w + 1 → de2 j = de1 j ∧ la2 j = la1 j ∧ ow2 j = ow1 j)
    (a10 : ∀ j : Nat, j < 60 + (c0 + 1) → tg1 j = (upd tg (60 + c0) (Int32.ofNat 3)) j ∧ sb1 j = (upd sb (60 + c0) 0) j ∧ nu1 j = (upd nu (60 + c0) 0) j ∧ ch1 j = (vp_updL ch (60 + c0) 0) j ∧ fi1 j = q_of (ow1 (w + 1)) (Int32.ofNat (60 + (c0 + 1))) (q_of (ow w) (Int32.ofNat (60 + c0)) fi) j ∧ se1 j = q_os (ow1 (w + 1)) (Int32.ofNat (60 + (c0 + 1))) (q_os (ow w) (Int32.ofNat (60 + c0)) se) j)
    (a11 : ∀ j : Nat, j < c0 + 1 → pk1 j = (upd pk c0 (Int32.ofNat 3)) j ∧ pf1 j = (upd pf c0 (-1)) j ∧ ps1 j = (upd ps c0 (-1)) j ∧ pc1 j = (vp_updL pc c0 0) j ∧ lam1 j = (upd lam c0 (Int32.ofNat lm)) j) (a12 : lam1 (c0 + 1) = Int32.ofNat lm)
    (a13 : ∀ t : Nat, c0 + 1 ≤ t → t < c1 → q_T (Int32.ofNat c1) lam1 pk1 pf1 ps1 pc1 (q_Sh tg1) (q_Sh sb1) (q_Sh nu1) (q_SL ch1) (q_Sm fi1) (q_Sm se1) (Int32.ofNat t))
    {rr cnt2 : Int32} {pk2 pf2 ps2 : Nat → Int32} {pc2 : Nat → Int64} {pl2 wr2 : Int32} (her : er1 = 0)
    (hG : q_Good n lm c1 w tx ve at1 er1 lam1 pk1 (upd pf1 c0 (Int32.ofNat (c0 + 1))) ps1 pc1 tg1 sb1 nu1 ch1 fi1 se1 de2 la2 ow2 rr cnt2 pk2 pf2 ps2 pc2 pl2 wr2) :
    q_Good n lm c0 w tx ve at' er lam pk pf ps pc tg sb nu ch fi se de la ow (Int32.ofNat c0) cnt2 pk2 pf2 (upd ps2 c0 rr) pc2 pl2 wr2 := by
  obtain ⟨c2, lo2, lam2, at2, er2, tg2, sb2, nu2, ch2, fi2, se2, de3, la3, ow3, rfl, rfl, b3, b4, b5, b6, b7, b8, b9, b10, b11, b12, b13⟩ := hG
  subst he her
  obtain ⟨o1, o2, o3⟩ := q_own (q := c0) (b := 0) hc (by decide)
  obtain ⟨p1, p2, p3⟩ := q_own (q := c0) (b := 1) hc (by decide)
  have hfo : ∀ f : Nat → Int32, q_of (ow1 (w + 1)) (Int32.ofNat (60 + (c0 + 1))) f = upd f (60 + c0) (Int32.ofNat (60 + (c0 + 1))) := fun f => by
    have e : ow1 (w + 1) = Int32.ofNat (2 * (60 + c0) + 0) := how1
    rw [e, q_of, if_neg o3, o2, if_pos (by decide), o1, b_clamp (by omega)]
  have hso : ∀ f : Nat → Int32, q_os (ow1 (w + 1)) (Int32.ofNat (60 + (c0 + 1))) f = f := fun f => by
    have e : ow1 (w + 1) = Int32.ofNat (2 * (60 + c0) + 0) := how1
    rw [e, q_os, if_neg o3, o2, if_pos (by decide)]
  have how2 : ow2 w = Int32.ofNat (2 * (60 + c0) + 1) := by rw [(a9 w (by omega)).2.2]; exact how
  have hfo2 : ∀ f : Nat → Int32, q_of (ow2 w) (Int32.ofNat (60 + c1)) f = f := fun f => by
    rw [how2, q_of, if_neg p3, p2, if_neg (by decide)]
  have hso2 : ∀ f : Nat → Int32, q_os (ow2 w) (Int32.ofNat (60 + c1)) f = upd f (60 + c0) (Int32.ofNat (60 + c1)) := fun f => by
    rw [how2, q_os, if_neg p3, p2, if_neg (by decide), p1, b_clamp (by omega)]
  rw [hfo, hso] at a10
  rw [hfo2, hso2] at b10
  have u1 : ∀ (f : Nat → Int32) (i : Nat) (v : Int32), upd f i v i = v := fun f i v => by simp [upd]
  have uL : ∀ (f : Nat → Int64) (i : Nat) (v : Int64), vp_updL f i v i = v := fun f i v => by simp [vp_updL]
  obtain ⟨z1, z2, z3, z4, z5, z6⟩ := a10 (60 + c0) (by omega)
  obtain ⟨x1, x2, x3, x4, x5, x6⟩ := b10 (60 + c0) (by omega)
  obtain ⟨y1, y2, y3, y4, y5⟩ := a11 c0 (by omega)
  obtain ⟨v1, v2, v3, v4, v5⟩ := b11 c0 (by omega)
  rw [u1] at z1 z2 z3 z5 y1 y2 y3 y5 x6 v2
  rw [uL] at z4 y4
  have hq : q_Sm fi2 c0 = Int32.ofNat (c0 + 1) := q_Sm1 (x5.trans z5) (by omega)
  have hq2 : q_Sm se2 c0 = Int32.ofNat c1 := q_Sm1 x6 (by omega)
  have n1 : Int32.ofNat (c0 + 1) < Int32.ofNat c2 := (b_lt (by omega) (by omega)).mpr (by omega)
  have n0 : (0 : Int32) ≤ Int32.ofNat (c0 + 1) := (b_le (a := 0) (by decide) (by omega)).mpr (by omega)
  have m1 : Int32.ofNat c1 < Int32.ofNat c2 := (b_lt (by omega) (by omega)).mpr (by omega)
  have m0 : (0 : Int32) ≤ Int32.ofNat c1 := (b_le (a := 0) (by decide) (by omega)).mpr (by omega)
  have l0 : (0 : Int32) ≤ Int32.ofNat lm := (b_le (a := 0) (by decide) (by omega)).mpr (by omega)
  have l21 : Int32.ofNat lm ≤ 21 := (b_le (b := 21) (by omega) (by decide)).mpr (by omega)
  have hlam : lam2 c0 = Int32.ofNat lm := v5.trans y5
  refine ⟨c2, lo2, lam2, at2, er2, tg2, sb2, nu2, ch2, fi2, se2, de3, la3, ow3, rfl, rfl, by omega, b4, b5, b6, b7, fun g => ?_, fun j hj => ?_, fun j hj => ?_, fun j hj => ?_, hlam, fun t t0 t1 => ?_⟩
  · rw [show g + (c2 - c0) = (g + (c2 - c1) + (c1 - (c0 + 1))) + 1 by omega, s_61 (by omega) (by omega) ho hr, if_pos rfl, q_fo1]
    exact (a8 (g + (c2 - c1))).trans (b8 g)
  · obtain ⟨t1, t2, t3⟩ := b9 j hj
    obtain ⟨t4, t5, t6⟩ := a9 j (by omega)
    obtain ⟨t7, t8, t9⟩ := hd j hj
    exact ⟨t1.trans (t4.trans t7), t2.trans (t5.trans t8), t3.trans (t6.trans t9)⟩
  · obtain ⟨t1, t2, t3, t4, t5, t6⟩ := b10 j (by omega)
    obtain ⟨s1, s2, s3, s4, s5, s6⟩ := a10 j (by omega)
    have nj : ¬ j = 60 + c0 := by omega
    simp only [upd, vp_updL, if_neg nj] at t6 s1 s2 s3 s4 s5
    exact ⟨t1.trans s1, t2.trans s2, t3.trans s3, t4.trans s4, t5.trans s5, t6.trans s6⟩
  · obtain ⟨t1, t2, t3, t4, t5⟩ := b11 j (by omega)
    obtain ⟨s1, s2, s3, s4, s5⟩ := a11 j (by omega)
    have nj : ¬ j = c0 := by omega
    simp only [upd, vp_updL, if_neg nj] at t2 s1 s2 s3 s4 s5 ⊢
    exact ⟨t1.trans s1, t2.trans s2, t3.trans s3, t4.trans s4, t5.trans s5⟩
  · have bct := b_clamp (a := t) (by omega)
    have t0' : (0 : Int32) ≤ Int32.ofNat t := (b_le (a := 0) (by decide) (by omega)).mpr (by omega)
    by_cases ht : t = c0
    · subst ht
      have bc1 := b_clamp (a := t + 1) (by omega)
      have bc2 := b_clamp (a := c1) (by omega)
      have T1 : (q_Sh tg2) t = Int32.ofNat 3 := x1.trans z1
      have L1 : lam2 (t + 1) = Int32.ofNat lm := ((b11 (t + 1) (by omega)).2.2.2.2).trans a12
      unfold q_T
      rw [bct, T1, v1, y1, hlam, u1, hq, hq2, v2, bc1, bc2, L1, b12]
      refine ⟨rfl, by decide, by decide, l0, l21, fun z => absurd z (by decide), fun _ => ⟨rfl, n0, n1⟩, fun _ => rfl, fun z => absurd z (by decide), fun _ => ⟨rfl, m0, m1, rfl⟩, fun z => absurd z (by decide), fun z => absurd z (by decide)⟩
    · by_cases hc1 : t < c1
      · have hh := a13 t (by omega) hc1
        obtain ⟨t1', t2, t3, t4, t5, t6⟩ := b10 (60 + t) (by omega)
        obtain ⟨s1, s2, s3, s4, s5⟩ := b11 t hc1
        have nj : ¬ t = c0 := ht
        have nk : ¬ 60 + t = 60 + c0 := by omega
        simp only [upd, if_neg nj] at s2
        simp only [upd, if_neg nk] at t6
        refine hh.mono t0' ((b_lt (by omega) (by omega)).mpr hc1) (Int32.le_of_lt m1) (fun j j0 j1 => ?_) (by rw [bct]; exact s1) (by rw [bct]; exact s2) (by rw [bct]; simp only [upd, if_neg nj]; exact s3) (by rw [bct]; exact s4) (by rw [bct]; exact t1') (by rw [bct]; exact t2) (by rw [bct]; exact t3) (by rw [bct]; exact t4) (by rw [bct, q_Sm, q_Sm, t5]) (by rw [bct, q_Sm, q_Sm, t6])
        obtain ⟨q, rfl, hq'⟩ := b_of j0
        rw [b_clamp hq']
        exact (b11 q ((b_lt hq' (by omega)).mp j1)).2.2.2.2
      · have hh := b13 t (by omega) t1
        exact hh.mono t0' ((b_lt (by omega) (by omega)).mpr t1) Int32.le_rfl (fun _ _ _ => rfl) rfl rfl (by rw [bct]; simp only [upd, if_neg ht]) rfl rfl rfl rfl rfl rfl rfl
