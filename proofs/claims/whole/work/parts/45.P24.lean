def q_Good (n lm c0 w : Nat) (tx : Nat → Int32) (ve at' er : Int32) (lam pk pf ps : Nat → Int32) (pc : Nat → Int64) (tg sb nu : Nat → Int32) (ch : Nat → Int64) (fi se de la ow : Nat → Int32) (rr cnt1 : Int32) (pk1 pf1 ps1 : Nat → Int32) (pc1 : Nat → Int64) (pl1 wr1 : Int32) : Prop :=
  ∃ (c1 lo1 : Nat) (lam1 : Nat → Int32) (at1 er1 : Int32) (tg1 sb1 nu1 : Nat → Int32) (ch1 : Nat → Int64) (fi1 se1 de1 la1 ow1 : Nat → Int32),
    rr = Int32.ofNat c0 ∧ cnt1 = Int32.ofNat c1 ∧ c0 < c1 ∧ c1 ≤ 60 ∧ 1 ≤ lo1 ∧ q_OB n lo1 pl1 wr1 at1 er1 ∧ wr1 = -1 ∧
    (∀ g : Nat, M_MO_readText_61 (Int32.ofNat n) tx (g + (c1 - c0)) at' er (Int32.ofNat (60 + c0)) ve (Int32.ofNat (w + 1)) tg sb nu ch fi se de la ow = M_MO_readText_61 (Int32.ofNat n) tx g at1 er1 (Int32.ofNat (60 + c1)) ve (Int32.ofNat w) tg1 sb1 nu1 ch1 fi1 se1 de1 la1 ow1) ∧
    (∀ j : Nat, j < w → de1 j = de j ∧ la1 j = la j ∧ ow1 j = ow j) ∧
    (∀ j : Nat, j < 60 + c0 → tg1 j = tg j ∧ sb1 j = sb j ∧ nu1 j = nu j ∧ ch1 j = ch j ∧ fi1 j = q_of (ow w) (Int32.ofNat (60 + c0)) fi j ∧ se1 j = q_os (ow w) (Int32.ofNat (60 + c0)) se j) ∧
    (∀ j : Nat, j < c0 → pk1 j = pk j ∧ pf1 j = pf j ∧ ps1 j = ps j ∧ pc1 j = pc j ∧ lam1 j = lam j) ∧ lam1 c0 = Int32.ofNat lm ∧
    (∀ t : Nat, c0 ≤ t → t < c1 → q_T (Int32.ofNat c1) lam1 pk1 pf1 ps1 pc1 (q_Sh tg1) (q_Sh sb1) (q_Sh nu1) (q_SL ch1) (q_Sm fi1) (q_Sm se1) (Int32.ofNat t))
def q_Wr (n c0 w : Nat) (tx : Nat → Int32) (ve at' er : Int32) (tg sb nu : Nat → Int32) (ch : Nat → Int64) (fi se de la ow : Nat → Int32) (pl1 wr1 : Int32) : Prop :=
  (∃ p w1, p ≤ 8 * n ∧ w1 ≤ 640 ∧ pl1 = Int32.ofNat p ∧ wr1 = Int32.ofNat w1) ∧
    ∀ f1 : Nat, 62 ≤ f1 + c0 → ∃ (at2 fo2 wa2 : Int32) (tg2 sb2 nu2 : Nat → Int32) (ch2 : Nat → Int64) (fi2 se2 de2 la2 ow2 : Nat → Int32), M_MO_readText_61 (Int32.ofNat n) tx f1 at' er (Int32.ofNat (60 + c0)) ve (Int32.ofNat (w + 1)) tg sb nu ch fi se de la ow = some (at2, -1 - wr1, fo2, ve, wa2, tg2, sb2, nu2, ch2, fi2, se2, de2, la2, ow2) ∧ ∀ j, j < 60 → tg2 j = tg j ∧ sb2 j = sb j ∧ nu2 j = nu j ∧ ch2 j = ch j ∧ fi2 j = fi j ∧ se2 j = se j
theorem q_OB.wr {n lo : Nat} {pl wr at' er : Int32} (h : q_OB n lo pl wr at' er) (hw : wr ≠ -1) : (∃ p w1, p ≤ 8 * n ∧ w1 ≤ 640 ∧ pl = Int32.ofNat p ∧ wr = Int32.ofNat w1) ∧ er = -1 - wr ∧ er ≠ 0 := by
  obtain ⟨h1, h2, h3⟩ := h.bad hw
  rcases h with ⟨p, h0, h1, h2, h3, h4, h5⟩ | ⟨p, w, a1, a2, a3, a4, a5⟩
  · exact absurd h4 hw
  · exact ⟨⟨p, w, a1, a2, a3, a4⟩, h3, h2⟩
theorem q_fo1 {c0 : Nat} : Int32.ofNat (60 + c0) + 1 = Int32.ofNat (60 + (c0 + 1)) := by
  rw [show (1 : Int32) = Int32.ofNat 1 from rfl, b_add]; rfl
theorem q_leafBad {n lm c0 w : Nat} {tx : Nat → Int32} {ve at' er : Int32} {lam pk pf ps : Nat → Int32} {pc : Nat → Int64} {tg sb nu : Nat → Int32} {ch : Nat → Int64} {fi se de la ow : Nat → Int32} {pl1 wr1 a1 e1 w1 : Int32} {lo1 : Nat} {tg1 sb1 nu1 : Nat → Int32} {ch1 : Nat → Int64} {de1 la1 ow1 : Nat → Int32} (hw : w < 63) (hc : c0 ≤ 60) (he : er = 0) (ho : q_Ow (ow w) c0)
    (hr : M_MO_readTerm (Int32.ofNat n) at' 0 (Int32.ofNat w) tx tg sb nu ch de la ow (Int32.ofNat (60 + c0)) (de w) (la w) = some (a1, e1, w1, tg1, sb1, nu1, ch1, de1, la1, ow1))
    (hO : q_OB n lo1 pl1 wr1 a1 e1) (hwr : wr1 ≠ -1) (ho1 : ∀ j, j < 60 → tg1 j = tg j ∧ sb1 j = sb j ∧ nu1 j = nu j ∧ ch1 j = ch j) : q_Wr n c0 w tx ve at' er tg sb nu ch fi se de la ow pl1 wr1 := by
  obtain ⟨h1, h2, h3⟩ := hO.wr hwr
  refine ⟨h1, fun f1 hf => ?_⟩
  obtain ⟨f, rfl⟩ : ∃ x, f1 = x + 1 + 1 := ⟨f1 - 2, by omega⟩
  subst he
  rw [s_61 hw hc ho hr, if_neg h3, s_61e h3, h2]
  exact ⟨_, _, _, _, _, _, _, _, _, _, _, _, rfl, fun j hj => ⟨(ho1 j hj).1, (ho1 j hj).2.1, (ho1 j hj).2.2.1, (ho1 j hj).2.2.2, rfl, rfl⟩⟩
theorem q_ofL {ow fo : Int32} {c0 j : Nat} {f : Nat → Int32} (h : q_Ow ow c0) (hc : c0 ≤ 60) (hj : j < 60) : q_of ow fo f j = f j ∧ q_os ow fo f j = f j := by
  rcases h with rfl | ⟨q, b, hq, hb, rfl⟩
  · simp [q_of, q_os]
  · obtain ⟨o1, o2, o3⟩ := q_own (q := q) (b := b) (by omega) hb
    rw [q_of, q_os, if_neg o3, if_neg o3, o1, b_clamp (by omega)]
    constructor
    · split
      · simp only [upd]; rw [if_neg (by omega)]
      · rfl
    · split
      · rfl
      · simp only [upd]; rw [if_neg (by omega)]
theorem q_leaf {n lm c0 w : Nat} {tx : Nat → Int32} {ve at' er : Int32} {lam pk pf ps : Nat → Int32} {pc : Nat → Int64} {tg sb nu : Nat → Int32} {ch : Nat → Int64} {fi se de la ow : Nat → Int32} {pk1 pf1 ps1 : Nat → Int32} {pc1 : Nat → Int64} {pl1 wr1 a1 e1 : Int32} {lo1 : Nat} {tg1 sb1 nu1 : Nat → Int32} {ch1 : Nat → Int64} (hw : w < 63) (hc : c0 < 60) (he : er = 0) (ho : q_Ow (ow w) c0)
    (hr : M_MO_readTerm (Int32.ofNat n) at' 0 (Int32.ofNat w) tx tg sb nu ch de la ow (Int32.ofNat (60 + c0)) (de w) (la w) = some (a1, e1, Int32.ofNat w, tg1, sb1, nu1, ch1, de, la, ow))
    (hO : q_OB n lo1 pl1 wr1 a1 e1) (h1 : 1 ≤ lo1) (hwr : wr1 = -1)
    (ho1 : ∀ j, j ≠ 60 + c0 → tg1 j = tg j ∧ sb1 j = sb j ∧ nu1 j = nu j ∧ ch1 j = ch j) (ho2 : ∀ j, j ≠ c0 → pk1 j = pk j ∧ pf1 j = pf j ∧ ps1 j = ps j ∧ pc1 j = pc j)
    (hT : q_T (Int32.ofNat (c0 + 1)) (upd lam c0 (Int32.ofNat lm)) pk1 pf1 ps1 pc1 (q_Sh tg1) (q_Sh sb1) (q_Sh nu1) (q_SL ch1) (q_Sm (q_of (ow w) (Int32.ofNat (60 + c0)) fi)) (q_Sm (q_os (ow w) (Int32.ofNat (60 + c0)) se)) (Int32.ofNat c0)) :
    q_Good n lm c0 w tx ve at' er lam pk pf ps pc tg sb nu ch fi se de la ow (Int32.ofNat c0) (Int32.ofNat (c0 + 1)) pk1 pf1 ps1 pc1 pl1 wr1 := by
  have e10 : e1 = 0 := by obtain ⟨p, -, -, -, -, h⟩ := hO.ok hwr; exact h
  subst he
  refine ⟨c0 + 1, lo1, upd lam c0 (Int32.ofNat lm), a1, e1, tg1, sb1, nu1, ch1, q_of (ow w) (Int32.ofNat (60 + c0)) fi, q_os (ow w) (Int32.ofNat (60 + c0)) se, de, la, ow, rfl, rfl, by omega, by omega, h1, hO, hwr, fun g => ?_, fun j _ => ⟨rfl, rfl, rfl⟩, fun j hj => ?_, fun j hj => ?_, by simp [upd], fun t t0 t1 => ?_⟩
  · rw [show c0 + 1 - c0 = 1 by omega, s_61 hw (by omega) ho hr, if_pos e10, q_fo1]
  · obtain ⟨x1, x2, x3, x4⟩ := ho1 j (by omega)
    exact ⟨x1, x2, x3, x4, rfl, rfl⟩
  · obtain ⟨x1, x2, x3, x4⟩ := ho2 j (by omega)
    exact ⟨x1, x2, x3, x4, by simp only [upd]; rw [if_neg (by omega)]⟩
  · have : t = c0 := by omega
    subst this
    exact hT
