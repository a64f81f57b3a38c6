theorem q_oth {f : Nat → Int32} {i j : Nat} {v : Int32} (h : j ≠ i) : upd f i v j = f j := by simp [upd, h]
theorem q_othL {f : Nat → Int64} {i j : Nat} {v : Int64} (h : j ≠ i) : vp_updL f i v j = f j := by simp [vp_updL, h]
theorem q_same {f : Nat → Int32} {i : Nat} {v : Int32} : upd f i v i = v := by simp [upd]
theorem q_sameL {f : Nat → Int64} {i : Nat} {v : Int64} : vp_updL f i v i = v := by simp [vp_updL]
theorem q_fill {n : Nat} {by' tx : Nat → Int32} {ve : Int32} (h : q_X n by' tx) : ∀ (F d : Nat), F + d = 22 → ∀ (c0 lm w lo : Nat) (lam pk pf ps : Nat → Int32) (pc : Nat → Int64) (pl wr at' er : Int32) (tg sb nu : Nat → Int32) (ch : Nat → Int64) (fi se de la ow : Nat → Int32), d ≤ 21 → c0 ≤ 60 → lm ≤ d → w ≤ d → q_OB n lo pl wr at' er → wr = -1 → de w = Int32.ofNat d → la w = Int32.ofNat lm → q_Ow (ow w) c0 →
    ∃ rr cnt1 pk1 pf1 ps1 pc1 pl1 wr1, M_Program_fillTerm F (Int32.ofNat c0) pk pf ps pc (Int32.ofNat n) pl wr by' (Int32.ofNat d) (Int32.ofNat lm) = some (rr, cnt1, pk1, pf1, ps1, pc1, pl1, wr1) ∧
      ((wr1 = -1 ∧ q_Good n lm c0 w tx ve at' er lam pk pf ps pc tg sb nu ch fi se de la ow rr cnt1 pk1 pf1 ps1 pc1 pl1 wr1) ∨ (wr1 ≠ -1 ∧ q_Wr n c0 w tx ve at' er tg sb nu ch fi se de la ow pl1 wr1)) := by
  have h80 := h.1
  intro F
  induction F with
  | zero => intro d hd c0 lm w lo lam pk pf ps pc pl wr at' er tg sb nu ch fi se de la ow hd21; omega
  | succ F ih =>
    intro d hFd c0 lm w lo lam pk pf ps pc pl wr at' er tg sb nu ch fi se de la ow hd21 hc60 hlm hw hO hwr hde hla how
    have er0 : er = 0 := by obtain ⟨p, -, -, -, -, e⟩ := hO.ok hwr; exact e
    subst er0
    obtain ⟨u, u', pl1, wr1, at1, er1, b1, b2, b3, b4, x, x', b5, b6, rfl, rfl, b9⟩ := q_take h 3 (by decide) hO
    have e3 : Int32.ofNat 3 = 3 := rfl
    rw [e3] at b1 b2
    by_cases h1 : wr1 = -1
    rotate_left
    · have hb := b3.bad h1
      refine ⟨-1, Int32.ofNat c0, pk, pf, ps, pc, pl1, wr1, ?_, .inr ⟨h1, ?_⟩⟩
      · rw [M_Program_fillTerm, b1, k3, if_neg h1, M_Program_fillTerm_21, M_Program_fillTerm_26, if_neg (by decide), M_Program_fillTerm_43, if_pos rfl, M_Text_refuseLatest, M_Text_refuse, if_neg h1, k1, k1]
      · refine q_leafBad (lm := lm) (lam := lam) (pk := pk) (pf := pf) (ps := ps) (pc := pc) (by omega) hc60 rfl how (a1 := at1) (e1 := er1) (w1 := Int32.ofNat w) (tg1 := tg) (sb1 := sb) (nu1 := nu) (ch1 := ch) (de1 := de) (la1 := la) (ow1 := ow) ?_ b3 h1 (fun j hj => ⟨rfl, rfl, rfl, rfl⟩)
        rw [M_MO_readTerm, b2, k3, if_neg hb.2.1, M_MO_readTerm_36, if_neg hb.1]
    obtain rfl := b9 h1
    have e10 : er1 = 0 := by obtain ⟨p, -, -, -, -, e⟩ := b3.ok h1; exact e
    have hx8 : x < 8 := b5
    subst e10 h1
    obtain ⟨wr2, er2, l1, l2, l3, l4, l5⟩ := b3.latest h80 (by omega)
    have er2n : ¬ 0 ≤ er2 := (l3.bad l4).1
    by_cases hd : d ≤ 20
    rotate_left
    · have i2 : ¬ Int32.ofNat d ≤ 20 := by rw [show (20 : Int32) = Int32.ofNat 20 from rfl, b_le (by omega) (by decide)]; exact hd
      refine ⟨-1, Int32.ofNat c0, pk, pf, ps, pc, pl1, wr2, ?_, .inr ⟨l4, ?_⟩⟩
      · rw [M_Program_fillTerm, b1, k3, if_pos rfl, if_neg i2, M_Program_fillTerm_21, M_Program_fillTerm_26, if_neg (by decide), M_Program_fillTerm_43, if_pos rfl, l1, k1]
      · refine q_leafBad (lm := lm) (lam := lam) (pk := pk) (pf := pf) (ps := ps) (pc := pc) (by omega) hc60 rfl how (a1 := at1) (e1 := er2) (w1 := Int32.ofNat w) (tg1 := tg) (sb1 := sb) (nu1 := nu) (ch1 := ch) (de1 := de) (la1 := la) (ow1 := ow) ?_ l3 l4 (fun j hj => ⟨rfl, rfl, rfl, rfl⟩)
        rw [M_MO_readTerm, b2, k3, if_pos rfl, hde, if_neg i2, M_MO_readTerm_26, l2, k1, M_MO_readTerm_36, if_neg er2n]
        split <;> rfl
    by_cases hc : c0 < 60
    rotate_left
    · have : c0 = 60 := by omega
      subst this
      have i2 : Int32.ofNat d ≤ 20 := (b_le (b := 20) (by omega) (by decide)).mpr hd
      refine ⟨-1, Int32.ofNat 60, pk, pf, ps, pc, pl1, wr2, ?_, .inr ⟨l4, ?_⟩⟩
      · rw [M_Program_fillTerm, b1, k3, if_pos rfl, if_pos i2, M_Program_fillTerm_26, if_pos rfl, M_Program_add, if_neg (by decide), k6, M_Program_fillTerm_43, if_pos rfl, l1, k1]
      · refine q_leafBad (lm := lm) (lam := lam) (pk := pk) (pf := pf) (ps := ps) (pc := pc) (by omega) hc60 rfl how (a1 := at1) (e1 := er2) (w1 := Int32.ofNat w) (tg1 := tg) (sb1 := sb) (nu1 := nu) (ch1 := ch) (de1 := de) (la1 := la) (ow1 := ow) ?_ l3 l4 (fun j hj => ⟨rfl, rfl, rfl, rfl⟩)
        rw [M_MO_readTerm, b2, k3, if_pos rfl, if_pos (by decide), M_MO_readTerm_26, l2, k1, M_MO_readTerm_36, if_neg er2n]
    have cl := s_cl (F := F) (pk := pk) (pf := pf) (ps := ps) (pc := pc) (lm := lm) hc hd b1
    have rt := s_rt (tg := tg) (sb := sb) (nu := nu) (ch := ch) (de := de) (la := la) (ow := ow) (w := w) (lm := lm) hc hd b2
    obtain ⟨zz, z0, z60, zc⟩ := s_zz hc
    have i0 : (0 : Int32) ≤ Int32.ofNat (60 + c0) := (b_le (a := 0) (by decide) (by omega)).mpr (by omega)
    have i1 : Int32.ofNat (60 + c0) < 120 := (b_lt (b := 120) (by omega) (by decide)).mpr (by omega)
    have ic := b_clamp (a := 60 + c0) (by omega)
    have p00 : (0 : Int32) ≤ 0 := Int32.le_rfl
    have l0' : (0 : Int32) ≤ Int32.ofNat lm := (b_le (a := 0) (by decide) (by omega)).mpr (by omega)
    have l21 : Int32.ofNat lm ≤ 21 := (b_le (b := 21) (by omega) (by decide)).mpr (by omega)
    have ed1 : Int32.ofNat d + 1 = Int32.ofNat (d + 1) := by rw [show (1 : Int32) = Int32.ofNat 1 from rfl, b_add]
    have el1 : Int32.ofNat lm + 1 = Int32.ofNat (lm + 1) := by rw [show (1 : Int32) = Int32.ofNat 1 from rfl, b_add]
    rw [cl]
    rw [← hde, ← hla] at rt
    rcases (show x = 0 ∨ x = 1 ∨ x = 2 ∨ x = 3 ∨ x = 4 ∨ x = 5 ∨ x = 6 ∨ x = 7 by omega) with rfl | rfl | rfl | rfl | rfl | rfl | rfl | rfl
    · obtain ⟨v, v', pl2, wr3, at2, er3, a1, a2, a3, a4⟩ := q_nat h b3
      obtain ⟨wr4, er4, m1, m2, m3, m4, m5⟩ := a3.latest h80 (by omega)
      have s170 := fun (a e : Int32) (nn : Nat → Int32) => s_170 (n := Int32.ofNat n) (tx := tx) (at' := a) (er := e) (tg := upd tg (60 + c0) (Int32.ofNat 0)) (sb := upd sb (60 + c0) 0) (nu := nn) (ch := vp_updL ch (60 + c0) 0) (fi := fi) (se := se) (de := de) (la := la) (ow := ow) (w := w) (i := 60 + c0) (d := d) (lm := lm) (x := 0) (by omega) (by omega) (by omega) (by omega) (by decide)
      have rt2 : M_MO_readTerm (Int32.ofNat n) at' 0 (Int32.ofNat w) tx tg sb nu ch de la ow (Int32.ofNat (60 + c0)) (de w) (la w) = (if v' < 1 then some (at2, er4, Int32.ofNat w, upd tg (60 + c0) (Int32.ofNat 0), upd sb (60 + c0) 0, upd nu (60 + c0) v', vp_updL ch (60 + c0) 0, de, la, ow) else if v' ≤ Int32.ofNat lm then some (at2, er3, Int32.ofNat w, upd tg (60 + c0) (Int32.ofNat 0), upd sb (60 + c0) 0, upd nu (60 + c0) v', vp_updL ch (60 + c0) 0, de, la, ow) else some (at2, er4, Int32.ofNat w, upd tg (60 + c0) (Int32.ofNat 0), upd sb (60 + c0) 0, upd nu (60 + c0) v', vp_updL ch (60 + c0) 0, de, la, ow)) := by
        rw [rt, hde, hla, M_MO_readTerm_36, if_pos p00]
        simp only [chk, i0, i1, and_self, if_true]
        rw [if_pos (by decide), a2, k3, M_MO_readTerm_104, m2, k1, M_MO_readTerm_114, M_MO_readTerm_114, ic, q_upd2, s170, s170]
        rfl
      have cl2 : M_Program_takeVariable (Int32.ofNat n) pl1 (-1) by' (Int32.ofNat lm) = (if v < 1 then some (v, pl2, wr4) else if v ≤ Int32.ofNat lm then some (v, pl2, wr3) else some (v, pl2, wr4)) := by
        rw [M_Program_takeVariable, a1, k3, M_Program_takeVariable_15, m1, k1]
      by_cases hok : wr3 = -1 ∧ ¬ v < 1 ∧ v ≤ Int32.ofNat lm
      · obtain ⟨h3, hv1, hvl⟩ := hok
        obtain ⟨-, rfl, v0⟩ := a4 h3
        rw [if_neg hv1, if_pos hvl] at rt2 cl2
        refine ⟨Int32.ofNat c0, Int32.ofNat (c0 + 1), upd pk c0 (Int32.ofNat 0), upd pf c0 (-1), upd ps c0 (-1), vp_updL (vp_updL pc c0 0) c0 v.toInt64, pl2, wr3, ?_, .inl ⟨h3, ?_⟩⟩
        · rw [M_Program_fillTerm_43, if_neg zz, if_pos (by decide), cl2, k3, chk, if_pos ⟨z0, z60⟩, zc]
        · refine q_leaf (by omega) hc rfl how rt2 a3 (by omega) h3 (fun j hj => ⟨q_oth hj, q_oth hj, q_oth hj, q_othL hj⟩) (fun j hj => ⟨q_oth hj, q_oth hj, q_oth hj, by rw [q_othL hj, q_othL hj]⟩) ?_
          unfold q_T
          rw [zc]
          simp only [q_Sh, q_SL, q_same, q_sameL]
          refine ⟨trivial, by decide, by decide, l0', l21, fun _ => ⟨trivial, by grind, hvl⟩, fun z => absurd z (by decide), fun z => absurd z (by decide), fun z => absurd z (by decide), fun z => absurd z (by decide), fun z => absurd z (by decide), fun z => absurd z (by decide)⟩
      · have fin : ∃ wr5 er5, M_Program_takeVariable (Int32.ofNat n) pl1 (-1) by' (Int32.ofNat lm) = some (v, pl2, wr5) ∧ M_MO_readTerm (Int32.ofNat n) at' 0 (Int32.ofNat w) tx tg sb nu ch de la ow (Int32.ofNat (60 + c0)) (de w) (la w) = some (at2, er5, Int32.ofNat w, upd tg (60 + c0) (Int32.ofNat 0), upd sb (60 + c0) 0, upd nu (60 + c0) v', vp_updL ch (60 + c0) 0, de, la, ow) ∧ q_OB n (lo + 3 + 1) pl2 wr5 at2 er5 ∧ wr5 ≠ -1 := by
          by_cases h3 : wr3 = -1
          · obtain ⟨-, rfl, v0⟩ := a4 h3
            have hv : v < 1 ∨ ¬ v ≤ Int32.ofNat lm := by
              by_cases q1 : v < 1
              · exact .inl q1
              · exact .inr (fun q2 => hok ⟨h3, q1, q2⟩)
            refine ⟨wr4, er4, ?_, ?_, m3, m4⟩
            · rw [cl2]
              by_cases q1 : v < 1
              · rw [if_pos q1]
              · rw [if_neg q1, if_neg (hv.resolve_left q1)]
            · rw [rt2]
              by_cases q1 : v < 1
              · rw [if_pos q1]
              · rw [if_neg q1, if_neg (hv.resolve_left q1)]
          · have hw4 : wr4 = wr3 := by
              rw [M_Text_refuseLatest, M_Text_refuse, if_neg h3, k1] at m1; exact (Option.some.inj m1).symm
            have he4 : er4 = er3 := by
              rw [M_MO_wrong, if_neg (a3.bad h3).2.1] at m2; exact (Option.some.inj m2).symm
            refine ⟨wr3, er3, ?_, ?_, a3, h3⟩
            · rw [cl2, hw4]; split <;> (try split) <;> rfl
            · rw [rt2, he4]; split <;> (try split) <;> rfl
        obtain ⟨wr5, er5, g1, g2, g3, g4⟩ := fin
        refine ⟨Int32.ofNat c0, Int32.ofNat (c0 + 1), upd pk c0 (Int32.ofNat 0), upd pf c0 (-1), upd ps c0 (-1), vp_updL (vp_updL pc c0 0) c0 v.toInt64, pl2, wr5, ?_, .inr ⟨g4, ?_⟩⟩
        · rw [M_Program_fillTerm_43, if_neg zz, if_pos (by decide), g1, k3, chk, if_pos ⟨z0, z60⟩, zc]
        · exact q_leafBad (lm := lm) (lam := lam) (pk := pk) (pf := pf) (ps := ps) (pc := pc) (by omega) hc60 rfl how g2 g3 g4 (fun j hj => ⟨q_oth (by omega), q_oth (by omega), q_oth (by omega), q_othL (by omega)⟩)
    · have rt2 : M_MO_readTerm (Int32.ofNat n) at' 0 (Int32.ofNat w) tx tg sb nu ch de la ow (Int32.ofNat (60 + c0)) (de w) (la w) = some (at1, 0, Int32.ofNat (w + 1), upd tg (60 + c0) (Int32.ofNat 1), upd sb (60 + c0) 0, upd nu (60 + c0) 0, vp_updL ch (60 + c0) 0, upd de w (Int32.ofNat (d + 1)), upd la w (Int32.ofNat (lm)), upd ow w (Int32.ofNat (2 * (60 + c0)))) := by
        rw [rt, hde, hla, s_36 hc (by decide) (by decide) (by decide) (by decide), s_170 (fi := fi) (se := se) (by omega) (by omega) (by omega) (by omega) (by decide)]
        rfl
      obtain ⟨rr, cnt1, pk1, pf1, ps1, pc1, pl2, wr3, c1', c2'⟩ := ih (d + 1) (by omega) (c0 + 1) (lm) w (lo + 3) (upd lam c0 (Int32.ofNat lm)) (upd pk c0 (Int32.ofNat 1)) (upd pf c0 (-1)) (upd ps c0 (-1)) (vp_updL pc c0 0) pl1 (-1) at1 0 (upd tg (60 + c0) (Int32.ofNat 1)) (upd sb (60 + c0) 0) (upd nu (60 + c0) 0) (vp_updL ch (60 + c0) 0) (q_of (ow w) (Int32.ofNat (60 + c0)) fi) (q_os (ow w) (Int32.ofNat (60 + c0)) se) (upd de w (Int32.ofNat (d + 1))) (upd la w (Int32.ofNat (lm))) (upd ow w (Int32.ofNat (2 * (60 + c0)))) (by omega) (by omega) (by omega) (by omega) b3 rfl q_same q_same (.inr ⟨c0, 0, by omega, by decide, q_same⟩)
      refine ⟨Int32.ofNat c0, cnt1, pk1, upd pf1 c0 rr, ps1, pc1, pl2, wr3, ?_, ?_⟩
      · rw [M_Program_fillTerm_43, if_neg zz]
        simp only [ed1, el1]
        rw [if_neg (by decide), if_pos (by decide), c1', k8, chk, if_pos ⟨z0, z60⟩, zc]
      · rcases c2' with ⟨g1, g2⟩ | ⟨g1, g2, g3⟩
        · exact .inl ⟨g1, q_node1 (by omega) hc rfl how (by omega) (by decide) (by rw [if_neg (by decide)]) rt2 (fun j hj => ⟨q_oth (by omega), q_oth (by omega)⟩) g2⟩
        · refine .inr ⟨g1, g2, fun f1 hf => ?_⟩
          obtain ⟨f, rfl⟩ : ∃ x, f1 = x + 1 := ⟨f1 - 1, by omega⟩
          obtain ⟨at2, fo2, wa2, tg2, sb2, nu2, ch2, fi2, se2, de2, la2, ow2, hh, hh2⟩ := g3 f (by omega)
          refine ⟨at2, fo2, wa2, tg2, sb2, nu2, ch2, fi2, se2, de2, la2, ow2, ?_, fun j hj => by
            obtain ⟨t1, t2, t3, t4, t5, t6⟩ := hh2 j hj
            rw [t1, t2, t3, t4, t5, t6, q_oth (by omega), q_oth (by omega), q_oth (by omega), q_othL (by omega), (q_ofL how hc60 hj).1, (q_ofL how hc60 hj).2]
            exact ⟨rfl, rfl, rfl, rfl, rfl, rfl⟩⟩
          rw [s_61 (by omega) hc60 how rt2, if_pos rfl, q_fo1]; exact hh
    · have rt2 : M_MO_readTerm (Int32.ofNat n) at' 0 (Int32.ofNat w) tx tg sb nu ch de la ow (Int32.ofNat (60 + c0)) (de w) (la w) = some (at1, 0, Int32.ofNat (w + 1), upd tg (60 + c0) (Int32.ofNat 2), upd sb (60 + c0) 0, upd nu (60 + c0) 0, vp_updL ch (60 + c0) 0, upd de w (Int32.ofNat (d + 1)), upd la w (Int32.ofNat (lm + 1)), upd ow w (Int32.ofNat (2 * (60 + c0)))) := by
        rw [rt, hde, hla, s_36 hc (by decide) (by decide) (by decide) (by decide), s_170 (fi := fi) (se := se) (by omega) (by omega) (by omega) (by omega) (by decide)]
        rfl
      obtain ⟨rr, cnt1, pk1, pf1, ps1, pc1, pl2, wr3, c1', c2'⟩ := ih (d + 1) (by omega) (c0 + 1) (lm + 1) w (lo + 3) (upd lam c0 (Int32.ofNat lm)) (upd pk c0 (Int32.ofNat 2)) (upd pf c0 (-1)) (upd ps c0 (-1)) (vp_updL pc c0 0) pl1 (-1) at1 0 (upd tg (60 + c0) (Int32.ofNat 2)) (upd sb (60 + c0) 0) (upd nu (60 + c0) 0) (vp_updL ch (60 + c0) 0) (q_of (ow w) (Int32.ofNat (60 + c0)) fi) (q_os (ow w) (Int32.ofNat (60 + c0)) se) (upd de w (Int32.ofNat (d + 1))) (upd la w (Int32.ofNat (lm + 1))) (upd ow w (Int32.ofNat (2 * (60 + c0)))) (by omega) (by omega) (by omega) (by omega) b3 rfl q_same q_same (.inr ⟨c0, 0, by omega, by decide, q_same⟩)
      refine ⟨Int32.ofNat c0, cnt1, pk1, upd pf1 c0 rr, ps1, pc1, pl2, wr3, ?_, ?_⟩
      · rw [M_Program_fillTerm_43, if_neg zz]
        simp only [ed1, el1]
        rw [if_neg (by decide), if_neg (by decide), if_pos (by decide), c1', k8, chk, if_pos ⟨z0, z60⟩, zc]
      · rcases c2' with ⟨g1, g2⟩ | ⟨g1, g2, g3⟩
        · exact .inl ⟨g1, q_node1 (by omega) hc rfl how (by omega) (by decide) (by rw [if_pos rfl]) rt2 (fun j hj => ⟨q_oth (by omega), q_oth (by omega)⟩) g2⟩
        · refine .inr ⟨g1, g2, fun f1 hf => ?_⟩
          obtain ⟨f, rfl⟩ : ∃ x, f1 = x + 1 := ⟨f1 - 1, by omega⟩
          obtain ⟨at2, fo2, wa2, tg2, sb2, nu2, ch2, fi2, se2, de2, la2, ow2, hh, hh2⟩ := g3 f (by omega)
          refine ⟨at2, fo2, wa2, tg2, sb2, nu2, ch2, fi2, se2, de2, la2, ow2, ?_, fun j hj => by
            obtain ⟨t1, t2, t3, t4, t5, t6⟩ := hh2 j hj
            rw [t1, t2, t3, t4, t5, t6, q_oth (by omega), q_oth (by omega), q_oth (by omega), q_othL (by omega), (q_ofL how hc60 hj).1, (q_ofL how hc60 hj).2]
            exact ⟨rfl, rfl, rfl, rfl, rfl, rfl⟩⟩
          rw [s_61 (by omega) hc60 how rt2, if_pos rfl, q_fo1]; exact hh
    · have rt2 : M_MO_readTerm (Int32.ofNat n) at' 0 (Int32.ofNat w) tx tg sb nu ch de la ow (Int32.ofNat (60 + c0)) (de w) (la w) = some (at1, 0, Int32.ofNat (w + 2), upd tg (60 + c0) (Int32.ofNat 3), upd sb (60 + c0) 0, upd nu (60 + c0) 0, vp_updL ch (60 + c0) 0, upd (upd de w (Int32.ofNat (d + 1))) (w + 1) (Int32.ofNat (d + 1)), upd (upd la w (Int32.ofNat lm)) (w + 1) (Int32.ofNat lm), upd (upd ow w (Int32.ofNat (2 * (60 + c0) + 1))) (w + 1) (Int32.ofNat (2 * (60 + c0)))) := by
        rw [rt, hde, hla, s_36 hc (by decide) (by decide) (by decide) (by decide), s_170 (fi := fi) (se := se) (by omega) (by omega) (by omega) (by omega) (by decide)]
        rfl
      have hd2 : ∀ j, j < w → (upd (upd de w (Int32.ofNat (d + 1))) (w + 1) (Int32.ofNat (d + 1))) j = de j ∧ (upd (upd la w (Int32.ofNat lm)) (w + 1) (Int32.ofNat lm)) j = la j ∧ (upd (upd ow w (Int32.ofNat (2 * (60 + c0) + 1))) (w + 1) (Int32.ofNat (2 * (60 + c0)))) j = ow j := fun j hj => by
        simp only [upd, if_neg (show ¬ j = w + 1 by omega), if_neg (show ¬ j = w by omega), and_self]
      have how1 : (upd (upd ow w (Int32.ofNat (2 * (60 + c0) + 1))) (w + 1) (Int32.ofNat (2 * (60 + c0)))) w = Int32.ofNat (2 * (60 + c0) + 1) := by rw [q_oth (by omega), q_same]
      obtain ⟨rr, cnt1, pk1, pf1, ps1, pc1, pl2, wr3, c1', c2'⟩ := ih (d + 1) (by omega) (c0 + 1) lm (w + 1) (lo + 3) (upd lam c0 (Int32.ofNat lm)) (upd pk c0 (Int32.ofNat 3)) (upd pf c0 (-1)) (upd ps c0 (-1)) (vp_updL pc c0 0) pl1 (-1) at1 0 (upd tg (60 + c0) (Int32.ofNat 3)) (upd sb (60 + c0) 0) (upd nu (60 + c0) 0) (vp_updL ch (60 + c0) 0) (q_of (ow w) (Int32.ofNat (60 + c0)) fi) (q_os (ow w) (Int32.ofNat (60 + c0)) se) (upd (upd de w (Int32.ofNat (d + 1))) (w + 1) (Int32.ofNat (d + 1))) (upd (upd la w (Int32.ofNat lm)) (w + 1) (Int32.ofNat lm)) (upd (upd ow w (Int32.ofNat (2 * (60 + c0) + 1))) (w + 1) (Int32.ofNat (2 * (60 + c0)))) (by omega) (by omega) (by omega) (by omega) b3 rfl q_same q_same (.inr ⟨c0, 0, by omega, by decide, q_same⟩)
      rcases c2' with ⟨g1, g2⟩ | ⟨g1, g2, g3⟩
      · obtain ⟨c1, lo1, lam1, at2, er3, tg1, sb1, nu1, ch1, fi1, se1, de2, la2, ow2, rfl, rfl, a3, a4, a5, a6, a7, a8, a9, a10, a11, a12, a13⟩ := g2
        have her : er3 = 0 := by obtain ⟨p, -, -, -, -, e⟩ := a6.ok a7; exact e
        have hdw : de2 w = Int32.ofNat (d + 1) := by rw [(a9 w (by omega)).1, q_oth (by omega), q_same]
        have hlw : la2 w = Int32.ofNat lm := by rw [(a9 w (by omega)).2.1, q_oth (by omega), q_same]
        have how3 : ow2 w = Int32.ofNat (2 * (60 + c0) + 1) := by rw [(a9 w (by omega)).2.2]; exact how1
        obtain ⟨rr2, cnt2, pk2, pf2, ps2, pc2, pl3, wr4, d1', d2'⟩ := ih (d + 1) (by omega) c1 lm w lo1 lam1 pk1 (upd pf1 c0 (Int32.ofNat (c0 + 1))) ps1 pc1 pl2 wr3 at2 er3 tg1 sb1 nu1 ch1 fi1 se1 de2 la2 ow2 (by omega) a4 (by omega) (by omega) a6 a7 hdw hlw (.inr ⟨c0, 1, by omega, by decide, how3⟩)
        refine ⟨Int32.ofNat c0, cnt2, pk2, pf2, upd ps2 c0 rr2, pc2, pl3, wr4, ?_, ?_⟩
        · rw [M_Program_fillTerm_43, if_neg zz]
          simp only [ed1, el1]
          rw [if_neg (by decide), if_neg (by decide), if_neg (by decide), if_pos (by decide), c1', k8, chk, if_pos ⟨z0, z60⟩, zc, d1', k8, chk, if_pos ⟨z0, z60⟩]
        · rcases d2' with ⟨e1', e2'⟩ | ⟨e1', e2', e3'⟩
          · exact .inl ⟨e1', q_node2 (lo1 := lo1) (by omega) hc rfl how (by omega) rt2 hd2 how1 q_same a3 a4 a8 a9 a10 a11 a12 a13 her e2'⟩
          · refine .inr ⟨e1', e2', fun f1 hf => ?_⟩
            obtain ⟨f, rfl⟩ : ∃ x, f1 = x + (c1 - (c0 + 1)) + 1 := ⟨f1 - (c1 - c0), by omega⟩
            obtain ⟨at4, fo4, wa4, tg4, sb4, nu4, ch4, fi4, se4, de4, la4, ow4, hh, hh2⟩ := e3' f (by omega)
            refine ⟨at4, fo4, wa4, tg4, sb4, nu4, ch4, fi4, se4, de4, la4, ow4, ?_, fun j hj => by
              obtain ⟨t1, t2, t3, t4, t5, t6⟩ := hh2 j hj
              obtain ⟨s1, s2, s3, s4, s5, s6⟩ := a10 j (by omega)
              have hoo : q_Ow ((upd (upd ow w (Int32.ofNat (2 * (60 + c0) + 1))) (w + 1) (Int32.ofNat (2 * (60 + c0)))) (w + 1)) 60 := .inr ⟨c0, 0, hc, by decide, q_same⟩
              rw [t1, t2, t3, t4, t5, t6, s1, s2, s3, s4, s5, s6, q_oth (by omega), q_oth (by omega), q_oth (by omega), q_othL (by omega), (q_ofL hoo (by omega) hj).1, (q_ofL hoo (by omega) hj).2, (q_ofL how hc60 hj).1, (q_ofL how hc60 hj).2]
              exact ⟨rfl, rfl, rfl, rfl, rfl, rfl⟩⟩
            rw [s_61 (by omega) hc60 how rt2, if_pos rfl, q_fo1]
            exact (a8 f).trans hh
      · obtain ⟨F', rfl⟩ : ∃ y, F = y + 1 := ⟨F - 1, by omega⟩
        refine ⟨Int32.ofNat c0, cnt1, pk1, upd pf1 c0 rr, upd ps1 c0 (-1), pc1, pl2, wr3, ?_, .inr ⟨g1, g2, fun f1 hf => ?_⟩⟩
        · rw [M_Program_fillTerm_43, if_neg zz]
          simp only [ed1, el1]
          rw [if_neg (by decide), if_neg (by decide), if_neg (by decide), if_pos (by decide), c1', k8, chk, if_pos ⟨z0, z60⟩, zc, s_fillBad g1, k8, chk, if_pos ⟨z0, z60⟩]
        · obtain ⟨f, rfl⟩ : ∃ x, f1 = x + 1 := ⟨f1 - 1, by omega⟩
          obtain ⟨at2, fo2, wa2, tg2, sb2, nu2, ch2, fi2, se2, de2, la2, ow2, hh, hh2⟩ := g3 f (by omega)
          refine ⟨at2, fo2, wa2, tg2, sb2, nu2, ch2, fi2, se2, de2, la2, ow2, ?_, fun j hj => by
            obtain ⟨t1, t2, t3, t4, t5, t6⟩ := hh2 j hj
            rw [t1, t2, t3, t4, t5, t6, q_oth (by omega), q_oth (by omega), q_oth (by omega), q_othL (by omega), (q_ofL how hc60 hj).1, (q_ofL how hc60 hj).2]
            exact ⟨rfl, rfl, rfl, rfl, rfl, rfl⟩⟩
          rw [s_61 (by omega) hc60 how rt2, if_pos rfl, q_fo1]; exact hh
    · obtain ⟨rc, pl2, wr3, ct, pl3, wr4, at2, er3, sb2, nu2, ch2, a1, a2, a3, a4, a5, a6⟩ := q_con (i := Int32.ofNat (60 + c0)) (sb := upd sb (60 + c0) 0) (nu := upd nu (60 + c0) 0) (ch := vp_updL ch (60 + c0) 0) h i0 i1 b3
      rw [ic] at a5 a6
      have rt2 : M_MO_readTerm (Int32.ofNat n) at' 0 (Int32.ofNat w) tx tg sb nu ch de la ow (Int32.ofNat (60 + c0)) (de w) (la w) = some (at2, er3, Int32.ofNat w, upd tg (60 + c0) (Int32.ofNat 4), sb2, nu2, ch2, de, la, ow) := by
        rw [rt, hde, hla, M_MO_readTerm_36, if_pos p00]
        simp only [chk, i0, i1, and_self, if_true]
        rw [if_neg (by decide), if_pos (by decide), ic, a3, k5, s_170 (fi := fi) (se := se) (by omega) (by omega) (by omega) (by omega) (by decide)]
        rfl
      have cl2 : M_Program_fillTerm_43 (fun y0 y1 y2 y3 y4 y5 y6 y7 y8 y9 y10 => M_Program_fillTerm F y0 y1 y2 y3 y4 y5 y6 y7 y8 y9 y10) (Int32.ofNat n) by' (Int32.ofNat (c0 + 1)) (upd pk c0 (Int32.ofNat 4)) (upd pf c0 (-1)) (upd ps c0 (-1)) (vp_updL pc c0 0) pl1 (-1) (Int32.ofNat d) (Int32.ofNat lm) (Int32.ofNat 4) (Int32.ofNat c0) = some (Int32.ofNat c0, Int32.ofNat (c0 + 1), upd pk c0 (Int32.ofNat 4), upd (upd pf c0 (-1)) c0 rc, upd ps c0 (-1), vp_updL (vp_updL pc c0 0) c0 ct, pl3, wr4) := by
        rw [M_Program_fillTerm_43, if_neg zz, if_neg (by decide), if_neg (by decide), if_neg (by decide), if_neg (by decide), if_pos (by decide), a1, k3]
        simp only [chk, z0, z60, and_self, if_true, zc, q_same]
        rw [a2, k3]
      refine ⟨_, _, _, _, _, _, pl3, wr4, cl2, ?_⟩
      by_cases h4 : wr4 = -1
      · obtain ⟨-, g1, g2, g3, g4⟩ := a6 h4
        refine .inl ⟨h4, q_leaf (by omega) hc rfl how rt2 a4 (by omega) h4 (fun j hj => ⟨q_oth hj, by rw [(a5 j hj).1, q_oth hj], by rw [(a5 j hj).2.1, q_oth hj], by rw [(a5 j hj).2.2, q_othL hj]⟩) (fun j hj => ⟨q_oth hj, by rw [q_oth hj, q_oth hj], q_oth hj, by rw [q_othL hj, q_othL hj]⟩) ?_⟩
        unfold q_T
        rw [zc]
        simp only [q_Sh, q_SL, q_same, q_sameL]
        refine ⟨trivial, by decide, by decide, l0', l21, fun z => absurd z (by decide), fun z => absurd z (by decide), fun z => absurd z (by decide), fun z => absurd z (by decide), fun z => absurd z (by decide), fun _ => ?_, fun z => absurd z (by decide)⟩
        rw [g1]
        exact ⟨rfl, g2, g3, g4⟩
      · exact .inr ⟨h4, q_leafBad (lm := lm) (lam := lam) (pk := pk) (pf := pf) (ps := ps) (pc := pc) (by omega) hc60 rfl how rt2 a4 h4 (fun j hj => ⟨q_oth (by omega), by rw [(a5 j (by omega)).1, q_oth (by omega)], by rw [(a5 j (by omega)).2.1, q_oth (by omega)], by rw [(a5 j (by omega)).2.2, q_othL (by omega)]⟩)⟩
    · have rt2 : M_MO_readTerm (Int32.ofNat n) at' 0 (Int32.ofNat w) tx tg sb nu ch de la ow (Int32.ofNat (60 + c0)) (de w) (la w) = some (at1, 0, Int32.ofNat (w + 1), upd tg (60 + c0) (Int32.ofNat 5), upd sb (60 + c0) 0, upd nu (60 + c0) 0, vp_updL ch (60 + c0) 0, upd de w (Int32.ofNat (d + 1)), upd la w (Int32.ofNat (lm)), upd ow w (Int32.ofNat (2 * (60 + c0)))) := by
        rw [rt, hde, hla, s_36 hc (by decide) (by decide) (by decide) (by decide), s_170 (fi := fi) (se := se) (by omega) (by omega) (by omega) (by omega) (by decide)]
        rfl
      obtain ⟨rr, cnt1, pk1, pf1, ps1, pc1, pl2, wr3, c1', c2'⟩ := ih (d + 1) (by omega) (c0 + 1) (lm) w (lo + 3) (upd lam c0 (Int32.ofNat lm)) (upd pk c0 (Int32.ofNat 5)) (upd pf c0 (-1)) (upd ps c0 (-1)) (vp_updL pc c0 0) pl1 (-1) at1 0 (upd tg (60 + c0) (Int32.ofNat 5)) (upd sb (60 + c0) 0) (upd nu (60 + c0) 0) (vp_updL ch (60 + c0) 0) (q_of (ow w) (Int32.ofNat (60 + c0)) fi) (q_os (ow w) (Int32.ofNat (60 + c0)) se) (upd de w (Int32.ofNat (d + 1))) (upd la w (Int32.ofNat (lm))) (upd ow w (Int32.ofNat (2 * (60 + c0)))) (by omega) (by omega) (by omega) (by omega) b3 rfl q_same q_same (.inr ⟨c0, 0, by omega, by decide, q_same⟩)
      refine ⟨Int32.ofNat c0, cnt1, pk1, upd pf1 c0 rr, ps1, pc1, pl2, wr3, ?_, ?_⟩
      · rw [M_Program_fillTerm_43, if_neg zz]
        simp only [ed1, el1]
        rw [if_neg (by decide), if_neg (by decide), if_neg (by decide), if_neg (by decide), if_neg (by decide), if_pos (by decide), c1', k8, chk, if_pos ⟨z0, z60⟩, zc]
      · rcases c2' with ⟨g1, g2⟩ | ⟨g1, g2, g3⟩
        · exact .inl ⟨g1, q_node1 (by omega) hc rfl how (by omega) (by decide) (by rw [if_neg (by decide)]) rt2 (fun j hj => ⟨q_oth (by omega), q_oth (by omega)⟩) g2⟩
        · refine .inr ⟨g1, g2, fun f1 hf => ?_⟩
          obtain ⟨f, rfl⟩ : ∃ x, f1 = x + 1 := ⟨f1 - 1, by omega⟩
          obtain ⟨at2, fo2, wa2, tg2, sb2, nu2, ch2, fi2, se2, de2, la2, ow2, hh, hh2⟩ := g3 f (by omega)
          refine ⟨at2, fo2, wa2, tg2, sb2, nu2, ch2, fi2, se2, de2, la2, ow2, ?_, fun j hj => by
            obtain ⟨t1, t2, t3, t4, t5, t6⟩ := hh2 j hj
            rw [t1, t2, t3, t4, t5, t6, q_oth (by omega), q_oth (by omega), q_oth (by omega), q_othL (by omega), (q_ofL how hc60 hj).1, (q_ofL how hc60 hj).2]
            exact ⟨rfl, rfl, rfl, rfl, rfl, rfl⟩⟩
          rw [s_61 (by omega) hc60 how rt2, if_pos rfl, q_fo1]; exact hh
    · have rt2 : M_MO_readTerm (Int32.ofNat n) at' 0 (Int32.ofNat w) tx tg sb nu ch de la ow (Int32.ofNat (60 + c0)) (de w) (la w) = some (at1, 0, Int32.ofNat w, upd tg (60 + c0) (Int32.ofNat 6), upd sb (60 + c0) 0, upd nu (60 + c0) 0, vp_updL ch (60 + c0) 0, de, la, ow) := by
        rw [rt, hde, hla, s_36 hc (by decide) (by decide) (by decide) (by decide), s_170 (fi := fi) (se := se) (by omega) (by omega) (by omega) (by omega) (by decide)]
        rfl
      refine ⟨Int32.ofNat c0, Int32.ofNat (c0 + 1), upd pk c0 (Int32.ofNat 6), upd pf c0 (-1), upd ps c0 (-1), vp_updL pc c0 0, pl1, -1, ?_, .inl ⟨rfl, ?_⟩⟩
      · rw [M_Program_fillTerm_43, if_neg zz, if_neg (by decide), if_neg (by decide), if_neg (by decide), if_neg (by decide), if_neg (by decide), if_neg (by decide), if_pos (by decide)]
      · refine q_leaf (by omega) hc rfl how rt2 b3 (by omega) rfl (fun j hj => ⟨q_oth hj, q_oth hj, q_oth hj, q_othL hj⟩) (fun j hj => ⟨q_oth hj, q_oth hj, q_oth hj, q_othL hj⟩) ?_
        unfold q_T
        rw [zc]
        simp only [q_Sh, q_SL, q_same, q_sameL]
        refine ⟨trivial, by decide, by decide, l0', l21, fun z => absurd z (by decide), fun z => absurd z (by decide), fun z => absurd z (by decide), fun z => absurd z (by decide), fun z => absurd z (by decide), fun z => absurd z (by decide), fun z => absurd z (by decide)⟩
    · obtain ⟨v, v', pl2, wr3, at2, er3, a1, a2, a3, a4, y, y', a5, a6, rfl, rfl, a9⟩ := q_take h 4 (by decide) b3
      have e4 : Int32.ofNat 4 = 4 := rfl
      rw [e4] at a1 a2
      obtain ⟨wr4, er4, m1, m2, m3, m4, m5⟩ := a3.latest h80 (by omega)
      have s170 := fun (a e : Int32) (nn : Nat → Int32) => s_170 (n := Int32.ofNat n) (tx := tx) (at' := a) (er := e) (tg := upd tg (60 + c0) (Int32.ofNat 7)) (sb := upd sb (60 + c0) 0) (nu := nn) (ch := vp_updL ch (60 + c0) 0) (fi := fi) (se := se) (de := de) (la := la) (ow := ow) (w := w) (i := 60 + c0) (d := d) (lm := lm) (x := 7) (by omega) (by omega) (by omega) (by omega) (by decide)
      have rt2 : M_MO_readTerm (Int32.ofNat n) at' 0 (Int32.ofNat w) tx tg sb nu ch de la ow (Int32.ofNat (60 + c0)) (de w) (la w) = (if Int32.ofNat y' ≤ 11 then some (at2, er3, Int32.ofNat w, upd tg (60 + c0) (Int32.ofNat 7), upd sb (60 + c0) 0, upd nu (60 + c0) (Int32.ofNat y'), vp_updL ch (60 + c0) 0, de, la, ow) else some (at2, er4, Int32.ofNat w, upd tg (60 + c0) (Int32.ofNat 7), upd sb (60 + c0) 0, upd nu (60 + c0) (Int32.ofNat y'), vp_updL ch (60 + c0) 0, de, la, ow)) := by
        rw [rt, hde, hla, M_MO_readTerm_36, if_pos p00]
        simp only [chk, i0, i1, and_self, if_true]
        rw [if_neg (by decide), if_neg (by decide), if_pos (by decide), a2, k3, m2, k1, ic, q_upd2, s170, s170]
        rfl
      have cl2 : M_Program_takeOperation (Int32.ofNat n) pl1 (-1) by' = (if Int32.ofNat y ≤ 11 then some (Int32.ofNat y, pl2, wr3) else some (Int32.ofNat y, pl2, wr4)) := by
        rw [M_Program_takeOperation, a1, k3, m1, k1]
      by_cases hok : wr3 = -1 ∧ Int32.ofNat y ≤ 11
      · obtain ⟨h3, hv1⟩ := hok
        obtain rfl := a9 h3
        rw [if_pos hv1] at rt2 cl2
        refine ⟨Int32.ofNat c0, Int32.ofNat (c0 + 1), upd pk c0 (Int32.ofNat 7), upd pf c0 (-1), upd ps c0 (-1), vp_updL (vp_updL pc c0 0) c0 (Int32.ofNat y).toInt64, pl2, wr3, ?_, .inl ⟨h3, ?_⟩⟩
        · rw [M_Program_fillTerm_43, if_neg zz, if_neg (by decide), if_neg (by decide), if_neg (by decide), if_neg (by decide), if_neg (by decide), if_neg (by decide), if_neg (by decide), if_pos (by decide), cl2, k3, chk, if_pos ⟨z0, z60⟩, zc]
        · refine q_leaf (by omega) hc rfl how rt2 a3 (by omega) h3 (fun j hj => ⟨q_oth hj, q_oth hj, q_oth hj, q_othL hj⟩) (fun j hj => ⟨q_oth hj, q_oth hj, q_oth hj, by rw [q_othL hj, q_othL hj]⟩) ?_
          unfold q_T
          rw [zc]
          simp only [q_Sh, q_SL, q_same, q_sameL]
          refine ⟨trivial, by decide, by decide, l0', l21, fun z => absurd z (by decide), fun z => absurd z (by decide), fun z => absurd z (by decide), fun z => absurd z (by decide), fun z => absurd z (by decide), fun z => absurd z (by decide), fun _ => ⟨trivial, (b_le (a := 0) (by decide) (by omega)).mpr (by omega), hv1⟩⟩
      · have fin : ∃ wr5 er5, M_Program_takeOperation (Int32.ofNat n) pl1 (-1) by' = some (Int32.ofNat y, pl2, wr5) ∧ M_MO_readTerm (Int32.ofNat n) at' 0 (Int32.ofNat w) tx tg sb nu ch de la ow (Int32.ofNat (60 + c0)) (de w) (la w) = some (at2, er5, Int32.ofNat w, upd tg (60 + c0) (Int32.ofNat 7), upd sb (60 + c0) 0, upd nu (60 + c0) (Int32.ofNat y'), vp_updL ch (60 + c0) 0, de, la, ow) ∧ q_OB n (lo + 3 + 4) pl2 wr5 at2 er5 ∧ wr5 ≠ -1 := by
          by_cases h3 : wr3 = -1
          · obtain rfl := a9 h3
            have hv : ¬ Int32.ofNat y ≤ 11 := fun q => hok ⟨h3, q⟩
            exact ⟨wr4, er4, by rw [cl2, if_neg hv], by rw [rt2, if_neg hv], m3, m4⟩
          · have hw4 : wr4 = wr3 := by
              rw [M_Text_refuseLatest, M_Text_refuse, if_neg h3, k1] at m1; exact (Option.some.inj m1).symm
            have he4 : er4 = er3 := by
              rw [M_MO_wrong, if_neg (a3.bad h3).2.1] at m2; exact (Option.some.inj m2).symm
            refine ⟨wr3, er3, ?_, ?_, a3, h3⟩
            · rw [cl2, hw4]; split <;> rfl
            · rw [rt2, he4]; split <;> rfl
        obtain ⟨wr5, er5, g1, g2, g3, g4⟩ := fin
        refine ⟨Int32.ofNat c0, Int32.ofNat (c0 + 1), upd pk c0 (Int32.ofNat 7), upd pf c0 (-1), upd ps c0 (-1), vp_updL (vp_updL pc c0 0) c0 (Int32.ofNat y).toInt64, pl2, wr5, ?_, .inr ⟨g4, ?_⟩⟩
        · rw [M_Program_fillTerm_43, if_neg zz, if_neg (by decide), if_neg (by decide), if_neg (by decide), if_neg (by decide), if_neg (by decide), if_neg (by decide), if_neg (by decide), if_pos (by decide), g1, k3, chk, if_pos ⟨z0, z60⟩, zc]
        · exact q_leafBad (lm := lm) (lam := lam) (pk := pk) (pf := pf) (ps := ps) (pc := pc) (by omega) hc60 rfl how g2 g3 g4 (fun j hj => ⟨q_oth (by omega), q_oth (by omega), q_oth (by omega), q_othL (by omega)⟩)
