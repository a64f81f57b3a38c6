theorem q_readT {n : Nat} {by' tx : Nat → Int32} {sc sv pl wr at' er fo ve wa : Int32} {sk sf ss : Nat → Int32} {sct : Nat → Int64} {tg sb nu : Nat → Int32} {ch : Nat → Int64} {fi se de la ow : Nat → Int32} (h : q_X n by' tx) :
    ∃ (cnt1 ver1 : Int32) (pk1 pf1 ps1 : Nat → Int32) (pc1 : Nat → Int64) (pl1 wr2 at2 er2 fo2 ve2 wa2 : Int32) (tg2 sb2 nu2 : Nat → Int32) (ch2 : Nat → Int64) (fi2 se2 de2 la2 ow2 : Nat → Int32),
      M_Program_fill sc sv sk sf ss sct (Int32.ofNat n) pl wr by' = some (cnt1, ver1, pk1, pf1, ps1, pc1, pl1, wr2) ∧
      M_MO_readText (Int32.ofNat n) at' er fo ve wa tx tg sb nu ch fi se de la ow = some (at2, er2, fo2, ve2, wa2, tg2, sb2, nu2, ch2, fi2, se2, de2, la2, ow2) ∧
      (∀ j, j < 60 → tg2 j = tg j ∧ sb2 j = sb j ∧ nu2 j = nu j ∧ ch2 j = ch j ∧ fi2 j = fi j ∧ se2 j = se j) ∧
      ((wr2 = -1 ∧ er2 = 0 ∧ ∃ (c1 : Nat) (lam : Nat → Int32), 0 < c1 ∧ c1 ≤ 60 ∧ cnt1 = Int32.ofNat c1 ∧ fo2 = Int32.ofNat (60 + c1) ∧ ve2 = ver1 ∧ lam 0 = 0 ∧ ∀ t : Nat, t < c1 → q_T (Int32.ofNat c1) lam pk1 pf1 ps1 pc1 (q_Sh tg2) (q_Sh sb2) (q_Sh nu2) (q_SL ch2) (q_Sm fi2) (q_Sm se2) (Int32.ofNat t)) ∨
       (wr2 ≠ -1 ∧ er2 = -1 - wr2 ∧ ¬ 0 ≤ er2)) := by
  have h80 := h.1
  have hO : q_OB n 0 0 (-1) 0 0 := .inl ⟨0, by omega, by omega, rfl, rfl, rfl, rfl⟩
  obtain ⟨v, v', pl1, wr1, at1, er1, a1, a2, a3, a4⟩ := q_nat h hO
  have z64 : (0 : Int32) ≤ (0 : Int32) ∧ (0 : Int32) < 64 := by decide
  have zc : (0 : Int32).toNatClampNeg = 0 := rfl
  by_cases h1 : wr1 = -1
  · obtain ⟨-, rfl, v0⟩ := a4 h1
    have e0 : er1 = 0 := by obtain ⟨p, -, -, -, -, e⟩ := a3.ok h1; exact e
    have rt : M_MO_readText (Int32.ofNat n) at' er fo ve wa tx tg sb nu ch fi se de la ow = M_MO_readText_61 (Int32.ofNat n) tx 1000 at1 er1 (Int32.ofNat (60 + 0)) v (Int32.ofNat (0 + 1)) tg sb nu ch fi se (upd de 0 0) (upd la 0 0) (upd ow 0 (-1)) := by
      rw [M_MO_readText, a2, k3]
      simp only [chk, z64, and_self, if_true, zc]
      rw [if_pos e0]; rfl
    have hbase : (upd ow 0 (-1)) 0 = (-1 : Int32) := by simp [upd]
    obtain ⟨rr, cnt1, pk1, pf1, ps1, pc1, pl2, wr2, c1', c2'⟩ := q_fill (ve := v) h 22 0 (by omega) 0 0 0 (0 + 1) (fun _ => 0) sk sf ss sct pl1 wr1 at1 er1 tg sb nu ch fi se (upd de 0 0) (upd la 0 0) (upd ow 0 (-1)) (by omega) (by omega) (by omega) (by omega) a3 h1 (by simp [upd]) (by simp [upd]) (.inl hbase)
    rw [show M_Program_fillTerm 22 (Int32.ofNat 0) sk sf ss sct (Int32.ofNat n) pl1 wr1 by' (Int32.ofNat 0) (Int32.ofNat 0) = M_Program_fillTerm 22 0 sk sf ss sct (Int32.ofNat n) pl1 wr1 by' 0 0 from rfl] at c1'
    rcases c2' with ⟨g1, g2⟩ | ⟨g1, ⟨p, w1, g2, g3, rfl, rfl⟩, g4⟩
    · obtain ⟨c1, lo1, lam1, at2, er2, tg2, sb2, nu2, ch2, fi2, se2, de2, la2, ow2, rfl, rfl, b3, b4, b5, b6, b7, b8, b9, b10, b11, b12, b13⟩ := g2
      obtain ⟨wr3, at3, er3, d1, d2, d3⟩ := q_end (fo := Int32.ofNat (60 + c1)) (ve := v) (wa := Int32.ofNat 0) (tg := tg2) (sb := sb2) (nu := nu2) (ch := ch2) (fi := fi2) (se := se2) (de := de2) (la := la2) (ow := ow2) h b6
      have cls : M_Program_fill sc sv sk sf ss sct (Int32.ofNat n) pl wr by' = some (Int32.ofNat c1, v, pk1, pf1, ps1, pc1, pl2, wr3) := by
        rw [M_Program_fill, M_Text_rewind, k2, a1, k3, c1', k8, d1, k1]
      have mo : M_MO_readText (Int32.ofNat n) at' er fo ve wa tx tg sb nu ch fi se de la ow = some (at3, er3, Int32.ofNat (60 + c1), v, Int32.ofNat 0, tg2, sb2, nu2, ch2, fi2, se2, de2, la2, ow2) := by
        rw [rt]
        have := b8 (999 - c1 + 1)
        rw [show 999 - c1 + 1 + (c1 - 0) = 1000 by omega] at this
        rw [this, M_MO_readText_61, if_pos (by decide)]; exact d2
      refine ⟨_, _, _, _, _, _, _, wr3, at3, er3, _, _, _, _, _, _, _, _, _, _, _, _, cls, mo, fun j hj => ?_, ?_⟩
      · obtain ⟨t1, t2, t3, t4, t5, t6⟩ := b10 j (by omega)
        rw [t1, t2, t3, t4, t5, t6, hbase]
        exact ⟨rfl, rfl, rfl, rfl, by simp [q_of], by simp [q_os]⟩
      · rcases d3 with ⟨e1, e2, e3⟩ | ⟨w, e1, e2, e3⟩
        · exact .inl ⟨e1, e2, c1, lam1, b3, b4, rfl, rfl, rfl, b12, fun t ht => b13 t (by omega) ht⟩
        · obtain ⟨n1, n2, n3, n4⟩ := q_neg1 e1
          exact .inr ⟨by rw [e2]; exact n1, by rw [e3, e2], by rw [e3]; exact n3⟩
    · obtain ⟨n1, n2, n3, n4⟩ := q_neg1 g3
      obtain ⟨at2, fo2, wa2, tg2, sb2, nu2, ch2, fi2, se2, de2, la2, ow2, hh, hh2⟩ := g4 1000 (by omega)
      have hq : q_OB n 0 (Int32.ofNat p) (Int32.ofNat w1) 0 (-1 - Int32.ofNat w1) := .inr ⟨p, w1, g2, g3, rfl, rfl, rfl⟩
      obtain ⟨wr3, at3, er3, d1, d2, d3⟩ := q_end (fo := fo) (ve := v) (wa := wa) (tg := tg2) (sb := sb2) (nu := nu2) (ch := ch2) (fi := fi2) (se := se2) (de := de2) (la := la2) (ow := ow2) h hq
      have hwr3 : wr3 = Int32.ofNat w1 := by
        have : M_Text_takeEnding (Int32.ofNat n) (Int32.ofNat p) (Int32.ofNat w1) by' = some (Int32.ofNat w1) := by
          rw [M_Text_takeEnding, M_Text_bits, k1, k1, M_Text_refuse, if_neg n1, k1, M_Text_takeEnding_19, b_or7 (by omega), s_endBad h80 n1 (p / 8 * 8 + 7 - p) 1000 p _ (by omega) (by omega) (by omega)]
          split <;> rfl
        rw [this] at d1
        exact (Option.some.inj d1).symm
      subst hwr3
      have cls : M_Program_fill sc sv sk sf ss sct (Int32.ofNat n) pl wr by' = some (cnt1, v, pk1, pf1, ps1, pc1, Int32.ofNat p, Int32.ofNat w1) := by
        rw [M_Program_fill, M_Text_rewind, k2, a1, k3, c1', k8, d1, k1]
      exact ⟨_, _, _, _, _, _, _, _, at2, _, _, _, _, _, _, _, _, _, _, _, _, _, cls, rt.trans hh, hh2, .inr ⟨n1, rfl, n3⟩⟩
  · have hb := a3.bad h1
    obtain ⟨⟨p, w1, g2, g3, rfl, rfl⟩, -, -⟩ := a3.wr h1
    obtain ⟨n1, n2, n3, n4⟩ := q_neg1 g3
    have rt : M_MO_readText (Int32.ofNat n) at' er fo ve wa tx tg sb nu ch fi se de la ow = some (at1, er1, 60, v', 0, tg, sb, nu, ch, fi, se, upd de 0 0, upd la 0 0, upd ow 0 (-1)) := by
      rw [M_MO_readText, a2, k3]
      simp only [chk, z64, and_self, if_true, zc]
      rw [if_neg hb.2.1]
      exact s_61e (g := 999) hb.2.1
    have hend : M_Text_takeEnding (Int32.ofNat n) (Int32.ofNat p) (Int32.ofNat w1) by' = some (Int32.ofNat w1) := by
      rw [M_Text_takeEnding, M_Text_bits, k1, k1, M_Text_refuse, if_neg n1, k1, M_Text_takeEnding_19, b_or7 (by omega), s_endBad h80 n1 (p / 8 * 8 + 7 - p) 1000 p _ (by omega) (by omega) (by omega)]
      split <;> rfl
    have cls : M_Program_fill sc sv sk sf ss sct (Int32.ofNat n) pl wr by' = some (0, v, sk, sf, ss, sct, Int32.ofNat p, Int32.ofNat w1) := by
      rw [M_Program_fill, M_Text_rewind, k2, a1, k3, s_fillBad (F := 21) n1, k8, hend, k1]
    exact ⟨_, _, _, _, _, _, _, _, _, _, _, _, _, _, _, _, _, _, _, _, _, _, cls, rt, fun j hj => ⟨rfl, rfl, rfl, rfl, rfl, rfl⟩, .inr ⟨n1, hb.2.2, hb.1⟩⟩
theorem q_copy {tx : Nat → Int32} {thr si at' er fo ve lv vals envs frs st sp co made tells wai : Int32} {c1 : Nat} {de la ow : Nat → Int32} (hc : c1 ≤ 60) : ∀ (m f v : Nat) (tg sb nu : Nat → Int32) (ch : Nat → Int64) (fi se : Nat → Int32), m < f → v + m = c1 →
    ∃ (tg2 sb2 nu2 : Nat → Int32) (ch2 : Nat → Int64) (fi2 se2 : Nat → Int32), M_MO_read_47 tx f thr si at' er fo ve (Int32.ofNat c1) lv vals envs frs st sp co made tells wai tg sb nu ch fi se de la ow (Int32.ofNat v) = some (Int32.ofNat c1, thr, si, at', er, fo, ve, Int32.ofNat c1, lv, 0, 0, 0, 0, 0, 0, 0, 0, wai, tg2, sb2, nu2, ch2, fi2, se2, de, la, ow) ∧
      (∀ j, j < v → tg2 j = tg j ∧ sb2 j = sb j ∧ nu2 j = nu j ∧ ch2 j = ch j ∧ fi2 j = fi j ∧ se2 j = se j) ∧ (∀ j, v ≤ j → j < c1 → tg2 j = tg (60 + j) ∧ sb2 j = sb (60 + j) ∧ nu2 j = nu (60 + j) ∧ ch2 j = ch (60 + j) ∧ fi2 j = fi (60 + j) - 60 ∧ se2 j = se (60 + j) - 60) := by
  intro m
  induction m with
  | zero =>
    intro f v tg sb nu ch fi se hf hv
    obtain ⟨f, rfl⟩ : ∃ x, f = x + 1 := ⟨f - 1, by omega⟩
    have e : Int32.ofNat c1 ≤ Int32.ofNat v := (b_le (by omega) (by omega)).mpr (by omega)
    refine ⟨tg, sb, nu, ch, fi, se, by rw [M_MO_read_47, if_pos e, M_MO_nothing, k7], fun j _ => ⟨rfl, rfl, rfl, rfl, rfl, rfl⟩, fun j a b => by omega⟩
  | succ m ih =>
    intro f v tg sb nu ch fi se hf hv
    obtain ⟨f, rfl⟩ : ∃ x, f = x + 1 := ⟨f - 1, by omega⟩
    have e : ¬ Int32.ofNat c1 ≤ Int32.ofNat v := by rw [b_le (by omega) (by omega)]; omega
    have e60 : 60 + Int32.ofNat v = Int32.ofNat (60 + v) := by rw [show (60 : Int32) = Int32.ofNat 60 from rfl, b_add]
    have e1 : Int32.ofNat v + 1 = Int32.ofNat (v + 1) := by rw [show (1 : Int32) = Int32.ofNat 1 from rfl, b_add]
    have i0 : (0 : Int32) ≤ Int32.ofNat (60 + v) := (b_le (a := 0) (by decide) (by omega)).mpr (by omega)
    have i1 : Int32.ofNat (60 + v) < 120 := (b_lt (b := 120) (by omega) (by decide)).mpr (by omega)
    have j0 : (0 : Int32) ≤ Int32.ofNat v := (b_le (a := 0) (by decide) (by omega)).mpr (by omega)
    have j1 : Int32.ofNat v < 120 := (b_lt (b := 120) (by omega) (by decide)).mpr (by omega)
    have cv := b_clamp (a := v) (by omega)
    have c6' := b_clamp (a := 60 + v) (by omega)
    obtain ⟨tg2, sb2, nu2, ch2, fi2, se2, h1, h2, h3⟩ := ih f (v + 1) (upd tg v (tg (60 + v))) (upd sb v (sb (60 + v))) (upd nu v (nu (60 + v))) (vp_updL ch v (ch (60 + v))) (upd fi v (fi (60 + v) - 60)) (upd se v (se (60 + v) - 60)) (by omega) (by omega)
    refine ⟨tg2, sb2, nu2, ch2, fi2, se2, ?_, fun j hj => ?_, fun j a b => ?_⟩
    · rw [M_MO_read_47, if_neg e]
      simp only [e60, chk, i0, i1, j0, j1, and_self, if_true, cv, c6', e1]
      exact h1
    · obtain ⟨t1, t2, t3, t4, t5, t6⟩ := h2 j (by omega)
      rw [t1, t2, t3, t4, t5, t6]
      simp only [upd, vp_updL, if_neg (show ¬ j = v by omega), and_self]
    · by_cases hj : j = v
      · subst hj
        obtain ⟨t1, t2, t3, t4, t5, t6⟩ := h2 j (by omega)
        rw [t1, t2, t3, t4, t5, t6]
        simp only [upd, vp_updL, if_true, and_self]
      · obtain ⟨t1, t2, t3, t4, t5, t6⟩ := h3 j (by omega) b
        rw [t1, t2, t3, t4, t5, t6]
        simp only [upd, vp_updL, if_neg (show ¬ 60 + j = v by omega), and_self]
theorem q_read {n : Nat} {by' tx : Nat → Int32} {pl wr st sp co cnt fc tc sc sv thr at' er fo ve terms lv vals envs frs st' sp' co' made tells wai : Int32} {sk sf ss : Nat → Int32} {sct : Nat → Int64} {tg sb nu : Nat → Int32} {ch : Nat → Int64} {fi se de la ow : Nat → Int32} (h : q_X n by' tx) :
    ∃ (rr : Int32) (sw : Bool) (pl1 wr1 cnt1 ver1 : Int32) (pk1 pf1 ps1 : Nat → Int32) (pc1 : Nat → Int64) (at2 er2 fo2 ve2 wa2 : Int32) (tg2 sb2 nu2 : Nat → Int32) (ch2 : Nat → Int64) (fi2 se2 de2 la2 ow2 : Nat → Int32),
      ((sw = true ∧ M_TM_read (Int32.ofNat n) pl wr by' st sp co cnt fc tc sc sv sk sf ss sct = some (rr, true, 0, pl1, wr1, 0, 0, 0, 0, 0, 0, cnt1, ver1, pk1, pf1, ps1, pc1) ∧
        M_MO_read thr (Int32.ofNat n) at' er fo ve terms lv vals envs frs st' sp' co' made tells wai tx tg sb nu ch fi se de la ow = some (rr, 0, 0, at2, er2, fo2, ve2, cnt1, ver1, 0, 0, 0, 0, 0, 0, 0, 0, wa2, tg2, sb2, nu2, ch2, fi2, se2, de2, la2, ow2) ∧
        0 < cnt1 ∧ ∃ lam, q_P cnt1 lam pk1 pf1 ps1 pc1 tg2 sb2 nu2 ch2 fi2 se2) ∨
       (sw = false ∧ M_TM_read (Int32.ofNat n) pl wr by' st sp co cnt fc tc sc sv sk sf ss sct = some (rr, false, 0, pl1, wr1, st, sp, co, cnt, fc, tc, cnt1, ver1, pk1, pf1, ps1, pc1) ∧
        M_MO_read thr (Int32.ofNat n) at' er fo ve terms lv vals envs frs st' sp' co' made tells wai tx tg sb nu ch fi se de la ow = some (rr, 0, 0, at2, er2, fo2, ve2, terms, lv, vals, envs, frs, st', sp', co', made, tells, wa2, tg2, sb2, nu2, ch2, fi2, se2, de2, la2, ow2) ∧
        ∀ j, j < 60 → tg2 j = tg j ∧ sb2 j = sb j ∧ nu2 j = nu j ∧ ch2 j = ch j ∧ fi2 j = fi j ∧ se2 j = se j)) := by
  obtain ⟨cnt1, ver1, pk1, pf1, ps1, pc1, pl1, wr2, at2, er2, fo2, ve2, wa2, tg2, sb2, nu2, ch2, fi2, se2, de2, la2, ow2, a1, a2, a3, a4⟩ := q_readT (sc := sc) (sv := sv) (pl := pl) (wr := wr) (at' := at') (er := er) (fo := fo) (ve := ve) (wa := wai) (sk := sk) (sf := sf) (ss := ss) (sct := sct) (tg := tg) (sb := sb) (nu := nu) (ch := ch) (fi := fi) (se := se) (de := de) (la := la) (ow := ow) h
  rcases a4 with ⟨b1, b2, c1, lam, b3, b4, rfl, rfl, rfl, b5, b6⟩ | ⟨b1, b2, b3⟩
  · obtain ⟨tg3, sb3, nu3, ch3, fi3, se3, d1, d2, d3⟩ := q_copy (tx := tx) (thr := 0) (si := 0) (at' := at2) (er := er2) (fo := Int32.ofNat (60 + c1)) (ve := ve2) (lv := ve2) (vals := vals) (envs := envs) (frs := frs) (st := st') (sp := sp') (co := co') (made := made) (tells := tells) (wai := wa2) (de := de2) (la := la2) (ow := ow2) b4 c1 1000 0 tg2 sb2 nu2 ch2 fi2 se2 (by omega) (by omega)
    refine ⟨Int32.ofNat c1, true, pl1, wr2, Int32.ofNat c1, ve2, pk1, pf1, ps1, pc1, at2, er2, Int32.ofNat (60 + c1), ve2, wa2, tg3, sb3, nu3, ch3, fi3, se3, de2, la2, ow2, .inl ⟨rfl, ?_, ?_, ?_, lam, ?_, ?_, b5, ?_⟩⟩
    · rw [M_TM_read, a1, k8, if_pos b1, M_Work_forget, k6]
    · have e : Int32.ofNat (60 + c1) - 60 = Int32.ofNat c1 := by
        rw [show (60 : Int32) = Int32.ofNat 60 from rfl, b_sub (by omega) (by omega)]; congr 1; omega
      rw [M_MO_read, a2, k14, if_pos (by rw [b2]; exact Int32.le_rfl), e]
      exact d1
    · exact (b_lt (a := 0) (by decide) (by omega)).mpr b3
    · exact (b_le (a := 0) (by decide) (by omega)).mpr (by omega)
    · exact (b_le (b := 60) (by omega) (by decide)).mpr b4
    · intro t t0 t1
      obtain ⟨q, rfl, hq⟩ := b_of t0
      have hq1 := (b_lt hq (by omega)).mp t1
      have bc := b_clamp hq
      obtain ⟨t1', t2, t3, t4, t5, t6⟩ := d3 q (by omega) hq1
      exact (b6 q hq1).mono t0 t1 Int32.le_rfl (fun _ _ _ => rfl) rfl rfl rfl rfl (by rw [bc]; exact t1') (by rw [bc]; exact t2) (by rw [bc]; exact t3) (by rw [bc]; exact t4) (by rw [bc]; exact t5) (by rw [bc]; exact t6)
  · refine ⟨-1 - wr2, false, pl1, wr2, cnt1, ver1, pk1, pf1, ps1, pc1, at2, er2, fo2, ve2, wa2, tg2, sb2, nu2, ch2, fi2, se2, de2, la2, ow2, .inr ⟨rfl, ?_, ?_, a3⟩⟩
    · rw [M_TM_read, a1, k8, if_neg b1]
    · rw [M_MO_read, a2, k14, if_neg b3, b2]
