theorem q_say2 {cn x : Int32} {nm td : Nat → Int32} (h : q_N cn nm cn td) :
    ∃ cn1 nm1 td1, M_Teller_add cn nm x = some (cn1, nm1) ∧ M_MO_say cn td x = some (cn1, td1) ∧ q_N cn1 nm1 cn1 td1 ∧ cn ≤ cn1 ∧ (cn < 400 → cn < cn1) ∧ (cn1 < 400 → cn1 = cn + 1) := by
  have h0 := h.2.1
  have h4 := h.2.2.1
  obtain ⟨cn1, nm1, td1, a1, a2, a3, a4, a5⟩ := q_say (x := x) h
  exact ⟨cn1, nm1, td1, a1, a2, a3, by grind, by grind, by grind⟩
theorem t_40 {c : Nat → Int64} {l r gv K N : Nat → Int32} {B : Nat → Int64} {P A Y G : Nat → Int32} {cn wt v w o fo : Int32} {nm pa ev la td wa wh ins : Nat → Int32} (hN : q_N cn nm cn td) (w0 : 0 ≤ w) (w7 : w < 700) (hY : (Y (Int32.toNatClampNeg (w))) = 0 ∨ (Y (Int32.toNatClampNeg (w))) = 1 ∨ (Y (Int32.toNatClampNeg (w))) = 2) :
    ∃ cn1 nm1 td1, M_Teller_tellPartial_40 c l r gv 1000 cn wt nm pa ev la v o fo (Y (Int32.toNatClampNeg (w))) 0 = M_Teller_tellPartial_61 c l r gv 1000 cn1 wt nm1 pa ev la v o fo (Y (Int32.toNatClampNeg (w))) 0 ∧
      M_MO_sayValue_84 K N B P A Y G 1000 cn wt td wa wh ins w 0 = M_MO_sayValue_107 K N B P A Y G 1000 cn1 wt td1 wa wh ins w 0 ∧ q_N cn1 nm1 cn1 td1 ∧ cn ≤ cn1 ∧ (cn1 < 400 → cn1 = cn + (Y (Int32.toNatClampNeg (w)))) := by
  have z1 : (0 : Int32) + 1 = 1 := by decide
  have z2 : (1 : Int32) + 1 = 2 := by decide
  have hh := hN.2.2.1
  rcases hY with h | h | h
  · refine ⟨cn, nm, td, ?_, ?_, hN, Int32.le_rfl, by grind⟩
    · rw [M_Teller_tellPartial_40, h, if_pos Int32.le_rfl]
    · rw [M_MO_sayValue_84, h, if_pos Int32.le_rfl, chk, if_pos ⟨w0, w7⟩]
  · obtain ⟨cn1, nm1, td1, a1, a2, a3, a4, a5, a6⟩ := q_say2 (x := 3) hN
    refine ⟨cn1, nm1, td1, ?_, ?_, a3, a4, by grind⟩
    · rw [M_Teller_tellPartial_40, h, if_neg (by decide), a1, k2, z1, M_Teller_tellPartial_40, if_pos Int32.le_rfl]
    · rw [M_MO_sayValue_84, h, if_neg (by decide), chk, if_pos ⟨w0, w7⟩, a2, k2, z1, M_MO_sayValue_84, h, if_pos Int32.le_rfl, chk, if_pos ⟨w0, w7⟩]
  · obtain ⟨cn1, nm1, td1, a1, a2, a3, a4, a5, a6⟩ := q_say2 (x := 3) hN
    obtain ⟨cn2, nm2, td2, b1, b2, b3, b4, b5, b6⟩ := q_say2 (x := 3) a3
    refine ⟨cn2, nm2, td2, ?_, ?_, b3, Int32.le_trans a4 b4, by grind⟩
    · rw [M_Teller_tellPartial_40, h, if_neg (by decide), a1, k2, z1, M_Teller_tellPartial_40, if_neg (by decide), b1, k2, z2, M_Teller_tellPartial_40, if_pos Int32.le_rfl]
    · rw [M_MO_sayValue_84, h, if_neg (by decide), chk, if_pos ⟨w0, w7⟩, a2, k2, z1, M_MO_sayValue_84, h, if_neg (by decide), chk, if_pos ⟨w0, w7⟩, b2, k2, z2, M_MO_sayValue_84, h, if_pos Int32.le_rfl, chk, if_pos ⟨w0, w7⟩]
theorem t_61 {c : Nat → Int64} {l r gv K N : Nat → Int32} {B : Nat → Int64} {P A Y G : Nat → Int32} {cn wt v w o ar : Int32} {nm pa ev la td wa wh ins : Nat → Int32} (hN : q_N cn nm cn td) (w0 : 0 ≤ w) (w7 : w < 700) (hA : (A (Int32.toNatClampNeg (w))) = 0 ∨ (A (Int32.toNatClampNeg (w))) = 1) (ho : (P (Int32.toNatClampNeg (w))) = o) :
    ∃ cn1 nm1 td1, M_Teller_tellPartial_61 c l r gv 1000 cn wt nm pa ev la v o (A (Int32.toNatClampNeg (w))) ar 0 = M_Teller_tellPartial_96 c l r gv 1000 cn1 wt nm1 pa ev la ar v 0 ∧
      M_MO_sayValue_107 K N B P A Y G 1000 cn wt td wa wh ins w 0 = M_MO_sayValue_153 K N B P A Y G 1000 cn1 wt td1 wa wh ins w ((Y (Int32.toNatClampNeg (w))) - 1) ∧ q_N cn1 nm1 cn1 td1 ∧ cn ≤ cn1 ∧ (cn < 400 → cn < cn1) ∧ (cn1 < 400 → cn1 = cn + (A (Int32.toNatClampNeg (w))) + 2) := by
  have z1 : (0 : Int32) + 1 = 1 := by decide
  have hh := hN.2.2.1
  rcases hA with h | h
  · obtain ⟨cn1, nm1, td1, a1, a2, a3, a4, a5, a6⟩ := q_say2 (x := 7) hN
    obtain ⟨cn2, nm2, td2, b1, b2, b3, b4, b5, b6⟩ := q_say2 (x := o) a3
    refine ⟨cn2, nm2, td2, ?_, ?_, b3, Int32.le_trans a4 b4, fun z => Int32.lt_of_lt_of_le (a5 z) b4, by grind⟩
    · rw [M_Teller_tellPartial_61, h, if_pos Int32.le_rfl, a1, k2, b1, k2]
    · rw [M_MO_sayValue_107, h, if_pos Int32.le_rfl, chk, if_pos ⟨w0, w7⟩, a2, k2, chk, if_pos ⟨w0, w7⟩, ho, b2, k2, chk, if_pos ⟨w0, w7⟩]
  · obtain ⟨cn0, nm0, td0, c1, c2, c3, c4, c5, c6⟩ := q_say2 (x := 5) hN
    obtain ⟨cn1, nm1, td1, a1, a2, a3, a4, a5, a6⟩ := q_say2 (x := 7) c3
    obtain ⟨cn2, nm2, td2, b1, b2, b3, b4, b5, b6⟩ := q_say2 (x := o) a3
    have i1 := Int32.le_trans a4 b4
    refine ⟨cn2, nm2, td2, ?_, ?_, b3, Int32.le_trans c4 i1, fun z => Int32.lt_of_lt_of_le (c5 z) i1, ?_⟩
    · rw [M_Teller_tellPartial_61, h, if_neg (by decide), c1, k2, z1, M_Teller_tellPartial_61, if_pos Int32.le_rfl, a1, k2, b1, k2]
    · rw [M_MO_sayValue_107, h, if_neg (by decide), chk, if_pos ⟨w0, w7⟩, c2, k2, z1, M_MO_sayValue_107, h, if_pos Int32.le_rfl, chk, if_pos ⟨w0, w7⟩, a2, k2, chk, if_pos ⟨w0, w7⟩, ho, b2, k2, chk, if_pos ⟨w0, w7⟩]
    · intro z
      have e2 := b6 z
      have e1 := a6 (Int32.lt_of_le_of_lt b4 z)
      have e0 := c6 (Int32.lt_of_le_of_lt i1 z)
      grind
theorem q_tv {n : Int32} {lam : Nat → Int32} {cnt : Int32} {k : Nat → Int32} {c : Nat → Int64} {l r gv g dp : Nat → Int32} {vals envs : Int32} {K N : Nat → Int32} {B : Nat → Int64} {P A Y G H O : Nat → Int32} {v w cn wt : Int32} {nm pa ev la td wa wh ins : Nat → Int32}
    (hl : ∀ t : Int32, 0 ≤ t → t < n → 0 ≤ (lam (Int32.toNatClampNeg (t))) ∧ (lam (Int32.toNatClampNeg (t))) ≤ 21) (hS : q_S n lam cnt k c l r gv g dp vals envs K N B P A Y G H O) (hV : q_V vals cnt k g v w) (hN : q_N cn nm cn td) (hL : q_L n lam cnt vals envs k g dp wt pa ev la wa wh ins) (hc : cn < 400) (hw : wt ≤ cn) :
    ∃ cn1 wt1 nm1 pa1 ev1 la1 td1 wa1 wh1 ins1, M_Teller_tellValue cn wt nm pa ev la k c l r gv v = some (cn1, wt1, nm1, pa1, ev1, la1) ∧ M_MO_sayValue cn wt K N B P A Y G td wa wh ins w = some (cn1, wt1, td1, wa1, wh1, ins1) ∧ q_N cn1 nm1 cn1 td1 ∧ q_L n lam cnt vals envs k g dp wt1 pa1 ev1 la1 wa1 wh1 ins1 ∧ cn < cn1 ∧ (cn1 < 400 → wt1 ≤ cn1 + 1) := by
  obtain ⟨hI, hK, kp0, kp6, v6, w6⟩ := q_pt hS hV
  obtain ⟨s1, s2, s3, s4, s5, s6, s7⟩ := id hS
  have v0 := hV.1
  have w0 := hV.2.2.2.1
  have w7 : w < 700 := by grind
  have c0 := hN.2.1
  have L0 := hL.1
  have hw8 : wt < 408 := by grind
  have vc := Int32.le_of_lt hV.2.1
  rcases (show (k (Int32.toNatClampNeg (v))) ≤ 3 ∨ (k (Int32.toNatClampNeg (v))) = 4 ∨ (k (Int32.toNatClampNeg (v))) = 5 ∨ (k (Int32.toNatClampNeg (v))) = 6 by grind) with h | h | h | h
  · obtain ⟨cn1, nm1, td1, a1, a2, a3, a4, a5⟩ := q_const hN kp0 h (hI.2.2.1 h)
    have n4 : ¬ (k (Int32.toNatClampNeg (v))) = 4 := by grind
    have n5 : ¬ (k (Int32.toNatClampNeg (v))) = 5 := by grind
    have n6 : ¬ (k (Int32.toNatClampNeg (v))) = 6 := by grind
    have n7 : ¬ 4 ≤ (k (Int32.toNatClampNeg (v))) := by grind
    refine ⟨cn1, wt, nm1, pa, ev, la, td1, wa, wh, ins, ?_, ?_, a3, hL, a5 hc, by grind⟩
    · simp only [M_Teller_tellValue, q_at600 v0 v6, q_atL600 v0 v6, n4, n5, n6, if_false, a1, k2]
    · simp only [M_MO_sayValue, chk, w0, w7, and_self, if_true, hK, n7, if_false, a2, k2]
  · obtain ⟨e1, e2, e3⟩ := hI.2.2.2.1 (.inl h)
    obtain ⟨cn1, nm1, td1, a1, a2, a3, a4, a5, a6⟩ := q_say2 (x := 1) hN
    have hl1 := hl _ e2 e3
    obtain ⟨pa1, ev1, la1, wa1, wh1, ins1, b1, b2, b3, b4⟩ := q_push (a := (l (Int32.toNatClampNeg (v)))) (b := (r (Int32.toNatClampNeg (v)))) (d := 0) (w0 := 1) (x := (P (Int32.toNatClampNeg (w)))) (b' := (A (Int32.toNatClampNeg (w)))) (d' := 0) hL hw8 (by grind) (.inr ⟨by decide, by decide, rfl, e1, e2, e3, rfl, (lam (Int32.toNatClampNeg ((l (Int32.toNatClampNeg (v)))))), (hI.2.2.2.2.1 h).mono Int32.le_rfl vc (fun _ _ _ => rfl) (fun _ _ _ => rfl) (fun _ _ _ => rfl), hl1.1, hl1.2, by grind⟩)
    refine ⟨cn1, wt + 1, nm1, pa1, ev1, la1, td1, wa1, wh1, ins1, ?_, ?_, a3, b3, a5 hc, by grind⟩
    · simp only [M_Teller_tellValue, q_at600 v0 v6, h, if_true, a1, k2, b1, k4]
    · simp [M_MO_sayValue, chk, w0, w7, hK, h, M_MO_sayValue_49, a2, k2, M_MO_sayValue_76, b2, k4]
  · obtain ⟨e1, e2, e3⟩ := hI.2.2.2.1 (.inr h)
    obtain ⟨cn1, nm1, td1, a1, a2, a3, a4, a5, a6⟩ := q_say2 (x := 2) hN
    have hl1 := hl _ e2 e3
    obtain ⟨hE, l1⟩ := hI.2.2.2.2.2.1 h
    obtain ⟨pa1, ev1, la1, wa1, wh1, ins1, b1, b2, b3, b4⟩ := q_push (a := (l (Int32.toNatClampNeg (v)))) (b := (r (Int32.toNatClampNeg (v)))) (d := 1) (w0 := 1) (x := (P (Int32.toNatClampNeg (w)))) (b' := (A (Int32.toNatClampNeg (w)))) (d' := 1) hL hw8 (by grind) (.inr ⟨by decide, by decide, rfl, e1, e2, e3, rfl, (lam (Int32.toNatClampNeg ((l (Int32.toNatClampNeg (v)))))) - 1, hE.mono Int32.le_rfl vc (fun _ _ _ => rfl) (fun _ _ _ => rfl) (fun _ _ _ => rfl), by grind, by grind, by grind⟩)
    refine ⟨cn1, wt + 1, nm1, pa1, ev1, la1, td1, wa1, wh1, ins1, ?_, ?_, a3, b3, a5 hc, by grind⟩
    · have n4 : ¬ (5 : Int32) = 4 := by decide
      simp only [M_Teller_tellValue, q_at600 v0 v6, h, n4, if_false, if_true, a1, k2, b1, k4]
    · simp [M_MO_sayValue, chk, w0, w7, hK, h, M_MO_sayValue_49, a2, k2, M_MO_sayValue_76, b2, k4]
  · obtain ⟨e1, e2, e3, e4, e5, e6, e7, e8⟩ := hI.2.2.2.2.2.2.1 h
    have e9 := hI.2.2.2.2.2.2.2.1 h
    have e10 := hI.2.2.2.2.2.2.2.2 h
    have eo : (atL 600 c v).toInt32 = (P (Int32.toNatClampNeg (w))) := by rw [q_atL600 v0 v6, e1]; simp
    have f01 := q_fo01 (P (Int32.toNatClampNeg (w)))
    have r13 := q_ar13 (P (Int32.toNatClampNeg (w)))
    have hA : (A (Int32.toNatClampNeg (w))) = 0 ∨ (A (Int32.toNatClampNeg (w))) = 1 := by grind
    have hY : (Y (Int32.toNatClampNeg (w))) = 0 ∨ (Y (Int32.toNatClampNeg (w))) = 1 ∨ (Y (Int32.toNatClampNeg (w))) = 2 := by grind
    have ef : (if q_fo (P (Int32.toNatClampNeg (w))) < (A (Int32.toNatClampNeg (w))) + (Y (Int32.toNatClampNeg (w))) then q_fo (P (Int32.toNatClampNeg (w))) else (A (Int32.toNatClampNeg (w))) + (Y (Int32.toNatClampNeg (w)))) = (A (Int32.toNatClampNeg (w))) := by
      by_cases h0 : 0 < (Y (Int32.toNatClampNeg (w)))
      · have := (e9 h0).1
        rw [if_pos (by grind)]; exact this.symm
      · rw [if_neg (by grind)]; grind
    have ea : (A (Int32.toNatClampNeg (w))) + (Y (Int32.toNatClampNeg (w))) - (A (Int32.toNatClampNeg (w))) = (Y (Int32.toNatClampNeg (w))) := by grind
    obtain ⟨cn1, nm1, td1, a1, a2, a3, a4, a5⟩ := t_40 (c := c) (l := l) (r := r) (gv := gv) (K := K) (N := N) (B := B) (P := P) (A := A) (G := G) (wt := wt) (v := v) (o := (P (Int32.toNatClampNeg (w)))) (fo := (A (Int32.toNatClampNeg (w)))) (pa := pa) (ev := ev) (la := la) (wa := wa) (wh := wh) (ins := ins) hN w0 w7 hY
    obtain ⟨cn2, nm2, td2, b1, b2, b3, b4, b5, b6⟩ := t_61 (c := c) (l := l) (r := r) (gv := gv) (K := K) (N := N) (B := B) (Y := Y) (G := G) (wt := wt) (v := v) (ar := (Y (Int32.toNatClampNeg (w)))) (pa := pa) (ev := ev) (la := la) (wa := wa) (wh := wh) (ins := ins) a3 w0 w7 hA rfl
    have hlt : cn < cn2 := by
      by_cases hz : cn1 < 400
      · exact Int32.lt_of_le_of_lt a4 (b5 hz)
      · have := a3.2.2.1; grind
    have hbd : cn2 < 400 → wt + (Y (Int32.toNatClampNeg (w))) ≤ cn2 + 1 := fun z => by
      have i1 := b6 z
      have i2 := a5 (Int32.lt_of_le_of_lt b4 z)
      grind
    have cls : M_Teller_tellValue cn wt nm pa ev la k c l r gv v = c6 (M_Teller_tellPartial_96 c l r gv 1000 cn2 wt nm2 pa ev la (Y (Int32.toNatClampNeg (w))) v 0) (fun a b c d e f => some (a, b, c, d, e, f)) := by
      have n4 : ¬ (6 : Int32) = 4 := by decide
      have n5 : ¬ (6 : Int32) = 5 := by decide
      simp only [M_Teller_tellValue, q_at600 v0 v6, h, n4, n5, if_false, if_true, M_Teller_tellPartial, M_Store_operationOf, eo, k1, q_atF e2 e3, e8, ef, ea]
      rw [a1, b1]
    have mos : M_MO_sayValue cn wt K N B P A Y G td wa wh ins w = M_MO_sayValue_153 K N B P A Y G 1000 cn2 wt td2 wa wh ins w ((Y (Int32.toNatClampNeg (w))) - 1) := by
      have n4 : (4 : Int32) ≤ 6 := by decide
      have n5 : (6 : Int32) ≤ 6 := by decide
      simp only [M_MO_sayValue, chk, w0, w7, and_self, if_true, hK, h, n4, n5]
      rw [a2, b2]
    rw [cls, mos]
    have z1 : (0 : Int32) + 1 = 1 := by decide
    have z2 : (1 : Int32) + 1 = 2 := by decide
    have z3 : (1 : Int32) - 1 = 0 := by decide
    have z4 : (2 : Int32) - 1 = 1 := by decide
    have z5 : (0 : Int32) - 1 = -1 := by decide
    have z6 : (0 : Int32) + -1 = -1 := by decide
    have z7 : (1 : Int32) + -1 = 0 := by decide
    rcases hY with y | y | y
    · refine ⟨cn2, wt, nm2, pa, ev, la, td2, wa, wh, ins, ?_, ?_, b3, hL, hlt, fun z => by have := hbd z; grind⟩
      · rw [M_Teller_tellPartial_96, y, if_pos Int32.le_rfl, k6]
      · rw [y, z5, M_MO_sayValue_153, if_pos (by decide)]
    · have hV0 := (e9 (by grind)).2.1
      rw [y, show 3 * w + (1 - 1) = 3 * w + 0 by grind] at hV0
      obtain ⟨pa1, ev1, la1, wa1, wh1, ins1, p1, p2, p3, p4⟩ := q_push (a := (l (Int32.toNatClampNeg (v)))) (b := -1) (d := -1) (w0 := 0) (x := (G (Int32.toNatClampNeg (3 * w + 0)))) (b' := -1) (d' := 0) hL hw8 (by have := hV0.1; grind) (.inl ⟨rfl, rfl, hV0.mono Int32.le_rfl vc (fun _ _ _ => rfl) (fun _ _ _ => rfl)⟩)
      refine ⟨cn2, wt + 1, nm2, pa1, ev1, la1, td2, wa1, wh1, ins1, ?_, ?_, b3, p3, hlt, fun z => by have := hbd z; grind⟩
      · rw [M_Teller_tellPartial_96, y, if_neg (by decide), q_at600 v0 v6, p1, k4, z1, M_Teller_tellPartial_96, if_pos Int32.le_rfl, k6]
      · rw [y, z3, M_MO_sayValue_153, if_neg (by decide), chk, if_pos (by grind), p2, k4, z6, M_MO_sayValue_153, if_pos (by decide)]
    · obtain ⟨-, hV1, hR⟩ := e9 (by grind)
      have hV0 := e10 y
      have r0 := hR.1
      have r1 := hR.2.1
      have r6 : (r (Int32.toNatClampNeg (v))) < 600 := by grind
      rw [y, show 3 * w + (2 - 1) = 3 * w + 1 by grind] at hV1
      rw [show 3 * w = 3 * w + 0 by grind] at hV0
      obtain ⟨pa1, ev1, la1, wa1, wh1, ins1, p1, p2, p3, p4⟩ := q_push (a := (l (Int32.toNatClampNeg (v)))) (b := -1) (d := -1) (w0 := 0) (x := (G (Int32.toNatClampNeg (3 * w + 1)))) (b' := -1) (d' := 0) hL hw8 (by have := hV1.1; grind) (.inl ⟨rfl, rfl, hV1.mono Int32.le_rfl vc (fun _ _ _ => rfl) (fun _ _ _ => rfl)⟩)
      obtain ⟨pa2, ev2, la2, wa2, wh2, ins2, q1, q2, q3, q4⟩ := q_push (a := (l (Int32.toNatClampNeg ((r (Int32.toNatClampNeg (v))))))) (b := -1) (d := -1) (w0 := 0) (x := (G (Int32.toNatClampNeg (3 * w + 0)))) (b' := -1) (d' := 0) p3 (by grind) (by have := hV0.1; grind) (.inl ⟨rfl, rfl, hV0.mono Int32.le_rfl (Int32.le_trans (Int32.le_of_lt r1) vc) (fun _ _ _ => rfl) (fun _ _ _ => rfl)⟩)
      refine ⟨cn2, wt + 1 + 1, nm2, pa2, ev2, la2, td2, wa2, wh2, ins2, ?_, ?_, b3, q3, hlt, fun z => by have := hbd z; grind⟩
      · rw [M_Teller_tellPartial_96, y, if_neg (by decide), q_at600 v0 v6, p1, k4, z1, M_Teller_tellPartial_96, if_neg (by decide), q_at600 v0 v6, q_at600 r0 r6, q1, k4, z2, M_Teller_tellPartial_96, if_pos Int32.le_rfl, k6]
      · rw [y, z4, M_MO_sayValue_153, if_neg (by decide), chk, if_pos (by grind), p2, k4, z7, M_MO_sayValue_153, if_neg (by decide), chk, if_pos (by grind), q2, k4, z6, M_MO_sayValue_153, if_pos (by decide)]
