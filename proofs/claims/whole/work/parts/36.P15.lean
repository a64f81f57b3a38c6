theorem q_var2 {n : Int32} {lam : Nat → Int32} {k : Nat → Int32} {c : Nat → Int64} {l r gv g dp : Nat → Int32} {vals envs cnt : Int32} {K N : Nat → Int32} {B : Nat → Int64} {P A Y G H O : Nat → Int32} {tg sb nu : Nat → Int32} {ch : Nat → Int64} {fi se : Nat → Int32} {cn wt t : Int32} {td wa wh ins : Nat → Int32} (hS : q_S n lam cnt k c l r gv g dp vals envs K N B P A Y G H O) (t0 : 0 ≤ t) (t1 : t < 120) :
    ∀ (m : Nat) (f f1 : Nat) (e w d kk i i2 : Int32), m < f → m < f1 → (kk - i).toNatClampNeg = m → 1 ≤ i → i ≤ kk → (nu (Int32.toNatClampNeg (t))) - i2 = kk - i → 1 ≤ i2 → i2 ≤ (nu (Int32.toNatClampNeg (t))) → kk - i < d → q_E envs cnt k g dp e w d →
      ∃ v v', M_Store_valueAt_5 l r f kk e i = some v ∧ M_MO_sayTerm_31 tg sb nu ch fi se H O f1 cn wt td wa wh ins t w i2 = c4 (M_MO_ask wt wa wh ins 0 v' (-1) 0) (fun a b c d => some (cn, a, td, b, c, d)) ∧ q_V vals cnt k g v v' := by
  obtain ⟨a1, a2, a3, a4, a5, a6, a7⟩ := hS
  intro m
  induction m with
  | zero =>
    intro f f1 e w d kk i i2 hf hf1 hm i1 ik hi2 j1 j2 hd hE
    obtain ⟨f, rfl⟩ : ∃ x, f = x + 1 := ⟨f - 1, by omega⟩
    obtain ⟨f1, rfl⟩ : ∃ x, f1 = x + 1 := ⟨f1 - 1, by omega⟩
    have hk : kk ≤ i := by
      false_or_by_contra
      have := q_dec (a := i) (b := kk) (by grind) (by grind)
      omega
    have hk2 : (nu (Int32.toNatClampNeg (t))) ≤ i2 := by grind
    rcases hE with ⟨rfl, rfl, rfl⟩ | ⟨e0, e1, e2, w0, w1, ge, rfl⟩
    · exfalso; grind
    · have hI := (a7 e e0 e1 (by grind)).1 e2
      rw [ge] at hI
      refine ⟨(l (Int32.toNatClampNeg (e))), (H (Int32.toNatClampNeg (w))), ?_, ?_, ?_⟩
      · rw [M_Store_valueAt_5, if_pos hk, M_Store_valueAt_31, q_at600 e0 (by grind)]
      · rw [M_MO_sayTerm_31, chk, if_pos ⟨t0, t1⟩, if_pos hk2, chk, if_pos (by grind)]
      · exact hI.2.2.1.mono Int32.le_rfl (Int32.le_of_lt e1) (fun _ _ _ => rfl) (fun _ _ _ => rfl)
  | succ m ih =>
    intro f f1 e w d kk i i2 hf hf1 hm i1 ik hi2 j1 j2 hd hE
    obtain ⟨f, rfl⟩ : ∃ x, f = x + 1 := ⟨f - 1, by omega⟩
    obtain ⟨f1, rfl⟩ : ∃ x, f1 = x + 1 := ⟨f1 - 1, by omega⟩
    have hk : ¬ kk ≤ i := by
      intro h
      have : kk = i := by grind
      subst this
      simp at hm
    have hk2 : ¬ (nu (Int32.toNatClampNeg (t))) ≤ i2 := by grind
    have hm1 := q_dec (a := i) (b := kk) (by grind) (by grind)
    rcases hE with ⟨rfl, rfl, rfl⟩ | ⟨e0, e1, e2, w0, w1, ge, rfl⟩
    · exfalso; grind
    · have hI := (a7 e e0 e1 (by grind)).1 e2
      rw [ge] at hI
      obtain ⟨v, v', x1, x2, x3⟩ := ih f f1 (r (Int32.toNatClampNeg (e))) (O (Int32.toNatClampNeg (w))) ((dp (Int32.toNatClampNeg (e))) - 1) kk (i + 1) (i2 + 1) (by omega) (by omega) (by omega) (by grind) (by grind) (by grind) (by grind) (by grind) (by grind) (hI.2.2.2.mono Int32.le_rfl (Int32.le_of_lt e1) (fun _ _ _ => rfl) (fun _ _ _ => rfl) (fun _ _ _ => rfl))
      refine ⟨v, v', ?_, ?_, x3⟩
      · rw [M_Store_valueAt_5, if_neg hk, if_neg (by grind), q_at600 e0 (by grind)]; exact x1
      · rw [M_MO_sayTerm_31, chk, if_pos ⟨t0, t1⟩, if_neg hk2, chk, if_pos (by grind)]; exact x2
theorem q_tt {n : Int32} {lam pk pf ps : Nat → Int32} {pc : Nat → Int64} {tg sb nu : Nat → Int32} {ch : Nat → Int64} {fi se : Nat → Int32} {cnt : Int32} {k : Nat → Int32} {c : Nat → Int64} {l r gv g dp : Nat → Int32} {vals envs : Int32} {K N : Nat → Int32} {B : Nat → Int64} {P A Y G H O : Nat → Int32} {cn wt d i : Int32} {nm pa ev la td wa wh ins : Nat → Int32}
    (hP : q_P n lam pk pf ps pc tg sb nu ch fi se) (hS : q_S n lam cnt k c l r gv g dp vals envs K N B P A Y G H O) (hN : q_N cn nm cn td) (hL : q_L n lam cnt vals envs k g dp wt pa ev la wa wh ins) (hc : cn < 400) (hw : wt ≤ cn)
    (t0 : 0 ≤ (pa (Int32.toNatClampNeg (wt)))) (t1 : (pa (Int32.toNatClampNeg (wt))) < n) (i0 : 0 ≤ i) (i1 : i ≤ 21) (hla : (la (Int32.toNatClampNeg (wt))) = i) (hE : q_E envs cnt k g dp (ev (Int32.toNatClampNeg (wt))) (wh (Int32.toNatClampNeg (wt))) d) (d0 : 0 ≤ d) (d1 : d ≤ 21) (hd : d + i = (lam (Int32.toNatClampNeg ((pa (Int32.toNatClampNeg (wt))))))) :
    ∃ cn1 wt1 nm1 pa1 ev1 la1 td1 wa1 wh1 ins1, M_Teller_tellTerm cn wt nm pa ev la pk pf ps pc l r wt = some (cn1, wt1, nm1, pa1, ev1, la1) ∧ M_MO_sayTerm cn wt tg sb nu ch fi se H O td wa wh ins (pa (Int32.toNatClampNeg (wt))) (wh (Int32.toNatClampNeg (wt))) i = some (cn1, wt1, td1, wa1, wh1, ins1) ∧ q_N cn1 nm1 cn1 td1 ∧ q_L n lam cnt vals envs k g dp wt1 pa1 ev1 la1 wa1 wh1 ins1 ∧ (cn < cn1 ∨ (cn1 = cn ∧ wt1 = wt + 1 ∧ (la1 (Int32.toNatClampNeg (wt))) = -1)) ∧ (cn1 < 400 → wt1 ≤ cn1 + 1) := by
  obtain ⟨n0, n1, l0, hT⟩ := hP
  obtain ⟨p1, p2, p3, p4, p5, p6, p7, p8, p9, p10, p11, p12⟩ := hT _ t0 t1
  obtain ⟨s1, s2, s3, s4, s5, s6, s7⟩ := id hS
  have c0 := hN.2.1
  have L0 := hL.1
  have hw8 : wt < 408 := by grind
  obtain ⟨t, ht⟩ : ∃ t, (pa (Int32.toNatClampNeg (wt))) = t := ⟨_, rfl⟩
  have ht8 : at_ 408 pa wt = t := by rw [q_at408 L0 hw8]; exact ht
  rw [ht] at t0 t1 hd p1 p2 p3 p4 p5 p6 p7 p8 p9 p10 p11 p12 ⊢
  have t60 : t < 60 := by grind
  have t120 : t < 120 := by grind
  have kv : (0 ≤ t ∧ t < 120) = True := by simp [t0, t120]
  have hla8 : at_ 408 la wt = i := by rw [q_at408 L0 hw8]; exact hla
  have hev8 : at_ 408 ev wt = (ev (Int32.toNatClampNeg (wt))) := q_at408 L0 hw8
  have hl2 : ∀ u : Int32, 0 ≤ u → u < n → 0 ≤ (lam (Int32.toNatClampNeg (u))) ∧ (lam (Int32.toNatClampNeg (u))) ≤ 21 := fun u x y => ⟨(hT u x y).2.2.2.1, (hT u x y).2.2.2.2.1⟩
  rcases (show (tg (Int32.toNatClampNeg (t))) = 0 ∨ (tg (Int32.toNatClampNeg (t))) = 1 ∨ (tg (Int32.toNatClampNeg (t))) = 2 ∨ (tg (Int32.toNatClampNeg (t))) = 3 ∨ (tg (Int32.toNatClampNeg (t))) = 4 ∨ (tg (Int32.toNatClampNeg (t))) = 5 ∨ (tg (Int32.toNatClampNeg (t))) = 6 ∨ (tg (Int32.toNatClampNeg (t))) = 7 by grind) with h | h | h | h | h | h | h | h
  all_goals rw [h] at p1
  · obtain ⟨q1, q2, q3⟩ := p6 h
    have e1 : (pc (Int32.toNatClampNeg (t))).toInt32 = (nu (Int32.toNatClampNeg (t))) := by rw [q1]; simp
    by_cases hi : (nu (Int32.toNatClampNeg (t))) ≤ i
    · obtain ⟨cn1, nm1, td1, a1, a2, a3, a4, a5, a6⟩ := q_say2 (x := 0) hN
      obtain ⟨cn2, nm2, td2, b1, b2, b3, b4, b5, b6⟩ := q_say2 (x := (nu (Int32.toNatClampNeg (t)))) a3
      refine ⟨cn2, wt, nm2, pa, ev, la, td2, wa, wh, ins, ?_, ?_, b3, hL, .inl (Int32.lt_of_lt_of_le (a5 hc) b4), by grind⟩
      · simp [M_Teller_tellTerm, ht8, hla8, hev8, q_at60 t0 t60, q_atL60 t0 t60, p1, e1, M_Teller_tellVariable, hi, a1, b1, k2, k6]
      · simp [M_MO_sayTerm, M_MO_sayTerm_72, M_MO_sayTerm_119, M_MO_sayTerm_129, M_MO_sayTerm_148, M_MO_sayTerm_160, M_MO_sayTerm_166, M_MO_sayTerm_187, chk, kv, h, hi, a2, b2, k2]
    · have lt : ((nu (Int32.toNatClampNeg (t))) - i - 1).toNatClampNeg < 1000 := by
        have := q_clamp (show 0 ≤ (nu (Int32.toNatClampNeg (t))) - i - 1 by grind)
        have h3 := Int32.le_iff_toInt_le.mp (show (nu (Int32.toNatClampNeg (t))) - i - 1 ≤ 30 by grind)
        rw [show (30 : Int32).toInt = 30 from rfl] at h3
        omega
      obtain ⟨v, v', x1, x2, x3⟩ := q_var2 (tg := tg) (sb := sb) (nu := nu) (ch := ch) (fi := fi) (se := se) (cn := cn) (wt := wt) (td := td) (wa := wa) (wh := wh) (ins := ins) hS t0 t120 _ 1000 1000 (ev (Int32.toNatClampNeg (wt))) (wh (Int32.toNatClampNeg (wt))) d ((nu (Int32.toNatClampNeg (t))) - i) 1 (i + 1) lt lt rfl (by decide) (by grind) (by grind) (by grind) (by grind) (by grind) hE
      obtain ⟨pa1, ev1, la1, wa1, wh1, ins1, b1, b2, b3, b4⟩ := q_push (a := v) (b := -1) (d := -1) (w0 := 0) (x := v') (b' := -1) (d' := 0) hL hw8 (by have := x3.1; grind) (.inl ⟨rfl, rfl, x3⟩)
      refine ⟨cn, wt + 1, nm, pa1, ev1, la1, td, wa1, wh1, ins1, ?_, ?_, hN, b3, .inr ⟨rfl, rfl, b4⟩, by grind⟩
      · simp [M_Teller_tellTerm, ht8, hla8, hev8, q_at60 t0 t60, q_atL60 t0 t60, p1, e1, M_Teller_tellVariable, hi, M_Store_valueAt, x1, k1, b1, k4, k6]
      · rw [M_MO_sayTerm]
        simp only [chk, kv, h, if_true, hi, if_false]
        rw [x2, b2, k4]
  · obtain ⟨q1, q2, q3⟩ := p7 (by grind)
    obtain ⟨cn1, nm1, td1, a1, a2, a3, a4, a5, a6⟩ := q_say2 (x := 1) hN
    have hl3 := hl2 _ q2 q3
    obtain ⟨pa1, ev1, la1, wa1, wh1, ins1, b1, b2, b3, b4⟩ := q_push (a := (fi (Int32.toNatClampNeg (t)))) (b := (ev (Int32.toNatClampNeg (wt)))) (d := i) (w0 := 1) (x := (fi (Int32.toNatClampNeg (t)))) (b' := (wh (Int32.toNatClampNeg (wt)))) (d' := i) hL hw8 (by grind) (.inr ⟨by grind, by grind, rfl, rfl, q2, q3, rfl, d, hE, d0, d1, by rw [p8 (by grind)]; grind⟩)
    refine ⟨cn1, wt + 1, nm1, pa1, ev1, la1, td1, wa1, wh1, ins1, ?_, ?_, a3, b3, .inl (a5 hc), by grind⟩
    · simp [M_Teller_tellTerm, ht8, hla8, hev8, q_at60 t0 t60, q_atL60 t0 t60, p1, a1, k2, q1, b1, k4]
    · simp [M_MO_sayTerm, M_MO_sayTerm_72, M_MO_sayTerm_119, M_MO_sayTerm_129, M_MO_sayTerm_148, M_MO_sayTerm_160, M_MO_sayTerm_166, M_MO_sayTerm_187, chk, kv, h, a2, k2, b2, k4]
  · obtain ⟨q1, q2, q3⟩ := p7 (by grind)
    obtain ⟨cn1, nm1, td1, a1, a2, a3, a4, a5, a6⟩ := q_say2 (x := 2) hN
    have hl3 := hl2 _ q2 q3
    obtain ⟨pa1, ev1, la1, wa1, wh1, ins1, b1, b2, b3, b4⟩ := q_push (a := (fi (Int32.toNatClampNeg (t)))) (b := (ev (Int32.toNatClampNeg (wt)))) (d := i + 1) (w0 := 1) (x := (fi (Int32.toNatClampNeg (t)))) (b' := (wh (Int32.toNatClampNeg (wt)))) (d' := i + 1) hL hw8 (by grind) (.inr ⟨by grind, by grind, rfl, rfl, q2, q3, rfl, d, hE, d0, d1, by rw [p9 h]; grind⟩)
    refine ⟨cn1, wt + 1, nm1, pa1, ev1, la1, td1, wa1, wh1, ins1, ?_, ?_, a3, b3, .inl (a5 hc), by grind⟩
    · simp [M_Teller_tellTerm, ht8, hla8, hev8, q_at60 t0 t60, q_atL60 t0 t60, p1, a1, k2, q1, b1, k4]
    · simp [M_MO_sayTerm, M_MO_sayTerm_72, M_MO_sayTerm_119, M_MO_sayTerm_129, M_MO_sayTerm_148, M_MO_sayTerm_160, M_MO_sayTerm_166, M_MO_sayTerm_187, chk, kv, h, a2, k2, b2, k4]
  · obtain ⟨q1, q2, q3⟩ := p7 (by grind)
    obtain ⟨q4, q5, q6, q7⟩ := p10 h
    obtain ⟨cn1, nm1, td1, a1, a2, a3, a4, a5, a6⟩ := q_say2 (x := 3) hN
    obtain ⟨pa1, ev1, la1, wa1, wh1, ins1, b1, b2, b3, b4⟩ := q_push (a := (se (Int32.toNatClampNeg (t)))) (b := (ev (Int32.toNatClampNeg (wt)))) (d := i) (w0 := 1) (x := (se (Int32.toNatClampNeg (t)))) (b' := (wh (Int32.toNatClampNeg (wt)))) (d' := i) hL hw8 (by grind) (.inr ⟨i0, i1, rfl, rfl, q5, q6, rfl, d, hE, d0, d1, by rw [q7]; exact hd⟩)
    obtain ⟨pa2, ev2, la2, wa2, wh2, ins2, c1, c2, c3, c4⟩ := q_push (a := (fi (Int32.toNatClampNeg (t)))) (b := (ev (Int32.toNatClampNeg (wt)))) (d := i) (w0 := 1) (x := (fi (Int32.toNatClampNeg (t)))) (b' := (wh (Int32.toNatClampNeg (wt)))) (d' := i) b3 (by grind) (by grind) (.inr ⟨i0, i1, rfl, rfl, q2, q3, rfl, d, hE, d0, d1, by rw [p8 (by grind)]; exact hd⟩)
    refine ⟨cn1, wt + 1 + 1, nm1, pa2, ev2, la2, td1, wa2, wh2, ins2, ?_, ?_, a3, c3, .inl (a5 hc), by grind⟩
    · simp [M_Teller_tellTerm, ht8, hla8, hev8, q_at60 t0 t60, q_atL60 t0 t60, p1, a1, k2, q1, q4, b1, c1, k4]
    · simp [M_MO_sayTerm, M_MO_sayTerm_72, M_MO_sayTerm_119, M_MO_sayTerm_129, M_MO_sayTerm_148, M_MO_sayTerm_160, M_MO_sayTerm_166, M_MO_sayTerm_187, chk, kv, h, a2, k2, b2, c2, k4]
  · obtain ⟨q1, q2, q3, q4⟩ := p11 h
    obtain ⟨cn1, nm1, td1, a1, a2, a3, a4, a5⟩ := q_const hN q2 q3 q4
    refine ⟨cn1, wt, nm1, pa, ev, la, td1, wa, wh, ins, ?_, ?_, a3, hL, .inl (a5 hc), by grind⟩
    · simp [M_Teller_tellTerm, ht8, hla8, hev8, q_at60 t0 t60, q_atL60 t0 t60, p1, q1, a1, k2]
    · simp [M_MO_sayTerm, M_MO_sayTerm_72, M_MO_sayTerm_119, M_MO_sayTerm_129, M_MO_sayTerm_148, M_MO_sayTerm_160, M_MO_sayTerm_166, M_MO_sayTerm_187, chk, kv, h, a2, k2]
  · obtain ⟨q1, q2, q3⟩ := p7 (by grind)
    obtain ⟨cn1, nm1, td1, a1, a2, a3, a4, a5, a6⟩ := q_say2 (x := 5) hN
    have hl3 := hl2 _ q2 q3
    obtain ⟨pa1, ev1, la1, wa1, wh1, ins1, b1, b2, b3, b4⟩ := q_push (a := (fi (Int32.toNatClampNeg (t)))) (b := (ev (Int32.toNatClampNeg (wt)))) (d := i) (w0 := 1) (x := (fi (Int32.toNatClampNeg (t)))) (b' := (wh (Int32.toNatClampNeg (wt)))) (d' := i) hL hw8 (by grind) (.inr ⟨by grind, by grind, rfl, rfl, q2, q3, rfl, d, hE, d0, d1, by rw [p8 (by grind)]; grind⟩)
    refine ⟨cn1, wt + 1, nm1, pa1, ev1, la1, td1, wa1, wh1, ins1, ?_, ?_, a3, b3, .inl (a5 hc), by grind⟩
    · simp [M_Teller_tellTerm, ht8, hla8, hev8, q_at60 t0 t60, q_atL60 t0 t60, p1, a1, k2, q1, b1, k4]
    · simp [M_MO_sayTerm, M_MO_sayTerm_72, M_MO_sayTerm_119, M_MO_sayTerm_129, M_MO_sayTerm_148, M_MO_sayTerm_160, M_MO_sayTerm_166, M_MO_sayTerm_187, chk, kv, h, a2, k2, b2, k4]
  · obtain ⟨cn1, nm1, td1, a1, a2, a3, a4, a5, a6⟩ := q_say2 (x := 6) hN
    refine ⟨cn1, wt, nm1, pa, ev, la, td1, wa, wh, ins, ?_, ?_, a3, hL, .inl (a5 hc), by grind⟩
    · simp [M_Teller_tellTerm, ht8, hla8, hev8, q_at60 t0 t60, q_atL60 t0 t60, p1, a1, k2]
    · simp [M_MO_sayTerm, M_MO_sayTerm_72, M_MO_sayTerm_119, M_MO_sayTerm_129, M_MO_sayTerm_148, M_MO_sayTerm_160, M_MO_sayTerm_166, M_MO_sayTerm_187, chk, kv, h, a2, k2]
  · obtain ⟨q1, q2, q3⟩ := p12 h
    have e1 : (pc (Int32.toNatClampNeg (t))).toInt32 = (nu (Int32.toNatClampNeg (t))) := by rw [q1]; simp
    obtain ⟨cn1, nm1, td1, a1, a2, a3, a4, a5, a6⟩ := q_say2 (x := 7) hN
    obtain ⟨cn2, nm2, td2, b1, b2, b3, b4, b5, b6⟩ := q_say2 (x := (nu (Int32.toNatClampNeg (t)))) a3
    refine ⟨cn2, wt, nm2, pa, ev, la, td2, wa, wh, ins, ?_, ?_, b3, hL, .inl (Int32.lt_of_lt_of_le (a5 hc) b4), by grind⟩
    · simp [M_Teller_tellTerm, ht8, hla8, hev8, q_at60 t0 t60, q_atL60 t0 t60, p1, e1, a1, b1, k2]
    · simp [M_MO_sayTerm, M_MO_sayTerm_72, M_MO_sayTerm_119, M_MO_sayTerm_129, M_MO_sayTerm_148, M_MO_sayTerm_160, M_MO_sayTerm_166, M_MO_sayTerm_187, chk, kv, h, a2, b2, k2]
