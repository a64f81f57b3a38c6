theorem q_ar1 {i cn cn1 : Int32} (hi : 0 ≤ i) (h : i ≤ 2 * cn ∨ i = 2 * cn + 1) (h1 : cn < cn1) (h0 : 0 ≤ cn) (h4 : cn1 ≤ 400) : i + 1 ≤ 2 * cn1 := by
  have h2 : cn < 400 := by grind
  have h3 : i ≤ 2 * cn + 1 := by rcases h with h | h <;> grind
  have h5 : 2 * cn + 2 ≤ 2 * cn1 := by grind
  grind
theorem q_loop {n : Int32} {lam pk pf ps : Nat → Int32} {pc : Nat → Int64} {tg sb nu : Nat → Int32} {ch : Nat → Int64} {fi se : Nat → Int32} {cnt : Int32} {k : Nat → Int32} {c : Nat → Int64} {l r gv g dp : Nat → Int32} {vals envs : Int32} {K N : Nat → Int32} {B : Nat → Int64} {P A Y G H O : Nat → Int32}
    (hP : q_P n lam pk pf ps pc tg sb nu ch fi se) (hS : q_S n lam cnt k c l r gv g dp vals envs K N B P A Y G H O) :
    ∀ (m f f1 : Nat) (cn wt i : Int32) (nm pa ev la td wa wh ins : Nat → Int32), (800 - i).toNatClampNeg = m → 0 ≤ i → i ≤ 800 → m < f → m < f1 → q_N cn nm cn td → q_L n lam cnt vals envs k g dp wt pa ev la wa wh ins → (cn < 400 → wt ≤ cn + 1) → (i ≤ 2 * cn ∨ (i = 2 * cn + 1 ∧ 0 < wt ∧ (la (Int32.toNatClampNeg (wt - 1))) = -1)) →
      ∃ cn1 wt1 nm1 pa1 ev1 la1 td1 wa1 wh1 ins1, M_Teller_tell_20 pk pf ps pc k c l r gv f cn wt nm pa ev la i = some (cn1, wt1, nm1, pa1, ev1, la1) ∧
        M_MO_tell_13 tg sb nu ch fi se K N B P A Y G H O f1 cn wt td wa wh ins = some (cn1, wt1, td1, wa1, wh1, ins1) ∧ q_N cn1 nm1 cn1 td1 := by
  have hl2 : ∀ u : Int32, 0 ≤ u → u < n → 0 ≤ (lam (Int32.toNatClampNeg (u))) ∧ (lam (Int32.toNatClampNeg (u))) ≤ 21 := fun u x y => ⟨(hP.2.2.2 u x y).2.2.2.1, (hP.2.2.2 u x y).2.2.2.2.1⟩
  have n60 := hP.2.1
  obtain ⟨s1, s2, s3, s4, s5, s6, s7⟩ := id hS
  intro m
  induction m with
  | zero =>
    intro f f1 cn wt i nm pa ev la td wa wh ins hm i0 i8 hf hf1 hN hL hw hi
    obtain ⟨f, rfl⟩ : ∃ x, f = x + 1 := ⟨f - 1, by omega⟩
    obtain ⟨f1, rfl⟩ : ∃ x, f1 = x + 1 := ⟨f1 - 1, by omega⟩
    have hi8 : i = 800 := by
      false_or_by_contra
      have := q_dec (a := i) (b := 800) i0 (by grind)
      omega
    have h4 := hN.2.2.1
    have h0 := hN.2.1
    have hcn : 400 ≤ cn := by grind
    refine ⟨cn, wt, nm, pa, ev, la, td, wa, wh, ins, ?_, ?_, hN⟩
    · rw [M_Teller_tell_20, if_pos (by rw [hi8]; decide)]
    · rw [M_MO_tell_13]
      by_cases hz : wt ≤ 0
      · rw [if_pos hz]
      · rw [if_neg hz, if_pos hcn]
  | succ m ih =>
    intro f f1 cn wt i nm pa ev la td wa wh ins hm i0 i8 hf hf1 hN hL hw hi
    obtain ⟨f, rfl⟩ : ∃ x, f = x + 1 := ⟨f - 1, by omega⟩
    obtain ⟨f1, rfl⟩ : ∃ x, f1 = x + 1 := ⟨f1 - 1, by omega⟩
    have hi8 : ¬ 800 ≤ i := by
      intro h
      have : i = 800 := by grind
      subst this
      simp at hm
    have hm1 := q_dec (a := i) (b := 800) i0 (by grind)
    have h4 := hN.2.2.1
    have h0 := hN.2.1
    by_cases hz : wt ≤ 0
    · refine ⟨cn, wt, nm, pa, ev, la, td, wa, wh, ins, ?_, ?_, hN⟩
      · rw [M_Teller_tell_20, if_neg hi8, if_pos hz]
      · rw [M_MO_tell_13, if_pos hz]
    by_cases hcn : 400 ≤ cn
    · refine ⟨cn, wt, nm, pa, ev, la, td, wa, wh, ins, ?_, ?_, hN⟩
      · rw [M_Teller_tell_20, if_neg hi8, if_neg hz, if_pos hcn]
      · rw [M_MO_tell_13, if_neg hz, if_pos hcn]
    have hc : cn < 400 := by grind
    have hw1 := hw hc
    have w0 : 0 ≤ wt - 1 := by grind
    have w8 : wt - 1 < 408 := by grind
    have w3 : wt - 1 < 1300 := by grind
    have hL' := hL.less (w1 := wt - 1) w0 (by grind)
    rcases hL.2 (wt - 1) w0 (by grind) with ⟨e1, x, e2, e3⟩ | ⟨e0, e1, e2, e3, e4, e5, d, e6, e7, e8, e9⟩
    · obtain ⟨x1, x2, x3, x4, x5⟩ := q_half (x := x) e3.2.2.2.1 (by have := e3.2.2.2.2.1; grind)
      obtain ⟨cn1, wt1, nm1, pa1, ev1, la1, td1, wa1, wh1, ins1, a1, a2, a3, a4, a5, a6⟩ := q_tv hl2 hS e3 hN hL' hc (by grind)
      obtain ⟨cn2, wt2, nm2, pa2, ev2, la2, td2, wa2, wh2, ins2, b1, b2, b3⟩ := ih f f1 cn1 wt1 (i + 1) nm1 pa1 ev1 la1 td1 wa1 wh1 ins1 (by omega) (by grind) (by grind) (by omega) (by omega) a3 a4 a6 (.inl (q_ar1 i0 (hi.elim .inl (fun z => .inr z.1)) a5 h0 a3.2.2.1))
      refine ⟨cn2, wt2, nm2, pa2, ev2, la2, td2, wa2, wh2, ins2, ?_, ?_, b3⟩
      · rw [M_Teller_tell_20, if_neg hi8, if_neg hz, if_neg hcn, q_at408 w0 w8, if_pos e1, q_at408 w0 w8, a1, k6]; exact b1
      · rw [M_MO_tell_13, if_neg hz, if_neg hcn]
        simp only [chk, w0, w3, and_self, if_true, e2, x4, x1]
        rw [a2, k6, M_MO_tell_103]; exact b2
    · obtain ⟨x1, x2, x3, x4, x5⟩ := q_half (x := (pa (Int32.toNatClampNeg (wt - 1)))) e3 (by grind)
      have hne : ¬ (la (Int32.toNatClampNeg (wt - 1))) = -1 := by grind
      have hi2 : i ≤ 2 * cn := by
        rcases hi with h | h
        · exact h
        · exact absurd h.2.2 hne
      obtain ⟨cn1, wt1, nm1, pa1, ev1, la1, td1, wa1, wh1, ins1, a1, a2, a3, a4, a5, a6⟩ := q_tt hP hS hN hL' hc (by grind) e3 e4 e0 e1 rfl e6 e7 e8 e9
      obtain ⟨cn2, wt2, nm2, pa2, ev2, la2, td2, wa2, wh2, ins2, b1, b2, b3⟩ := ih f f1 cn1 wt1 (i + 1) nm1 pa1 ev1 la1 td1 wa1 wh1 ins1 (by omega) (by grind) (by grind) (by omega) (by omega) a3 a4 a6 (by
        have := a3.2.2.1
        rcases a5 with h | ⟨h1, h2, h3⟩
        · exact .inl (q_ar1 i0 (.inl hi2) h h0 this)
        · rw [h1, h2]
          by_cases hz2 : i + 1 ≤ 2 * cn
          · exact .inl hz2
          · right
            refine ⟨by grind, by grind, ?_⟩
            rw [show wt - 1 + 1 - 1 = wt - 1 by grind]; exact h3)
      refine ⟨cn2, wt2, nm2, pa2, ev2, la2, td2, wa2, wh2, ins2, ?_, ?_, b3⟩
      · rw [M_Teller_tell_20, if_neg hi8, if_neg hz, if_neg hcn, q_at408 w0 w8, if_neg hne, a1, k6]; exact b1
      · rw [M_MO_tell_13, if_neg hz, if_neg hcn]
        have z1 : ¬ (1 : Int32) = 0 := by decide
        simp only [chk, w0, w3, and_self, if_true, e2, x5, x2, e5, z1, if_false]
        rw [a2, k6, M_MO_tell_103]; exact b2
theorem q_tell {n : Int32} {lam pk pf ps : Nat → Int32} {pc : Nat → Int64} {tg sb nu : Nat → Int32} {ch : Nat → Int64} {fi se : Nat → Int32} {cnt : Int32} {k : Nat → Int32} {c : Nat → Int64} {l r gv g dp : Nat → Int32} {vals envs : Int32} {K N : Nat → Int32} {B : Nat → Int64} {P A Y G H O : Nat → Int32} {v w cn wt wt' : Int32} {nm pa ev la td wa wh ins : Nat → Int32}
    (hP : q_P n lam pk pf ps pc tg sb nu ch fi se) (hS : q_S n lam cnt k c l r gv g dp vals envs K N B P A Y G H O) (hV : q_V vals cnt k g v w) :
    ∃ cn1 wt1 nm1 pa1 ev1 la1 td1 wa1 wh1 ins1, M_Teller_tell cn wt nm pa ev la pk pf ps pc k c l r gv v = some (cn1, wt1, nm1, pa1, ev1, la1) ∧
      M_MO_tell 0 wt' tg sb nu ch fi se K N B P A Y G H O td wa wh ins w = some (cn1, wt1, td1, wa1, wh1, ins1) ∧ q_N cn1 nm1 cn1 td1 := by
  have hL : q_L n lam cnt vals envs k g dp 0 pa ev la wa wh ins := ⟨by decide, fun j a b => absurd b (by grind)⟩
  obtain ⟨pa1, ev1, la1, wa1, wh1, ins1, b1, b2, b3, b4⟩ := q_push (a := v) (b := -1) (d := -1) (w0 := 0) (x := w) (b' := -1) (d' := 0) hL (by decide) (by have := hV.1; grind) (.inl ⟨rfl, rfl, hV⟩)
  obtain ⟨cn2, wt2, nm2, pa2, ev2, la2, td2, wa2, wh2, ins2, c1, c2, c3⟩ := q_loop hP hS 800 1000 1000 0 (0 + 1) 0 nm pa1 ev1 la1 td wa1 wh1 ins1 (by decide) (by decide) (by decide) (by decide) (by decide) ⟨rfl, by decide, by decide, fun j a b => absurd b (by grind)⟩ b3 (fun _ => by decide) (.inl (by decide))
  refine ⟨cn2, wt2, nm2, pa2, ev2, la2, td2, wa2, wh2, ins2, ?_, ?_, c3⟩
  · rw [M_Teller_tell, b1, k4]; exact c1
  · rw [M_MO_tell, b2, k4]; exact c2
