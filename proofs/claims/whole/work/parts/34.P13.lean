theorem q_half {x : Int32} (h0 : 0 ≤ x) (h1 : x < 1000) : 2 * x / 2 = x ∧ (2 * x + 1) / 2 = x ∧ 2 * x + 0 = 2 * x ∧ 2 * x - x * 2 = 0 ∧ 2 * x + 1 - x * 2 = 1 := by
  have e0 := Int32.le_iff_toInt_le.mp h0
  have e1 := Int32.lt_iff_toInt_lt.mp h1
  rw [show (0 : Int32).toInt = 0 from rfl] at e0
  rw [show (1000 : Int32).toInt = 1000 from rfl] at e1
  have t2 : (2 * x).toInt = 2 * x.toInt := by
    rw [Int32.toInt_mul]
    show Int.bmod (2 * x.toInt) _ = _
    rw [Int.bmod_eq_of_le (by omega) (by omega)]
  have t3 : (2 * x + 1).toInt = 2 * x.toInt + 1 := by
    rw [Int32.toInt_add, t2]
    show Int.bmod (2 * x.toInt + 1) _ = _
    rw [Int.bmod_eq_of_le (by omega) (by omega)]
  have d1 : 2 * x / 2 = x := by
    apply Int32.toInt_inj.mp
    rw [Int32.toInt_div, t2, show (2 : Int32).toInt = 2 from rfl, Int.tdiv_eq_ediv_of_nonneg (by omega), show 2 * x.toInt / 2 = x.toInt by omega, Int.bmod_eq_of_le (by omega) (by omega)]
  have d2 : (2 * x + 1) / 2 = x := by
    apply Int32.toInt_inj.mp
    rw [Int32.toInt_div, t3, show (2 : Int32).toInt = 2 from rfl, Int.tdiv_eq_ediv_of_nonneg (by omega), show (2 * x.toInt + 1) / 2 = x.toInt by omega, Int.bmod_eq_of_le (by omega) (by omega)]
  exact ⟨d1, d2, by grind, by grind, by grind⟩
theorem q_at408 {f : Nat → Int32} {i : Int32} (h0 : 0 ≤ i) (h1 : i < 408) : at_ 408 f i = (f (Int32.toNatClampNeg (i))) := by
  have e : Int32.ofNat 408 = 408 := rfl
  rw [at_, if_neg (by grind), e, if_neg (by grind)]
def q_N (cn : Int32) (nm : Nat → Int32) (tl : Int32) (td : Nat → Int32) : Prop :=
  cn = tl ∧ 0 ≤ cn ∧ cn ≤ 400 ∧ ∀ j : Int32, 0 ≤ j → j < cn → (nm (Int32.toNatClampNeg (j))) = (td (Int32.toNatClampNeg (j)))
theorem q_say {cn tl x : Int32} {nm td : Nat → Int32} (h : q_N cn nm tl td) :
    ∃ cn1 nm1 td1, M_Teller_add cn nm x = some (cn1, nm1) ∧ M_MO_say tl td x = some (cn1, td1) ∧ q_N cn1 nm1 cn1 td1 ∧ (cn < 400 → cn1 = cn + 1) ∧ (cn = 400 → cn1 = 400) := by
  obtain ⟨rfl, h0, h1, h2⟩ := h
  by_cases hc : 400 ≤ cn
  · refine ⟨cn, nm, td, ?_, ?_, ⟨rfl, h0, h1, h2⟩, by grind, by grind⟩
    · rw [M_Teller_add, if_pos hc]
    · rw [M_MO_say, if_pos hc]
  · have hc2 : cn < 400 := by grind
    refine ⟨cn + 1, upd nm cn.toNatClampNeg x, upd td cn.toNatClampNeg x, ?_, ?_, ⟨rfl, by grind, by grind, ?_⟩, by grind, by grind⟩
    · rw [M_Teller_add, if_neg hc, chk, if_pos ⟨h0, hc2⟩]
    · rw [M_MO_say, if_neg hc, chk, if_pos ⟨h0, hc2⟩]
    · intro j j0 j1
      rw [q_upd h0 j0, q_upd h0 j0]
      by_cases hj : j = cn
      · rw [if_pos hj, if_pos hj]
      · rw [if_neg hj, if_neg hj]; exact h2 j j0 (by grind)
def q_L (n : Int32) (lam : Nat → Int32) (cnt vals envs : Int32) (k g dp : Nat → Int32) (wt : Int32) (pa ev la wa wh ins : Nat → Int32) : Prop :=
  0 ≤ wt ∧ ∀ j : Int32, 0 ≤ j → j < wt →
    ((la (Int32.toNatClampNeg (j))) = -1 ∧ ∃ x, (wa (Int32.toNatClampNeg (j))) = 2 * x ∧ q_V vals cnt k g (pa (Int32.toNatClampNeg (j))) x) ∨
    (0 ≤ (la (Int32.toNatClampNeg (j))) ∧ (la (Int32.toNatClampNeg (j))) ≤ 21 ∧ (wa (Int32.toNatClampNeg (j))) = 2 * (pa (Int32.toNatClampNeg (j))) + 1 ∧ 0 ≤ (pa (Int32.toNatClampNeg (j))) ∧ (pa (Int32.toNatClampNeg (j))) < n ∧ (ins (Int32.toNatClampNeg (j))) = (la (Int32.toNatClampNeg (j))) ∧ ∃ d, q_E envs cnt k g dp (ev (Int32.toNatClampNeg (j))) (wh (Int32.toNatClampNeg (j))) d ∧ 0 ≤ d ∧ d ≤ 21 ∧ d + (la (Int32.toNatClampNeg (j))) = (lam (Int32.toNatClampNeg ((pa (Int32.toNatClampNeg (j)))))))
theorem q_push {n : Int32} {lam : Nat → Int32} {cnt vals envs : Int32} {k g dp : Nat → Int32} {wt : Int32} {pa ev la wa wh ins : Nat → Int32} {a b d w0 x b' d' : Int32} (h : q_L n lam cnt vals envs k g dp wt pa ev la wa wh ins) (hw : wt < 408) (ha : a ≠ -1)
    (hn : (d = -1 ∧ w0 = 0 ∧ q_V vals cnt k g a x) ∨ (0 ≤ d ∧ d ≤ 21 ∧ w0 = 1 ∧ x = a ∧ 0 ≤ a ∧ a < n ∧ d' = d ∧ ∃ e, q_E envs cnt k g dp b b' e ∧ 0 ≤ e ∧ e ≤ 21 ∧ e + d = (lam (Int32.toNatClampNeg (a))))) :
    ∃ pa1 ev1 la1 wa1 wh1 ins1, M_Teller_putOff wt pa ev la a b d = some (wt + 1, pa1, ev1, la1) ∧ M_MO_ask wt wa wh ins w0 x b' d' = some (wt + 1, wa1, wh1, ins1) ∧ q_L n lam cnt vals envs k g dp (wt + 1) pa1 ev1 la1 wa1 wh1 ins1 ∧ (la1 (Int32.toNatClampNeg (wt))) = d := by
  obtain ⟨h0, h1⟩ := h
  refine ⟨upd pa wt.toNatClampNeg a, upd ev wt.toNatClampNeg b, upd la wt.toNatClampNeg d, upd wa wt.toNatClampNeg (2 * x + w0), upd wh wt.toNatClampNeg b', upd ins wt.toNatClampNeg d', ?_, ?_, ⟨by grind, ?_⟩, ?_⟩
  · rw [M_Teller_putOff, if_neg ha, if_neg (by grind)]
    simp only [chk, h0, hw, and_self, if_true]
  · have : wt < 1300 := by grind
    simp only [M_MO_ask, chk, h0, this, and_self, if_true]
  · intro j j0 j1
    simp only [q_upd h0 j0]
    by_cases hj : j = wt
    · simp only [if_pos hj]
      rcases hn with ⟨rfl, rfl, e1⟩ | ⟨e1, e2, rfl, rfl, e3, e4, rfl, e5⟩
      · exact .inl ⟨rfl, x, by grind, e1⟩
      · exact .inr ⟨e1, e2, rfl, e3, e4, rfl, e5⟩
    · simp only [if_neg hj]; exact h1 j j0 (by grind)
  · exact q_eq
theorem q_L.less {n : Int32} {lam : Nat → Int32} {cnt vals envs : Int32} {k g dp : Nat → Int32} {wt w1 : Int32} {pa ev la wa wh ins : Nat → Int32} (h : q_L n lam cnt vals envs k g dp wt pa ev la wa wh ins) (h0 : 0 ≤ w1) (h1 : w1 ≤ wt) : q_L n lam cnt vals envs k g dp w1 pa ev la wa wh ins :=
  ⟨h0, fun j j0 j1 => h.2 j j0 (by grind)⟩
theorem q_bytes {l : List Nat} {x3 : Int32} {ct bt : Int64} (hb : q_by l x3 ct bt) : ∀ (m f f1 : Nat) (cn : Int32) (nm td : Nat → Int32) (i : Nat), i + m = l.length → m < f → m < f1 → q_N cn nm cn td →
    ∃ cn1 nm1 td1, M_Teller_tellConstant_48 f cn nm ct x3 (Int32.ofNat i) = some (cn1, nm1) ∧ M_MO_sayConstant_23 f1 cn td 3 x3 bt (Int32.ofNat i) = some (cn1, td1) ∧ q_N cn1 nm1 cn1 td1 ∧ cn ≤ cn1 := by
  have hl := hb.1
  have hx : x3 = Int32.ofNat l.length := hb.2.2.1
  intro m
  induction m with
  | zero =>
    intro f f1 cn nm td i hi hf hf1 hN
    obtain ⟨f, rfl⟩ : ∃ x, f = x + 1 := ⟨f - 1, by omega⟩
    obtain ⟨f1, rfl⟩ : ∃ x, f1 = x + 1 := ⟨f1 - 1, by omega⟩
    have e : x3 ≤ Int32.ofNat i := by rw [hx, show i = l.length by omega]; exact Int32.le_rfl
    refine ⟨cn, nm, td, ?_, ?_, hN, Int32.le_rfl⟩
    · rw [M_Teller_tellConstant_48, if_pos e]
    · rw [M_MO_sayConstant_23, if_pos e]
  | succ m ih =>
    intro f f1 cn nm td i hi hf hf1 hN
    obtain ⟨f, rfl⟩ : ∃ x, f = x + 1 := ⟨f - 1, by omega⟩
    obtain ⟨f1, rfl⟩ : ∃ x, f1 = x + 1 := ⟨f1 - 1, by omega⟩
    have e : ¬ x3 ≤ Int32.ofNat i := by
      rw [hx]
      have : ∀ n, n ≤ 7 → ∀ i, i < n → ¬ Int32.ofNat n ≤ Int32.ofNat i := by decide
      exact this _ hl i (by omega)
    have e2 : Int32.ofNat i + 1 = Int32.ofNat (i + 1) := by rw [Int32.ofNat_add]; rfl
    obtain ⟨j1, j2⟩ := hb.at (i := i) (by omega)
    obtain ⟨cn1, nm1, td1, a1, a2, a3, a4, a5⟩ := q_say (x := Int32.ofNat l[i]) hN
    obtain ⟨cn2, nm2, td2, b1, b2, b3, b4⟩ := ih f f1 cn1 nm1 td1 (i + 1) (by omega) (by omega) (by omega) a3
    have h4 := hN.2.2.1
    refine ⟨cn2, nm2, td2, ?_, ?_, b3, by grind⟩
    · rw [M_Teller_tellConstant_48, if_neg e, j1, k1, a1, k2, e2]; exact b1
    · rw [M_MO_sayConstant_23, if_neg e, if_pos rfl, j2, a2, k2, e2]; exact b2
theorem q_const {cn tl x n0 : Int32} {nm td : Nat → Int32} {ct bt : Int64} (h : q_N cn nm tl td) (x0 : 0 ≤ x) (x3 : x ≤ 3) (hC : q_C x n0 ct bt) :
    ∃ cn1 nm1 td1, M_Teller_tellConstant cn nm x ct = some (cn1, nm1) ∧ M_MO_sayConstant tl td x n0 bt = some (cn1, td1) ∧ q_N cn1 nm1 cn1 td1 ∧ cn ≤ cn1 ∧ (cn < 400 → cn < cn1) := by
  have h4 := h.2.2.1
  have h40 := h.2.1
  obtain ⟨cn1, nm1, td1, a1, a2, a3, a4, a5⟩ := q_say (x := 4) h
  have h41 := a3.2.2.1
  obtain ⟨cn2, nm2, td2, b1, b2, b3, b4, b5⟩ := q_say (x := x) a3
  have h42 := b3.2.2.1
  rcases hC with ⟨rfl, hc⟩ | ⟨rfl, hc⟩ | rfl | ⟨rfl, l, hc⟩
  · obtain ⟨cn3, nm3, td3, c1, c2, c3, c4, c5⟩ := q_say (x := n0) b3
    have e : ct.toInt32 = n0 := by rw [hc]; simp
    refine ⟨cn3, nm3, td3, ?_, ?_, c3, by grind, by grind⟩
    · simp [M_Teller_tellConstant, a1, k2, b1, M_Teller_tellConstant_19, e, c1]
    · have : ∀ f, M_MO_sayConstant_23 (f + 1) cn3 td3 0 n0 bt 0 = some (cn3, td3) := fun f => by
        rw [M_MO_sayConstant_23]; split <;> simp
      simp [M_MO_sayConstant, a2, k2, b2, c2, this 999]
  · obtain ⟨cn3, nm3, td3, c1, c2, c3, c4, c5⟩ := q_say (x := n0) b3
    have e : ct.toInt32 = n0 := by rw [hc]; simp
    refine ⟨cn3, nm3, td3, ?_, ?_, c3, by grind, by grind⟩
    · simp [M_Teller_tellConstant, a1, k2, b1, M_Teller_tellConstant_19, e, c1]
    · have : ∀ f, M_MO_sayConstant_23 (f + 1) cn3 td3 1 n0 bt 0 = some (cn3, td3) := fun f => by
        rw [M_MO_sayConstant_23]; split <;> simp
      simp [M_MO_sayConstant, a2, k2, b2, c2, this 999]
  · refine ⟨cn2, nm2, td2, ?_, ?_, b3, by grind, by grind⟩
    · simp [M_Teller_tellConstant, a1, k2, b1]
    · have : ∀ f, M_MO_sayConstant_23 (f + 1) cn2 td2 2 n0 bt 0 = some (cn2, td2) := fun f => by
        rw [M_MO_sayConstant_23]; split <;> simp
      simp [M_MO_sayConstant, a2, k2, b2, this 999]
  · obtain ⟨cn3, nm3, td3, c1, c2, c3, c4, c5⟩ := q_say (x := n0) b3
    have h43 := c3.2.2.1
    have hl := hc.1
    obtain ⟨cn4, nm4, td4, d1, d2, d3, d4⟩ := q_bytes hc l.length 1000 1000 cn3 nm3 td3 0 (by omega) (by omega) (by omega) c3
    have i1 : cn ≤ cn1 := by clear d4 c4 c5 b4 b5; grind
    have i2 : cn < 400 → cn < cn1 := by clear d4 c4 c5 b4 b5; grind
    have i3 : cn1 ≤ cn2 := by clear d4 c4 c5 a4 a5 i1 i2; grind
    have i4 : cn2 ≤ cn3 := by clear d4 b4 b5 a4 a5 i1 i2 i3; grind
    have i5 : cn1 ≤ cn4 := Int32.le_trans i3 (Int32.le_trans i4 d4)
    refine ⟨cn4, nm4, td4, ?_, ?_, d3, Int32.le_trans i1 i5, fun z => Int32.lt_of_lt_of_le (i2 z) i5⟩
    · simp [M_Teller_tellConstant, a1, k2, b1, hc.len.1, k1, c1]
      exact d1
    · simp [M_MO_sayConstant, a2, k2, b2, c2]
      exact d2
