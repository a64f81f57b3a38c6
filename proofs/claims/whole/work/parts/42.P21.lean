theorem s_takeBad {n pl wr nb : Int32} {by' : Nat → Int32} (h : wr ≠ -1) : M_Text_take n pl wr by' nb = some (0, pl, wr) := by
  rw [M_Text_take, M_Text_take_4]
  by_cases z : nb ≤ 0
  · rw [if_pos z]
  · rw [if_neg z, if_neg h]
theorem s_bitsBad {n at' er : Int32} {tx : Nat → Int32} (h : ¬ 0 ≤ er) (nb : Nat) (hn : nb < 100) : M_MO_bits n at' er tx (Int32.ofNat nb) = some (0, at', er) := by
  have := s_bits0 (n := n) (at' := at') (tx := tx) h nb 1000 0 0 nb (by omega) hn (by omega)
  rw [Nat.zero_mul] at this
  exact this
theorem s_conBad {n pl wr x : Int32} {by' : Nat → Int32} (h : wr ≠ -1) : ∃ ct, M_Program_takeConstant n pl wr by' x = some (ct, pl, wr) := by
  have hN : M_Text_takeNatural n pl wr by' = some (0, pl, wr) := s_natBad (f := 999) h
  have hB : M_Text_takeBytes n pl wr by' = some ((((0 : Int32).toInt64 <<< ((56 : Int32).toInt64 &&& 63)) ||| 0), pl, wr) := by
    rw [M_Text_takeBytes, s_takeBad h, k3, M_Text_takeBytes_11, if_pos (by decide), M_Packed_of, k1]
  unfold M_Program_takeConstant
  split
  · exact ⟨_, by rw [hN, k3]; rfl⟩
  · split
    · exact ⟨_, by rw [s_takeBad h, k3]⟩
    · split
      · exact ⟨_, rfl⟩
      · split
        · exact ⟨_, by rw [hB, k3]⟩
        · exact ⟨_, rfl⟩
theorem s_c96Bad {n at' er i : Int32} {tx : Nat → Int32} {sb nu : Nat → Int32} {ch : Nat → Int64} (h : ¬ 0 ≤ er) (i0 : 0 ≤ i) (i1 : i < 120) : ∀ (m f : Nat) (j x : Nat) (v3 : Int64), m < f → x < 100 → j + m = x →
    ∃ w, M_MO_constant_96 n tx f at' er sb nu ch i (Int32.ofNat x) v3 (Int32.ofNat j) = some (at', er, sb, upd nu i.toNatClampNeg (Int32.ofNat x), vp_updL ch i.toNatClampNeg w) := by
  intro m
  induction m with
  | zero =>
    intro f j x v3 hf hx hj
    obtain ⟨f, rfl⟩ : ∃ x, f = x + 1 := ⟨f - 1, by omega⟩
    exact ⟨v3, by rw [M_MO_constant_96, if_pos ((b_le (by omega) (by omega)).mpr (by omega)), chk, if_pos ⟨i0, i1⟩, chk, if_pos ⟨i0, i1⟩]⟩
  | succ m ih =>
    intro f j x v3 hf hx hj
    obtain ⟨f, rfl⟩ : ∃ x, f = x + 1 := ⟨f - 1, by omega⟩
    obtain ⟨w, hw⟩ := ih f (j + 1) x (v3 ||| ((0 : Int32).toInt64 <<< ((8 * Int32.ofNat j).toInt64 &&& 63))) (by omega) hx (by omega)
    refine ⟨w, ?_⟩
    rw [M_MO_constant_96, if_neg (by rw [b_le (by omega) (by omega)]; omega), show (8 : Int32) = Int32.ofNat 8 from rfl, s_bitsBad h 8 (by decide), k3, show Int32.ofNat j + 1 = Int32.ofNat (j + 1) by rw [show (1 : Int32) = Int32.ofNat 1 from rfl, b_add]]
    exact hw
theorem s_tb11Bad {n pl wr : Int32} {by' : Nat → Int32} (h : wr ≠ -1) : ∀ (m f : Nat) (j x : Nat) (v2 : Int64), m < f → x < 100 → j + m = x →
    ∃ w, M_Text_takeBytes_11 n by' f pl wr (Int32.ofNat x) v2 (Int32.ofNat j) = some (w, pl, wr) := by
  intro m
  induction m with
  | zero =>
    intro f j x v2 hf hx hj
    obtain ⟨f, rfl⟩ : ∃ x, f = x + 1 := ⟨f - 1, by omega⟩
    exact ⟨_, by rw [M_Text_takeBytes_11, if_pos ((b_le (by omega) (by omega)).mpr (by omega)), M_Packed_of, k1]⟩
  | succ m ih =>
    intro f j x v2 hf hx hj
    obtain ⟨f, rfl⟩ : ∃ x, f = x + 1 := ⟨f - 1, by omega⟩
    obtain ⟨w, hw⟩ := ih f (j + 1) x ((v2 <<< ((8 : Int32).toInt64 &&& 63)) ||| (0 : Int32).toInt64) (by omega) hx (by omega)
    refine ⟨w, ?_⟩
    rw [M_Text_takeBytes_11, if_neg (by rw [b_le (by omega) (by omega)]; omega), s_takeBad h, k3, show Int32.ofNat j + 1 = Int32.ofNat (j + 1) by rw [show (1 : Int32) = Int32.ofNat 1 from rfl, b_add]]
    exact hw
theorem b_ex8 {x : Nat} (h : x < 2 ^ 31) : (Int32.ofNat x).toInt64 = Int64.ofNat x := by
  apply Int64.toInt_inj.mp
  rw [Int32.toInt_toInt64, b_toInt h, Int64.toInt_ofNat_of_lt (by omega)]
theorem q_beS (l : List Nat) (x : Nat) : q_be (l ++ [x]) = q_be l * 256 + x := by
  rw [q_beA]; simp [q_beC, q_be]
theorem q_leS (l : List Nat) (x : Nat) : q_le (l ++ [x]) = q_le l + 256 ^ l.length * x := by
  rw [q_leA]; simp [q_le]
theorem q_tbL {n : Nat} {by' tx : Nat → Int32} {i : Int32} {sb nu : Nat → Int32} {ch : Nat → Int64} (h : q_X n by' tx) (i0 : 0 ≤ i) (i1 : i < 120) : ∀ (m f f1 lo x : Nat) (l : List Nat) (pl wr at' er : Int32), m < f → m < f1 → x ≤ 7 → l.length + m = x → (∀ y ∈ l, y < 256) → q_OB n lo pl wr at' er → wr = -1 →
    ∃ ct pl1 wr1 at1 er1 bt, M_Text_takeBytes_11 (Int32.ofNat n) by' f pl wr (Int32.ofNat x) (Int64.ofNat (q_be l)) (Int32.ofNat l.length) = some (ct, pl1, wr1) ∧
      M_MO_constant_96 (Int32.ofNat n) tx f1 at' er sb nu ch i (Int32.ofNat x) (Int64.ofNat (q_le l)) (Int32.ofNat l.length) = some (at1, er1, sb, upd nu i.toNatClampNeg (Int32.ofNat x), vp_updL ch i.toNatClampNeg bt) ∧
      q_OB n lo pl1 wr1 at1 er1 ∧ (wr1 = -1 → ∃ l1, q_by l1 (Int32.ofNat x) ct bt) := by
  have h80 := h.1
  intro m
  induction m with
  | zero =>
    intro f f1 lo x l pl wr at' er hf hf1 hx hl hb hO hw
    obtain ⟨f, rfl⟩ : ∃ x, f = x + 1 := ⟨f - 1, by omega⟩
    obtain ⟨f1, rfl⟩ : ∃ x, f1 = x + 1 := ⟨f1 - 1, by omega⟩
    have hlx : l.length = x := by omega
    have e : Int32.ofNat x ≤ Int32.ofNat l.length := (b_le (by omega) (by omega)).mpr (by omega)
    refine ⟨_, pl, wr, at', er, Int64.ofNat (q_le l), by rw [M_Text_takeBytes_11, if_pos e, M_Packed_of, k1], by rw [M_MO_constant_96, if_pos e, chk, if_pos ⟨i0, i1⟩, chk, if_pos ⟨i0, i1⟩], hO, fun _ => ⟨l, by omega, hb, by rw [hlx], ?_, rfl⟩⟩
    have hbd := q_beB l hb
    have hp := b_pow (n := l.length) (by omega)
    rw [b_ex8 (by omega), show ((56 : Int32).toInt64 &&& 63) = Int64.ofNat 56 by decide, b_shl (by decide), b_or, b_orA (by omega), hlx]
  | succ m ih =>
    intro f f1 lo x l pl wr at' er hf hf1 hx hl hb hO hw
    obtain ⟨f, rfl⟩ : ∃ x, f = x + 1 := ⟨f - 1, by omega⟩
    obtain ⟨f1, rfl⟩ : ∃ x, f1 = x + 1 := ⟨f1 - 1, by omega⟩
    have e : ¬ Int32.ofNat x ≤ Int32.ofNat l.length := by rw [b_le (by omega) (by omega)]; omega
    have e1 : Int32.ofNat l.length + 1 = Int32.ofNat (l.length + 1) := by rw [show (1 : Int32) = Int32.ofNat 1 from rfl, b_add]
    obtain ⟨u, u', pl2, wr2, at2, er2, b1, b2, b3, b4, y, y', b5, b6, rfl, rfl, b9⟩ := q_take h 8 (by decide) hO
    have e8 : Int32.ofNat 8 = 8 := rfl
    rw [e8] at b1 b2
    by_cases h2 : wr2 = -1
    · obtain rfl := b9 h2
      have hbd := q_beB l hb
      have hld := q_leB l hb
      have hp := b_pow (n := l.length + 1) (by omega)
      have hp1 := b_pow (n := l.length) (by omega)
      have ec : (Int64.ofNat (q_be l) <<< ((8 : Int32).toInt64 &&& 63)) ||| (Int32.ofNat y).toInt64 = Int64.ofNat (q_be (l ++ [y])) := by
        rw [b_ex8 (by omega), show ((8 : Int32).toInt64 &&& 63) = Int64.ofNat 8 by decide, b_shl (by decide), b_or, b_orA b5, q_beS]
      have es : ((8 * Int32.ofNat l.length).toInt64 &&& 63) = Int64.ofNat (8 * l.length) := by
        have : ∀ j, j < 8 → ((8 * Int32.ofNat j).toInt64 &&& 63) = Int64.ofNat (8 * j) := by decide
        exact this _ (by omega)
      have ed : Int64.ofNat (q_le l) ||| ((Int32.ofNat y).toInt64 <<< ((8 * Int32.ofNat l.length).toInt64 &&& 63)) = Int64.ofNat (q_le (l ++ [y])) := by
        rw [b_ex8 (by omega), es, b_shl (by omega), b_or, Nat.or_comm]
        have t := b_orA (a := y) (b := q_le l) (i := 8 * l.length) (by rw [Nat.pow_mul]; exact hld)
        rw [t, q_leS, Nat.pow_mul, show (2 : Nat) ^ 8 = 256 from rfl]
        congr 1
        grind
      have hb' : ∀ z ∈ l ++ [y], z < 256 := fun z hz => by
        rcases List.mem_append.mp hz with a | a
        · exact hb z a
        · rw [List.mem_singleton.mp a]; exact b5
      obtain ⟨ct, pl3, wr3, at3, er3, bt, d1, d2, d3, d4⟩ := ih f f1 (lo + 8) x (l ++ [y]) pl2 wr2 at2 er2 (by omega) (by omega) hx (by rw [List.length_append, List.length_singleton]; omega) hb' b3 h2
      rw [List.length_append, List.length_singleton] at d1 d2
      refine ⟨ct, pl3, wr3, at3, er3, bt, ?_, ?_, d3.mono (by omega), d4⟩
      · rw [M_Text_takeBytes_11, if_neg e, b1, k3, ec, e1]; exact d1
      · rw [M_MO_constant_96, if_neg e, b2, k3, ed, e1]; exact d2
    · have hbad := b3.bad h2
      obtain ⟨ct, hct⟩ := s_tb11Bad (n := Int32.ofNat n) (pl := pl2) (by' := by') h2 m f (l.length + 1) x ((Int64.ofNat (q_be l) <<< ((8 : Int32).toInt64 &&& 63)) ||| (Int32.ofNat y).toInt64) (by omega) (by omega) (by omega)
      obtain ⟨bt, hbt⟩ := s_c96Bad (n := Int32.ofNat n) (at' := at2) (tx := tx) (sb := sb) (nu := nu) (ch := ch) hbad.1 i0 i1 m f1 (l.length + 1) x (Int64.ofNat (q_le l) ||| ((Int32.ofNat y').toInt64 <<< ((8 * Int32.ofNat l.length).toInt64 &&& 63))) (by omega) (by omega) (by omega)
      refine ⟨ct, pl2, wr2, at2, er2, bt, ?_, ?_, b3.mono (by omega), fun z => absurd z h2⟩
      · rw [M_Text_takeBytes_11, if_neg e, b1, k3, e1]; exact hct
      · rw [M_MO_constant_96, if_neg e, b2, k3, e1]; exact hbt
theorem s_conR {n at' er i r : Int32} {tx : Nat → Int32} {sb nu : Nat → Int32} {ch : Nat → Int64} {at1 er1 : Int32} (h : M_MO_bits n at' er tx 2 = some (r, at1, er1)) (i0 : 0 ≤ i) (i1 : i < 120) :
    M_MO_constant n at' er tx sb nu ch i = (if r = 0 then
      c3 (M_MO_natural n at1 er1 tx) (fun r21 t_at_21 t_error_21 =>
        (if (r21 - r21 / 2 * 2) = 0 then some (t_at_21, t_error_21, upd sb i.toNatClampNeg r, upd nu i.toNatClampNeg (r21 / 2), ch)
        else some (t_at_21, t_error_21, upd sb i.toNatClampNeg r, upd nu i.toNatClampNeg ((-(r21 / 2)) - 1), ch)))
    else if r = 1 then
      c3 (M_MO_bit n at1 er1 tx) (fun r68 t_at_68 t_error_68 => some (t_at_68, t_error_68, upd sb i.toNatClampNeg r, upd nu i.toNatClampNeg r68, ch))
    else if r = 3 then
      c3 (M_MO_bits n at1 er1 tx 3) (fun r87 t_at_87 t_error_87 => M_MO_constant_96 n tx 1000 t_at_87 t_error_87 (upd sb i.toNatClampNeg r) nu ch i r87 0 0)
    else some (at1, er1, upd sb i.toNatClampNeg r, nu, ch)) := by
  rw [M_MO_constant, h, k3]
  simp only [chk, i0, i1, and_self, if_true, q_eq, M_MO_constant_48]
theorem q_con {n lo : Nat} {by' tx : Nat → Int32} {i pl wr at' er : Int32} {sb nu : Nat → Int32} {ch : Nat → Int64} (h : q_X n by' tx) (i0 : 0 ≤ i) (i1 : i < 120) (hO : q_OB n lo pl wr at' er) :
    ∃ r pl1 wr1 ct pl2 wr2 at2 er2 sb2 nu2 ch2, M_Text_take (Int32.ofNat n) pl wr by' 2 = some (r, pl1, wr1) ∧ M_Program_takeConstant (Int32.ofNat n) pl1 wr1 by' r = some (ct, pl2, wr2) ∧
      M_MO_constant (Int32.ofNat n) at' er tx sb nu ch i = some (at2, er2, sb2, nu2, ch2) ∧ q_OB n (lo + 2) pl2 wr2 at2 er2 ∧
      (∀ j, j ≠ i.toNatClampNeg → sb2 j = sb j ∧ nu2 j = nu j ∧ ch2 j = ch j) ∧
      (wr2 = -1 → wr = -1 ∧ (sb2 (Int32.toNatClampNeg (i))) = r ∧ 0 ≤ r ∧ r ≤ 3 ∧ q_C r (nu2 (Int32.toNatClampNeg (i))) ct (ch2 (Int32.toNatClampNeg (i)))) := by
  have h80 := h.1
  obtain ⟨u, u', pl1, wr1, at1, er1, b1, b2, b3, b4, y, y', b5, b6, rfl, rfl, b9⟩ := q_take h 2 (by decide) hO
  have e2 : Int32.ofNat 2 = 2 := rfl
  rw [e2] at b1 b2
  have hu : ∀ {f : Nat → Int32} {x : Int32} (j : Nat), j ≠ i.toNatClampNeg → upd f i.toNatClampNeg x j = f j := fun j hj => by simp [upd, hj]
  have huL : ∀ {f : Nat → Int64} {x : Int64} (j : Nat), j ≠ i.toNatClampNeg → vp_updL f i.toNatClampNeg x j = f j := fun j hj => by simp [vp_updL, hj]
  by_cases h2 : wr1 = -1
  · obtain rfl := b9 h2
    have hw := b4 h2
    have cR := s_conR (sb := sb) (nu := nu) (ch := ch) b2 i0 i1
    rcases (show y = 0 ∨ y = 1 ∨ y = 2 ∨ y = 3 by omega) with rfl | rfl | rfl | rfl
    · obtain ⟨v, v', pl2, wr2, at2, er2, a1, a2, a3, a4⟩ := q_nat h b3
      rw [if_pos (by decide), a2, k3] at cR
      by_cases h3 : wr2 = -1
      · obtain ⟨-, rfl, v0⟩ := a4 h3
        obtain ⟨z, rfl, hz⟩ := b_of v0
        have z1 : Int32.ofNat z &&& 1 = Int32.ofNat (z % 2) := by
          rw [show (1 : Int32) = Int32.ofNat (2 ^ 1 - 1) from rfl, b_and32, Nat.and_two_pow_sub_one_eq_mod]
        have z2 : Int32.ofNat z / 2 = Int32.ofNat (z / 2) := b_div (b := 2) hz (by decide)
        have z3 : Int32.ofNat z - Int32.ofNat z / 2 * 2 = Int32.ofNat (z % 2) := by
          rw [z2, show (2 : Int32) = Int32.ofNat 2 from rfl, b_mul, b_sub hz (by omega)]; congr 1; omega
        by_cases hpar : z % 2 = 0
        · rw [z3, hpar, if_pos (by decide)] at cR
          refine ⟨Int32.ofNat 0, pl1, wr1, (Int32.ofNat z / 2).toInt64, pl2, wr2, at2, er2, _, _, _, b1, ?_, cR, a3.mono (by omega), fun j hj => ⟨hu j hj, hu j hj, rfl⟩, fun _ => ⟨hw, q_eq, by decide, by decide, .inl ⟨rfl, by rw [q_eq]⟩⟩⟩
          rw [M_Program_takeConstant, if_pos (by decide), a1, k3, M_Program_signed, z1, hpar, if_pos (by decide), k1]
        · have hp1 : z % 2 = 1 := by omega
          rw [z3, hp1, if_neg (by decide)] at cR
          refine ⟨Int32.ofNat 0, pl1, wr1, (-(Int32.ofNat z / 2) - 1).toInt64, pl2, wr2, at2, er2, _, _, _, b1, ?_, cR, a3.mono (by omega), fun j hj => ⟨hu j hj, hu j hj, rfl⟩, fun _ => ⟨hw, q_eq, by decide, by decide, .inl ⟨rfl, by rw [q_eq]⟩⟩⟩
          rw [M_Program_takeConstant, if_pos (by decide), a1, k3, M_Program_signed, z1, hp1, if_neg (by decide), k1]
      · have hs : ∃ w, M_Program_signed v = some w := by
          unfold M_Program_signed; split <;> exact ⟨_, rfl⟩
        obtain ⟨w, hs⟩ := hs
        have hR : ∃ nu2, M_MO_constant (Int32.ofNat n) at' er tx sb nu ch i = some (at2, er2, upd sb i.toNatClampNeg (Int32.ofNat 0), upd nu i.toNatClampNeg nu2, ch) := by
          rw [cR]; split <;> exact ⟨_, rfl⟩
        obtain ⟨nu2, hR⟩ := hR
        refine ⟨Int32.ofNat 0, pl1, wr1, w.toInt64, pl2, wr2, at2, er2, _, _, _, b1, ?_, hR, a3.mono (by omega), fun j hj => ⟨hu j hj, hu j hj, rfl⟩, fun z => absurd z h3⟩
        rw [M_Program_takeConstant, if_pos (by decide), a1, k3, hs, k1]
    · obtain ⟨v, v', pl2, wr2, at2, er2, a1, a2, a3, a4, a5⟩ := q_take1 h b3
      rw [if_neg (by decide), if_pos (by decide), a2, k3] at cR
      refine ⟨Int32.ofNat 1, pl1, wr1, v.toInt64, pl2, wr2, at2, er2, _, _, _, b1, ?_, cR, a3.mono (by omega), fun j hj => ⟨hu j hj, hu j hj, rfl⟩, fun z => ?_⟩
      · rw [M_Program_takeConstant, if_neg (by decide), if_pos (by decide), a1, k3]
      · obtain ⟨-, x, -, rfl, rfl⟩ := a4 z
        exact ⟨hw, q_eq, by decide, by decide, .inr (.inl ⟨rfl, by rw [q_eq]⟩)⟩
    · rw [if_neg (by decide), if_neg (by decide), if_neg (by decide)] at cR
      refine ⟨Int32.ofNat 2, pl1, wr1, 0, pl1, wr1, at1, er1, _, _, _, b1, ?_, cR, b3, fun j hj => ⟨hu j hj, rfl, rfl⟩, fun z => ⟨hw, q_eq, by decide, by decide, .inr (.inr (.inl rfl))⟩⟩
      rw [M_Program_takeConstant, if_neg (by decide), if_neg (by decide), if_pos (by decide)]
    · obtain ⟨u, u', pl2, wr2, at2, er2, c1, c2, c3, c4, y, y', c5, c6, rfl, rfl, c9⟩ := q_take h 3 (by decide) b3
      have e3 : Int32.ofNat 3 = 3 := rfl
      rw [e3] at c1 c2
      rw [if_neg (by decide), if_neg (by decide), if_pos (by decide), c2, k3] at cR
      by_cases h3 : wr2 = -1
      · obtain rfl := c9 h3
        obtain ⟨ct, pl3, wr3, at3, er3, bt, d1, d2, d3, d4⟩ := q_tbL (sb := upd sb i.toNatClampNeg (Int32.ofNat 3)) (nu := nu) (ch := ch) h i0 i1 y 1000 1000 (lo + 2 + 3) y [] pl2 wr2 at2 er2 (by omega) (by omega) (by omega) (by simp) (by simp) c3 h3
        refine ⟨Int32.ofNat 3, pl1, wr1, ct, pl3, wr3, at3, er3, _, _, _, b1, ?_, cR.trans d2, d3.mono (by omega), fun j hj => ⟨hu j hj, hu j hj, huL j hj⟩, fun z => ⟨hw, q_eq, by decide, by decide, .inr (.inr (.inr ⟨rfl, ?_⟩))⟩⟩
        · rw [M_Program_takeConstant, if_neg (by decide), if_neg (by decide), if_neg (by decide), if_pos (by decide), M_Text_takeBytes, c1, k3]
          rw [show M_Text_takeBytes_11 (Int32.ofNat n) by' 1000 pl2 wr2 (Int32.ofNat y) 0 0 = some (ct, pl3, wr3) from d1, k3]
        · obtain ⟨l1, hl1⟩ := d4 z
          exact ⟨l1, by rw [q_eq, q_eqL]; exact hl1⟩
      · have hbad := c3.bad h3
        obtain ⟨ct, hct⟩ := s_tb11Bad (n := Int32.ofNat n) (pl := pl2) (by' := by') h3 y 1000 0 y 0 (by omega) (by omega) (by omega)
        obtain ⟨bt, hbt⟩ := s_c96Bad (n := Int32.ofNat n) (at' := at2) (tx := tx) (sb := upd sb i.toNatClampNeg (Int32.ofNat 3)) (nu := nu) (ch := ch) hbad.1 i0 i1 y' 1000 0 y' 0 (by omega) (by omega) (by omega)
        refine ⟨Int32.ofNat 3, pl1, wr1, ct, pl2, wr2, at2, er2, _, _, _, b1, ?_, cR.trans hbt, c3.mono (by omega), fun j hj => ⟨hu j hj, hu j hj, huL j hj⟩, fun z => absurd z h3⟩
        rw [M_Program_takeConstant, if_neg (by decide), if_neg (by decide), if_neg (by decide), if_pos (by decide), M_Text_takeBytes, c1, k3]
        rw [show M_Text_takeBytes_11 (Int32.ofNat n) by' 1000 pl2 wr2 (Int32.ofNat y) 0 0 = some (ct, pl2, wr2) from hct, k3]
  · have hbad := b3.bad h2
    obtain ⟨ct, hct⟩ := s_conBad (n := Int32.ofNat n) (pl := pl1) (by' := by') (x := Int32.ofNat y) h2
    have cR := s_conR (sb := sb) (nu := nu) (ch := ch) b2 i0 i1
    have hR : ∃ sb2 nu2 ch2, M_MO_constant (Int32.ofNat n) at' er tx sb nu ch i = some (at1, er1, sb2, nu2, ch2) ∧ ∀ j, j ≠ i.toNatClampNeg → sb2 j = sb j ∧ nu2 j = nu j ∧ ch2 j = ch j := by
      rw [cR]
      split
      · rw [show M_MO_natural (Int32.ofNat n) at1 er1 tx = some ((0 : Int64).toInt32, at1, er1) from s_natEnd (f := 999) (.inr hbad.2.1), k3]
        split <;> exact ⟨_, _, _, rfl, fun j hj => ⟨hu j hj, hu j hj, rfl⟩⟩
      · split
        · rw [s_bit0 hbad.1, k3]
          exact ⟨_, _, _, rfl, fun j hj => ⟨hu j hj, hu j hj, rfl⟩⟩
        · split
          · rw [show (3 : Int32) = Int32.ofNat 3 from rfl, s_bitsBad hbad.1 3 (by decide), k3, M_MO_constant_96, if_pos (by decide), chk, if_pos ⟨i0, i1⟩, chk, if_pos ⟨i0, i1⟩]
            exact ⟨_, _, _, rfl, fun j hj => ⟨hu j hj, hu j hj, huL j hj⟩⟩
          · exact ⟨_, _, _, rfl, fun j hj => ⟨hu j hj, rfl, rfl⟩⟩
    obtain ⟨sb2, nu2, ch2, hR, hun⟩ := hR
    exact ⟨_, pl1, wr1, ct, pl1, wr1, at1, er1, sb2, nu2, ch2, b1, hct, hR, b3, hun, fun z => absurd z h2⟩
