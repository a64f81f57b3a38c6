theorem b_shr32 {a s : Nat} (ha : a < 2 ^ 31) (hs : s < 32) : Int32.ofNat a >>> Int32.ofNat s = Int32.ofNat (a / 2 ^ s) := by
  apply Int32.toBitVec_inj.mp
  have e : (BitVec.ofNat 32 s).smod 32 = BitVec.ofNat 32 s := by
    have : ∀ s, s < 32 → (BitVec.ofNat 32 s).smod 32 = BitVec.ofNat 32 s := by decide
    exact this s hs
  have : a / 2 ^ s ≤ a := Nat.div_le_self _ _
  simp only [Int32.toBitVec_shiftRight, Int32.toBitVec_ofNat', e]
  rw [BitVec.sshiftRight', BitVec.sshiftRight_eq_of_msb_false]
  · apply BitVec.eq_of_toNat_eq
    simp [Nat.shiftRight_eq_div_pow]
    rw [Nat.mod_eq_of_lt (by omega : a < 4294967296), Nat.mod_eq_of_lt (by omega : s < 4294967296), Nat.mod_eq_of_lt (by omega : a / 2 ^ s < 4294967296)]
  · rw [BitVec.msb_eq_false_iff_two_mul_lt]
    simp
    omega
theorem b_toInt {a : Nat} (ha : a < 2 ^ 31) : (Int32.ofNat a).toInt = a := by
  exact Int32.toInt_ofNat_of_lt ha
theorem b_div {a b : Nat} (ha : a < 2 ^ 31) (hb : b < 2 ^ 31) : Int32.ofNat a / Int32.ofNat b = Int32.ofNat (a / b) := by
  apply Int32.toInt_inj.mp
  have : a / b ≤ a := Nat.div_le_self _ _
  rw [Int32.toInt_div, b_toInt ha, b_toInt hb, b_toInt (by omega), Int.tdiv_eq_ediv_of_nonneg (by omega)]
  rw [← Int.natCast_ediv]
  generalize a / b = q at this ⊢
  rw [Int.bmod_eq_of_le (by omega) (by omega)]
theorem b_le {a b : Nat} (ha : a < 2 ^ 31) (hb : b < 2 ^ 31) : Int32.ofNat a ≤ Int32.ofNat b ↔ a ≤ b := by
  rw [Int32.le_iff_toInt_le, b_toInt ha, b_toInt hb]; omega
theorem b_lt {a b : Nat} (ha : a < 2 ^ 31) (hb : b < 2 ^ 31) : Int32.ofNat a < Int32.ofNat b ↔ a < b := by
  rw [Int32.lt_iff_toInt_lt, b_toInt ha, b_toInt hb]; omega
theorem b_add {a b : Nat} : Int32.ofNat a + Int32.ofNat b = Int32.ofNat (a + b) := (Int32.ofNat_add a b).symm
theorem b_mul {a b : Nat} : Int32.ofNat a * Int32.ofNat b = Int32.ofNat (a * b) := (Int32.ofNat_mul a b).symm
theorem b_clamp {a : Nat} (ha : a < 2 ^ 31) : (Int32.ofNat a).toNatClampNeg = a := by
  rw [← Int32.toNat_toInt, b_toInt ha]; simp
theorem b_sub {a b : Nat} (ha : a < 2 ^ 31) (h : b ≤ a) : Int32.ofNat a - Int32.ofNat b = Int32.ofNat (a - b) := by
  apply Int32.toInt_inj.mp
  rw [Int32.toInt_sub, b_toInt ha, b_toInt (by omega), b_toInt (by omega), Int.bmod_eq_of_le (by omega) (by omega)]
  omega
theorem b_of {x : Int32} (h : 0 ≤ x) : ∃ a, x = Int32.ofNat a ∧ a < 2 ^ 31 := by
  refine ⟨x.toNatClampNeg, ?_, ?_⟩
  · rw [Int32.ofNat_toNatClampNeg _ h]
  · have := q_clamp h
    have := x.toInt_lt
    omega
theorem b_one (x : Int32) : x &&& 1 = 0 ∨ x &&& 1 = 1 := by
  have h : (x &&& 1).toBitVec.toNat = x.toBitVec.toNat % 2 := by
    simp [Nat.and_one_is_mod]
  rcases Nat.mod_two_eq_zero_or_one x.toBitVec.toNat with e | e
  · left
    apply Int32.toBitVec_inj.mp
    apply BitVec.eq_of_toNat_eq
    rw [h, e]; rfl
  · right
    apply Int32.toBitVec_inj.mp
    apply BitVec.eq_of_toNat_eq
    rw [h, e]; rfl
def q_X (n : Nat) (by' tx : Nat → Int32) : Prop := n ≤ 80 ∧ ∀ j, j < n → by' j = tx j
theorem q_bit {n p : Nat} {by' tx : Nat → Int32} (h : q_X n by' tx) (hp : p < 8 * n) :
    ∃ b : Nat, b < 2 ∧ M_Text_bitAt (Int32.ofNat n) by' (Int32.ofNat p) = some (Int32.ofNat b) ∧ M_MO_bit (Int32.ofNat n) (Int32.ofNat p) 0 tx = some (Int32.ofNat b, Int32.ofNat (p + 1), 0) := by
  obtain ⟨h80, hb⟩ := h
  have e3 : Int32.ofNat p >>> ((3 : Int32) &&& 31) = Int32.ofNat (p / 8) := by
    rw [show ((3 : Int32) &&& 31) = Int32.ofNat 3 by decide, b_shr32 (by omega) (by decide)]
  have e7 : Int32.ofNat p &&& 7 = Int32.ofNat (p % 8) := by
    rw [show (7 : Int32) = Int32.ofNat (2 ^ 3 - 1) from rfl, b_and32, Nat.and_two_pow_sub_one_eq_mod]
  have d8 : Int32.ofNat p / 8 = Int32.ofNat (p / 8) := by
    rw [show (8 : Int32) = Int32.ofNat 8 from rfl, b_div (by omega) (by decide)]
  have m8 : Int32.ofNat p - Int32.ofNat (p / 8) * 8 = Int32.ofNat (p % 8) := by
    rw [show (8 : Int32) = Int32.ofNat 8 from rfl, b_mul, b_sub (by omega) (by omega)]
    congr 1; omega
  have i0 : (0 : Int32) ≤ Int32.ofNat (p / 8) := (b_le (a := 0) (by decide) (by omega)).mpr (by omega)
  have i1 : Int32.ofNat (p / 8) < 80 := (b_lt (b := 80) (by omega) (by decide)).mpr (by omega)
  have i2 : Int32.ofNat (p / 8) < Int32.ofNat n := (b_lt (by omega) (by omega)).mpr (by omega)
  have i3 : ¬ Int32.ofNat (p / 8) < 0 := Int32.not_lt.mpr i0
  have i4 : Int32.ofNat p < 8 * Int32.ofNat n := by
    rw [show (8 : Int32) = Int32.ofNat 8 from rfl, b_mul]
    exact (b_lt (by omega) (by omega)).mpr hp
  have p1 : Int32.ofNat p + 1 = Int32.ofNat (p + 1) := by
    rw [show (1 : Int32) = Int32.ofNat 1 from rfl, b_add]
  have bb : by' (p / 8) = tx (p / 8) := hb _ (by omega)
  have : ∃ b : Nat, b < 2 ∧ ((tx (p / 8)) >>> ((7 - Int32.ofNat (p % 8)) &&& 31)) &&& 1 = Int32.ofNat b := by
    rcases b_one ((tx (p / 8)) >>> ((7 - Int32.ofNat (p % 8)) &&& 31)) with e | e
    · exact ⟨0, by decide, e⟩
    · exact ⟨1, by decide, e⟩
  obtain ⟨b, b2, hbb⟩ := this
  refine ⟨b, b2, ?_, ?_⟩
  · rw [M_Text_bitAt, e3, e7, if_neg i3, if_pos i2, chk, if_pos ⟨i0, i1⟩, b_clamp (by omega), bb, hbb]
  · rw [M_MO_bit, if_pos (by decide), if_pos i4, d8, m8, chk, if_pos ⟨i0, i1⟩, b_clamp (by omega), hbb, p1]
def q_OB (n lo : Nat) (pl wr at' er : Int32) : Prop :=
  (∃ p, lo ≤ p ∧ p ≤ 8 * n ∧ pl = Int32.ofNat p ∧ at' = Int32.ofNat p ∧ wr = -1 ∧ er = 0) ∨
  (∃ p w, p ≤ 8 * n ∧ w ≤ 640 ∧ pl = Int32.ofNat p ∧ wr = Int32.ofNat w ∧ er = -1 - Int32.ofNat w)
theorem q_OB.mono {n lo l1 : Nat} {pl wr at' er : Int32} (h : q_OB n lo pl wr at' er) (hl : l1 ≤ lo) : q_OB n l1 pl wr at' er := by
  rcases h with ⟨p, h1, h2⟩ | h
  · exact .inl ⟨p, Nat.le_trans hl h1, h2⟩
  · exact .inr h
theorem q_neg1 {w : Nat} (h : w ≤ 640) : Int32.ofNat w ≠ -1 ∧ -1 - Int32.ofNat w < 0 ∧ ¬ 0 ≤ -1 - Int32.ofNat w ∧ -1 - Int32.ofNat w ≠ 0 := by
  have h0 : (0 : Int32) ≤ Int32.ofNat w := (b_le (a := 0) (by decide) (by omega)).mpr (by omega)
  have h1 : Int32.ofNat w ≤ 640 := (b_le (b := 640) (by omega) (by decide)).mpr h
  refine ⟨?_, ?_, ?_, ?_⟩ <;> grind
theorem s_bit0 {n : Int32} {at' er : Int32} {tx : Nat → Int32} (h : ¬ 0 ≤ er) : M_MO_bit n at' er tx = some (0, at', er) := by
  rw [M_MO_bit, if_neg h]
theorem s_bits0 {n : Int32} {at' er : Int32} {tx : Nat → Int32} (h : ¬ 0 ≤ er) : ∀ (m f : Nat) (acc i nb : Nat), m < f → nb < 100 → i + m = nb → M_MO_bits_4 n tx f at' er (Int32.ofNat nb) (Int32.ofNat acc) (Int32.ofNat i) = some (Int32.ofNat (acc * 2 ^ m), at', er) := by
  intro m
  induction m with
  | zero =>
    intro f acc i nb hf hn hi
    obtain ⟨f, rfl⟩ : ∃ x, f = x + 1 := ⟨f - 1, by omega⟩
    rw [M_MO_bits_4, if_pos ((b_le (by omega) (by omega)).mpr (by omega))]; simp
  | succ m ih =>
    intro f acc i nb hf hn hi
    obtain ⟨f, rfl⟩ : ∃ x, f = x + 1 := ⟨f - 1, by omega⟩
    have hv := ih f (2 * acc + 0) (i + 1) nb (by omega) hn (by omega)
    rw [M_MO_bits_4, if_neg (by rw [b_le (by omega) (by omega)]; omega), s_bit0 h, k3]
    rw [show (2 : Int32) * Int32.ofNat acc + 0 = Int32.ofNat (2 * acc + 0) by rw [show (2 : Int32) = Int32.ofNat 2 from rfl, show (0 : Int32) = Int32.ofNat 0 from rfl, b_mul, b_add], show Int32.ofNat i + 1 = Int32.ofNat (i + 1) by rw [show (1 : Int32) = Int32.ofNat 1 from rfl, b_add], hv, Nat.pow_succ]
    congr 3
    grind
theorem q_takeL {n : Nat} {by' tx : Nat → Int32} (h : q_X n by' tx) : ∀ (m f f1 p acc i nb : Nat), m < f → m < f1 → nb < 20 → i + m = nb → p ≤ 8 * n → acc < 2 ^ i →
    ∃ v v' pl wr at' er, M_Text_take_4 (Int32.ofNat n) by' f (Int32.ofNat p) (-1) (Int32.ofNat nb) (Int32.ofNat acc) (Int32.ofNat i) = some (v, pl, wr) ∧
      M_MO_bits_4 (Int32.ofNat n) tx f1 (Int32.ofNat p) 0 (Int32.ofNat nb) (Int32.ofNat acc) (Int32.ofNat i) = some (v', at', er) ∧ q_OB n (p + m) pl wr at' er ∧
      ∃ x x', x < 2 ^ nb ∧ x' < 2 ^ nb ∧ v = Int32.ofNat x ∧ v' = Int32.ofNat x' ∧ (wr = -1 → x = x') := by
  have h80 := h.1
  intro m
  induction m with
  | zero =>
    intro f f1 p acc i nb hf hf1 hn hi hp ha
    obtain ⟨f, rfl⟩ : ∃ x, f = x + 1 := ⟨f - 1, by omega⟩
    obtain ⟨f1, rfl⟩ : ∃ x, f1 = x + 1 := ⟨f1 - 1, by omega⟩
    have e : Int32.ofNat nb ≤ Int32.ofNat i := (b_le (by omega) (by omega)).mpr (by omega)
    have : i = nb := by omega
    subst this
    exact ⟨_, _, _, _, _, _, by rw [M_Text_take_4, if_pos e], by rw [M_MO_bits_4, if_pos e], .inl ⟨p, by omega, hp, rfl, rfl, rfl, rfl⟩, acc, acc, ha, ha, rfl, rfl, fun _ => rfl⟩
  | succ m ih =>
    intro f f1 p acc i nb hf hf1 hn hi hp ha
    obtain ⟨f, rfl⟩ : ∃ x, f = x + 1 := ⟨f - 1, by omega⟩
    obtain ⟨f1, rfl⟩ : ∃ x, f1 = x + 1 := ⟨f1 - 1, by omega⟩
    have e : ¬ Int32.ofNat nb ≤ Int32.ofNat i := by rw [b_le (by omega) (by omega)]; omega
    have e8 : 8 * Int32.ofNat n = Int32.ofNat (8 * n) := by rw [show (8 : Int32) = Int32.ofNat 8 from rfl, b_mul]
    have e1 : Int32.ofNat i + 1 = Int32.ofNat (i + 1) := by rw [show (1 : Int32) = Int32.ofNat 1 from rfl, b_add]
    have ep : Int32.ofNat p + 1 = Int32.ofNat (p + 1) := by rw [show (1 : Int32) = Int32.ofNat 1 from rfl, b_add]
    by_cases hp2 : p < 8 * n
    · obtain ⟨b, hb, b1, b2⟩ := q_bit h hp2
      have e2 : (2 : Int32) * Int32.ofNat acc + Int32.ofNat b = Int32.ofNat (2 * acc + b) := by rw [show (2 : Int32) = Int32.ofNat 2 from rfl, b_mul, b_add]
      obtain ⟨v, v', pl, wr, at', er, c1, c2, c3, c4⟩ := ih f f1 (p + 1) (2 * acc + b) (i + 1) nb (by omega) (by omega) hn (by omega) (by omega) (by rw [Nat.pow_succ]; omega)
      rw [show p + 1 + m = p + (m + 1) by omega] at c3
      refine ⟨v, v', pl, wr, at', er, ?_, ?_, c3, c4⟩
      · rw [M_Text_take_4, if_neg e, if_pos rfl, M_Text_bits, k1, e8, if_pos ((b_lt (by omega) (by omega)).mpr hp2), b1, k1, e2, e1, ep]; exact c1
      · rw [M_MO_bits_4, if_neg e, b2, k3, e2, e1]; exact c2
    · have hpe : p = 8 * n := by omega
      subst hpe
      have hlt : ¬ Int32.ofNat (8 * n) < Int32.ofNat (8 * n) := fun z => Int32.lt_irrefl z
      obtain ⟨n1, n2, n3, n4⟩ := q_neg1 (w := 8 * n) (by omega)
      have e2 : (2 : Int32) * Int32.ofNat acc + 0 = Int32.ofNat (2 * acc) := by rw [show (2 : Int32) = Int32.ofNat 2 from rfl, b_mul]; grind
      have hv' := s_bits0 (n := Int32.ofNat n) (at' := Int32.ofNat (8 * n)) (tx := tx) n3 m f1 (2 * acc) (i + 1) nb (by omega) (by omega) (by omega)
      have q1 : 2 ^ i ≤ 2 ^ nb := Nat.pow_le_pow_right (by decide) (by omega)
      have q2 : 2 * acc * 2 ^ m < 2 ^ nb := by
        have : acc * 2 ^ (m + 1) < 2 ^ i * 2 ^ (m + 1) := Nat.mul_lt_mul_of_pos_right ha (Nat.pow_pos (by decide))
        rw [← Nat.pow_add, show i + (m + 1) = nb by omega, Nat.pow_succ] at this
        grind
      refine ⟨Int32.ofNat acc, Int32.ofNat (2 * acc * 2 ^ m), Int32.ofNat (8 * n), Int32.ofNat (8 * n), Int32.ofNat (8 * n), -1 - Int32.ofNat (8 * n), ?_, ?_, .inr ⟨8 * n, 8 * n, by omega, by omega, rfl, rfl, rfl⟩, acc, 2 * acc * 2 ^ m, by omega, q2, rfl, rfl, fun z => absurd z n1⟩
      · rw [M_Text_take_4, if_neg e, if_pos rfl, M_Text_bits, k1, e8, if_neg hlt, k1, M_Text_refuse, if_pos rfl, k1]
        cases f with
        | zero => omega
        | succ f =>
          rw [M_Text_take_4]
          by_cases z : Int32.ofNat nb ≤ Int32.ofNat i + 1
          · rw [if_pos z]
          · rw [if_neg z, if_neg n1]
      · rw [M_MO_bits_4, if_neg e, M_MO_bit, if_pos (by decide), e8, if_neg hlt, M_MO_wrong, if_pos rfl, k1, k3, e2, e1]; exact hv'
theorem q_take {n lo : Nat} {by' tx : Nat → Int32} {pl wr at' er : Int32} (h : q_X n by' tx) (nb : Nat) (hn : nb < 20) (hO : q_OB n lo pl wr at' er) :
    ∃ v v' pl1 wr1 at1 er1, M_Text_take (Int32.ofNat n) pl wr by' (Int32.ofNat nb) = some (v, pl1, wr1) ∧ M_MO_bits (Int32.ofNat n) at' er tx (Int32.ofNat nb) = some (v', at1, er1) ∧ q_OB n (lo + nb) pl1 wr1 at1 er1 ∧
      (wr1 = -1 → wr = -1) ∧ ∃ x x', x < 2 ^ nb ∧ x' < 2 ^ nb ∧ v = Int32.ofNat x ∧ v' = Int32.ofNat x' ∧ (wr1 = -1 → x = x') := by
  have h80 := h.1
  rcases hO with ⟨p, hlo, hp, rfl, rfl, rfl, rfl⟩ | ⟨p, w, hp, hw, rfl, rfl, rfl⟩
  · obtain ⟨v, v', pl, wr, at', er, c1, c2, c3, c4⟩ := q_takeL h nb 1000 1000 p 0 0 nb (by omega) (by omega) hn (by omega) hp (by decide)
    exact ⟨v, v', pl, wr, at', er, c1, c2, c3.mono (by omega), fun z => rfl, c4⟩
  · obtain ⟨n1, n2, n3, n4⟩ := q_neg1 hw
    have hv' := s_bits0 (n := Int32.ofNat n) (at' := at') (tx := tx) n3 nb 1000 0 0 nb (by omega) (by omega) (by omega)
    rw [Nat.zero_mul] at hv'
    refine ⟨0, Int32.ofNat 0, Int32.ofNat p, Int32.ofNat w, at', _, ?_, hv', .inr ⟨p, w, hp, hw, rfl, rfl, rfl⟩, fun z => absurd z n1, 0, 0, Nat.pow_pos (by decide), Nat.pow_pos (by decide), rfl, rfl, fun _ => rfl⟩
    rw [M_Text_take, M_Text_take_4]
    by_cases z : Int32.ofNat nb ≤ 0
    · rw [if_pos z]
    · rw [if_neg z, if_neg n1]
theorem q_take1 {n lo : Nat} {by' tx : Nat → Int32} {pl wr at' er : Int32} (h : q_X n by' tx) (hO : q_OB n lo pl wr at' er) :
    ∃ v v' pl1 wr1 at1 er1, M_Text_take (Int32.ofNat n) pl wr by' 1 = some (v, pl1, wr1) ∧ M_MO_bit (Int32.ofNat n) at' er tx = some (v', at1, er1) ∧ q_OB n (lo + 1) pl1 wr1 at1 er1 ∧
      (wr1 = -1 → wr = -1 ∧ ∃ x, x < 2 ∧ v = Int32.ofNat x ∧ v' = Int32.ofNat x) ∧ (wr1 ≠ -1 → v = 0 ∧ v' = 0) := by
  have h80 := h.1
  rcases hO with ⟨p, hlo, hp, rfl, rfl, rfl, rfl⟩ | ⟨p, w, hp, hw, rfl, rfl, rfl⟩
  · have e8 : 8 * Int32.ofNat n = Int32.ofNat (8 * n) := by rw [show (8 : Int32) = Int32.ofNat 8 from rfl, b_mul]
    have ep : Int32.ofNat p + 1 = Int32.ofNat (p + 1) := by rw [show (1 : Int32) = Int32.ofNat 1 from rfl, b_add]
    by_cases hp2 : p < 8 * n
    · obtain ⟨b, hb, b1, b2⟩ := q_bit h hp2
      refine ⟨Int32.ofNat b, Int32.ofNat b, Int32.ofNat (p + 1), -1, Int32.ofNat (p + 1), 0, ?_, b2, .inl ⟨p + 1, by omega, by omega, rfl, rfl, rfl, rfl⟩, fun _ => ⟨rfl, b, hb, rfl, rfl⟩, fun z => absurd rfl z⟩
      rw [M_Text_take, M_Text_take_4, if_neg (by decide), if_pos rfl, M_Text_bits, k1, e8, if_pos ((b_lt (by omega) (by omega)).mpr hp2), b1, k1, M_Text_take_4, if_pos (by decide), ep, show (2 : Int32) * 0 + Int32.ofNat b = Int32.ofNat b by grind]
    · have hpe : p = 8 * n := by omega
      subst hpe
      have hlt : ¬ Int32.ofNat (8 * n) < Int32.ofNat (8 * n) := fun z => Int32.lt_irrefl z
      obtain ⟨n1, n2, n3, n4⟩ := q_neg1 (w := 8 * n) (by omega)
      refine ⟨0, 0, Int32.ofNat (8 * n), Int32.ofNat (8 * n), Int32.ofNat (8 * n), -1 - Int32.ofNat (8 * n), ?_, ?_, .inr ⟨8 * n, 8 * n, by omega, by omega, rfl, rfl, rfl⟩, fun z => absurd z n1, fun _ => ⟨rfl, rfl⟩⟩
      · rw [M_Text_take, M_Text_take_4, if_neg (by decide), if_pos rfl, M_Text_bits, k1, e8, if_neg hlt, k1, M_Text_refuse, if_pos rfl, k1, M_Text_take_4, if_pos (by decide)]
      · rw [M_MO_bit, if_pos (by decide), e8, if_neg hlt, M_MO_wrong, if_pos rfl, k1]
  · obtain ⟨n1, n2, n3, n4⟩ := q_neg1 hw
    refine ⟨0, 0, Int32.ofNat p, Int32.ofNat w, at', _, ?_, s_bit0 n3, .inr ⟨p, w, hp, hw, rfl, rfl, rfl⟩, fun z => absurd z n1, fun _ => ⟨rfl, rfl⟩⟩
    rw [M_Text_take, M_Text_take_4, if_neg (by decide), if_neg n1]
