theorem b_or7 {p : Nat} (hp : p < 2 ^ 31) : Int32.ofNat p ||| 7 = Int32.ofNat (p / 8 * 8 + 7) := by
  have e : p ||| 7 = p / 8 * 8 + 7 := by
    have h1 : p / 8 * 2 ^ 3 ||| p % 8 = p / 8 * 2 ^ 3 + p % 8 := b_orA (by omega)
    have h2 : p / 8 * 2 ^ 3 ||| 7 = p / 8 * 2 ^ 3 + 7 := b_orA (by decide)
    have h3 : p % 8 ||| 7 = 7 := by
      have : ∀ q, q < 8 → q ||| 7 = 7 := by decide
      exact this _ (by omega)
    have h4 : p = p / 8 * 2 ^ 3 ||| p % 8 := by rw [h1]; omega
    calc p ||| 7 = (p / 8 * 2 ^ 3 ||| p % 8) ||| 7 := by rw [← h4]
      _ = p / 8 * 2 ^ 3 ||| (p % 8 ||| 7) := Nat.or_assoc _ _ _
      _ = p / 8 * 8 + 7 := by rw [h3, h2]
  apply Int32.toBitVec_inj.mp
  rw [show (7 : Int32) = Int32.ofNat 7 from rfl]
  have : (Int32.ofNat p ||| Int32.ofNat 7).toBitVec = (Int32.ofNat (p ||| 7)).toBitVec := by simp [Int32.toBitVec_ofNat']
  rw [this, e]
theorem s_bitAny {n p : Nat} {by' : Nat → Int32} (hn : n ≤ 80) (hp : p ≤ 1000) : ∃ b, M_Text_bitAt (Int32.ofNat n) by' (Int32.ofNat p) = some b := by
  have e3 : Int32.ofNat p >>> ((3 : Int32) &&& 31) = Int32.ofNat (p / 8) := by
    rw [show ((3 : Int32) &&& 31) = Int32.ofNat 3 by decide, b_shr32 (by omega) (by decide)]
  have i0 : (0 : Int32) ≤ Int32.ofNat (p / 8) := (b_le (a := 0) (by decide) (by omega)).mpr (by omega)
  rw [M_Text_bitAt, e3, if_neg (Int32.not_lt.mpr i0)]
  by_cases h : Int32.ofNat (p / 8) < Int32.ofNat n
  · have h' := (b_lt (by omega) (by omega)).mp h
    have i1 : Int32.ofNat (p / 8) < 80 := (b_lt (b := 80) (by omega) (by decide)).mpr (by omega)
    exact ⟨_, by rw [if_pos h, chk, if_pos ⟨i0, i1⟩]⟩
  · exact ⟨_, by rw [if_neg h]⟩
theorem s_70 {n wr pl v1 : Int32} {by' : Nat → Int32} (h : wr ≠ -1) : M_Text_takeEnding_70 n pl by' wr v1 = some wr := by
  rw [M_Text_takeEnding_70, M_Text_bits, k1, M_Text_refuse, if_neg h, k1]
  split <;> rfl
theorem s_endBad {n : Nat} {wr pl : Int32} {by' : Nat → Int32} (hn : n ≤ 80) (h : wr ≠ -1) : ∀ (m f p L : Nat), m < f → p + m = L → L ≤ 1000 → M_Text_takeEnding_32 (Int32.ofNat n) pl by' f wr (Int32.ofNat L) (Int32.ofNat p) = some wr := by
  intro m
  induction m with
  | zero =>
    intro f p L hf hp hL
    obtain ⟨f, rfl⟩ : ∃ x, f = x + 1 := ⟨f - 1, by omega⟩
    obtain ⟨b, hb⟩ := s_bitAny (by' := by') hn hL
    rw [M_Text_takeEnding_32, if_pos ((b_le (by omega) (by omega)).mpr (by omega)), hb, k1, M_Text_refuse, if_neg h, k1, s_70 h]
    split <;> rfl
  | succ m ih =>
    intro f p L hf hp hL
    obtain ⟨f, rfl⟩ : ∃ x, f = x + 1 := ⟨f - 1, by omega⟩
    obtain ⟨b, hb⟩ := s_bitAny (by' := by') (p := p) hn (by omega)
    have e1 : Int32.ofNat p + 1 = Int32.ofNat (p + 1) := by rw [show (1 : Int32) = Int32.ofNat 1 from rfl, b_add]
    rw [M_Text_takeEnding_32, if_neg (by rw [b_le (by omega) (by omega)]; omega), hb, k1, M_Text_refuse, if_neg h, k1, e1, ih f (p + 1) L (by omega) (by omega) hL]
    split <;> rfl
theorem s_297 {n at' er fo ve wa : Int32} {tx : Nat → Int32} {tg sb nu : Nat → Int32} {ch : Nat → Int64} {fi se de la ow : Nat → Int32} (h : er ≠ 0) : M_MO_readText_297 n tx at' er fo ve wa tg sb nu ch fi se de la ow = some (at', er, fo, ve, wa, tg, sb, nu, ch, fi, se, de, la, ow) := by
  rw [M_MO_readText_297, if_neg h]
theorem s_222 {n at' er fo ve wa v1 : Int32} {tx : Nat → Int32} {tg sb nu : Nat → Int32} {ch : Nat → Int64} {fi se de la ow : Nat → Int32} {f : Nat} (h : er ≠ 0) : M_MO_readText_222 n tx (f + 1) at' er fo ve wa tg sb nu ch fi se de la ow v1 = some (at', er, fo, ve, wa, tg, sb, nu, ch, fi, se, de, la, ow) := by
  rw [M_MO_readText_222, s_297 h, if_neg h]
  split <;> rfl
theorem q_endL {n : Nat} {by' tx : Nat → Int32} {fo ve wa pl : Int32} {tg sb nu : Nat → Int32} {ch : Nat → Int64} {fi se de la ow : Nat → Int32} (h : q_X n by' tx) : ∀ (m f f1 p L : Nat), m < f → m + 1 < f1 → p + m = L → L % 8 = 7 → p / 8 = L / 8 → L < 8 * n →
    ∃ wr2 at2 er2, M_Text_takeEnding_32 (Int32.ofNat n) pl by' f (-1) (Int32.ofNat L) (Int32.ofNat p) = some wr2 ∧
      M_MO_readText_222 (Int32.ofNat n) tx f1 (Int32.ofNat p) 0 fo ve wa tg sb nu ch fi se de la ow 1 = some (at2, er2, fo, ve, wa, tg, sb, nu, ch, fi, se, de, la, ow) ∧ ((wr2 = -1 ∧ er2 = 0) ∨ (∃ w, w ≤ 640 ∧ wr2 = Int32.ofNat w ∧ er2 = -1 - Int32.ofNat w)) := by
  have h80 := h.1
  intro m
  induction m with
  | zero =>
    intro f f1 p L hf hf1 hp hL hd hn
    obtain ⟨f, rfl⟩ : ∃ x, f = x + 1 := ⟨f - 1, by omega⟩
    obtain ⟨f1, rfl⟩ : ∃ x, f1 = x + 1 + 1 := ⟨f1 - 2, by omega⟩
    have : p = L := by omega
    subst this
    obtain ⟨b, hb, b1, b2⟩ := q_bit h hn
    have e8 : 8 * Int32.ofNat n = Int32.ofNat (8 * n) := by rw [show (8 : Int32) = Int32.ofNat 8 from rfl, b_mul]
    have e1 : Int32.ofNat p + 1 = Int32.ofNat (p + 1) := by rw [show (1 : Int32) = Int32.ofNat 1 from rfl, b_add]
    have d8 : Int32.ofNat (p + 1) - Int32.ofNat (p + 1) / 8 * 8 = 0 := by
      rw [show (8 : Int32) = Int32.ofNat 8 from rfl, b_div (by omega) (by decide), b_mul, b_sub (by omega) (by omega), show p + 1 - (p + 1) / 8 * 8 = 0 by omega]; rfl
    have s1 : Int32.ofNat (p + 1) - 1 = Int32.ofNat p := b_sub (b := 1) (by omega) (by omega)
    have cl : M_Text_takeEnding_32 (Int32.ofNat n) pl by' (f + 1) (-1) (Int32.ofNat p) (Int32.ofNat p) = (if Int32.ofNat b = 0 then M_Text_takeEnding_70 (Int32.ofNat n) pl by' (Int32.ofNat p) (Int32.ofNat p) else M_Text_takeEnding_70 (Int32.ofNat n) pl by' (-1) (Int32.ofNat p)) := by
      rw [M_Text_takeEnding_32, if_pos Int32.le_rfl, b1, k1, M_Text_refuse, if_pos rfl, k1]
    have mo : M_MO_readText_222 (Int32.ofNat n) tx (f1 + 1 + 1) (Int32.ofNat p) 0 fo ve wa tg sb nu ch fi se de la ow 1 = (if Int32.ofNat b = 1 then M_MO_readText_222 (Int32.ofNat n) tx (f1 + 1) (Int32.ofNat (p + 1)) 0 fo ve wa tg sb nu ch fi se de la ow 0 else M_MO_readText_222 (Int32.ofNat n) tx (f1 + 1) (Int32.ofNat (p + 1)) (-1 - Int32.ofNat p) fo ve wa tg sb nu ch fi se de la ow 0) := by
      rw [M_MO_readText_222, if_neg (by decide), if_pos rfl, b2, k3, if_pos d8, M_MO_readText_253, if_pos rfl, if_neg (by decide), M_MO_readText_271, M_MO_wrong, if_pos rfl, k1, s1]
      simp [M_MO_readText_284]
    rw [cl, mo]
    rcases (show b = 0 ∨ b = 1 by omega) with rfl | rfl
    · obtain ⟨n1, n2, n3, n4⟩ := q_neg1 (w := p) (by omega)
      rw [if_pos (by decide), if_neg (by decide)]
      exact ⟨_, _, _, s_70 n1, s_222 n4, .inr ⟨p, by omega, rfl, rfl⟩⟩
    · rw [if_neg (by decide), if_pos (by decide)]
      by_cases hlast : 8 * n ≤ p + 1
      · refine ⟨-1, Int32.ofNat (p + 1), 0, ?_, ?_, .inl ⟨rfl, rfl⟩⟩
        · rw [M_Text_takeEnding_70, M_Text_bits, k1, e8, e1, if_pos ((b_le (by omega) (by omega)).mpr hlast)]
        · rw [M_MO_readText_222, if_pos rfl, M_MO_readText_297, if_pos rfl, e8, if_pos ((b_le (by omega) (by omega)).mpr hlast)]
      · refine ⟨Int32.ofNat (p + 1), Int32.ofNat (p + 1), -1 - Int32.ofNat (p + 1), ?_, ?_, .inr ⟨p + 1, by omega, rfl, rfl⟩⟩
        · rw [M_Text_takeEnding_70, M_Text_bits, k1, e8, e1, if_neg (by rw [b_le (by omega) (by omega)]; exact hlast), M_Text_refuse, if_pos rfl, k1]
        · rw [M_MO_readText_222, if_pos rfl, M_MO_readText_297, if_pos rfl, e8, if_neg (by rw [b_le (by omega) (by omega)]; exact hlast), M_MO_wrong, if_pos rfl, k1]
  | succ m ih =>
    intro f f1 p L hf hf1 hp hL hd hn
    obtain ⟨f, rfl⟩ : ∃ x, f = x + 1 := ⟨f - 1, by omega⟩
    obtain ⟨f1, rfl⟩ : ∃ x, f1 = x + 1 + 1 := ⟨f1 - 2, by omega⟩
    obtain ⟨b, hb, b1, b2⟩ := q_bit (p := p) h (by omega)
    have e1 : Int32.ofNat p + 1 = Int32.ofNat (p + 1) := by rw [show (1 : Int32) = Int32.ofNat 1 from rfl, b_add]
    have d8 : ¬ Int32.ofNat (p + 1) - Int32.ofNat (p + 1) / 8 * 8 = 0 := by
      rw [show (8 : Int32) = Int32.ofNat 8 from rfl, b_div (by omega) (by decide), b_mul, b_sub (by omega) (by omega)]
      intro z
      have := b_inj32 (b := 0) (by omega) (by decide) z
      omega
    have s1 : Int32.ofNat (p + 1) - 1 = Int32.ofNat p := b_sub (b := 1) (by omega) (by omega)
    have cl : M_Text_takeEnding_32 (Int32.ofNat n) pl by' (f + 1) (-1) (Int32.ofNat L) (Int32.ofNat p) = (if Int32.ofNat b = 1 then M_Text_takeEnding_32 (Int32.ofNat n) pl by' f (Int32.ofNat p) (Int32.ofNat L) (Int32.ofNat (p + 1)) else M_Text_takeEnding_32 (Int32.ofNat n) pl by' f (-1) (Int32.ofNat L) (Int32.ofNat (p + 1))) := by
      rw [M_Text_takeEnding_32, if_neg (by rw [b_le (by omega) (by omega)]; omega), b1, k1, M_Text_refuse, if_pos rfl, k1, e1]
    have mo : M_MO_readText_222 (Int32.ofNat n) tx (f1 + 1 + 1) (Int32.ofNat p) 0 fo ve wa tg sb nu ch fi se de la ow 1 = (if Int32.ofNat b = 0 then M_MO_readText_222 (Int32.ofNat n) tx (f1 + 1) (Int32.ofNat (p + 1)) 0 fo ve wa tg sb nu ch fi se de la ow 1 else M_MO_readText_222 (Int32.ofNat n) tx (f1 + 1) (Int32.ofNat (p + 1)) (-1 - Int32.ofNat p) fo ve wa tg sb nu ch fi se de la ow 1) := by
      rw [M_MO_readText_222, if_neg (by decide), if_pos rfl, b2, k3, if_neg d8, M_MO_readText_253, if_pos rfl, if_pos rfl, M_MO_readText_271, M_MO_wrong, if_pos rfl, k1, s1]
      simp [M_MO_readText_284]
    rw [cl, mo]
    rcases (show b = 0 ∨ b = 1 by omega) with rfl | rfl
    · rw [if_neg (by decide), if_pos (by decide)]
      exact ih f (f1 + 1) (p + 1) L (by omega) (by omega) (by omega) hL (by omega) hn
    · obtain ⟨n1, n2, n3, n4⟩ := q_neg1 (w := p) (by omega)
      rw [if_pos (by decide), if_neg (by decide)]
      exact ⟨_, _, _, s_endBad h80 n1 m f (p + 1) L (by omega) (by omega) (by omega), s_222 n4, .inr ⟨p, by omega, rfl, rfl⟩⟩
theorem q_end {n lo : Nat} {by' tx : Nat → Int32} {fo ve wa pl wr at' er : Int32} {tg sb nu : Nat → Int32} {ch : Nat → Int64} {fi se de la ow : Nat → Int32} (h : q_X n by' tx) (hO : q_OB n lo pl wr at' er) :
    ∃ wr2 at2 er2, M_Text_takeEnding (Int32.ofNat n) pl wr by' = some wr2 ∧
      M_MO_readText_209 (Int32.ofNat n) tx at' er fo ve wa tg sb nu ch fi se de la ow = some (at2, er2, fo, ve, wa, tg, sb, nu, ch, fi, se, de, la, ow) ∧ ((wr2 = -1 ∧ er2 = 0 ∧ wr = -1) ∨ (∃ w, w ≤ 640 ∧ wr2 = Int32.ofNat w ∧ er2 = -1 - Int32.ofNat w)) := by
  have h80 := h.1
  have e8 : 8 * Int32.ofNat n = Int32.ofNat (8 * n) := by rw [show (8 : Int32) = Int32.ofNat 8 from rfl, b_mul]
  rcases hO with ⟨p, hlo, hp, rfl, rfl, rfl, rfl⟩ | ⟨p, w, hp, hw, rfl, rfl, rfl⟩
  · by_cases hp2 : p < 8 * n
    · obtain ⟨wr2, at2, er2, a1, a2, a3⟩ := q_endL (fo := fo) (ve := ve) (wa := wa) (pl := Int32.ofNat p) (tg := tg) (sb := sb) (nu := nu) (ch := ch) (fi := fi) (se := se) (de := de) (la := la) (ow := ow) h (p / 8 * 8 + 7 - p) 1000 1000 p (p / 8 * 8 + 7) (by omega) (by omega) (by omega) (by omega) (by omega) (by omega)
      refine ⟨wr2, at2, er2, ?_, ?_, ?_⟩
      · rw [M_Text_takeEnding, M_Text_bits, k1, e8, if_pos ((b_lt (by omega) (by omega)).mpr hp2), M_Text_takeEnding_19, b_or7 (by omega)]; exact a1
      · rw [M_MO_readText_209, if_pos rfl]; exact a2
      · rcases a3 with ⟨x, y⟩ | a3
        · exact .inl ⟨x, y, rfl⟩
        · exact .inr a3
    · have hpe : p = 8 * n := by omega
      subst hpe
      obtain ⟨n1, n2, n3, n4⟩ := q_neg1 (w := 8 * n) (by omega)
      refine ⟨Int32.ofNat (8 * n), Int32.ofNat (8 * n), -1 - Int32.ofNat (8 * n), ?_, ?_, .inr ⟨8 * n, by omega, rfl, rfl⟩⟩
      · rw [M_Text_takeEnding, M_Text_bits, k1, e8, if_neg (fun z => Int32.lt_irrefl z), k1, M_Text_refuse, if_pos rfl, k1, M_Text_takeEnding_19, b_or7 (by omega)]
        exact s_endBad h80 n1 (8 * n / 8 * 8 + 7 - 8 * n) 1000 (8 * n) _ (by omega) (by omega) (by omega)
      · rw [M_MO_readText_209, if_pos rfl, M_MO_readText_222, if_neg (by decide), if_pos rfl, M_MO_bit, if_pos (by decide), e8, if_neg (fun z => Int32.lt_irrefl z), M_MO_wrong, if_pos rfl, k1, k3, M_MO_readText_253, if_neg n4, M_MO_readText_253, if_neg n4, M_MO_readText_284, M_MO_readText_284]
        simp only [s_222 n4]
        split <;> (try split) <;> rfl
  · obtain ⟨n1, n2, n3, n4⟩ := q_neg1 hw
    refine ⟨Int32.ofNat w, at', -1 - Int32.ofNat w, ?_, ?_, .inr ⟨w, hw, rfl, rfl⟩⟩
    · rw [M_Text_takeEnding, M_Text_bits, k1, k1, M_Text_refuse, if_neg n1, k1, M_Text_takeEnding_19, b_or7 (by omega), s_endBad h80 n1 (p / 8 * 8 + 7 - p) 1000 p _ (by omega) (by omega) (by omega)]
      split <;> rfl
    · rw [M_MO_readText_209, if_neg n4]
      exact s_222 (f := 999) n4
