theorem q_OB.ok {n lo : Nat} {pl wr at' er : Int32} (h : q_OB n lo pl wr at' er) (hw : wr = -1) : ∃ p, lo ≤ p ∧ p ≤ 8 * n ∧ pl = Int32.ofNat p ∧ at' = Int32.ofNat p ∧ er = 0 := by
  rcases h with ⟨p, h0, h1, h2, h3, h4, h5⟩ | ⟨p, w, h1, h2, h3, h4, h5⟩
  · exact ⟨p, h0, h1, h2, h3, h5⟩
  · exact absurd (h4.symm.trans hw) (q_neg1 h2).1
theorem q_OB.bad {n lo : Nat} {pl wr at' er : Int32} (h : q_OB n lo pl wr at' er) (hw : wr ≠ -1) : ¬ 0 ≤ er ∧ er ≠ 0 ∧ er = -1 - wr := by
  rcases h with ⟨p, h0, h1, h2, h3, h4, h5⟩ | ⟨p, w, h1, h2, h3, h4, h5⟩
  · exact absurd h4 hw
  · obtain ⟨n1, n2, n3, n4⟩ := q_neg1 h2
    rw [h5, h4]
    exact ⟨n3, n4, rfl⟩
theorem q_OB.up {n lo l1 : Nat} {pl wr at' er : Int32} (h : q_OB n lo pl wr at' er) (hw : wr ≠ -1) : q_OB n l1 pl wr at' er := by
  rcases h with ⟨p, h0, h1, h2, h3, h4, h5⟩ | h
  · exact absurd h4 hw
  · exact .inr h
theorem q_OB.refuse {n lo : Nat} {pl wr at' er x x' : Int32} (h80 : n ≤ 80) (h : q_OB n lo pl wr at' er) (hx : wr = -1 → ∃ w, w ≤ 640 ∧ x = Int32.ofNat w ∧ x' = Int32.ofNat w) :
    ∃ wr1 er1, M_Text_refuse wr x = some wr1 ∧ M_MO_wrong er x' = some er1 ∧ q_OB n lo pl wr1 at' er1 ∧ wr1 ≠ -1 ∧ er1 ≠ 0 := by
  rcases h with ⟨p, h0, h1, rfl, rfl, rfl, rfl⟩ | ⟨p, w, h1, h2, rfl, rfl, rfl⟩
  · obtain ⟨w, hw, rfl, rfl⟩ := hx rfl
    exact ⟨Int32.ofNat w, -1 - Int32.ofNat w, by rw [M_Text_refuse, if_pos rfl], by rw [M_MO_wrong, if_pos rfl], .inr ⟨p, w, h1, hw, rfl, rfl, rfl⟩, (q_neg1 hw).1, (q_neg1 hw).2.2.2⟩
  · obtain ⟨n1, n2, n3, n4⟩ := q_neg1 h2
    exact ⟨Int32.ofNat w, -1 - Int32.ofNat w, by rw [M_Text_refuse, if_neg n1], by rw [M_MO_wrong, if_neg n4], .inr ⟨p, w, h1, h2, rfl, rfl, rfl⟩, n1, n4⟩
theorem q_OB.latest {n lo : Nat} {pl wr at' er : Int32} (h80 : n ≤ 80) (h : q_OB n lo pl wr at' er) (h1 : 1 ≤ lo) :
    ∃ wr1 er1, M_Text_refuseLatest pl wr = some wr1 ∧ M_MO_wrong er (at' - 1) = some er1 ∧ q_OB n lo pl wr1 at' er1 ∧ wr1 ≠ -1 ∧ er1 ≠ 0 := by
  obtain ⟨wr1, er1, a1, a2, a3, a4, a5⟩ := h.refuse (x := pl - 1) (x' := at' - 1) h80 (fun hw => by
    obtain ⟨p, hl, hp, rfl, rfl, he⟩ := h.ok hw
    exact ⟨p - 1, by omega, b_sub (b := 1) (by omega) (by omega), b_sub (b := 1) (by omega) (by omega)⟩)
  exact ⟨wr1, er1, by rw [M_Text_refuseLatest, a1, k1], a2, a3, a4, a5⟩
theorem s_natEnd {n : Int32} {tx : Nat → Int32} {f : Nat} {at' er v3 v4 : Int32} {v1 : Int64} (h : v3 = 0 ∨ er ≠ 0) : M_MO_natural_7 n tx (f + 1) at' er v1 v3 v4 = some (v1.toInt32, at', er) := by
  rw [M_MO_natural_7]
  by_cases h3 : v3 = 0
  · rw [if_pos h3]
  · rw [if_neg h3, if_neg (h.resolve_left h3)]
theorem s_nat66 {n : Int32} {by' : Nat → Int32} {pl wr v3 : Int32} {v1 : Int64} (h : wr ≠ -1) : M_Text_takeNatural_66 n by' pl wr v1 v3 = some (0, pl, wr) := by
  rw [M_Text_takeNatural_66]
  by_cases h3 : v3 = 1
  · rw [if_pos h3, M_Text_refuse, if_neg h, k1, M_Text_takeNatural_79, if_neg h]
  · rw [if_neg h3, M_Text_takeNatural_79, if_neg h]
theorem s_natBad {n : Int32} {by' : Nat → Int32} {f : Nat} {pl wr v3 v4 : Int32} {v1 : Int64} (h : wr ≠ -1) : M_Text_takeNatural_7 n by' (f + 1) pl wr v1 v3 v4 = some (0, pl, wr) := by
  rw [M_Text_takeNatural_7]
  by_cases h5 : 5 ≤ v4
  · rw [if_pos h5, s_nat66 h]
  · rw [if_neg h5]
    by_cases h3 : v3 = 1
    · rw [if_pos h3, if_neg h, s_nat66 h]
    · rw [if_neg h3, s_nat66 h]
theorem q_natL {n : Nat} {by' tx : Nat → Int32} (h : q_X n by' tx) : ∀ (m f f1 j lo y : Nat) (pl wr at' er : Int32), m + 1 < f → m + 1 < f1 → j + m = 5 → y ≤ 2147483647 → q_OB n lo pl wr at' er → wr = -1 →
    ∃ v v' pl1 wr1 at1 er1, M_Text_takeNatural_7 (Int32.ofNat n) by' f pl wr (Int64.ofNat y) 1 (Int32.ofNat j) = some (v, pl1, wr1) ∧
      M_MO_natural_7 (Int32.ofNat n) tx f1 at' er (Int64.ofNat y) 1 (Int32.ofNat j) = some (v', at1, er1) ∧ q_OB n (lo + 1) pl1 wr1 at1 er1 ∧ (wr1 = -1 → v = v' ∧ 0 ≤ v) := by
  have h80 := h.1
  intro m
  induction m with
  | zero =>
    intro f f1 j lo y pl wr at' er hf hf1 hj hy hO hw
    obtain ⟨f, rfl⟩ : ∃ x, f = x + 1 := ⟨f - 1, by omega⟩
    obtain ⟨f1, rfl⟩ : ∃ x, f1 = x + 1 + 1 := ⟨f1 - 2, by omega⟩
    obtain ⟨p, hl, hp, rfl, rfl, rfl⟩ := hO.ok hw
    subst hw
    have : j = 5 := by omega
    subst this
    obtain ⟨n1, n2, n3, n4⟩ := q_neg1 (w := p) (by omega)
    refine ⟨0, (Int64.ofNat y).toInt32, Int32.ofNat p, Int32.ofNat p, (if p < 8 * n then Int32.ofNat (p + 1) else Int32.ofNat p), -1 - Int32.ofNat p, ?_, ?_, .inr ⟨p, p, hp, by omega, rfl, rfl, rfl⟩, fun z => absurd z n1⟩
    · rw [M_Text_takeNatural_7, if_pos (by decide), M_Text_takeNatural_66, if_pos rfl, M_Text_refuse, if_pos rfl, k1, M_Text_takeNatural_79, if_neg n1]
    · rw [M_MO_natural_7, if_neg (by decide), if_pos rfl]
      by_cases hp2 : p < 8 * n
      · obtain ⟨b, hb, b1, b2⟩ := q_bit h hp2
        rw [if_pos hp2, b2, k3, if_pos (by decide : Int32.ofNat 5 = 5), show Int32.ofNat (p + 1) - 1 = Int32.ofNat p from b_sub (b := 1) (by omega) (by omega), M_MO_wrong, if_pos rfl, k1, M_MO_natural_81]
        split
        · rw [s_natEnd (.inr n4)]
        · rw [s_natEnd (.inr n4)]
      · have hpe : p = 8 * n := by omega
        subst hpe
        have e8 : 8 * Int32.ofNat n = Int32.ofNat (8 * n) := by rw [show (8 : Int32) = Int32.ofNat 8 from rfl, b_mul]
        rw [if_neg hp2, M_MO_bit, if_pos (by decide), e8, if_neg (fun z => Int32.lt_irrefl z), M_MO_wrong, if_pos rfl, k1, k3, if_pos (by decide : Int32.ofNat 5 = 5), M_MO_wrong, if_neg n4, k1, M_MO_natural_81]
        split
        · rw [s_natEnd (.inr n4)]
        · rw [s_natEnd (.inr n4)]
  | succ m ih =>
    intro f f1 j lo y pl wr at' er hf hf1 hj hy hO hw
    obtain ⟨f, rfl⟩ : ∃ x, f = x + 1 + 1 := ⟨f - 2, by omega⟩
    obtain ⟨f1, rfl⟩ : ∃ x, f1 = x + 1 + 1 := ⟨f1 - 2, by omega⟩
    have hj5 : ¬ 5 ≤ Int32.ofNat j := by
      rw [show (5 : Int32) = Int32.ofNat 5 from rfl, b_le (by decide) (by omega)]; omega
    have hj5' : ¬ Int32.ofNat j = 5 := fun z => hj5 (by rw [z]; exact Int32.le_rfl)
    have ej : Int32.ofNat j + 1 = Int32.ofNat (j + 1) := by rw [show (1 : Int32) = Int32.ofNat 1 from rfl, b_add]
    have er0 : er = 0 := by obtain ⟨p, -, -, -, -, e⟩ := hO.ok hw; exact e
    obtain ⟨v, v', pl1, wr1, at1, er1, a1, a2, a3, a4, a5⟩ := q_take1 h hO
    obtain ⟨u, u', pl2, wr2, at2, er2, b1, b2, b3, b4, xx, xx', b5, b6, b7, b8, b9⟩ := q_take h 7 (by decide) a3
    have e7 : Int32.ofNat 7 = 7 := rfl
    rw [e7] at b1 b2
    obtain ⟨wr3, er3, c1, c2, c3, c4, c5⟩ := b3.latest h80 (by omega)
    have cls0 : M_Text_takeNatural_7 (Int32.ofNat n) by' (f + 1 + 1) pl wr (Int64.ofNat y) 1 (Int32.ofNat j) =
        (if (lg_cmp (Int64.ofNat y + (u.toInt64 <<< ((7 * Int32.ofNat j).toInt64 &&& 63))) 2147483647) ≤ 0 then
          M_Text_takeNatural_7 (Int32.ofNat n) by' (f + 1) pl2 wr2 (Int64.ofNat y + (u.toInt64 <<< ((7 * Int32.ofNat j).toInt64 &&& 63))) v (Int32.ofNat (j + 1))
        else
          M_Text_takeNatural_7 (Int32.ofNat n) by' (f + 1) pl2 wr3 (Int64.ofNat y + (u.toInt64 <<< ((7 * Int32.ofNat j).toInt64 &&& 63))) v (Int32.ofNat (j + 1))) := by
      rw [M_Text_takeNatural_7, if_neg hj5, if_pos rfl, if_pos hw, a1, k3, b1, k3, c1, k1, ej]
    have mo0 : M_MO_natural_7 (Int32.ofNat n) tx (f1 + 1 + 1) at' er (Int64.ofNat y) 1 (Int32.ofNat j) =
        (if (lg_cmp (Int64.ofNat y + (u'.toInt64 <<< ((7 * Int32.ofNat j).toInt64 &&& 63))) 2147483647) ≤ 0 then
          (if v' = 1 then M_MO_natural_7 (Int32.ofNat n) tx (f1 + 1) at2 er2 (Int64.ofNat y + (u'.toInt64 <<< ((7 * Int32.ofNat j).toInt64 &&& 63))) 1 (Int32.ofNat (j + 1)) else M_MO_natural_7 (Int32.ofNat n) tx (f1 + 1) at2 er2 (Int64.ofNat y + (u'.toInt64 <<< ((7 * Int32.ofNat j).toInt64 &&& 63))) 0 (Int32.ofNat (j + 1)))
        else
          (if v' = 1 then M_MO_natural_7 (Int32.ofNat n) tx (f1 + 1) at2 er3 (Int64.ofNat y + (u'.toInt64 <<< ((7 * Int32.ofNat j).toInt64 &&& 63))) 1 (Int32.ofNat (j + 1)) else M_MO_natural_7 (Int32.ofNat n) tx (f1 + 1) at2 er3 (Int64.ofNat y + (u'.toInt64 <<< ((7 * Int32.ofNat j).toInt64 &&& 63))) 0 (Int32.ofNat (j + 1)))) := by
      rw [M_MO_natural_7, if_neg (by decide), if_pos er0, a2, k3, if_neg hj5', b2, k3, c2, k1, M_MO_natural_81, M_MO_natural_81, ej]
    rw [cls0, mo0]
    by_cases h2 : wr2 = -1
    · have h21 := b4 h2
      obtain rfl := b9 h2
      obtain ⟨x, hx, rfl, rfl⟩ : ∃ x, x < 2 ^ 7 ∧ u = Int32.ofNat x ∧ u' = Int32.ofNat x := ⟨xx, b5, b7, b8⟩
      obtain ⟨h11, z, hz, rfl, rfl⟩ := a4 h21
      have ex : (Int32.ofNat x).toInt64 = Int64.ofNat x := by
        apply Int64.toInt_inj.mp
        rw [Int32.toInt_toInt64, b_toInt (by omega), Int64.toInt_ofNat_of_lt (by omega)]
      have es : ((7 * Int32.ofNat j).toInt64 &&& 63) = Int64.ofNat (7 * j) := by
        have : ∀ j, j < 5 → ((7 * Int32.ofNat j).toInt64 &&& 63) = Int64.ofNat (7 * j) := by decide
        exact this j (by omega)
      have ey : Int64.ofNat y + ((Int32.ofNat x).toInt64 <<< ((7 * Int32.ofNat j).toInt64 &&& 63)) = Int64.ofNat (y + x * 2 ^ (7 * j)) := by
        rw [ex, es, b_shl (by omega), ← Int64.ofNat_add]
      have hb2 : 2 ^ (7 * j) ≤ 2 ^ 28 := Nat.pow_le_pow_right (by decide) (by omega)
      have hm : x * 2 ^ (7 * j) ≤ 127 * 2 ^ 28 := Nat.mul_le_mul (by omega) hb2
      rw [ey]
      generalize hyy : y + x * 2 ^ (7 * j) = y2
      have hy2 : y2 < 2 ^ 40 := by rw [← hyy]; omega
      have hcmp : (lg_cmp (Int64.ofNat y2) 2147483647 ≤ 0) ↔ y2 ≤ 2147483647 := by
        rw [l_le, Int64.le_iff_toInt_le, Int64.toInt_ofNat_of_lt (by omega), show (2147483647 : Int64).toInt = 2147483647 from rfl]; omega
      by_cases hc : y2 ≤ 2147483647
      · rw [if_pos (hcmp.mpr hc), if_pos (hcmp.mpr hc)]
        by_cases hz1 : z = 1
        · subst hz1
          rw [if_pos (by decide : Int32.ofNat 1 = 1)]
          obtain ⟨w, w', pl4, wr4, at4, er4, d1, d2, d3, d4⟩ := ih (f + 1) (f1 + 1) (j + 1) (lo + 1 + 7) y2 pl2 wr2 at2 er2 (by omega) (by omega) (by omega) hc b3 h2
          exact ⟨w, w', pl4, wr4, at4, er4, d1, d2, d3.mono (by omega), d4⟩
        · have hz0 : z = 0 := by omega
          subst hz0
          rw [if_neg (by decide)]
          refine ⟨(Int64.ofNat y2).toInt32, (Int64.ofNat y2).toInt32, pl2, wr2, at2, er2, ?_, s_natEnd (.inl rfl), b3.mono (by omega), fun _ => ⟨rfl, ?_⟩⟩
          · rw [M_Text_takeNatural_7, show Int32.ofNat 0 = 0 from rfl]
            by_cases h5 : 5 ≤ Int32.ofNat (j + 1)
            · rw [if_pos h5, M_Text_takeNatural_66, if_neg (by decide), M_Text_takeNatural_79, if_pos h2]
            · rw [if_neg h5, if_neg (by decide), M_Text_takeNatural_66, if_neg (by decide), M_Text_takeNatural_79, if_pos h2]
          · rw [Int64.toInt32_ofNat']
            exact (b_le (a := 0) (by decide) (by omega)).mpr (by omega)
      · rw [if_neg (fun t => hc (hcmp.mp t)), if_neg (fun t => hc (hcmp.mp t))]
        refine ⟨0, (Int64.ofNat y2).toInt32, pl2, wr3, at2, er3, s_natBad c4, ?_, c3.mono (by omega), fun t => absurd t c4⟩
        split
        · exact s_natEnd (.inr c5)
        · exact s_natEnd (.inr c5)
    · have er2n := (b3.bad h2).2.1
      have hw3 : wr3 = wr2 := by
        rw [M_Text_refuseLatest, M_Text_refuse, if_neg h2, k1] at c1; exact (Option.some.inj c1).symm
      have he3 : er3 = er2 := by
        rw [M_MO_wrong, if_neg er2n] at c2; exact (Option.some.inj c2).symm
      subst hw3 he3
      refine ⟨0, (Int64.ofNat y + (u'.toInt64 <<< ((7 * Int32.ofNat j).toInt64 &&& 63))).toInt32, pl2, wr3, at2, er3, ?_, ?_, b3.mono (by omega), fun t => absurd t h2⟩
      · split
        · exact s_natBad h2
        · exact s_natBad h2
      · split
        · split
          · exact s_natEnd (.inr er2n)
          · exact s_natEnd (.inr er2n)
        · split
          · exact s_natEnd (.inr er2n)
          · exact s_natEnd (.inr er2n)
theorem q_nat {n lo : Nat} {by' tx : Nat → Int32} {pl wr at' er : Int32} (h : q_X n by' tx) (hO : q_OB n lo pl wr at' er) :
    ∃ v v' pl1 wr1 at1 er1, M_Text_takeNatural (Int32.ofNat n) pl wr by' = some (v, pl1, wr1) ∧ M_MO_natural (Int32.ofNat n) at' er tx = some (v', at1, er1) ∧ q_OB n (lo + 1) pl1 wr1 at1 er1 ∧
      (wr1 = -1 → wr = -1 ∧ v = v' ∧ 0 ≤ v) := by
  by_cases hw : wr = -1
  · obtain ⟨v, v', pl1, wr1, at1, er1, a1, a2, a3, a4⟩ := q_natL h 5 1000 1000 0 lo 0 pl wr at' er (by decide) (by decide) (by decide) (by decide) hO hw
    exact ⟨v, v', pl1, wr1, at1, er1, a1, a2, a3, fun z => ⟨hw, a4 z⟩⟩
  · have hb := hO.bad hw
    exact ⟨0, (0 : Int64).toInt32, pl, wr, at', er, s_natBad hw, s_natEnd (.inr hb.2.1), hO.up hw, fun z => absurd z hw⟩
