theorem b_ushr {a s : Nat} (ha : a < 2 ^ 64) (hs : s < 64) : UInt64.ofNat a >>> UInt64.ofNat s = UInt64.ofNat (a / 2 ^ s) := by
  apply UInt64.toNat_inj.mp
  have : a / 2 ^ s ≤ a := Nat.div_le_self _ _
  simp [Nat.shiftRight_eq_div_pow]
  rw [Nat.mod_eq_of_lt (by omega : a < 18446744073709551616), Nat.mod_eq_of_lt hs, Nat.mod_eq_of_lt (by omega : a / 2 ^ s < 18446744073709551616)]
theorem b_and {a b : Nat} : Int64.ofNat a &&& Int64.ofNat b = Int64.ofNat (a &&& b) := by
  apply Int64.toBitVec_inj.mp
  simp [Int64.toBitVec_ofNat']
theorem b_or {a b : Nat} : Int64.ofNat a ||| Int64.ofNat b = Int64.ofNat (a ||| b) := by
  apply Int64.toBitVec_inj.mp
  simp [Int64.toBitVec_ofNat']
theorem b_and32 {a b : Nat} : Int32.ofNat a &&& Int32.ofNat b = Int32.ofNat (a &&& b) := by
  apply Int32.toBitVec_inj.mp
  simp [Int32.toBitVec_ofNat']
theorem b_shl {a s : Nat} (hs : s < 64) : Int64.ofNat a <<< Int64.ofNat s = Int64.ofNat (a * 2 ^ s) := by
  apply Int64.toBitVec_inj.mp
  have e : (BitVec.ofNat 64 s).smod 64 = BitVec.ofNat 64 s := by
    have : ∀ s, s < 64 → (BitVec.ofNat 64 s).smod 64 = BitVec.ofNat 64 s := by decide
    exact this s hs
  simp only [Int64.toBitVec_shiftLeft, Int64.toBitVec_ofNat', e]
  apply BitVec.eq_of_toNat_eq
  simp [Nat.shiftLeft_eq]
  rw [Nat.mod_eq_of_lt (by omega : s < 18446744073709551616)]
theorem b_shr {a s : Nat} (ha : a < 2 ^ 63) (hs : s < 64) : Int64.ofNat a >>> Int64.ofNat s = Int64.ofNat (a / 2 ^ s) := by
  apply Int64.toBitVec_inj.mp
  have e : (BitVec.ofNat 64 s).smod 64 = BitVec.ofNat 64 s := by
    have : ∀ s, s < 64 → (BitVec.ofNat 64 s).smod 64 = BitVec.ofNat 64 s := by decide
    exact this s hs
  have : a / 2 ^ s ≤ a := Nat.div_le_self _ _
  simp only [Int64.toBitVec_shiftRight, Int64.toBitVec_ofNat', e]
  rw [BitVec.sshiftRight', BitVec.sshiftRight_eq_of_msb_false]
  · apply BitVec.eq_of_toNat_eq
    simp [Nat.shiftRight_eq_div_pow]
    rw [Nat.mod_eq_of_lt (by omega : a < 18446744073709551616), Nat.mod_eq_of_lt (by omega : s < 18446744073709551616), Nat.mod_eq_of_lt (by omega : a / 2 ^ s < 18446744073709551616)]
  · rw [BitVec.msb_eq_false_iff_two_mul_lt]
    simp
    omega
theorem b_inj {a b : Nat} (ha : a < 2 ^ 64) (hb : b < 2 ^ 64) (h : Int64.ofNat a = Int64.ofNat b) : a = b := by
  have := congrArg (fun x => x.toBitVec.toNat) h
  simp [Int64.toBitVec_ofNat'] at this
  omega
theorem b_inj32 {a b : Nat} (ha : a < 2 ^ 32) (hb : b < 2 ^ 32) (h : Int32.ofNat a = Int32.ofNat b) : a = b := by
  have := congrArg (fun x => x.toBitVec.toNat) h
  simp [Int32.toBitVec_ofNat'] at this
  omega
theorem q_beF (l : List Nat) (a : Nat) : l.foldl (fun a x => a * 256 + x) a = a * 256 ^ l.length + q_be l := by
  induction l generalizing a with
  | nil => simp [q_be]
  | cons x t ih =>
    have e := ih (a * 256 + x)
    have e0 := ih (0 * 256 + x)
    simp only [q_be, List.foldl_cons, List.length_cons] at *
    rw [e, e0, Nat.pow_succ]
    grind
theorem q_beC (x : Nat) (t : List Nat) : q_be (x :: t) = x * 256 ^ t.length + q_be t := by
  have := q_beF t (0 * 256 + x)
  simp only [q_be, List.foldl_cons] at *
  rw [this]; simp
theorem q_beA (l t : List Nat) : q_be (l ++ t) = q_be l * 256 ^ t.length + q_be t := by
  induction l with
  | nil => simp [q_be]
  | cons x l ih => simp only [List.cons_append, q_beC, ih, List.length_append, Nat.pow_add]; grind
theorem q_leA (l t : List Nat) : q_le (l ++ t) = q_le l + 256 ^ l.length * q_le t := by
  induction l with
  | nil => simp [q_le]
  | cons x l ih => simp only [List.cons_append, q_le, ih, List.length_cons, Nat.pow_succ]; grind
theorem q_beB (l : List Nat) (h : ∀ x ∈ l, x < 256) : q_be l < 256 ^ l.length := by
  induction l with
  | nil => simp [q_be]
  | cons x t ih =>
    have h1 := ih (fun y hy => h y (List.mem_cons_of_mem _ hy))
    have h2 := h x List.mem_cons_self
    rw [q_beC, List.length_cons, Nat.pow_succ]
    have : x * 256 ^ t.length ≤ 255 * 256 ^ t.length := Nat.mul_le_mul_right _ (by omega)
    omega
theorem q_leB (l : List Nat) (h : ∀ x ∈ l, x < 256) : q_le l < 256 ^ l.length := by
  induction l with
  | nil => simp [q_le]
  | cons x t ih =>
    have h1 := ih (fun y hy => h y (List.mem_cons_of_mem _ hy))
    have h2 := h x List.mem_cons_self
    rw [q_le, List.length_cons, Nat.pow_succ]
    omega
theorem q_leI (l : List Nat) (h : ∀ x ∈ l, x < 256) (i : Nat) (hi : i < l.length) : q_le l / 256 ^ i % 256 = l[i] := by
  induction l generalizing i with
  | nil => simp at hi
  | cons x t ih =>
    have h2 := h x List.mem_cons_self
    cases i with
    | zero => simp only [q_le, Nat.pow_zero, Nat.div_one, List.getElem_cons_zero]; omega
    | succ i =>
      have h1 := ih (fun y hy => h y (List.mem_cons_of_mem _ hy)) i (by simpa using hi)
      rw [q_le, Nat.pow_succ, Nat.mul_comm (256 ^ i), ← Nat.div_div_eq_div_mul, show (x + 256 * q_le t) / 256 = q_le t by omega]
      simpa using h1
theorem q_beI (l : List Nat) (h : ∀ x ∈ l, x < 256) (i : Nat) (hi : i < l.length) : q_be l / 256 ^ (l.length - 1 - i) % 256 = l[i] := by
  induction l generalizing i with
  | nil => simp at hi
  | cons x t ih =>
    have h2 := h x List.mem_cons_self
    have hb := q_beB t (fun y hy => h y (List.mem_cons_of_mem _ hy))
    cases i with
    | zero =>
      simp only [List.length_cons, Nat.add_sub_cancel, Nat.sub_zero, List.getElem_cons_zero]
      rw [q_beC, Nat.add_comm, Nat.add_mul_div_right _ _ (Nat.pow_pos (by decide)), Nat.div_eq_of_lt hb]
      omega
    | succ i =>
      have hi' : i < t.length := by simpa using hi
      have h1 := ih (fun y hy => h y (List.mem_cons_of_mem _ hy)) i hi'
      have e : (x :: t).length - 1 - (i + 1) = t.length - 1 - i := by simp only [List.length_cons]; omega
      have e2 : 256 ^ t.length = 256 ^ (t.length - 1 - i) * (256 * 256 ^ i) := by
        rw [← Nat.pow_succ', ← Nat.pow_add]; congr 1; omega
      rw [e, q_beC, e2, show x * (256 ^ (t.length - 1 - i) * (256 * 256 ^ i)) = 256 ^ (t.length - 1 - i) * (256 * (x * 256 ^ i)) by grind, Nat.add_comm, Nat.add_mul_div_left _ _ (Nat.pow_pos (by decide)), Nat.add_mul_mod_self_left]
      simpa using h1
theorem q_beE (l t : List Nat) (hl : ∀ x ∈ l, x < 256) (ht : ∀ x ∈ t, x < 256) (e : l.length = t.length) (h : q_be l = q_be t) : l = t := by
  apply List.ext_getElem e
  intro i h1 h2
  rw [← q_beI l hl i h1, ← q_beI t ht i h2, h, e]
theorem q_leE (l t : List Nat) (hl : ∀ x ∈ l, x < 256) (ht : ∀ x ∈ t, x < 256) (e : l.length = t.length) (h : q_le l = q_le t) : l = t := by
  apply List.ext_getElem e
  intro i h1 h2
  rw [← q_leI l hl i h1, ← q_leI t ht i h2, h]
theorem b_pow {n : Nat} (h : n ≤ 7) : 256 ^ n ≤ 2 ^ 56 := by
  have : ∀ n, n ≤ 7 → 256 ^ n ≤ 2 ^ 56 := by decide
  exact this n h
theorem q_by.bound {l : List Nat} {n : Int32} {c b : Int64} (h : q_by l n c b) : q_be l < 2 ^ 56 ∧ q_le l < 2 ^ 56 := by
  have h1 := q_beB l h.2.1
  have h2 := q_leB l h.2.1
  have h3 := b_pow h.1
  omega
theorem q_by.len {l : List Nat} {n : Int32} {c b : Int64} (h : q_by l n c b) : M_Packed_length c = some n ∧ 0 ≤ n ∧ n ≤ 7 := by
  obtain ⟨h1, h2, rfl, rfl, rfl⟩ := id h
  have hb := h.bound
  refine ⟨?_, ?_, ?_⟩
  · rw [M_Packed_length, Int64.toUInt64_ofNat', show (56 : Int32).toInt64.toUInt64 &&& Int64.toUInt64 63 = UInt64.ofNat 56 by decide, b_ushr (by omega) (by decide), UInt64.toInt64_ofNat', Int64.toInt32_ofNat']
    congr 2
    omega
  · have : ∀ n, n ≤ 7 → (0 : Int32) ≤ Int32.ofNat n := by decide
    exact this _ h1
  · have : ∀ n, n ≤ 7 → Int32.ofNat n ≤ (7 : Int32) := by decide
    exact this _ h1
theorem q_by.at {l : List Nat} {n : Int32} {c b : Int64} (h : q_by l n c b) {i : Nat} (hi : i < l.length) :
    M_Packed_byteAt c n (Int32.ofNat i) = some (Int32.ofNat l[i]) ∧ ((b >>> ((8 * Int32.ofNat i).toInt64 &&& 63)) &&& 255).toInt32 = Int32.ofNat l[i] := by
  obtain ⟨h1, h2, rfl, rfl, rfl⟩ := id h
  have hb := h.bound
  constructor
  · have e : ∀ n, n ≤ 7 → ∀ i, i < n → ((8 * ((Int32.ofNat n - 1) - Int32.ofNat i)).toInt64.toUInt64 &&& Int64.toUInt64 63) = UInt64.ofNat (8 * (n - 1 - i)) := by decide
    have e2 : (256 : Int32) = Int32.ofNat 256 := rfl
    rw [M_Packed_byteAt, Int64.toUInt64_ofNat', e _ h1 i hi, b_ushr (by omega) (by omega), UInt64.toInt64_ofNat', Int64.toInt32_ofNat', show (255 : Int32) = Int32.ofNat (2 ^ 8 - 1) from rfl, b_and32, Nat.and_two_pow_sub_one_eq_mod]
    congr 2
    rw [← q_beI l h2 i hi, show (256 : Nat) = 2 ^ 8 from rfl, ← Nat.pow_mul]
    have e3 : l.length * 72057594037927936 = 2 ^ (8 * (l.length - 1 - i)) * (2 ^ 8 * (l.length * 2 ^ (8 * i + 48 - 8 * (l.length - 1)))) := by
      rw [show (72057594037927936 : Nat) = 2 ^ (8 * (l.length - 1 - i)) * (2 ^ 8 * 2 ^ (8 * i + 48 - 8 * (l.length - 1))) by
        rw [← Nat.pow_add, ← Nat.pow_add, show 8 * (l.length - 1 - i) + (8 + (8 * i + 48 - 8 * (l.length - 1))) = 56 by omega]]
      grind
    rw [e3, Nat.add_comm, Nat.add_mul_div_left _ _ (Nat.pow_pos (by decide)), Nat.add_mul_mod_self_left]
  · have e : ∀ i, i < 7 → ((8 * Int32.ofNat i).toInt64 &&& 63) = Int64.ofNat (8 * i) := by decide
    rw [e i (by omega), b_shr (by omega) (by omega), show (255 : Int64) = Int64.ofNat (2 ^ 8 - 1) from rfl, b_and, Nat.and_two_pow_sub_one_eq_mod, Int64.toInt32_ofNat']
    congr 1
    rw [← q_leI l h2 i hi, show (256 : Nat) = 2 ^ 8 from rfl, ← Nat.pow_mul]
theorem q_by.inj {l t : List Nat} {n n' : Int32} {c b c' b' : Int64} (h : q_by l n c b) (h' : q_by t n' c' b') : (c = c' ↔ n = n' ∧ b = b') := by
  have hb := h.bound
  have hb' := h'.bound
  obtain ⟨h1, h2, rfl, rfl, rfl⟩ := id h
  obtain ⟨g1, g2, rfl, rfl, rfl⟩ := id h'
  constructor
  · intro e
    have e1 := b_inj (by omega) (by omega) e
    have : l = t := q_beE l t h2 g2 (by omega) (by omega)
    subst this
    exact ⟨rfl, rfl⟩
  · rintro ⟨e1, e2⟩
    have e3 := b_inj32 (by omega) (by omega) e1
    have e4 := b_inj (by omega) (by omega) e2
    have : l = t := q_leE l t h2 g2 e3 e4
    subst this
    rfl
theorem b_ext : ∀ n, n ≤ 14 → (Int32.ofNat n).toInt64 = Int64.ofNat n := by decide
theorem b_orA {a b i : Nat} (h : b < 2 ^ i) : (a * 2 ^ i) ||| b = a * 2 ^ i + b := by
  rw [← Nat.shiftLeft_eq, Nat.shiftLeft_add_eq_or_of_lt h]
theorem q_by.joined {l t : List Nat} {n n' : Int32} {c b c' b' : Int64} (h : q_by l n c b) (h' : q_by t n' c' b') (hs : l.length + t.length ≤ 7) :
    ∃ d, M_Packed_joined c c' = some d ∧ q_by (l ++ t) (n.toInt64 + n'.toInt64).toInt32 d (b ||| (if n.toInt64 < 7 then b' <<< ((8 * n).toInt64 &&& 63) else 0)) := by
  have hb := h.bound
  have hb' := h'.bound
  have hj : M_Packed_joined c c' = some (((n + n').toInt64 <<< ((56 : Int32).toInt64 &&& 63)) ||| (((c &&& 72057594037927935) <<< ((8 * n').toInt64 &&& 63)) ||| (c' &&& 72057594037927935))) := by
    simp only [M_Packed_joined, h.len.1, h'.len.1, k1, M_Packed_of]
  obtain ⟨h1, h2, rfl, rfl, rfl⟩ := id h
  obtain ⟨g1, g2, rfl, rfl, rfl⟩ := id h'
  clear h h'
  have p := q_beB l h2
  have p' := q_beB t g2
  have r := q_leB l h2
  have r' := q_leB t g2
  refine ⟨Int64.ofNat ((l ++ t).length * 72057594037927936 + q_be (l ++ t)), ?_, by rw [List.length_append]; exact hs, ?_, ?_, rfl, ?_⟩
  · have e1 : ∀ n, n ≤ 7 → ((8 * Int32.ofNat n).toInt64 &&& 63) = Int64.ofNat (8 * n) := by decide
    have e2 : ((56 : Int32).toInt64 &&& 63) = Int64.ofNat 56 := by decide
    have e3 : ∀ n, n ≤ 7 → ∀ m, m ≤ 7 → (Int32.ofNat n + Int32.ofNat m).toInt64 = Int64.ofNat (n + m) := fun n hn m hm => by
      rw [← Int32.ofNat_add]; exact b_ext _ (by omega)
    rw [hj, e3 _ h1 _ g1, e1 _ g1, e2, show (72057594037927935 : Int64) = Int64.ofNat (2 ^ 56 - 1) from rfl, b_and, b_and, Nat.and_two_pow_sub_one_eq_mod, Nat.and_two_pow_sub_one_eq_mod, show (l.length * 72057594037927936 + q_be l) % 2 ^ 56 = q_be l by omega, show (t.length * 72057594037927936 + q_be t) % 2 ^ 56 = q_be t by omega, b_shl (a := q_be l) (s := 8 * t.length) (by omega), b_or, b_shl (s := 56) (by decide), b_or]
    have p2 : q_be t < 2 ^ (8 * t.length) := by rw [Nat.pow_mul]; exact p'
    have p3 : q_be l * 2 ^ (8 * t.length) + q_be t < 2 ^ 56 := by
      have := q_beB (l ++ t) (by intro x hx; rcases List.mem_append.mp hx with a | a; exact h2 x a; exact g2 x a)
      have q := b_pow (n := (l ++ t).length) (by rw [List.length_append]; exact hs)
      rw [q_beA] at this
      rw [Nat.pow_mul, show (2 : Nat) ^ 8 = 256 from rfl]
      omega
    rw [b_orA p2, b_orA p3]
    have e5 : (l.length + t.length) * 2 ^ 56 + (q_be l * 2 ^ (8 * t.length) + q_be t) = (l ++ t).length * 72057594037927936 + q_be (l ++ t) := by
      have h56 : (2 : Nat) ^ 56 = 72057594037927936 := by decide
      have h8 : (2 : Nat) ^ 8 = 256 := by decide
      rw [h56, q_beA, List.length_append, Nat.pow_mul, h8]
    rw [e5]
  · intro x hx
    rcases List.mem_append.mp hx with a | a
    · exact h2 x a
    · exact g2 x a
  · have e3 : ∀ n, n ≤ 7 → ∀ m, m ≤ 7 → ((Int32.ofNat n).toInt64 + (Int32.ofNat m).toInt64).toInt32 = Int32.ofNat (n + m) := fun n hn m hm => by
      rw [b_ext _ (by omega), b_ext _ (by omega), ← Int64.ofNat_add, Int64.toInt32_ofNat']
    rw [e3 _ h1 _ g1, List.length_append]
  · have e4 : ∀ n, n < 7 → (Int32.ofNat n).toInt64 < 7 ∧ ((8 * Int32.ofNat n).toInt64 &&& 63) = Int64.ofNat (8 * n) := by decide
    by_cases h7 : l.length < 7
    · rw [if_pos (e4 _ h7).1, (e4 _ h7).2, b_shl (by omega), b_or, q_leA, Nat.pow_mul, Nat.or_comm]
      congr 1
      rw [show (2 : Nat) ^ 8 = 256 from rfl]
      have := b_orA (a := q_le t) (b := q_le l) (i := 8 * l.length) (by rw [Nat.pow_mul]; exact r)
      rw [Nat.pow_mul, show (2 : Nat) ^ 8 = 256 from rfl] at this
      rw [this]; grind
    · have : l.length = 7 := by omega
      have : t = [] := List.length_eq_zero_iff.mp (by omega)
      subst this
      rw [show l.length = 7 by assumption, if_neg (by decide), show (0 : Int64) = Int64.ofNat 0 from rfl, b_or]
      simp
