def q_Sh (f : Nat → Int32) : Nat → Int32 := fun j => f (60 + j)
def q_Sm (f : Nat → Int32) : Nat → Int32 := fun j => f (60 + j) - 60
def q_SL (f : Nat → Int64) : Nat → Int64 := fun j => f (60 + j)
def q_of (ow fo : Int32) (fi : Nat → Int32) : Nat → Int32 := if ow = -1 then fi else if ow - ow / 2 * 2 = 0 then upd fi (ow / 2).toNatClampNeg fo else fi
def q_os (ow fo : Int32) (se : Nat → Int32) : Nat → Int32 := if ow = -1 then se else if ow - ow / 2 * 2 = 0 then se else upd se (ow / 2).toNatClampNeg fo
theorem q_updS {f : Nat → Int32} {i : Nat} : upd f i (f i) = f := by
  funext j; simp only [upd]; split
  · rename_i h; rw [h]
  · rfl
theorem q_own {q b : Nat} (hq : q < 60) (hb : b < 2) : Int32.ofNat (2 * (60 + q) + b) / 2 = Int32.ofNat (60 + q) ∧ Int32.ofNat (2 * (60 + q) + b) - Int32.ofNat (2 * (60 + q) + b) / 2 * 2 = Int32.ofNat b ∧ Int32.ofNat (2 * (60 + q) + b) ≠ -1 := by
  have d : Int32.ofNat (2 * (60 + q) + b) / 2 = Int32.ofNat (60 + q) := by
    rw [show (2 : Int32) = Int32.ofNat 2 from rfl, b_div (by omega) (by decide)]; congr 1; omega
  refine ⟨d, ?_, ?_⟩
  · rw [d, show (2 : Int32) = Int32.ofNat 2 from rfl, b_mul, b_sub (by omega) (by omega)]; congr 1; omega
  · intro z
    have h0 : (0 : Int32) ≤ Int32.ofNat (2 * (60 + q) + b) := (b_le (a := 0) (by decide) (by omega)).mpr (by omega)
    rw [z] at h0
    exact absurd h0 (by decide)
def q_Ow (o : Int32) (c0 : Nat) : Prop := o = -1 ∨ ∃ q b, q < c0 ∧ b < 2 ∧ o = Int32.ofNat (2 * (60 + q) + b)
theorem s_61 {n at' fo ve : Int32} {tx : Nat → Int32} {tg sb nu : Nat → Int32} {ch : Nat → Int64} {fi se de la ow : Nat → Int32} {g w c0 : Nat} (hw : w < 63) (hc : c0 ≤ 60) (ho : q_Ow (ow w) c0) {a1 e1 w1 : Int32} {tg1 sb1 nu1 : Nat → Int32} {ch1 : Nat → Int64} {de1 la1 ow1 : Nat → Int32}
    (hr : M_MO_readTerm n at' 0 (Int32.ofNat w) tx tg sb nu ch de la ow fo (de w) (la w) = some (a1, e1, w1, tg1, sb1, nu1, ch1, de1, la1, ow1)) :
    M_MO_readText_61 n tx (g + 1) at' 0 fo ve (Int32.ofNat (w + 1)) tg sb nu ch fi se de la ow = (if e1 = 0 then M_MO_readText_61 n tx g a1 e1 (fo + 1) ve w1 tg1 sb1 nu1 ch1 (q_of (ow w) fo fi) (q_os (ow w) fo se) de1 la1 ow1 else M_MO_readText_61 n tx g a1 e1 (fo + 1) ve w1 tg1 sb1 nu1 ch1 fi se de1 la1 ow1) := by
  have e1' : Int32.ofNat (w + 1) - 1 = Int32.ofNat w := b_sub (b := 1) (by omega) (by omega)
  have i0 : (0 : Int32) ≤ Int32.ofNat w := (b_le (a := 0) (by decide) (by omega)).mpr (by omega)
  have i1 : Int32.ofNat w < 64 := (b_lt (b := 64) (by omega) (by decide)).mpr (by omega)
  have i2 : ¬ Int32.ofNat (w + 1) ≤ 0 := by
    rw [show (0 : Int32) = Int32.ofNat 0 from rfl, b_le (by omega) (by decide)]; omega
  rw [M_MO_readText_61, if_neg i2, if_pos rfl, e1', b_clamp (by omega), hr]
  simp only [chk, i0, i1, and_self, if_true, k10]
  rcases ho with ho | ⟨q, b, hq, hb, ho⟩
  · rw [ho, if_pos rfl, M_MO_readText_196]
    simp only [q_of, q_os, if_true]
    split <;> rfl
  · obtain ⟨o1, o2, o3⟩ := q_own (q := q) (b := b) (by omega) hb
    have j0 : (0 : Int32) ≤ Int32.ofNat (60 + q) := (b_le (a := 0) (by decide) (by omega)).mpr (by omega)
    have j1 : Int32.ofNat (60 + q) < 120 := (b_lt (b := 120) (by omega) (by decide)).mpr (by omega)
    rw [ho, if_neg o3]
    by_cases he : e1 = 0
    · rw [if_pos he, if_pos he]
      rcases (show b = 0 ∨ b = 1 by omega) with rfl | rfl
      · have z : Int32.ofNat 0 = 0 := rfl
        rw [z] at o2
        rw [if_pos o2]
        simp only [M_MO_readText_165, M_MO_readText_195, M_MO_readText_196, o1, chk, j0, j1, and_self, if_true, q_of, q_os, if_neg o3]
        rw [o1] at o2
        rw [o2]
        simp only [if_true, q_updS]
        rw [if_neg (by decide)]
      · have z : Int32.ofNat 1 = 1 := rfl
        rw [z] at o2
        rw [if_neg (by rw [o2]; decide)]
        simp only [M_MO_readText_165, M_MO_readText_195, M_MO_readText_196, o1, chk, j0, j1, and_self, if_true, q_of, q_os, if_neg o3]
        rw [o1] at o2
        rw [o2]
        simp only [if_true, q_updS]
        rw [if_neg (by decide)]
        simp [q_updS]
    · rw [if_neg he, if_neg he, M_MO_readText_196]
theorem s_61e {n at' er fo ve wa : Int32} {tx : Nat → Int32} {tg sb nu : Nat → Int32} {ch : Nat → Int64} {fi se de la ow : Nat → Int32} {g : Nat} (h : er ≠ 0) : M_MO_readText_61 n tx (g + 1) at' er fo ve wa tg sb nu ch fi se de la ow = some (at', er, fo, ve, wa, tg, sb, nu, ch, fi, se, de, la, ow) := by
  have : M_MO_readText_209 n tx at' er fo ve wa tg sb nu ch fi se de la ow = some (at', er, fo, ve, wa, tg, sb, nu, ch, fi, se, de, la, ow) := by
    rw [M_MO_readText_209, if_neg h]; exact s_222 (f := 999) h
  rw [M_MO_readText_61, this, if_neg h]
  split <;> rfl
theorem s_170 {n at' er : Int32} {tx : Nat → Int32} {tg sb nu : Nat → Int32} {ch : Nat → Int64} {fi se de la ow : Nat → Int32} {w i d lm x : Nat} (hw : w < 62) (hi : i < 120) (hd : d < 100) (hl : lm < 100) (hx : x < 8) :
    M_MO_readTerm_170 n tx at' er (Int32.ofNat w) tg sb nu ch de la ow (Int32.ofNat i) (Int32.ofNat d) (Int32.ofNat lm) (Int32.ofNat x) =
      (if x = 3 then some (at', er, Int32.ofNat (w + 2), tg, sb, nu, ch, upd (upd de w (Int32.ofNat (d + 1))) (w + 1) (Int32.ofNat (d + 1)), upd (upd la w (Int32.ofNat lm)) (w + 1) (Int32.ofNat lm), upd (upd ow w (Int32.ofNat (2 * i + 1))) (w + 1) (Int32.ofNat (2 * i)))
      else if x = 1 ∨ x = 5 then some (at', er, Int32.ofNat (w + 1), tg, sb, nu, ch, upd de w (Int32.ofNat (d + 1)), upd la w (Int32.ofNat lm), upd ow w (Int32.ofNat (2 * i)))
      else if x = 2 then some (at', er, Int32.ofNat (w + 1), tg, sb, nu, ch, upd de w (Int32.ofNat (d + 1)), upd la w (Int32.ofNat (lm + 1)), upd ow w (Int32.ofNat (2 * i)))
      else some (at', er, Int32.ofNat w, tg, sb, nu, ch, de, la, ow)) := by
  have i0 : (0 : Int32) ≤ Int32.ofNat w := (b_le (a := 0) (by decide) (by omega)).mpr (by omega)
  have i1 : Int32.ofNat w < 64 := (b_lt (b := 64) (by omega) (by decide)).mpr (by omega)
  have i2 : (0 : Int32) ≤ Int32.ofNat (w + 1) := (b_le (a := 0) (by decide) (by omega)).mpr (by omega)
  have i3 : Int32.ofNat (w + 1) < 64 := (b_lt (b := 64) (by omega) (by decide)).mpr (by omega)
  have w1 : Int32.ofNat w + 1 = Int32.ofNat (w + 1) := by rw [show (1 : Int32) = Int32.ofNat 1 from rfl, b_add]
  have w2 : Int32.ofNat (w + 1) + 1 = Int32.ofNat (w + 2) := by rw [show (1 : Int32) = Int32.ofNat 1 from rfl, b_add]
  have d1 : Int32.ofNat d + 1 = Int32.ofNat (d + 1) := by rw [show (1 : Int32) = Int32.ofNat 1 from rfl, b_add]
  have l1 : Int32.ofNat lm + 1 = Int32.ofNat (lm + 1) := by rw [show (1 : Int32) = Int32.ofNat 1 from rfl, b_add]
  have l0 : Int32.ofNat lm + 0 = Int32.ofNat lm := by grind
  have o2 : 2 * Int32.ofNat i + 2 - 1 = Int32.ofNat (2 * i + 1) := by
    rw [show (2 : Int32) = Int32.ofNat 2 from rfl, b_mul, b_add, show (1 : Int32) = Int32.ofNat 1 from rfl, b_sub (by omega) (by omega)]; rfl
  have o1 : 2 * Int32.ofNat i + 1 - 1 = Int32.ofNat (2 * i) := by
    rw [show (2 : Int32) = Int32.ofNat 2 from rfl, b_mul, show (1 : Int32) = Int32.ofNat 1 from rfl, b_add, b_sub (by omega) (by omega)]; rfl
  have c0 := b_clamp (a := w) (by omega)
  have c1 := b_clamp (a := w + 1) (by omega)
  have m1 : (2 : Int32) + -1 = 1 := by decide
  have m2 : (1 : Int32) + -1 = 0 := by decide
  have p2 : ¬ (2 : Int32) ≤ 0 := by decide
  have p1 : ¬ (1 : Int32) ≤ 0 := by decide
  have one : ∀ (v z : Int32), (v = 2 → z = 1) → (v ≠ 2 → z = 0) → M_MO_readTerm_209 n tx 1000 at' er (Int32.ofNat w) tg sb nu ch de la ow (Int32.ofNat i) (Int32.ofNat d) (Int32.ofNat lm) v 1 = some (at', er, Int32.ofNat (w + 1), tg, sb, nu, ch, upd de w (Int32.ofNat (d + 1)), upd la w (Int32.ofNat lm + z), upd ow w (Int32.ofNat (2 * i))) := fun v z h1 h2 => by
    rw [M_MO_readTerm_209, if_neg p1]
    by_cases hv : v = 2
    · simp only [chk, i0, i1, and_self, if_true, hv, M_MO_readTerm_246, w1, d1, o1, m2, c0]
      rw [M_MO_readTerm_209, if_pos (by decide), h1 hv]
    · simp only [chk, i0, i1, and_self, if_true, hv, if_false, M_MO_readTerm_246, w1, d1, o1, m2, c0]
      rw [M_MO_readTerm_209, if_pos (by decide), h2 hv]
  rcases (show x = 0 ∨ x = 1 ∨ x = 2 ∨ x = 3 ∨ x = 4 ∨ x = 5 ∨ x = 6 ∨ x = 7 by omega) with rfl | rfl | rfl | rfl | rfl | rfl | rfl | rfl
  · rw [M_MO_readTerm_170, if_neg (by decide), if_neg (by decide), if_neg (by decide), if_neg (by decide), M_MO_readTerm_209, if_pos (by decide)]; rfl
  · rw [M_MO_readTerm_170, if_neg (by decide), if_pos (by decide), one _ 0 (fun h => absurd h (by decide)) (fun _ => rfl), l0]; rfl
  · rw [M_MO_readTerm_170, if_neg (by decide), if_neg (by decide), if_pos (by decide), one (Int32.ofNat 2) 1 (fun _ => rfl) (fun h => absurd rfl h), l1]; rfl
  · rw [M_MO_readTerm_170, if_pos (by decide), M_MO_readTerm_209, if_neg p2]
    have hv : ¬ Int32.ofNat 3 = 2 := by decide
    simp only [chk, i0, i1, and_self, if_true, hv, if_false, M_MO_readTerm_246, w1, d1, o2, m1, c0, l0]
    rw [M_MO_readTerm_209, if_neg p1]
    simp only [chk, i2, i3, and_self, if_true, hv, if_false, M_MO_readTerm_246, w2, d1, o1, m2, c1, l0]
    rw [M_MO_readTerm_209, if_pos (by decide)]
  · rw [M_MO_readTerm_170, if_neg (by decide), if_neg (by decide), if_neg (by decide), if_neg (by decide), M_MO_readTerm_209, if_pos (by decide)]; rfl
  · rw [M_MO_readTerm_170, if_neg (by decide), if_neg (by decide), if_neg (by decide), if_pos (by decide), one _ 0 (fun h => absurd h (by decide)) (fun _ => rfl), l0]; rfl
  · rw [M_MO_readTerm_170, if_neg (by decide), if_neg (by decide), if_neg (by decide), if_neg (by decide), M_MO_readTerm_209, if_pos (by decide)]; rfl
  · rw [M_MO_readTerm_170, if_neg (by decide), if_neg (by decide), if_neg (by decide), if_neg (by decide), M_MO_readTerm_209, if_pos (by decide)]; rfl
theorem s_fillBad {F : Nat} {cn n pl wr x2 x3 : Int32} {pk pf ps : Nat → Int32} {pc : Nat → Int64} {by' : Nat → Int32} (h : wr ≠ -1) : M_Program_fillTerm (F + 1) cn pk pf ps pc n pl wr by' x2 x3 = some (-1, cn, pk, pf, ps, pc, pl, wr) := by
  rw [M_Program_fillTerm, s_takeBad h, k3, if_neg h, M_Program_fillTerm_21, M_Program_fillTerm_26, if_neg (by decide), M_Program_fillTerm_43, if_pos rfl, M_Text_refuseLatest, M_Text_refuse, if_neg h, k1, k1]
theorem q_T.mono {n n1 : Int32} {lam lam1 pk pk1 pf pf1 ps ps1 : Nat → Int32} {pc pc1 : Nat → Int64} {tg tg1 sb sb1 nu nu1 : Nat → Int32} {ch ch1 : Nat → Int64} {fi fi1 se se1 : Nat → Int32} {t : Int32} (h : q_T n lam pk pf ps pc tg sb nu ch fi se t) (t0 : 0 ≤ t) (t1 : t < n) (hn : n ≤ n1)
    (hl : ∀ j : Int32, 0 ≤ j → j < n → (lam1 (Int32.toNatClampNeg (j))) = (lam (Int32.toNatClampNeg (j)))) (h1 : (pk1 (Int32.toNatClampNeg (t))) = (pk (Int32.toNatClampNeg (t)))) (h2 : (pf1 (Int32.toNatClampNeg (t))) = (pf (Int32.toNatClampNeg (t)))) (h3 : (ps1 (Int32.toNatClampNeg (t))) = (ps (Int32.toNatClampNeg (t)))) (h4 : (pc1 (Int32.toNatClampNeg (t))) = (pc (Int32.toNatClampNeg (t)))) (h5 : (tg1 (Int32.toNatClampNeg (t))) = (tg (Int32.toNatClampNeg (t)))) (h6 : (sb1 (Int32.toNatClampNeg (t))) = (sb (Int32.toNatClampNeg (t)))) (h7 : (nu1 (Int32.toNatClampNeg (t))) = (nu (Int32.toNatClampNeg (t)))) (h8 : (ch1 (Int32.toNatClampNeg (t))) = (ch (Int32.toNatClampNeg (t)))) (h9 : (fi1 (Int32.toNatClampNeg (t))) = (fi (Int32.toNatClampNeg (t)))) (h10 : (se1 (Int32.toNatClampNeg (t))) = (se (Int32.toNatClampNeg (t)))) :
    q_T n1 lam1 pk1 pf1 ps1 pc1 tg1 sb1 nu1 ch1 fi1 se1 t := by
  obtain ⟨p1, p2, p3, p4, p5, p6, p7, p8, p9, p10, p11, p12⟩ := h
  have hlt := hl t t0 t1
  unfold q_T
  rw [h1, h2, h3, h4, h5, h6, h7, h8, h9, h10, hlt]
  refine ⟨p1, p2, p3, p4, p5, p6, fun z => ⟨(p7 z).1, (p7 z).2.1, Int32.lt_of_lt_of_le (p7 z).2.2 hn⟩, fun z => ?_, fun z => ?_, fun z => ?_, p11, p12⟩
  · obtain ⟨a, b, c⟩ := p7 (by grind)
    rw [hl _ b c]; exact p8 z
  · obtain ⟨a, b, c⟩ := p7 (by grind)
    rw [hl _ b c]; exact p9 z
  · obtain ⟨a, b, c, d⟩ := p10 z
    refine ⟨a, b, Int32.lt_of_lt_of_le c hn, ?_⟩
    rw [hl _ b c]; exact d
