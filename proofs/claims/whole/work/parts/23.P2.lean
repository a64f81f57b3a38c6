theorem q_ix {i j : Int32} (hi : 0 ≤ i) (hj : 0 ≤ j) : i.toNatClampNeg = j.toNatClampNeg ↔ i = j := by
  constructor
  · intro h
    have h1 := Int32.le_iff_toInt_le.mp hi
    have h2 := Int32.le_iff_toInt_le.mp hj
    rw [← Int32.toNat_toInt, ← Int32.toNat_toInt] at h
    simp only [Int32.toInt_zero] at h1 h2
    exact Int32.toInt_inj.mp (by omega)
  · rintro rfl; rfl
theorem q_upd {f : Nat → Int32} {i j x : Int32} (hi : 0 ≤ i) (hj : 0 ≤ j) : upd f i.toNatClampNeg x j.toNatClampNeg = if j = i then x else f j.toNatClampNeg := by
  simp only [upd, q_ix hj hi]
theorem q_updL {f : Nat → Int64} {i j : Int32} {x : Int64} (hi : 0 ≤ i) (hj : 0 ≤ j) : vp_updL f i.toNatClampNeg x j.toNatClampNeg = if j = i then x else f j.toNatClampNeg := by
  simp only [vp_updL, q_ix hj hi]
theorem q_ne {f : Nat → Int32} {i j x : Int32} (hj : 0 ≤ j) (h : j < i) : upd f i.toNatClampNeg x j.toNatClampNeg = f j.toNatClampNeg := by
  rw [q_upd (by grind) hj, if_neg (by grind)]
theorem q_neL {f : Nat → Int64} {i j : Int32} {x : Int64} (hj : 0 ≤ j) (h : j < i) : vp_updL f i.toNatClampNeg x j.toNatClampNeg = f j.toNatClampNeg := by
  rw [q_updL (by grind) hj, if_neg (by grind)]
theorem q_eq {f : Nat → Int32} {i x : Int32} : upd f i.toNatClampNeg x i.toNatClampNeg = x := by simp [upd]
theorem q_eqL {f : Nat → Int64} {i : Int32} {x : Int64} : vp_updL f i.toNatClampNeg x i.toNatClampNeg = x := by simp [vp_updL]
theorem q_V.mono {vals vals1 cnt cnt1 : Int32} {k g k1 g1 : Nat → Int32} {v w : Int32} (h1 : vals ≤ vals1) (h2 : cnt ≤ cnt1) (hk : ∀ j : Int32, 0 ≤ j → j < cnt → (k1 (Int32.toNatClampNeg (j))) = (k (Int32.toNatClampNeg (j)))) (hg : ∀ j : Int32, 0 ≤ j → j < cnt → (g1 (Int32.toNatClampNeg (j))) = (g (Int32.toNatClampNeg (j)))) (h : q_V vals cnt k g v w) : q_V vals1 cnt1 k1 g1 v w := by
  obtain ⟨a, b, c, d, e, f⟩ := h
  refine ⟨a, by grind, ?_, d, by grind, ?_⟩
  · rw [hk v a b]; exact c
  · rw [hg v a b]; exact f
theorem q_E.mono {envs envs1 cnt cnt1 : Int32} {k g dp k1 g1 dp1 : Nat → Int32} {e w d : Int32} (h1 : envs ≤ envs1) (h2 : cnt ≤ cnt1) (hk : ∀ j : Int32, 0 ≤ j → j < cnt → (k1 (Int32.toNatClampNeg (j))) = (k (Int32.toNatClampNeg (j)))) (hg : ∀ j : Int32, 0 ≤ j → j < cnt → (g1 (Int32.toNatClampNeg (j))) = (g (Int32.toNatClampNeg (j)))) (hd : ∀ j : Int32, 0 ≤ j → j < cnt → (dp1 (Int32.toNatClampNeg (j))) = (dp (Int32.toNatClampNeg (j)))) (h : q_E envs cnt k g dp e w d) : q_E envs1 cnt1 k1 g1 dp1 e w d := by
  rcases h with h | ⟨a, b, c, d1, e1, f, i⟩
  · exact .inl h
  · refine .inr ⟨a, by grind, ?_, d1, by grind, ?_, ?_⟩
    · rw [hk e a b]; exact c
    · rw [hg e a b]; exact f
    · rw [hd e a b]; exact i
theorem q_I.mono {n : Int32} {lam : Nat → Int32} {k k1 : Nat → Int32} {c c1' : Nat → Int64} {l r gv g dp l1 r1 gv1 g1 dp1 : Nat → Int32} {vals envs vals1 envs1 : Int32} {K N : Nat → Int32} {B : Nat → Int64} {P A Y G H O : Nat → Int32} {K1 N1 : Nat → Int32} {B1 : Nat → Int64} {P1 A1 Y1 G1 H1 O1 : Nat → Int32} {i w : Int32} {cnt : Int32}
    (i0 : 0 ≤ i) (i1 : i < cnt) (w0 : 0 ≤ w) (hb : vals ≤ 600)
    (hk : ∀ j : Int32, 0 ≤ j → j < cnt → (k1 (Int32.toNatClampNeg (j))) = (k (Int32.toNatClampNeg (j)))) (hc : ∀ j : Int32, 0 ≤ j → j < cnt → (c1' (Int32.toNatClampNeg (j))) = (c (Int32.toNatClampNeg (j)))) (hl : ∀ j : Int32, 0 ≤ j → j < cnt → (l1 (Int32.toNatClampNeg (j))) = (l (Int32.toNatClampNeg (j)))) (hr : ∀ j : Int32, 0 ≤ j → j < cnt → (r1 (Int32.toNatClampNeg (j))) = (r (Int32.toNatClampNeg (j)))) (hgv : ∀ j : Int32, 0 ≤ j → j < cnt → (gv1 (Int32.toNatClampNeg (j))) = (gv (Int32.toNatClampNeg (j)))) (hg : ∀ j : Int32, 0 ≤ j → j < cnt → (g1 (Int32.toNatClampNeg (j))) = (g (Int32.toNatClampNeg (j)))) (hdp : ∀ j : Int32, 0 ≤ j → j < cnt → (dp1 (Int32.toNatClampNeg (j))) = (dp (Int32.toNatClampNeg (j))))
    (hv : vals ≤ vals1) (he : envs ≤ envs1)
    (hK : ∀ j : Int32, 0 ≤ j → j < vals → (K1 (Int32.toNatClampNeg (j))) = (K (Int32.toNatClampNeg (j)))) (hN : ∀ j : Int32, 0 ≤ j → j < vals → (N1 (Int32.toNatClampNeg (j))) = (N (Int32.toNatClampNeg (j)))) (hB : ∀ j : Int32, 0 ≤ j → j < vals → (B1 (Int32.toNatClampNeg (j))) = (B (Int32.toNatClampNeg (j)))) (hP : ∀ j : Int32, 0 ≤ j → j < vals → (P1 (Int32.toNatClampNeg (j))) = (P (Int32.toNatClampNeg (j)))) (hA : ∀ j : Int32, 0 ≤ j → j < vals → (A1 (Int32.toNatClampNeg (j))) = (A (Int32.toNatClampNeg (j)))) (hY : ∀ j : Int32, 0 ≤ j → j < vals → (Y1 (Int32.toNatClampNeg (j))) = (Y (Int32.toNatClampNeg (j)))) (hG : ∀ j : Int32, 0 ≤ j → j < 3 * vals → (G1 (Int32.toNatClampNeg (j))) = (G (Int32.toNatClampNeg (j)))) (hH : ∀ j : Int32, 0 ≤ j → j < envs → (H1 (Int32.toNatClampNeg (j))) = (H (Int32.toNatClampNeg (j)))) (hO : ∀ j : Int32, 0 ≤ j → j < envs → (O1 (Int32.toNatClampNeg (j))) = (O (Int32.toNatClampNeg (j))))
    (h : q_I n lam k c l r gv g dp vals envs K N B P A Y G H O i w) : q_I n lam k1 c1' l1 r1 gv1 g1 dp1 vals1 envs1 K1 N1 B1 P1 A1 Y1 G1 H1 O1 i w := by
  have hki := hk i i0 i1
  have hci := hc i i0 i1
  have hli := hl i i0 i1
  have hri := hr i i0 i1
  have hvi := hgv i i0 i1
  have hdi := hdp i i0 i1
  have kk : ∀ j : Int32, 0 ≤ j → j < i → (k1 (Int32.toNatClampNeg (j))) = (k (Int32.toNatClampNeg (j))) := fun j a b => hk j a (by grind)
  have gg : ∀ j : Int32, 0 ≤ j → j < i → (g1 (Int32.toNatClampNeg (j))) = (g (Int32.toNatClampNeg (j))) := fun j a b => hg j a (by grind)
  have dd : ∀ j : Int32, 0 ≤ j → j < i → (dp1 (Int32.toNatClampNeg (j))) = (dp (Int32.toNatClampNeg (j))) := fun j a b => hdp j a (by grind)
  have rf : i ≤ i := by grind
  obtain ⟨h1, h2, h3, h4, h5, h6, h7, h8, h9⟩ := h
  unfold q_I
  rw [hki, hci, hli, hri, hvi, hdi]
  have key : (k (Int32.toNatClampNeg (i))) ≠ 7 → (K1 (Int32.toNatClampNeg (w))) = (K (Int32.toNatClampNeg (w))) ∧ (N1 (Int32.toNatClampNeg (w))) = (N (Int32.toNatClampNeg (w))) ∧ (B1 (Int32.toNatClampNeg (w))) = (B (Int32.toNatClampNeg (w))) ∧ (P1 (Int32.toNatClampNeg (w))) = (P (Int32.toNatClampNeg (w))) ∧ (A1 (Int32.toNatClampNeg (w))) = (A (Int32.toNatClampNeg (w))) ∧ (Y1 (Int32.toNatClampNeg (w))) = (Y (Int32.toNatClampNeg (w))) := fun z => by
    have := (h2 z).1
    exact ⟨hK w w0 this, hN w w0 this, hB w w0 this, hP w w0 this, hA w w0 this, hY w w0 this⟩
  refine ⟨?_, ?_, ?_, ?_, ?_, ?_, ?_, ?_, ?_⟩
  · intro z
    obtain ⟨a, b, c, d⟩ := h1 z
    rw [hH w w0 a, hO w w0 a]
    exact ⟨by grind, b, c.mono hv rf kk gg, d.mono he rf kk gg dd⟩
  · intro z
    obtain ⟨a, b, c, d⟩ := h2 z
    rw [(key z).1]
    exact ⟨by grind, b, c, d⟩
  · intro z
    obtain ⟨a1, a2, a3, a4, a5, a6⟩ := key (by grind)
    rw [a2, a3]; exact h3 z
  · intro z
    obtain ⟨a1, a2, a3, a4, a5, a6⟩ := key (by grind)
    rw [a4]; exact h4 z
  · intro z
    obtain ⟨a1, a2, a3, a4, a5, a6⟩ := key (by grind)
    rw [a5]; exact (h5 z).mono he rf kk gg dd
  · intro z
    obtain ⟨a1, a2, a3, a4, a5, a6⟩ := key (by grind)
    rw [a5]; exact ⟨(h6 z).1.mono he rf kk gg dd, (h6 z).2⟩
  · intro z
    obtain ⟨a1, a2, a3, a4, a5, a6⟩ := key (by grind)
    rw [a4, a5, a6]; exact h7 z
  · intro z
    have zz : (k (Int32.toNatClampNeg (i))) ≠ 7 := by grind
    obtain ⟨a1, a2, a3, a4, a5, a6⟩ := key zz
    rw [a4, a5, a6]
    intro y
    have w1 := (h2 zz).1
    obtain ⟨b1, b2, b3⟩ := h8 z y
    obtain ⟨c1, c2, c3, c4, c5, c6, c7, c8⟩ := h7 z
    have y3 : (Y (Int32.toNatClampNeg (w))) ≤ 2 := by
      have : q_ar (P (Int32.toNatClampNeg (w))) ≤ 3 := by unfold q_ar; split <;> (try split) <;> decide
      grind
    rw [hG _ (by grind) (by grind), hg _ b3.1 (by have := b3.2.1; grind)]
    exact ⟨b1, b2.mono hv rf kk gg, b3.mono hv rf kk gg⟩
  · intro z
    have zz : (k (Int32.toNatClampNeg (i))) ≠ 7 := by grind
    obtain ⟨a1, a2, a3, a4, a5, a6⟩ := key zz
    rw [a6]
    intro y
    have w1 := (h2 zz).1
    obtain ⟨b1, b2, b3⟩ := h8 z (by grind)
    have r0 := b3.1
    have r1 := b3.2.1
    rw [hG _ (by grind) (by grind), hl _ r0 (by grind)]
    exact (h9 z y).mono hv (by grind) (fun j a b => hk j a (by grind)) (fun j a b => hg j a (by grind))
