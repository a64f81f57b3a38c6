theorem q_no {a b : Int32} {p : Prop} (h : a ≠ b) : a = b → p := fun e => absurd e h
theorem q_at60 {f : Nat → Int32} {i : Int32} (h0 : 0 ≤ i) (h1 : i < 60) : at_ 60 f i = (f (Int32.toNatClampNeg (i))) := by
  have e : Int32.ofNat 60 = 60 := rfl
  rw [at_, if_neg (by grind), e, if_neg (by grind)]
theorem q_atL60 {f : Nat → Int64} {i : Int32} (h0 : 0 ≤ i) (h1 : i < 60) : atL 60 f i = (f (Int32.toNatClampNeg (i))) := by
  have e : Int32.ofNat 60 = 60 := rfl
  rw [atL, if_neg (by grind), e, if_neg (by grind)]
theorem q_at600 {f : Nat → Int32} {i : Int32} (h0 : 0 ≤ i) (h1 : i < 600) : at_ 600 f i = (f (Int32.toNatClampNeg (i))) := by
  have e : Int32.ofNat 600 = 600 := rfl
  rw [at_, if_neg (by grind), e, if_neg (by grind)]
theorem q_atL600 {f : Nat → Int64} {i : Int32} (h0 : 0 ≤ i) (h1 : i < 600) : atL 600 f i = (f (Int32.toNatClampNeg (i))) := by
  have e : Int32.ofNat 600 = 600 := rfl
  rw [atL, if_neg (by grind), e, if_neg (by grind)]
theorem q_at200 {f : Nat → Int32} {i : Int32} (h0 : 0 ≤ i) (h1 : i < 200) : at_ 200 f i = (f (Int32.toNatClampNeg (i))) := by
  have e : Int32.ofNat 200 = 200 := rfl
  rw [at_, if_neg (by grind), e, if_neg (by grind)]
theorem q_at3 {f : Nat → Int32} {i : Int32} (h0 : 0 ≤ i) (h1 : i < 3) : at_ 3 f i = (f (Int32.toNatClampNeg (i))) := by
  have e : Int32.ofNat 3 = 3 := rfl
  rw [at_, if_neg (by grind), e, if_neg (by grind)]
theorem q_neg {n : Nat} {f : Nat → Int32} {i : Int32} (h : i < 0) : at_ n f i = -1 := by
  rw [at_, if_pos h]
theorem q_clamp {i : Int32} (h : 0 ≤ i) : (i.toNatClampNeg : Int) = i.toInt := by
  have h1 := Int32.le_iff_toInt_le.mp h
  rw [← Int32.toNat_toInt]
  simp only [Int32.toInt_zero] at h1
  omega
theorem q_sub {a b : Int32} (h0 : 0 ≤ a) (h : a ≤ b) : (b - a).toInt = b.toInt - a.toInt := by
  have h1 := Int32.le_iff_toInt_le.mp h
  have h2 := Int32.le_iff_toInt_le.mp h0
  simp only [Int32.toInt_zero] at h2
  have h3 := b.toInt_lt
  have h4 := b.le_toInt
  rw [Int32.toInt_sub, Int.bmod_eq_of_le (by omega) (by omega)]
theorem q_dec {a b : Int32} (h0 : 0 ≤ a) (h : a < b) : (b - a).toNatClampNeg = (b - (a + 1)).toNatClampNeg + 1 := by
  have h1 : a + 1 ≤ b := by grind
  have h2 : (0 : Int32) ≤ a + 1 := by grind
  have e1 := q_sub h0 (show a ≤ b by grind)
  have e2 := q_sub h2 h1
  have e3 : (a + 1).toInt = a.toInt + 1 := by
    have := Int32.lt_iff_toInt_lt.mp h
    have h3 := b.toInt_lt
    have h4 := a.le_toInt
    rw [Int32.toInt_add]
    show Int.bmod (a.toInt + 1) _ = _
    rw [Int.bmod_eq_of_le (by omega) (by omega)]
  have p1 := q_clamp (show (0 : Int32) ≤ b - a by grind)
  have p2 := q_clamp (show (0 : Int32) ≤ b - (a + 1) by grind)
  omega
theorem q_inc {a : Int32} (h0 : 0 ≤ a) (h1 : a < 2147483647) : (a + 1).toNatClampNeg = a.toNatClampNeg + 1 := by
  have := q_dec (a := 0) (b := a + 1) (by decide) (by grind)
  rw [show a + 1 - 0 = a + 1 by grind, show a + 1 - (0 + 1) = a by grind] at this
  exact this
def q_Ag (cnt vals envs : Int32) (k : Nat → Int32) (c : Nat → Int64) (l r gv g dp : Nat → Int32) (K N : Nat → Int32) (B : Nat → Int64) (P A Y G H O : Nat → Int32) (k1 : Nat → Int32) (c1' : Nat → Int64) (l1 r1 gv1 g1 dp1 : Nat → Int32) (K1 N1 : Nat → Int32) (B1 : Nat → Int64) (P1 A1 Y1 G1 H1 O1 : Nat → Int32) : Prop :=
  (∀ j : Int32, 0 ≤ j → j < cnt → (k1 (Int32.toNatClampNeg (j))) = (k (Int32.toNatClampNeg (j))) ∧ (c1' (Int32.toNatClampNeg (j))) = (c (Int32.toNatClampNeg (j))) ∧ (l1 (Int32.toNatClampNeg (j))) = (l (Int32.toNatClampNeg (j))) ∧ (r1 (Int32.toNatClampNeg (j))) = (r (Int32.toNatClampNeg (j))) ∧ (gv1 (Int32.toNatClampNeg (j))) = (gv (Int32.toNatClampNeg (j))) ∧ (g1 (Int32.toNatClampNeg (j))) = (g (Int32.toNatClampNeg (j))) ∧ (dp1 (Int32.toNatClampNeg (j))) = (dp (Int32.toNatClampNeg (j)))) ∧
  (∀ j : Int32, 0 ≤ j → j < vals → (K1 (Int32.toNatClampNeg (j))) = (K (Int32.toNatClampNeg (j))) ∧ (N1 (Int32.toNatClampNeg (j))) = (N (Int32.toNatClampNeg (j))) ∧ (B1 (Int32.toNatClampNeg (j))) = (B (Int32.toNatClampNeg (j))) ∧ (P1 (Int32.toNatClampNeg (j))) = (P (Int32.toNatClampNeg (j))) ∧ (A1 (Int32.toNatClampNeg (j))) = (A (Int32.toNatClampNeg (j))) ∧ (Y1 (Int32.toNatClampNeg (j))) = (Y (Int32.toNatClampNeg (j)))) ∧
  (∀ j : Int32, 0 ≤ j → j < 3 * vals → (G1 (Int32.toNatClampNeg (j))) = (G (Int32.toNatClampNeg (j)))) ∧
  (∀ j : Int32, 0 ≤ j → j < envs → (H1 (Int32.toNatClampNeg (j))) = (H (Int32.toNatClampNeg (j))) ∧ (O1 (Int32.toNatClampNeg (j))) = (O (Int32.toNatClampNeg (j))))
theorem q_S.grow {n : Int32} {lam : Nat → Int32} {k k1 : Nat → Int32} {c c1' : Nat → Int64} {l r gv g dp l1 r1 gv1 g1 dp1 : Nat → Int32} {vals envs vals1 envs1 cnt cnt1 : Int32} {K N : Nat → Int32} {B : Nat → Int64} {P A Y G H O : Nat → Int32} {K1 N1 : Nat → Int32} {B1 : Nat → Int64} {P1 A1 Y1 G1 H1 O1 : Nat → Int32}
    (h : q_S n lam cnt k c l r gv g dp vals envs K N B P A Y G H O) (ag : q_Ag cnt vals envs k c l r gv g dp K N B P A Y G H O k1 c1' l1 r1 gv1 g1 dp1 K1 N1 B1 P1 A1 Y1 G1 H1 O1)
    (b1 : cnt ≤ cnt1) (b2 : cnt1 ≤ 600) (b3 : vals ≤ vals1) (b4 : vals1 ≤ cnt1) (b5 : envs ≤ envs1) (b6 : envs1 ≤ cnt1)
    (new : ∀ i : Int32, cnt ≤ i → i < cnt1 → 0 ≤ (g1 (Int32.toNatClampNeg (i))) → q_I n lam k1 c1' l1 r1 gv1 g1 dp1 vals1 envs1 K1 N1 B1 P1 A1 Y1 G1 H1 O1 i (g1 (Int32.toNatClampNeg (i)))) :
    q_S n lam cnt1 k1 c1' l1 r1 gv1 g1 dp1 vals1 envs1 K1 N1 B1 P1 A1 Y1 G1 H1 O1 := by
  obtain ⟨a1, a2, a3, a4, a5, a6, a7⟩ := h
  obtain ⟨d1, d2, d3, d4⟩ := ag
  refine ⟨by grind, b2, by grind, b4, by grind, b6, fun i i0 i1 gi => ?_⟩
  by_cases hi : i < cnt
  · rw [(d1 i i0 hi).2.2.2.2.2.1] at gi ⊢
    exact (a7 i i0 hi gi).mono i0 hi gi (by grind) (fun j x y => (d1 j x y).1) (fun j x y => (d1 j x y).2.1) (fun j x y => (d1 j x y).2.2.1) (fun j x y => (d1 j x y).2.2.2.1) (fun j x y => (d1 j x y).2.2.2.2.1) (fun j x y => (d1 j x y).2.2.2.2.2.1) (fun j x y => (d1 j x y).2.2.2.2.2.2) b3 b5 (fun j x y => (d2 j x y).1) (fun j x y => (d2 j x y).2.1) (fun j x y => (d2 j x y).2.2.1) (fun j x y => (d2 j x y).2.2.2.1) (fun j x y => (d2 j x y).2.2.2.2.1) (fun j x y => (d2 j x y).2.2.2.2.2) d3 (fun j x y => (d4 j x y).1) (fun j x y => (d4 j x y).2)
  · exact new i (by grind) i1 gi
def q_F (n : Int32) (lam : Nat → Int32) (cnt vals envs : Int32) (k g dp : Nat → Int32) (fc : Int32) (fk fp fe F1 F2 F3 : Nat → Int32) : Prop :=
  0 ≤ fc ∧ fc ≤ 200 ∧ ∀ j : Int32, 0 ≤ j → j < fc →
    ((fk (Int32.toNatClampNeg (j))) = 0 ∧ (F1 (Int32.toNatClampNeg (j))) = 1) ∨ ((fk (Int32.toNatClampNeg (j))) = 1 ∧ (F1 (Int32.toNatClampNeg (j))) = 0 ∧ (fp (Int32.toNatClampNeg (j))) = (F2 (Int32.toNatClampNeg (j))) ∧ 0 ≤ (F2 (Int32.toNatClampNeg (j))) ∧ (F2 (Int32.toNatClampNeg (j))) < n ∧ q_E envs cnt k g dp (fe (Int32.toNatClampNeg (j))) (F3 (Int32.toNatClampNeg (j))) (lam (Int32.toNatClampNeg ((F2 (Int32.toNatClampNeg (j))))))) ∨ ((fk (Int32.toNatClampNeg (j))) = 2 ∧ (F1 (Int32.toNatClampNeg (j))) = 2 ∧ q_V vals cnt k g (fp (Int32.toNatClampNeg (j))) (F2 (Int32.toNatClampNeg (j))))
theorem q_F.mono {n : Int32} {lam : Nat → Int32} {cnt vals envs cnt1 vals1 envs1 : Int32} {k g dp k1 g1 dp1 : Nat → Int32} {fc : Int32} {fk fp fe F1 F2 F3 : Nat → Int32} (b1 : cnt ≤ cnt1) (b2 : vals ≤ vals1) (b3 : envs ≤ envs1) (hk : ∀ j : Int32, 0 ≤ j → j < cnt → (k1 (Int32.toNatClampNeg (j))) = (k (Int32.toNatClampNeg (j)))) (hg : ∀ j : Int32, 0 ≤ j → j < cnt → (g1 (Int32.toNatClampNeg (j))) = (g (Int32.toNatClampNeg (j)))) (hd : ∀ j : Int32, 0 ≤ j → j < cnt → (dp1 (Int32.toNatClampNeg (j))) = (dp (Int32.toNatClampNeg (j)))) (h : q_F n lam cnt vals envs k g dp fc fk fp fe F1 F2 F3) : q_F n lam cnt1 vals1 envs1 k1 g1 dp1 fc fk fp fe F1 F2 F3 := by
  obtain ⟨a1, a2, a3⟩ := h
  refine ⟨a1, a2, fun j x y => ?_⟩
  rcases a3 j x y with h | ⟨h1, h2, h3, h4, h5, h6⟩ | ⟨h1, h2, h3⟩
  · exact .inl h
  · exact .inr (.inl ⟨h1, h2, h3, h4, h5, h6.mono b3 b1 hk hg hd⟩)
  · exact .inr (.inr ⟨h1, h2, h3.mono b2 b1 hk hg⟩)
theorem q_F.less {n : Int32} {lam : Nat → Int32} {cnt vals envs : Int32} {k g dp : Nat → Int32} {fc fd : Int32} {fk fp fe F1 F2 F3 : Nat → Int32} (h0 : 0 ≤ fd) (h1 : fd ≤ fc) (h : q_F n lam cnt vals envs k g dp fc fk fp fe F1 F2 F3) : q_F n lam cnt vals envs k g dp fd fk fp fe F1 F2 F3 :=
  ⟨h0, by have := h.2.1; grind, fun j x y => h.2.2 j x (by grind)⟩
theorem q_F.push {n : Int32} {lam : Nat → Int32} {cnt vals envs : Int32} {k g dp : Nat → Int32} {fc : Int32} {fk fp fe F1 F2 F3 : Nat → Int32} {a b d a' b' d' : Int32} (h : q_F n lam cnt vals envs k g dp fc fk fp fe F1 F2 F3) (h1 : fc < 200)
    (hn : (a = 0 ∧ a' = 1) ∨ (a = 1 ∧ a' = 0 ∧ b = b' ∧ 0 ≤ b' ∧ b' < n ∧ q_E envs cnt k g dp d d' (lam (Int32.toNatClampNeg (b')))) ∨ (a = 2 ∧ a' = 2 ∧ q_V vals cnt k g b b')) :
    q_F n lam cnt vals envs k g dp (fc + 1) (upd fk fc.toNatClampNeg a) (upd fp fc.toNatClampNeg b) (upd fe fc.toNatClampNeg d) (upd F1 fc.toNatClampNeg a') (upd F2 fc.toNatClampNeg b') (upd F3 fc.toNatClampNeg d') := by
  obtain ⟨a1, a2, a3⟩ := h
  refine ⟨by grind, by grind, fun j x y => ?_⟩
  simp only [q_upd a1 x]
  by_cases hj : j = fc
  · simp only [if_pos hj]; exact hn
  · simp only [if_neg hj]; exact a3 j x (by grind)
def q_M (n : Int32) (lam : Nat → Int32) (st te en va cnt : Int32) (k : Nat → Int32) (c : Nat → Int64) (l r gv : Nat → Int32) (fc : Int32) (fk fp fe : Nat → Int32) (vals envs frs st' te' en' va' made : Int32) (K N : Nat → Int32) (B : Nat → Int64) (P A Y G H O F1 F2 F3 : Nat → Int32) : Prop :=
  ∃ g dp : Nat → Int32, st = st' ∧ fc = frs ∧ cnt = made ∧ q_S n lam cnt k c l r gv g dp vals envs K N B P A Y G H O ∧ q_F n lam cnt vals envs k g dp fc fk fp fe F1 F2 F3 ∧
    (st = 1 → te = te' ∧ 0 ≤ te ∧ te < n ∧ q_E envs cnt k g dp en en' (lam (Int32.toNatClampNeg (te)))) ∧ (st = 2 → q_V vals cnt k g va va') ∧ (st = 1 ∨ st = 2 ∨ 10 ≤ st)
theorem q_var {n : Int32} {lam : Nat → Int32} {k : Nat → Int32} {c : Nat → Int64} {l r gv g dp : Nat → Int32} {vals envs cnt : Int32} {K N : Nat → Int32} {B : Nat → Int64} {P A Y G H O : Nat → Int32} (hS : q_S n lam cnt k c l r gv g dp vals envs K N B P A Y G H O) :
    ∀ (m : Nat) (f f1 : Nat) (e w d kk i env : Int32), m < f → m < f1 → (kk - i).toNatClampNeg = m → 1 ≤ i → i ≤ kk → kk - i < d → q_E envs cnt k g dp e w d →
      ∃ v v', M_Store_valueAt_5 l r f kk e i = some v ∧ M_MO_variable_7 env H O f1 kk w i = some v' ∧ q_V vals cnt k g v v' := by
  obtain ⟨a1, a2, a3, a4, a5, a6, a7⟩ := hS
  intro m
  induction m with
  | zero =>
    intro f f1 e w d kk i env hf hf1 hm i1 ik hd hE
    obtain ⟨f, rfl⟩ : ∃ x, f = x + 1 := ⟨f - 1, by omega⟩
    obtain ⟨f1, rfl⟩ : ∃ x, f1 = x + 1 := ⟨f1 - 1, by omega⟩
    have hk : kk ≤ i := by
      false_or_by_contra
      have := q_dec (a := i) (b := kk) (by grind) (by grind)
      omega
    rcases hE with ⟨rfl, rfl, rfl⟩ | ⟨e0, e1, e2, w0, w1, ge, rfl⟩
    · exfalso; grind
    · have hI := (a7 e e0 e1 (by grind)).1 e2
      rw [ge] at hI
      refine ⟨(l (Int32.toNatClampNeg (e))), (H (Int32.toNatClampNeg (w))), ?_, ?_, ?_⟩
      · rw [M_Store_valueAt_5, if_pos hk, M_Store_valueAt_31, q_at600 e0 (by grind)]
      · rw [M_MO_variable_7, if_pos hk, chk, if_pos (by grind)]
      · exact hI.2.2.1.mono (by grind) (by grind) (fun _ _ _ => rfl) (fun _ _ _ => rfl)
  | succ m ih =>
    intro f f1 e w d kk i env hf hf1 hm i1 ik hd hE
    obtain ⟨f, rfl⟩ : ∃ x, f = x + 1 := ⟨f - 1, by omega⟩
    obtain ⟨f1, rfl⟩ : ∃ x, f1 = x + 1 := ⟨f1 - 1, by omega⟩
    have hk : ¬ kk ≤ i := by
      intro h
      have : kk = i := by grind
      subst this
      simp at hm
    have hm1 := q_dec (a := i) (b := kk) (by grind) (by grind)
    rcases hE with ⟨rfl, rfl, rfl⟩ | ⟨e0, e1, e2, w0, w1, ge, rfl⟩
    · exfalso; grind
    · have hI := (a7 e e0 e1 (by grind)).1 e2
      rw [ge] at hI
      obtain ⟨v, v', x1, x2, x3⟩ := ih f f1 (r (Int32.toNatClampNeg (e))) (O (Int32.toNatClampNeg (w))) ((dp (Int32.toNatClampNeg (e))) - 1) kk (i + 1) env (by omega) (by omega) (by omega) (by grind) (by grind) (by grind) (hI.2.2.2.mono (by grind) (by grind) (fun _ _ _ => rfl) (fun _ _ _ => rfl) (fun _ _ _ => rfl))
      refine ⟨v, v', ?_, ?_, x3⟩
      · rw [M_Store_valueAt_5, if_neg hk, if_neg (by grind), q_at600 e0 (by grind)]; exact x1
      · rw [M_MO_variable_7, if_neg hk, chk, if_pos (by grind)]; exact x2
