theorem q_addP {n : Int32} {lam : Nat → Int32} {cnt : Int32} {k : Nat → Int32} {c : Nat → Int64} {l r gv g dp : Nat → Int32} {vals envs : Int32} {K N : Nat → Int32} {B : Nat → Int64} {P A Y G H O : Nat → Int32} {f w x a' y' : Int32} {G' : Nat → Int32}
    (hS : q_S n lam cnt k c l r gv g dp vals envs K N B P A Y G H O) (h1 : cnt < 600) (hV : q_V vals cnt k g f w) (hk : (k (Int32.toNatClampNeg (f))) = 6)
    (hA : 0 ≤ a' ∧ a' ≤ q_fo (P (Int32.toNatClampNeg (w))) ∧ 0 ≤ y' ∧ y' < q_ar (P (Int32.toNatClampNeg (w))) ∧ (gv (Int32.toNatClampNeg (f))) + 1 = a' + y')
    (hY : 0 < y' → a' = q_fo (P (Int32.toNatClampNeg (w))) ∧ q_V vals cnt k g x (G' (Int32.toNatClampNeg (3 * vals + (y' - 1)))))
    (h2 : y' = 2 → q_V vals f k g (l (Int32.toNatClampNeg (f))) (G' (Int32.toNatClampNeg (3 * vals)))) (hG : ∀ j : Int32, 0 ≤ j → j < 3 * vals → (G' (Int32.toNatClampNeg (j))) = (G (Int32.toNatClampNeg (j)))) :
    ∃ g1, (g1 (Int32.toNatClampNeg (cnt))) = vals ∧ (∀ j : Int32, 0 ≤ j → j < cnt → (g1 (Int32.toNatClampNeg (j))) = (g (Int32.toNatClampNeg (j)))) ∧ q_S n lam (cnt + 1) (upd k cnt.toNatClampNeg 6) (vp_updL c cnt.toNatClampNeg (c (Int32.toNatClampNeg (f)))) (upd l cnt.toNatClampNeg x) (upd r cnt.toNatClampNeg f) (upd gv cnt.toNatClampNeg ((gv (Int32.toNatClampNeg (f))) + 1)) g1 dp (vals + 1) envs (upd K vals.toNatClampNeg 6) (upd N vals.toNatClampNeg 0) (vp_updL B vals.toNatClampNeg 0) (upd P vals.toNatClampNeg (P (Int32.toNatClampNeg (w)))) (upd A vals.toNatClampNeg a') (upd Y vals.toNatClampNeg y') G' H O := by
  obtain ⟨hI, hK, k0, k6, v6, w6⟩ := q_pt hS hV
  obtain ⟨a1, a2, a3, a4, a5, a6, a7⟩ := id hS
  obtain ⟨b1, b2, b3, b4, b5, b6⟩ := id hV
  refine ⟨upd g cnt.toNatClampNeg vals, q_eq, fun j x y => q_ne x y, ?_⟩
  refine hS.grow ⟨fun j x y => ⟨q_ne x y, q_neL x y, q_ne x y, q_ne x y, q_ne x y, q_ne x y, rfl⟩, fun j x y => ⟨q_ne x y, q_ne x y, q_neL x y, q_ne x y, q_ne x y, q_ne x y⟩, hG, fun j x y => ⟨rfl, rfl⟩⟩ (by grind) (by grind) (by grind) (by grind) (by grind) (by grind) ?_
  intro i i0 i1 _
  have : i = cnt := by grind
  subst this
  unfold q_I
  simp only [q_eq, q_eqL]
  have kk : ∀ j : Int32, 0 ≤ j → j < i → ((upd k i.toNatClampNeg 6) (Int32.toNatClampNeg (j))) = (k (Int32.toNatClampNeg (j))) := fun j a b => q_ne a b
  have gg : ∀ j : Int32, 0 ≤ j → j < i → ((upd g i.toNatClampNeg vals) (Int32.toNatClampNeg (j))) = (g (Int32.toNatClampNeg (j))) := fun j a b => q_ne a b
  obtain ⟨e1, e2, e3, e4, e5, e6, e7, e8⟩ := hI.2.2.2.2.2.2.1 hk
  refine ⟨q_no (by decide), fun _ => ⟨by grind, trivial, by decide, by decide⟩, fun z => absurd z (by decide), fun z => absurd z (by decide), q_no (by decide), q_no (by decide), fun _ => ⟨e1, e2, e3, hA.1, hA.2.1, hA.2.2.1, hA.2.2.2.1, hA.2.2.2.2⟩, fun _ z => ?_, fun _ z => ?_⟩
  · obtain ⟨c1, c2⟩ := hY z
    refine ⟨c1, c2.mono (by grind) (by grind) kk gg, ?_⟩
    rw [gg f b1 b2, b6]
    exact hV.mono (by grind) (by grind) kk gg
  · rw [q_ne b1 b2]
    exact (h2 z).mono (by grind) (by grind) (fun j x y => kk j x (by grind)) (fun j x y => gg j x (by grind))
theorem q_dead {n : Int32} {lam : Nat → Int32} {cnt : Int32} {k : Nat → Int32} {c : Nat → Int64} {l r gv g dp : Nat → Int32} {vals envs : Int32} {K N : Nat → Int32} {B : Nat → Int64} {P A Y G H O : Nat → Int32} {x z u e : Int32} {y : Int64}
    (hS : q_S n lam cnt k c l r gv g dp vals envs K N B P A Y G H O) (h1 : cnt < 600) :
    ∃ g1, (∀ j : Int32, 0 ≤ j → j < cnt → (g1 (Int32.toNatClampNeg (j))) = (g (Int32.toNatClampNeg (j)))) ∧ q_S n lam (cnt + 1) (upd k cnt.toNatClampNeg x) (vp_updL c cnt.toNatClampNeg y) (upd l cnt.toNatClampNeg z) (upd r cnt.toNatClampNeg u) (upd gv cnt.toNatClampNeg e) g1 dp vals envs K N B P A Y G H O := by
  obtain ⟨a1, a2, a3, a4, a5, a6, a7⟩ := id hS
  refine ⟨upd g cnt.toNatClampNeg (-1), fun j x y => q_ne x y, ?_⟩
  refine hS.grow ⟨fun j x y => ⟨q_ne x y, q_neL x y, q_ne x y, q_ne x y, q_ne x y, q_ne x y, rfl⟩, fun j x y => ⟨rfl, rfl, rfl, rfl, rfl, rfl⟩, fun j x y => rfl, fun j x y => ⟨rfl, rfl⟩⟩ (by grind) (by grind) (by grind) (by grind) (by grind) (by grind) ?_
  intro i i0 i1 gi
  have : i = cnt := by grind
  subst this
  rw [q_eq] at gi
  exact absurd gi (by decide)
theorem q_addL {n : Int32} {lam : Nat → Int32} {cnt : Int32} {k : Nat → Int32} {c : Nat → Int64} {l r gv g dp : Nat → Int32} {vals envs : Int32} {K N : Nat → Int32} {B : Nat → Int64} {P A Y G H O : Nat → Int32} {v w e e' d : Int32}
    (hS : q_S n lam cnt k c l r gv g dp vals envs K N B P A Y G H O) (h1 : cnt < 600) (hV : q_V vals cnt k g v w) (hE : q_E envs cnt k g dp e e' d) (d0 : 0 ≤ d) (d1 : d ≤ 21) :
    ∃ g1 dp1, (g1 (Int32.toNatClampNeg (cnt))) = envs ∧ (dp1 (Int32.toNatClampNeg (cnt))) = d + 1 ∧ (∀ j : Int32, 0 ≤ j → j < cnt → (g1 (Int32.toNatClampNeg (j))) = (g (Int32.toNatClampNeg (j)))) ∧ (∀ j : Int32, 0 ≤ j → j < cnt → (dp1 (Int32.toNatClampNeg (j))) = (dp (Int32.toNatClampNeg (j)))) ∧ q_S n lam (cnt + 1) (upd k cnt.toNatClampNeg 7) (vp_updL c cnt.toNatClampNeg 0) (upd l cnt.toNatClampNeg v) (upd r cnt.toNatClampNeg e) (upd gv cnt.toNatClampNeg 0) g1 dp1 vals (envs + 1) K N B P A Y G (upd H envs.toNatClampNeg w) (upd O envs.toNatClampNeg e') := by
  obtain ⟨a1, a2, a3, a4, a5, a6, a7⟩ := id hS
  refine ⟨upd g cnt.toNatClampNeg envs, upd dp cnt.toNatClampNeg (d + 1), q_eq, q_eq, fun j x y => q_ne x y, fun j x y => q_ne x y, ?_⟩
  refine hS.grow ⟨fun j x y => ⟨q_ne x y, q_neL x y, q_ne x y, q_ne x y, q_ne x y, q_ne x y, q_ne x y⟩, fun j x y => ⟨rfl, rfl, rfl, rfl, rfl, rfl⟩, fun j x y => rfl, fun j x y => ⟨q_ne x y, q_ne x y⟩⟩ (by grind) (by grind) (by grind) (by grind) (by grind) (by grind) ?_
  intro i i0 i1 gi
  have : i = cnt := by grind
  subst this
  unfold q_I
  simp only [q_eq, q_eqL]
  have kk : ∀ j : Int32, 0 ≤ j → j < i → ((upd k i.toNatClampNeg 7) (Int32.toNatClampNeg (j))) = (k (Int32.toNatClampNeg (j))) := fun j a b => q_ne a b
  have gg : ∀ j : Int32, 0 ≤ j → j < i → ((upd g i.toNatClampNeg envs) (Int32.toNatClampNeg (j))) = (g (Int32.toNatClampNeg (j))) := fun j a b => q_ne a b
  have dd : ∀ j : Int32, 0 ≤ j → j < i → ((upd dp i.toNatClampNeg (d + 1)) (Int32.toNatClampNeg (j))) = (dp (Int32.toNatClampNeg (j))) := fun j a b => q_ne a b
  refine ⟨fun _ => ⟨by grind, by grind, hV.mono (by grind) (by grind) kk gg, ?_⟩, fun z => absurd rfl z, fun z => absurd z (by decide), fun z => absurd z (by decide), q_no (by decide), q_no (by decide), q_no (by decide), q_no (by decide), q_no (by decide)⟩
  rw [show d + 1 - 1 = d by grind]
  exact hE.mono (by grind) (by grind) kk gg dd
theorem q_growF {n : Int32} {lam : Nat → Int32} {cnt : Int32} {k : Nat → Int32} {c : Nat → Int64} {l r gv g dp : Nat → Int32} {vals envs : Int32} {K N : Nat → Int32} {B : Nat → Int64} {P A Y G H O : Nat → Int32} {f w : Int32}
    (hS : q_S n lam cnt k c l r gv g dp vals envs K N B P A Y G H O) (h1 : cnt < 600) (hV : q_V vals cnt k g f w) (hk : (k (Int32.toNatClampNeg (f))) = 6) (hA : (A (Int32.toNatClampNeg (w))) < q_fo (P (Int32.toNatClampNeg (w)))) :
    ∃ g1 K1 N1 B1 P1 A1 Y1 G1, (g1 (Int32.toNatClampNeg (cnt))) = vals ∧ (∀ j : Int32, 0 ≤ j → j < cnt → (g1 (Int32.toNatClampNeg (j))) = (g (Int32.toNatClampNeg (j)))) ∧ M_MO_more vals K N B P A Y G w (-1) = some (vals, vals + 1, K1, N1, B1, P1, A1, Y1, G1) ∧ q_S n lam (cnt + 1) (upd k cnt.toNatClampNeg 6) (vp_updL c cnt.toNatClampNeg (c (Int32.toNatClampNeg (f)))) (upd l cnt.toNatClampNeg (-1)) (upd r cnt.toNatClampNeg f) (upd gv cnt.toNatClampNeg ((gv (Int32.toNatClampNeg (f))) + 1)) g1 dp (vals + 1) envs K1 N1 B1 P1 A1 Y1 G1 H O := by
  obtain ⟨hI, hK, k0, k6, v6, w6⟩ := q_pt hS hV
  obtain ⟨a1, a2, a3, a4, a5, a6, a7⟩ := id hS
  obtain ⟨b1, b2, b3, b4, b5, b6⟩ := id hV
  obtain ⟨e1, e2, e3, e4, e5, e6, e7, e8⟩ := hI.2.2.2.2.2.2.1 hk
  have e9 := hI.2.2.2.2.2.2.2.1 hk
  have f01 := q_fo01 (P (Int32.toNatClampNeg (w)))
  have r13 := q_ar13 (P (Int32.toNatClampNeg (w)))
  have hY : (Y (Int32.toNatClampNeg (w))) = 0 := by
    false_or_by_contra
    have := (e9 (by grind)).1
    grind
  obtain ⟨g1, y1, y2, y3⟩ := q_addP (x := -1) (a' := (A (Int32.toNatClampNeg (w))) + 1) (y' := 0) (G' := G) hS h1 hV hk ⟨by grind, by grind, by decide, by grind, by grind⟩ (fun z => absurd z (by decide)) (q_no (by decide)) (fun _ _ _ => rfl)
  exact ⟨g1, _, _, _, _, _, _, _, y1, y2, s_more0 a3 (by grind) b4 b5 hY, y3⟩
theorem q_growA {n : Int32} {lam : Nat → Int32} {cnt : Int32} {k : Nat → Int32} {c : Nat → Int64} {l r gv g dp : Nat → Int32} {vals envs : Int32} {K N : Nat → Int32} {B : Nat → Int64} {P A Y G H O : Nat → Int32} {f w v u : Int32}
    (hS : q_S n lam cnt k c l r gv g dp vals envs K N B P A Y G H O) (h1 : cnt < 600) (hV : q_V vals cnt k g f w) (hk : (k (Int32.toNatClampNeg (f))) = 6) (hA : (A (Int32.toNatClampNeg (w))) = q_fo (P (Int32.toNatClampNeg (w)))) (hY : (Y (Int32.toNatClampNeg (w))) + 1 ≠ q_ar (P (Int32.toNatClampNeg (w)))) (hU : q_V vals cnt k g v u) :
    ∃ g1 K1 N1 B1 P1 A1 Y1 G1, (g1 (Int32.toNatClampNeg (cnt))) = vals ∧ (∀ j : Int32, 0 ≤ j → j < cnt → (g1 (Int32.toNatClampNeg (j))) = (g (Int32.toNatClampNeg (j)))) ∧ M_MO_more vals K N B P A Y G w u = some (vals, vals + 1, K1, N1, B1, P1, A1, Y1, G1) ∧ q_S n lam (cnt + 1) (upd k cnt.toNatClampNeg 6) (vp_updL c cnt.toNatClampNeg (c (Int32.toNatClampNeg (f)))) (upd l cnt.toNatClampNeg v) (upd r cnt.toNatClampNeg f) (upd gv cnt.toNatClampNeg ((gv (Int32.toNatClampNeg (f))) + 1)) g1 dp (vals + 1) envs K1 N1 B1 P1 A1 Y1 G1 H O := by
  obtain ⟨hI, hK, k0, k6, v6, w6⟩ := q_pt hS hV
  obtain ⟨a1, a2, a3, a4, a5, a6, a7⟩ := id hS
  obtain ⟨b1, b2, b3, b4, b5, b6⟩ := id hV
  obtain ⟨e1, e2, e3, e4, e5, e6, e7, e8⟩ := hI.2.2.2.2.2.2.1 hk
  have e9 := hI.2.2.2.2.2.2.2.1 hk
  have f01 := q_fo01 (P (Int32.toNatClampNeg (w)))
  have r13 := q_ar13 (P (Int32.toNatClampNeg (w)))
  have u0 := hU.2.2.2.1
  have m0 : 0 ≤ 3 * vals := by grind
  by_cases hy : (Y (Int32.toNatClampNeg (w))) = 0
  · obtain ⟨g1, y1, y2, y3⟩ := q_addP (x := v) (a' := (A (Int32.toNatClampNeg (w)))) (y' := 1) (G' := upd G (3 * vals).toNatClampNeg u) hS h1 hV hk ⟨by grind, by grind, by decide, by grind, by grind⟩ (fun _ => ⟨hA, by
      rw [show 3 * vals + (1 - 1) = 3 * vals by grind, q_eq]; exact hU⟩) (q_no (by decide)) (fun j x y => q_ne x y)
    exact ⟨g1, _, _, _, _, _, _, _, y1, y2, s_more1 a3 (by grind) b4 b5 hy (by grind), y3⟩
  · have hy1 : (Y (Int32.toNatClampNeg (w))) = 1 := by grind
    obtain ⟨c1, c2, c3⟩ := e9 (by grind)
    rw [hy1, show 3 * w + (1 - 1) = 3 * w by grind] at c2
    obtain ⟨g1, y1, y2, y3⟩ := q_addP (x := v) (a' := (A (Int32.toNatClampNeg (w)))) (y' := 2) (G' := upd (upd G (3 * vals).toNatClampNeg (G (Int32.toNatClampNeg (3 * w)))) (3 * vals + 1).toNatClampNeg u) hS h1 hV hk ⟨by grind, by grind, by decide, by grind, by grind⟩ (fun _ => ⟨hA, by
      rw [show 3 * vals + (2 - 1) = 3 * vals + 1 by grind, q_eq]; exact hU⟩) (fun _ => by
      rw [q_ne m0 (by grind), q_eq]; exact c2) (fun j x y => by
      rw [q_ne x (by grind), q_ne x y])
    exact ⟨g1, _, _, _, _, _, _, _, y1, y2, s_more2 a3 (by grind) b4 b5 hy1 (by grind), y3⟩
