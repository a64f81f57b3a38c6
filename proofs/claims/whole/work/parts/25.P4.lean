theorem q_addV {n : Int32} {lam : Nat → Int32} {cnt : Int32} {k : Nat → Int32} {c : Nat → Int64} {l r gv g dp : Nat → Int32} {vals envs : Int32} {K N : Nat → Int32} {B : Nat → Int64} {P A Y G H O : Nat → Int32} {x : Int32} {y : Int64} {z u x' : Int32} {b' : Int64} {y' z' u' : Int32}
    (h : q_S n lam cnt k c l r gv g dp vals envs K N B P A Y G H O) (h1 : cnt < 600)
    (hx : x' = x ∧ 0 ≤ x ∧ x ≤ 6) (h3 : x ≤ 3 → q_C x y' y b') (h45 : x = 4 ∨ x = 5 → z' = z ∧ 0 ≤ z ∧ z < n)
    (h4 : x = 4 → q_E envs cnt k g dp u u' (lam (Int32.toNatClampNeg (z)))) (h5 : x = 5 → q_E envs cnt k g dp u u' ((lam (Int32.toNatClampNeg (z))) - 1) ∧ 1 ≤ (lam (Int32.toNatClampNeg (z))))
    (h6 : x = 6 → y = z'.toInt64 ∧ 0 ≤ z' ∧ z' ≤ 11 ∧ u' = 0) :
    ∃ g1, (g1 (Int32.toNatClampNeg (cnt))) = vals ∧ (∀ j : Int32, 0 ≤ j → j < cnt → (g1 (Int32.toNatClampNeg (j))) = (g (Int32.toNatClampNeg (j)))) ∧ q_S n lam (cnt + 1) (upd k cnt.toNatClampNeg x) (vp_updL c cnt.toNatClampNeg y) (upd l cnt.toNatClampNeg z) (upd r cnt.toNatClampNeg u) (upd gv cnt.toNatClampNeg 0) g1 dp (vals + 1) envs (upd K vals.toNatClampNeg x') (upd N vals.toNatClampNeg y') (vp_updL B vals.toNatClampNeg b') (upd P vals.toNatClampNeg z') (upd A vals.toNatClampNeg u') (upd Y vals.toNatClampNeg 0) G H O := by
  have hS := h
  obtain ⟨a1, a2, a3, a4, a5, a6, a7⟩ := h
  refine ⟨upd g cnt.toNatClampNeg vals, q_eq, fun j x y => q_ne x y, ?_⟩
  refine hS.grow ⟨fun j x y => ⟨q_ne x y, q_neL x y, q_ne x y, q_ne x y, q_ne x y, q_ne x y, rfl⟩, fun j x y => ⟨q_ne x y, q_ne x y, q_neL x y, q_ne x y, q_ne x y, q_ne x y⟩, fun j x y => rfl, fun j x y => ⟨rfl, rfl⟩⟩ (by grind) (by grind) (by grind) (by grind) (by grind) (by grind) ?_
  intro i i0 i1 _
  have : i = cnt := by grind
  subst this
  unfold q_I
  simp only [q_eq, q_eqL]
  obtain ⟨rfl, hx0, hx1⟩ := hx
  have kk : ∀ j : Int32, 0 ≤ j → j < i → ((upd k i.toNatClampNeg x') (Int32.toNatClampNeg (j))) = (k (Int32.toNatClampNeg (j))) := fun j a b => q_ne a b
  have gg : ∀ j : Int32, 0 ≤ j → j < i → ((upd g i.toNatClampNeg vals) (Int32.toNatClampNeg (j))) = (g (Int32.toNatClampNeg (j))) := fun j a b => q_ne a b
  refine ⟨fun z => by grind, fun _ => ⟨by grind, rfl, hx0, hx1⟩, h3, h45, fun z => ?_, fun z => ?_, fun z => ?_, fun _ z => by grind, fun _ z => by grind⟩
  · exact (h4 z).mono (by grind) (by grind) kk gg (fun _ _ _ => rfl)
  · exact ⟨(h5 z).1.mono (by grind) (by grind) kk gg (fun _ _ _ => rfl), (h5 z).2⟩
  · obtain ⟨b1, b2, b3, b4⟩ := h6 z
    refine ⟨b1, b2, b3, by grind, ?_, by grind, ?_, by grind⟩
    · unfold q_fo; split <;> grind
    · unfold q_ar; split <;> (try split) <;> decide
theorem s_Store_add {cnt : Int32} {k : Nat → Int32} {c : Nat → Int64} {l r gv : Nat → Int32} {x1 : Int32} {x2 : Int64} {x4 x5 : Int32} (h0 : 0 ≤ cnt) (h1 : cnt < 600) :
    M_Store_add cnt k c l r gv x1 x2 x4 x5 = some (cnt, cnt + 1, upd k cnt.toNatClampNeg x1, vp_updL c cnt.toNatClampNeg x2, upd l cnt.toNatClampNeg x4, upd r cnt.toNatClampNeg x5, upd gv cnt.toNatClampNeg 0) := by
  have e : cnt + 1 - 1 = cnt := by grind
  simp only [M_Store_add, chk, h0, h1, and_self, if_true, e]
theorem s_MO_newValue {vals : Int32} {K N : Nat → Int32} {B : Nat → Int64} {P A Y : Nat → Int32} {x1 x2 x3 x4 : Int32} (h0 : 0 ≤ vals) (h1 : vals < 700) :
    M_MO_newValue vals K N B P A Y x1 x2 x3 x4 = some (vals, vals + 1, upd K vals.toNatClampNeg x1, upd N vals.toNatClampNeg x2, vp_updL B vals.toNatClampNeg 0, upd P vals.toNatClampNeg x3, upd A vals.toNatClampNeg x4, upd Y vals.toNatClampNeg 0) := by
  have e : vals + 1 - 1 = vals := by grind
  simp only [M_MO_newValue, chk, h0, h1, and_self, if_true, e]
theorem q_updL2 {f : Nat → Int64} {i : Nat} {x y : Int64} : vp_updL (vp_updL f i x) i y = vp_updL f i y := by
  funext j; simp only [vp_updL]; split <;> rfl
theorem q_upd2 {f : Nat → Int32} {i : Nat} {x y : Int32} : upd (upd f i x) i y = upd f i y := by
  funext j; simp only [upd]; split <;> rfl
theorem s_MO_newBytes {vals : Int32} {K N : Nat → Int32} {B : Nat → Int64} {P A Y : Nat → Int32} {x1 : Int32} {x2 : Int64} (h0 : 0 ≤ vals) (h1 : vals < 700) :
    M_MO_newBytes vals K N B P A Y x1 x2 = some (vals, vals + 1, upd K vals.toNatClampNeg 3, upd N vals.toNatClampNeg x1, vp_updL B vals.toNatClampNeg x2, upd P vals.toNatClampNeg 0, upd A vals.toNatClampNeg 0, upd Y vals.toNatClampNeg 0) := by
  simp only [M_MO_newBytes, s_MO_newValue h0 h1, c8, chk, h0, h1, and_self, if_true, q_updL2]
theorem q_comp {n : Int32} {lam pk pf ps : Nat → Int32} {pc : Nat → Int64} {tg sb nu : Nat → Int32} {ch : Nat → Int64} {fi se : Nat → Int32} {te en va cnt : Int32} {k : Nat → Int32} {c : Nat → Int64} {l r gv : Nat → Int32} {fc : Int32} {fk fp fe : Nat → Int32} {vals envs frs st' te' en' va' made : Int32} {K N : Nat → Int32} {B : Nat → Int64} {P A Y G H O F1 F2 F3 : Nat → Int32}
    (hP : q_P n lam pk pf ps pc tg sb nu ch fi se) (hM : q_M n lam 1 te en va cnt k c l r gv fc fk fp fe vals envs frs st' te' en' va' made K N B P A Y G H O F1 F2 F3) :
    ∃ st1 te1 en1 va1 cnt1 k1 c1' l1 r1 gv1 fc1 fk1 fp1 fe1 vals1 frs1 st2 te2 en2 va2 made1 K1 N1 B1 P1 A1 Y1 F11 F21 F31,
      M_Work_stepComputing 1 te en va cnt k c l r gv fc fk fp fe pk pf ps pc = some (st1, te1, en1, va1, cnt1, k1, c1', l1, r1, gv1, fc1, fk1, fp1, fe1) ∧
      M_MO_compute vals frs st' te' en' va' made tg sb nu ch fi se K N B P A Y H O F1 F2 F3 = some (vals1, frs1, st2, te2, en2, va2, made1, K1, N1, B1, P1, A1, Y1, F11, F21, F31) ∧
      q_M n lam st1 te1 en1 va1 cnt1 k1 c1' l1 r1 gv1 fc1 fk1 fp1 fe1 vals1 envs frs1 st2 te2 en2 va2 made1 K1 N1 B1 P1 A1 Y1 G H O F11 F21 F31 := by
  obtain ⟨g, dp, rfl, rfl, rfl, hS, hF, h1, -, -⟩ := hM
  obtain ⟨rfl, t0, t1, hE⟩ := h1 rfl
  obtain ⟨n0, n1, l0, hT⟩ := hP
  obtain ⟨p1, p2, p3, p4, p5, p6, p7, p8, p9, p10, p11, p12⟩ := hT te t0 t1
  have t60 : te < 60 := by grind
  have t120 : te < 120 := by grind
  obtain ⟨s1, s2, s3, s4, s5, s6, s7⟩ := id hS
  obtain ⟨f1, f2, f3⟩ := id hF
  have v7 : vals < 700 := by grind
  have kv : (0 ≤ te ∧ te < 120) = True := by simp [t0, t120]
  rcases (show (tg (Int32.toNatClampNeg (te))) = 0 ∨ (tg (Int32.toNatClampNeg (te))) = 1 ∨ (tg (Int32.toNatClampNeg (te))) = 2 ∨ (tg (Int32.toNatClampNeg (te))) = 3 ∨ (tg (Int32.toNatClampNeg (te))) = 4 ∨ (tg (Int32.toNatClampNeg (te))) = 5 ∨ (tg (Int32.toNatClampNeg (te))) = 6 ∨ (tg (Int32.toNatClampNeg (te))) = 7 by grind) with h | h | h | h | h | h | h | h
  all_goals rw [h] at p1
  · obtain ⟨q1, q2, q3⟩ := p6 h
    have lt : ((nu (Int32.toNatClampNeg (te))) - 1).toNatClampNeg < 1000 := by
      have := q_clamp (show 0 ≤ (nu (Int32.toNatClampNeg (te))) - 1 by grind)
      have h3 := Int32.le_iff_toInt_le.mp (show (nu (Int32.toNatClampNeg (te))) - 1 ≤ 30 by grind)
      rw [show (30 : Int32).toInt = 30 from rfl] at h3
      omega
    obtain ⟨v, w, x1, x2, x3⟩ := q_var hS _ 1000 1000 en en' (lam (Int32.toNatClampNeg (te))) (nu (Int32.toNatClampNeg (te))) 1 en' lt lt rfl (by decide) q2 (by grind) hE
    have e1 : (atL 60 pc te).toInt32 = (nu (Int32.toNatClampNeg (te))) := by rw [q_atL60 t0 t60, q1]; simp
    refine ⟨2, te, en, v, cnt, k, c, l, r, gv, fc, fk, fp, fe, vals, fc, 2, te, en', w, cnt, K, N, B, P, A, Y, F1, F2, F3, ?_, ?_, ?_⟩
    · simp [M_Work_stepComputing, q_at60 t0 t60, p1, e1, M_Store_valueAt, x1, c1, c2, M_Work_giveBack]
    · simp [M_MO_compute, M_MO_compute_22, M_MO_compute_27, M_MO_compute_49, M_MO_compute_54, M_MO_compute_70, M_MO_compute_85, M_MO_compute_92, M_MO_compute_107, M_MO_compute_142, M_MO_compute_153, M_MO_compute_230, chk, kv, h, M_MO_variable, x2, c1, c2, M_MO_returns]
    · exact ⟨g, dp, rfl, rfl, rfl, hS, hF, q_no (by decide), fun _ => x3, by decide⟩
  · by_cases hc : cnt = 600
    · refine ⟨16, te, en, va, cnt, k, c, l, r, gv, fc, fk, fp, fe, vals, fc, 16, te, en', va', cnt, K, N, B, P, A, Y, F1, F2, F3, ?_, ?_, ?_⟩
      · simp [M_Work_stepComputing, q_at60 t0 t60, p1, M_Work_makeValue, M_Store_hasRoom, hc, c1, c8, M_Work_end]
      · simp [M_MO_compute, M_MO_compute_22, M_MO_compute_27, M_MO_compute_49, M_MO_compute_54, M_MO_compute_70, M_MO_compute_85, M_MO_compute_92, M_MO_compute_107, M_MO_compute_142, M_MO_compute_153, M_MO_compute_230, chk, kv, h, hc, c1, M_MO_end]
      · exact ⟨g, dp, rfl, rfl, rfl, hS, hF, q_no (by decide), q_no (by decide), by decide⟩
    have hc1 : cnt < 600 := by grind
    have hc2 : ¬ 600 < cnt + 1 := by grind
    obtain ⟨q1, q2, q3⟩ := p7 (by grind)
    have o0 : (4 : Int32) = 4 ∧ (0 : Int32) ≤ 4 ∧ (4 : Int32) ≤ 6 := by decide
    have o1 : (4 : Int32) ≤ 3 → q_C 4 0 0 0 := fun z => absurd z (by decide)
    have o2 : (4 : Int32) = 4 ∨ (4 : Int32) = 5 → (fi (Int32.toNatClampNeg (te))) = (fi (Int32.toNatClampNeg (te))) ∧ 0 ≤ (fi (Int32.toNatClampNeg (te))) ∧ (fi (Int32.toNatClampNeg (te))) < n := fun _ => ⟨rfl, q2, q3⟩
    have o3 : (4 : Int32) = 4 → q_E envs cnt k g dp en en' (lam (Int32.toNatClampNeg ((fi (Int32.toNatClampNeg (te)))))) := fun _ => by rw [p8 (by grind)]; exact hE
    have o4 : (4 : Int32) = 5 → q_E envs cnt k g dp en en' ((lam (Int32.toNatClampNeg ((fi (Int32.toNatClampNeg (te)))))) - 1) ∧ 1 ≤ (lam (Int32.toNatClampNeg ((fi (Int32.toNatClampNeg (te)))))) := fun z => absurd z (by decide)
    have o5 : (4 : Int32) = 6 → (0 : Int64) = (fi (Int32.toNatClampNeg (te))).toInt64 ∧ 0 ≤ (fi (Int32.toNatClampNeg (te))) ∧ (fi (Int32.toNatClampNeg (te))) ≤ 11 ∧ en' = 0 := fun z => absurd z (by decide)
    obtain ⟨g1, y1, y2, y3⟩ := q_addV (x := 4) (y := 0) (z := (fi (Int32.toNatClampNeg (te)))) (u := en) (x' := 4) (b' := 0) (y' := 0) (z' := (fi (Int32.toNatClampNeg (te)))) (u' := en') hS hc1 o0 o1 o2 o3 o4 o5
    refine ⟨2, te, en, cnt, cnt + 1, _, _, _, _, _, fc, fk, fp, fe, vals + 1, fc, 2, te, en', vals, cnt + 1, _, _, _, _, _, _, F1, F2, F3, ?_, ?_, g1, dp, rfl, rfl, rfl, y3, ?_, q_no (by decide), fun _ => ?_, by decide⟩
    · simp [M_Work_stepComputing, q_at60 t0 t60, q_atL60 t0 t60, p1, M_Work_makeValue, M_Store_hasRoom, hc2, s_Store_add s1 hc1, c1, c2, c7, c8, M_Work_giveBack, q1]
    · simp [M_MO_compute, M_MO_compute_22, M_MO_compute_27, M_MO_compute_49, M_MO_compute_54, M_MO_compute_70, M_MO_compute_85, M_MO_compute_92, M_MO_compute_107, M_MO_compute_142, M_MO_compute_153, M_MO_compute_230, chk, kv, h, hc, c1, c2, c8, s_MO_newValue s3 v7, M_MO_returns, q1]
    · exact hF.mono (by grind) (by grind) (by grind) (fun j a b => q_ne a b) y2 (fun _ _ _ => rfl)
    · refine ⟨s1, by grind, ?_, s3, by grind, y1⟩
      rw [q_eq]; grind
  · by_cases hc : cnt = 600
    · refine ⟨16, te, en, va, cnt, k, c, l, r, gv, fc, fk, fp, fe, vals, fc, 16, te, en', va', cnt, K, N, B, P, A, Y, F1, F2, F3, ?_, ?_, ?_⟩
      · simp [M_Work_stepComputing, q_at60 t0 t60, p1, M_Work_makeValue, M_Store_hasRoom, hc, c1, c8, M_Work_end]
      · simp [M_MO_compute, M_MO_compute_22, M_MO_compute_27, M_MO_compute_49, M_MO_compute_54, M_MO_compute_70, M_MO_compute_85, M_MO_compute_92, M_MO_compute_107, M_MO_compute_142, M_MO_compute_153, M_MO_compute_230, chk, kv, h, hc, c1, M_MO_end]
      · exact ⟨g, dp, rfl, rfl, rfl, hS, hF, q_no (by decide), q_no (by decide), by decide⟩
    have hc1 : cnt < 600 := by grind
    have hc2 : ¬ 600 < cnt + 1 := by grind
    obtain ⟨q1, q2, q3⟩ := p7 (by grind)
    have o0 : (5 : Int32) = 5 ∧ (0 : Int32) ≤ 5 ∧ (5 : Int32) ≤ 6 := by decide
    have o1 : (5 : Int32) ≤ 3 → q_C 5 0 0 0 := fun z => absurd z (by decide)
    have o2 : (5 : Int32) = 4 ∨ (5 : Int32) = 5 → (fi (Int32.toNatClampNeg (te))) = (fi (Int32.toNatClampNeg (te))) ∧ 0 ≤ (fi (Int32.toNatClampNeg (te))) ∧ (fi (Int32.toNatClampNeg (te))) < n := fun _ => ⟨rfl, q2, q3⟩
    have o3 : (5 : Int32) = 4 → q_E envs cnt k g dp en en' (lam (Int32.toNatClampNeg ((fi (Int32.toNatClampNeg (te)))))) := fun z => absurd z (by decide)
    have o4 : (5 : Int32) = 5 → q_E envs cnt k g dp en en' ((lam (Int32.toNatClampNeg ((fi (Int32.toNatClampNeg (te)))))) - 1) ∧ 1 ≤ (lam (Int32.toNatClampNeg ((fi (Int32.toNatClampNeg (te)))))) := fun _ => by
      rw [p9 h, show (lam (Int32.toNatClampNeg (te))) + 1 - 1 = (lam (Int32.toNatClampNeg (te))) by grind]; exact ⟨hE, by grind⟩
    have o5 : (5 : Int32) = 6 → (0 : Int64) = (fi (Int32.toNatClampNeg (te))).toInt64 ∧ 0 ≤ (fi (Int32.toNatClampNeg (te))) ∧ (fi (Int32.toNatClampNeg (te))) ≤ 11 ∧ en' = 0 := fun z => absurd z (by decide)
    obtain ⟨g1, y1, y2, y3⟩ := q_addV (x := 5) (y := 0) (z := (fi (Int32.toNatClampNeg (te)))) (u := en) (x' := 5) (b' := 0) (y' := 0) (z' := (fi (Int32.toNatClampNeg (te)))) (u' := en') hS hc1 o0 o1 o2 o3 o4 o5
    refine ⟨2, te, en, cnt, cnt + 1, _, _, _, _, _, fc, fk, fp, fe, vals + 1, fc, 2, te, en', vals, cnt + 1, _, _, _, _, _, _, F1, F2, F3, ?_, ?_, g1, dp, rfl, rfl, rfl, y3, ?_, q_no (by decide), fun _ => ?_, by decide⟩
    · simp [M_Work_stepComputing, q_at60 t0 t60, q_atL60 t0 t60, p1, M_Work_makeValue, M_Store_hasRoom, hc2, s_Store_add s1 hc1, c1, c2, c7, c8, M_Work_giveBack, q1]
    · simp [M_MO_compute, M_MO_compute_22, M_MO_compute_27, M_MO_compute_49, M_MO_compute_54, M_MO_compute_70, M_MO_compute_85, M_MO_compute_92, M_MO_compute_107, M_MO_compute_142, M_MO_compute_153, M_MO_compute_230, chk, kv, h, hc, c1, c2, c8, s_MO_newValue s3 v7, M_MO_returns, q1]
    · exact hF.mono (by grind) (by grind) (by grind) (fun j a b => q_ne a b) y2 (fun _ _ _ => rfl)
    · refine ⟨s1, by grind, ?_, s3, by grind, y1⟩
      rw [q_eq]; grind
  · by_cases hc : fc = 200
    · refine ⟨16, te, en, va, cnt, k, c, l, r, gv, fc, fk, fp, fe, vals, fc, 16, te, en', va', cnt, K, N, B, P, A, Y, F1, F2, F3, ?_, ?_, ?_⟩
      · simp [M_Work_stepComputing, q_at60 t0 t60, p1, M_Work_goInto, M_Frames_hasRoom, hc, c1, c7, M_Work_end]
      · simp [M_MO_compute, M_MO_compute_22, M_MO_compute_27, M_MO_compute_49, M_MO_compute_54, M_MO_compute_70, M_MO_compute_85, M_MO_compute_92, M_MO_compute_107, M_MO_compute_142, M_MO_compute_153, M_MO_compute_230, chk, kv, h, hc, c1, M_MO_end]
      · exact ⟨g, dp, rfl, rfl, rfl, hS, hF, q_no (by decide), q_no (by decide), by decide⟩
    have hc1 : fc < 200 := by grind
    have hc2 : ¬ 200 ≤ fc := by grind
    have hc3 : fc < 201 := by grind
    obtain ⟨q1, q2, q3⟩ := p7 (by grind)
    obtain ⟨q4, q5, q6, q7⟩ := p10 h
    refine ⟨1, (fi (Int32.toNatClampNeg (te))), en, va, cnt, k, c, l, r, gv, fc + 1, _, _, _, vals, fc + 1, 1, (fi (Int32.toNatClampNeg (te))), en', va', cnt, K, N, B, P, A, Y, _, _, _, ?_, ?_, g, dp, rfl, rfl, rfl, hS, hF.push (a := 1) (b := (se (Int32.toNatClampNeg (te)))) (d := en) (a' := 0) (b' := (se (Int32.toNatClampNeg (te)))) (d' := en') hc1 ?_, fun _ => ⟨rfl, q2, q3, by rw [p8 (by grind)]; exact hE⟩, q_no (by decide), by decide⟩
    · simp [M_Work_stepComputing, q_at60 t0 t60, p1, M_Work_goInto, M_Frames_hasRoom, M_Frames_add, chk, f1, hc1, hc2, c1, c3, c4, c7, M_Work_compute, q1, q4]
    · simp [M_MO_compute, M_MO_compute_22, M_MO_compute_27, M_MO_compute_49, M_MO_compute_54, M_MO_compute_70, M_MO_compute_85, M_MO_compute_92, M_MO_compute_107, M_MO_compute_142, M_MO_compute_153, M_MO_compute_230, chk, kv, h, hc, c3, c4, M_MO_pile, f1, hc3, M_MO_computes]
    · exact .inr (.inl ⟨rfl, rfl, rfl, q5, q6, by rw [q7]; exact hE⟩)
  · by_cases hc : cnt = 600
    · refine ⟨16, te, en, va, cnt, k, c, l, r, gv, fc, fk, fp, fe, vals, fc, 16, te, en', va', cnt, K, N, B, P, A, Y, F1, F2, F3, ?_, ?_, ?_⟩
      · simp [M_Work_stepComputing, q_at60 t0 t60, p1, M_Work_makeValue, M_Store_hasRoom, hc, c1, c8, M_Work_end]
      · simp [M_MO_compute, M_MO_compute_22, M_MO_compute_27, M_MO_compute_49, M_MO_compute_54, M_MO_compute_70, M_MO_compute_85, M_MO_compute_92, M_MO_compute_107, M_MO_compute_142, M_MO_compute_153, M_MO_compute_230, chk, kv, h, hc, c1, M_MO_end]
      · exact ⟨g, dp, rfl, rfl, rfl, hS, hF, q_no (by decide), q_no (by decide), by decide⟩
    have hc1 : cnt < 600 := by grind
    have hc2 : ¬ 600 < cnt + 1 := by grind
    obtain ⟨q1, q2, q3, q4⟩ := p11 h
    have o0 : (sb (Int32.toNatClampNeg (te))) = (sb (Int32.toNatClampNeg (te))) ∧ (0 : Int32) ≤ (sb (Int32.toNatClampNeg (te))) ∧ (sb (Int32.toNatClampNeg (te))) ≤ 6 := ⟨rfl, q2, by grind⟩
    have o2 : (sb (Int32.toNatClampNeg (te))) = 4 ∨ (sb (Int32.toNatClampNeg (te))) = 5 → (0 : Int32) = -1 ∧ (0 : Int32) ≤ -1 ∧ (-1 : Int32) < n := fun z => by grind
    have o3 : (sb (Int32.toNatClampNeg (te))) = 4 → q_E envs cnt k g dp (-1) 0 (lam (Int32.toNatClampNeg ((-1 : Int32)))) := fun z => by grind
    have o4 : (sb (Int32.toNatClampNeg (te))) = 5 → q_E envs cnt k g dp (-1) 0 ((lam (Int32.toNatClampNeg ((-1 : Int32)))) - 1) ∧ 1 ≤ (lam (Int32.toNatClampNeg ((-1 : Int32)))) := fun z => by grind
    have o5 : (sb (Int32.toNatClampNeg (te))) = 6 → (pc (Int32.toNatClampNeg (te))) = (0 : Int32).toInt64 ∧ (0 : Int32) ≤ 0 ∧ (0 : Int32) ≤ 11 ∧ (0 : Int32) = 0 := fun z => by grind
    by_cases hb : (sb (Int32.toNatClampNeg (te))) = 3
    · have ob : (3 : Int32) = (sb (Int32.toNatClampNeg (te))) ∧ (0 : Int32) ≤ (sb (Int32.toNatClampNeg (te))) ∧ (sb (Int32.toNatClampNeg (te))) ≤ 6 := ⟨hb.symm, q2, by grind⟩
      have o1 : (sb (Int32.toNatClampNeg (te))) ≤ 3 → q_C (sb (Int32.toNatClampNeg (te))) (nu (Int32.toNatClampNeg (te))) (pc (Int32.toNatClampNeg (te))) (ch (Int32.toNatClampNeg (te))) := fun _ => q4
      obtain ⟨g1, y1, y2, y3⟩ := q_addV (x := (sb (Int32.toNatClampNeg (te)))) (y := (pc (Int32.toNatClampNeg (te)))) (z := -1) (u := -1) (x' := 3) (b' := (ch (Int32.toNatClampNeg (te)))) (y' := (nu (Int32.toNatClampNeg (te)))) (z' := 0) (u' := 0) hS hc1 ob o1 o2 o3 o4 o5
      refine ⟨2, te, en, cnt, cnt + 1, _, _, _, _, _, fc, fk, fp, fe, vals + 1, fc, 2, te, en', vals, cnt + 1, _, _, _, _, _, _, F1, F2, F3, ?_, ?_, g1, dp, rfl, rfl, rfl, y3, ?_, q_no (by decide), fun _ => ?_, by decide⟩
      · simp [M_Work_stepComputing, q_at60 t0 t60, q_atL60 t0 t60, p1, M_Work_makeValue, M_Store_hasRoom, hc2, s_Store_add s1 hc1, c1, c2, c7, c8, M_Work_giveBack, q1]
      · simp [M_MO_compute, M_MO_compute_22, M_MO_compute_27, M_MO_compute_49, M_MO_compute_54, M_MO_compute_70, M_MO_compute_85, M_MO_compute_92, M_MO_compute_107, M_MO_compute_142, M_MO_compute_153, M_MO_compute_230, chk, kv, h, hc, c1, c2, c8, s_MO_newBytes s3 v7, hb, M_MO_returns, q1]
      · exact hF.mono (by grind) (by grind) (by grind) (fun j a b => q_ne a b) y2 (fun _ _ _ => rfl)
      · refine ⟨s1, by grind, ?_, s3, by grind, y1⟩
        rw [q_eq]; grind
    · have o1 : (sb (Int32.toNatClampNeg (te))) ≤ 3 → q_C (sb (Int32.toNatClampNeg (te))) (nu (Int32.toNatClampNeg (te))) (pc (Int32.toNatClampNeg (te))) 0 := fun _ => by
        rcases q4 with h | h | h | h
        · exact .inl h
        · exact .inr (.inl h)
        · exact .inr (.inr (.inl h))
        · exact absurd h.1 hb
      obtain ⟨g1, y1, y2, y3⟩ := q_addV (x := (sb (Int32.toNatClampNeg (te)))) (y := (pc (Int32.toNatClampNeg (te)))) (z := -1) (u := -1) (x' := (sb (Int32.toNatClampNeg (te)))) (b' := 0) (y' := (nu (Int32.toNatClampNeg (te)))) (z' := 0) (u' := 0) hS hc1 o0 o1 o2 o3 o4 o5
      refine ⟨2, te, en, cnt, cnt + 1, _, _, _, _, _, fc, fk, fp, fe, vals + 1, fc, 2, te, en', vals, cnt + 1, _, _, _, _, _, _, F1, F2, F3, ?_, ?_, g1, dp, rfl, rfl, rfl, y3, ?_, q_no (by decide), fun _ => ?_, by decide⟩
      · simp [M_Work_stepComputing, q_at60 t0 t60, q_atL60 t0 t60, p1, M_Work_makeValue, M_Store_hasRoom, hc2, s_Store_add s1 hc1, c1, c2, c7, c8, M_Work_giveBack, q1]
      · simp [M_MO_compute, M_MO_compute_22, M_MO_compute_27, M_MO_compute_49, M_MO_compute_54, M_MO_compute_70, M_MO_compute_85, M_MO_compute_92, M_MO_compute_107, M_MO_compute_142, M_MO_compute_153, M_MO_compute_230, chk, kv, h, hc, c1, c2, c8, s_MO_newValue s3 v7, hb, M_MO_returns, q1]
      · exact hF.mono (by grind) (by grind) (by grind) (fun j a b => q_ne a b) y2 (fun _ _ _ => rfl)
      · refine ⟨s1, by grind, ?_, s3, by grind, y1⟩
        rw [q_eq]; grind
  · by_cases hc : fc = 200
    · refine ⟨16, te, en, va, cnt, k, c, l, r, gv, fc, fk, fp, fe, vals, fc, 16, te, en', va', cnt, K, N, B, P, A, Y, F1, F2, F3, ?_, ?_, ?_⟩
      · simp [M_Work_stepComputing, q_at60 t0 t60, p1, M_Work_goInto, M_Frames_hasRoom, hc, c1, c7, M_Work_end]
      · simp [M_MO_compute, M_MO_compute_22, M_MO_compute_27, M_MO_compute_49, M_MO_compute_54, M_MO_compute_70, M_MO_compute_85, M_MO_compute_92, M_MO_compute_107, M_MO_compute_142, M_MO_compute_153, M_MO_compute_230, chk, kv, h, hc, c1, M_MO_end]
      · exact ⟨g, dp, rfl, rfl, rfl, hS, hF, q_no (by decide), q_no (by decide), by decide⟩
    have hc1 : fc < 200 := by grind
    have hc2 : ¬ 200 ≤ fc := by grind
    have hc3 : fc < 201 := by grind
    obtain ⟨q1, q2, q3⟩ := p7 (by grind)
    refine ⟨1, (fi (Int32.toNatClampNeg (te))), en, va, cnt, k, c, l, r, gv, fc + 1, _, _, _, vals, fc + 1, 1, (fi (Int32.toNatClampNeg (te))), en', va', cnt, K, N, B, P, A, Y, _, _, _, ?_, ?_, g, dp, rfl, rfl, rfl, hS, hF.push (a := 0) (b := -1) (d := en) (a' := 1) (b' := 0) (d' := 0) hc1 ?_, fun _ => ⟨rfl, q2, q3, by rw [p8 (by grind)]; exact hE⟩, q_no (by decide), by decide⟩
    · simp [M_Work_stepComputing, q_at60 t0 t60, p1, M_Work_goInto, M_Frames_hasRoom, M_Frames_add, chk, f1, hc1, hc2, c1, c3, c4, c7, M_Work_compute, q1]
    · simp [M_MO_compute, M_MO_compute_22, M_MO_compute_27, M_MO_compute_49, M_MO_compute_54, M_MO_compute_70, M_MO_compute_85, M_MO_compute_92, M_MO_compute_107, M_MO_compute_142, M_MO_compute_153, M_MO_compute_230, chk, kv, h, hc, c3, c4, M_MO_pile, f1, hc3, M_MO_computes]
    · exact .inl ⟨rfl, rfl⟩
  · refine ⟨12, te, en, va, cnt, k, c, l, r, gv, fc, fk, fp, fe, vals, fc, 12, te, en', va', cnt, K, N, B, P, A, Y, F1, F2, F3, ?_, ?_, ?_⟩
    · simp [M_Work_stepComputing, q_at60 t0 t60, p1, c1, M_Work_end]
    · simp [M_MO_compute, M_MO_compute_22, M_MO_compute_27, M_MO_compute_49, M_MO_compute_54, M_MO_compute_70, M_MO_compute_85, M_MO_compute_92, M_MO_compute_107, M_MO_compute_142, M_MO_compute_153, M_MO_compute_230, chk, kv, h, c1, M_MO_end]
    · exact ⟨g, dp, rfl, rfl, rfl, hS, hF, q_no (by decide), q_no (by decide), by decide⟩
  · by_cases hc : cnt = 600
    · refine ⟨16, te, en, va, cnt, k, c, l, r, gv, fc, fk, fp, fe, vals, fc, 16, te, en', va', cnt, K, N, B, P, A, Y, F1, F2, F3, ?_, ?_, ?_⟩
      · simp [M_Work_stepComputing, q_at60 t0 t60, p1, M_Work_makeValue, M_Store_hasRoom, hc, c1, c8, M_Work_end]
      · simp [M_MO_compute, M_MO_compute_22, M_MO_compute_27, M_MO_compute_49, M_MO_compute_54, M_MO_compute_70, M_MO_compute_85, M_MO_compute_92, M_MO_compute_107, M_MO_compute_142, M_MO_compute_153, M_MO_compute_230, chk, kv, h, hc, c1, M_MO_end]
      · exact ⟨g, dp, rfl, rfl, rfl, hS, hF, q_no (by decide), q_no (by decide), by decide⟩
    have hc1 : cnt < 600 := by grind
    have hc2 : ¬ 600 < cnt + 1 := by grind
    obtain ⟨q1, q2, q3⟩ := p12 h
    have o0 : (6 : Int32) = 6 ∧ (0 : Int32) ≤ 6 ∧ (6 : Int32) ≤ 6 := by decide
    have o1 : (6 : Int32) ≤ 3 → q_C 6 0 (pc (Int32.toNatClampNeg (te))) 0 := fun z => absurd z (by decide)
    have o2 : (6 : Int32) = 4 ∨ (6 : Int32) = 5 → (nu (Int32.toNatClampNeg (te))) = -1 ∧ (0 : Int32) ≤ -1 ∧ (-1 : Int32) < n := fun z => absurd z (by decide)
    have o3 : (6 : Int32) = 4 → q_E envs cnt k g dp (-1) 0 (lam (Int32.toNatClampNeg ((-1 : Int32)))) := fun z => absurd z (by decide)
    have o4 : (6 : Int32) = 5 → q_E envs cnt k g dp (-1) 0 ((lam (Int32.toNatClampNeg ((-1 : Int32)))) - 1) ∧ 1 ≤ (lam (Int32.toNatClampNeg ((-1 : Int32)))) := fun z => absurd z (by decide)
    have o5 : (6 : Int32) = 6 → (pc (Int32.toNatClampNeg (te))) = (nu (Int32.toNatClampNeg (te))).toInt64 ∧ 0 ≤ (nu (Int32.toNatClampNeg (te))) ∧ (nu (Int32.toNatClampNeg (te))) ≤ 11 ∧ (0 : Int32) = 0 := fun _ => ⟨q1, q2, q3, rfl⟩
    obtain ⟨g1, y1, y2, y3⟩ := q_addV (x := 6) (y := (pc (Int32.toNatClampNeg (te)))) (z := -1) (u := -1) (x' := 6) (b' := 0) (y' := 0) (z' := (nu (Int32.toNatClampNeg (te)))) (u' := 0) hS hc1 o0 o1 o2 o3 o4 o5
    refine ⟨2, te, en, cnt, cnt + 1, _, _, _, _, _, fc, fk, fp, fe, vals + 1, fc, 2, te, en', vals, cnt + 1, _, _, _, _, _, _, F1, F2, F3, ?_, ?_, g1, dp, rfl, rfl, rfl, y3, ?_, q_no (by decide), fun _ => ?_, by decide⟩
    · simp [M_Work_stepComputing, q_at60 t0 t60, q_atL60 t0 t60, p1, M_Work_makeValue, M_Store_hasRoom, hc2, s_Store_add s1 hc1, c1, c2, c7, c8, M_Work_giveBack]
    · simp [M_MO_compute, M_MO_compute_22, M_MO_compute_27, M_MO_compute_49, M_MO_compute_54, M_MO_compute_70, M_MO_compute_85, M_MO_compute_92, M_MO_compute_107, M_MO_compute_142, M_MO_compute_153, M_MO_compute_230, chk, kv, h, hc, c1, c2, c8, s_MO_newValue s3 v7, M_MO_returns]
    · exact hF.mono (by grind) (by grind) (by grind) (fun j a b => q_ne a b) y2 (fun _ _ _ => rfl)
    · refine ⟨s1, by grind, ?_, s3, by grind, y1⟩
      rw [q_eq]; grind
