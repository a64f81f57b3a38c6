theorem q_ret {n : Int32} {lam pk pf ps : Nat → Int32} {pc : Nat → Int64} {tg sb nu : Nat → Int32} {ch : Nat → Int64} {fi se : Nat → Int32} {te en va cnt : Int32} {k : Nat → Int32} {c : Nat → Int64} {l r gv : Nat → Int32} {fc : Int32} {fk fp fe : Nat → Int32} {vals envs frs st' te' en' va' made : Int32} {K N : Nat → Int32} {B : Nat → Int64} {P A Y G H O F1 F2 F3 : Nat → Int32} {tells waiting : Int32} {told what wher insi : Nat → Int32}
    (hP : q_P n lam pk pf ps pc tg sb nu ch fi se) (hM : q_M n lam 2 te en va cnt k c l r gv fc fk fp fe vals envs frs st' te' en' va' made K N B P A Y G H O F1 F2 F3) (hf : 0 < fc)
    (hop : ¬ ((F1 (Int32.toNatClampNeg (fc - 1))) = 2 ∧ (K (Int32.toNatClampNeg ((F2 (Int32.toNatClampNeg (fc - 1)))))) = 6 ∧ (A (Int32.toNatClampNeg ((F2 (Int32.toNatClampNeg (fc - 1)))))) = q_fo (P (Int32.toNatClampNeg ((F2 (Int32.toNatClampNeg (fc - 1)))))) ∧ (Y (Int32.toNatClampNeg ((F2 (Int32.toNatClampNeg (fc - 1)))))) + 1 = q_ar (P (Int32.toNatClampNeg ((F2 (Int32.toNatClampNeg (fc - 1)))))))) :
    ∃ st1 te1 en1 va1 cnt1 k1 c1' l1 r1 gv1 fc1 fk1 fp1 fe1 vals1 envs1 frs1 st2 te2 en2 va2 made1 K1 N1 B1 P1 A1 Y1 G1 H1 O1 F11 F21 F31,
      M_Work_stepReturning 2 te en va cnt k c l r gv fc fk fp fe = some (st1, te1, en1, va1, cnt1, k1, c1', l1, r1, gv1, fc1, fk1, fp1, fe1) ∧
      M_MO_back vals envs frs st' te' en' va' made tells waiting tg sb nu ch fi se K N B P A Y G H O F1 F2 F3 told what wher insi = some (vals1, envs1, frs1, st2, te2, en2, va2, made1, tells, waiting, K1, N1, B1, P1, A1, Y1, G1, H1, O1, F11, F21, F31, told, what, wher, insi) ∧
      q_M n lam st1 te1 en1 va1 cnt1 k1 c1' l1 r1 gv1 fc1 fk1 fp1 fe1 vals1 envs1 frs1 st2 te2 en2 va2 made1 K1 N1 B1 P1 A1 Y1 G1 H1 O1 F11 F21 F31 := by
  obtain ⟨g, dp, rfl, rfl, rfl, hS, hF, -, h2, -⟩ := hM
  have hV := h2 rfl
  obtain ⟨n0, n1, l0, hT⟩ := hP
  obtain ⟨s1, s2, s3, s4, s5, s6, s7⟩ := id hS
  obtain ⟨f1, f2, f3⟩ := id hF
  have j0 : 0 ≤ fc - 1 := by grind
  have j1 : fc - 1 < fc := by grind
  have j2 : fc - 1 < 200 := by grind
  have j3 : fc - 1 < 201 := by grind
  have j4 : fc - 1 ≤ fc := by grind
  have hd : ¬ fc ≤ 0 := by grind
  have hz : ¬ fc = 0 := by grind
  have v7 : vals < 700 := by grind
  have e7 : envs < 700 := by grind
  have hF' := hF.less j0 j4
  obtain ⟨hI, hK, k0, k6, v6, w6⟩ := q_pt hS hV
  have va0 := hV.1
  have vb0 := hV.2.2.2.1
  have vb7 : va' < 700 := by grind
  have c600 : ∀ x : Int32, x ≤ 600 → (¬ 600 < x + 1 ↔ x ≠ 600) := fun x h => by grind
  rcases f3 (fc - 1) j0 j1 with ⟨hk1, hk2⟩ | ⟨hk1, hk2, hp1, p0, p1, hE⟩ | ⟨hk1, hk2, hU⟩
  · have hp1 : True := trivial
    by_cases h4 : (k (Int32.toNatClampNeg (va))) = 4
    · obtain ⟨x1, x2, x3⟩ := hI.2.2.2.1 (.inl h4)
      refine ⟨1, (l (Int32.toNatClampNeg (va))), (r (Int32.toNatClampNeg (va))), va, cnt, k, c, l, r, gv, fc - 1, fk, fp, fe, vals, envs, fc - 1, 1, (P (Int32.toNatClampNeg (va'))), (A (Int32.toNatClampNeg (va'))), va', cnt, K, N, B, P, A, Y, G, H, O, F1, F2, F3, ?_, ?_, g, dp, rfl, rfl, rfl, hS, hF', fun _ => ⟨x1.symm, x2, x3, (hI.2.2.2.2.1 h4).mono (cnt1 := cnt) (envs1 := envs) Int32.le_rfl (Int32.le_of_lt hV.2.1) (fun _ _ _ => rfl) (fun _ _ _ => rfl) (fun _ _ _ => rfl)⟩, q_no (by decide), by decide⟩
      · simp [M_Work_stepReturning, M_Frames_latestKind, M_Frames_latestPart, M_Frames_latestEnvironment, q_at200 j0 j2, hk1, hp1, M_Frames_drop, hd, M_Work_forceValue, q_at600 va0 v6, h4, c1, c3, c11, M_Work_compute]
      · simp [M_MO_back, chk, hz, j0, j3, hk2, M_MO_forces, M_MO_forces_15, M_MO_forces_45, hK, h4, vb0, vb7, c3, c14, M_MO_computes]
    · by_cases hw : (k (Int32.toNatClampNeg (va))) = 6 ∧ (A (Int32.toNatClampNeg (va'))) < q_fo (P (Int32.toNatClampNeg (va')))
      · have w1 := (s_wF hS hV).1
        have w2 := (s_wF hS hV).2
        rw [if_pos hw] at w1 w2
        by_cases hc : cnt = 600
        · refine ⟨16, te, en, va, cnt, k, c, l, r, gv, fc, fk, fp, fe, vals, envs, fc, 16, te', en', va', cnt, K, N, B, P, A, Y, G, H, O, F1, F2, F3, ?_, ?_, g, dp, rfl, rfl, rfl, hS, hF, q_no (by decide), q_no (by decide), by decide⟩
          · simp [M_Work_stepReturning, M_Frames_latestKind, M_Frames_latestPart, M_Frames_latestEnvironment, q_at200 j0 j2, hk1, hp1, M_Frames_drop, hd, M_Work_forceValue, q_at600 va0 v6, h4, w1, M_Work_growPartial, M_Store_hasRoom, hc, c1, c9, c11, M_Work_end]
          · simp [M_MO_back, chk, hz, j0, j3, hk2, M_MO_forces, M_MO_forces_15, M_MO_forces_45, hK, h4, w2, vb0, vb7, hc, c1, c14, M_MO_end]
        · have hc1 : cnt < 600 := by grind
          have hc2 : ¬ 600 < cnt + 1 := by grind
          obtain ⟨g1, K1, N1, B1, P1, A1, Y1, G1, y1, y2, y3, y4⟩ := q_growF hS hc1 hV hw.1 hw.2
          refine ⟨2, te, en, cnt, cnt + 1, _, _, _, _, _, fc - 1, fk, fp, fe, vals + 1, envs, fc - 1, 2, te', en', vals, cnt + 1, K1, N1, B1, P1, A1, Y1, G1, H, O, F1, F2, F3, ?_, ?_, g1, dp, rfl, rfl, rfl, y4, hF'.mono (by grind) (by grind) (by grind) (fun j a b => q_ne a b) y2 (fun _ _ _ => rfl), q_no (by decide), fun _ => ⟨s1, by grind, by rw [q_eq]; decide, s3, by grind, y1⟩, by decide⟩
          · simp [M_Work_stepReturning, M_Frames_latestKind, M_Frames_latestPart, M_Frames_latestEnvironment, q_at200 j0 j2, hk1, hp1, M_Frames_drop, hd, M_Work_forceValue, q_at600 va0 v6, h4, w1, M_Work_growPartial, M_Store_hasRoom, hc2, s_addGrown s1 hc1 va0 hV.2.1, c1, c2, c7, c9, c11, M_Work_giveBack]
          · simp [M_MO_back, chk, hz, j0, j3, hk2, M_MO_forces, M_MO_forces_15, M_MO_forces_45, hK, h4, w2, vb0, vb7, hc, y3, c1, c2, c9, c14, M_MO_returns]
      · have w1 := (s_wF hS hV).1
        have w2 := (s_wF hS hV).2
        rw [if_neg hw] at w1 w2
        refine ⟨13, te, en, va, cnt, k, c, l, r, gv, fc - 1, fk, fp, fe, vals, envs, fc - 1, 13, te', en', va', cnt, K, N, B, P, A, Y, G, H, O, F1, F2, F3, ?_, ?_, g, dp, rfl, rfl, rfl, hS, hF', q_no (by decide), q_no (by decide), by decide⟩
        · simp [M_Work_stepReturning, M_Frames_latestKind, M_Frames_latestPart, M_Frames_latestEnvironment, q_at200 j0 j2, hk1, hp1, M_Frames_drop, hd, M_Work_forceValue, q_at600 va0 v6, h4, w1, M_Work_endUnfit, c1, c2, c11, M_Work_end]
        · simp [M_MO_back, chk, hz, j0, j3, hk2, M_MO_forces, M_MO_forces_15, M_MO_forces_45, hK, h4, w2, vb0, vb7, c1, c14, M_MO_end]
  · have hpush := hF'.push (a := 2) (b := va) (d := -1) (a' := 2) (b' := va') (d' := 0) j2 (.inr (.inr ⟨rfl, rfl, hV⟩))
    have ef : fc - 1 + 1 = fc := by grind
    have hd2 : ¬ 200 ≤ fc - 1 := by grind
    rw [ef] at hpush
    refine ⟨1, (F2 (Int32.toNatClampNeg (fc - 1))), (fe (Int32.toNatClampNeg (fc - 1))), va, cnt, k, c, l, r, gv, fc, _, _, _, vals, envs, fc, 1, (F2 (Int32.toNatClampNeg (fc - 1))), (F3 (Int32.toNatClampNeg (fc - 1))), va', cnt, K, N, B, P, A, Y, G, H, O, _, _, _, ?_, ?_, g, dp, rfl, rfl, rfl, hS, hpush, fun _ => ⟨rfl, p0, p1, hE⟩, q_no (by decide), by decide⟩
    · simp [M_Work_stepReturning, M_Frames_latestKind, M_Frames_latestPart, M_Frames_latestEnvironment, q_at200 j0 j2, hk1, hp1, M_Frames_drop, hd, M_Work_turnToArgument, M_Frames_add, chk, j0, j2, hd2, ef, c1, c3, c4, c7, M_Work_compute]
    · simp [M_MO_back, chk, hz, j0, j3, hk2, M_MO_pile, ef, c3, c4, M_MO_computes]
  · have hp1 : True := trivial
    obtain ⟨hI2, hK2, m0, m6, u6, x6⟩ := q_pt hS hU
    have u0 := hU.1
    have x0 := hU.2.2.2.1
    have x7 : (F2 (Int32.toNatClampNeg (fc - 1))) < 700 := by grind
    by_cases h5 : (k (Int32.toNatClampNeg ((fp (Int32.toNatClampNeg (fc - 1)))))) = 5
    · obtain ⟨x1, x2, x3⟩ := hI2.2.2.2.1 (.inr h5)
      obtain ⟨hE, l1⟩ := hI2.2.2.2.2.2.1 h5
      by_cases hc : cnt = 600
      · refine ⟨16, te, en, va, cnt, k, c, l, r, gv, fc, fk, fp, fe, vals, envs, fc, 16, te', en', va', cnt, K, N, B, P, A, Y, G, H, O, F1, F2, F3, ?_, ?_, g, dp, rfl, rfl, rfl, hS, hF, q_no (by decide), q_no (by decide), by decide⟩
        · simp [M_Work_stepReturning, M_Frames_latestKind, M_Frames_latestPart, M_Frames_latestEnvironment, q_at200 j0 j2, hk1, hp1, M_Frames_drop, hd, M_Work_applyFunction, q_at600 u0 u6, h5, M_Work_enterFunction, M_Store_hasRoom, hc, c1, c10, c11, M_Work_end]
        · simp [M_MO_back, chk, hz, j0, j3, hk2, M_MO_applies, M_MO_applies_15, M_MO_applies_44, M_MO_applies_72, M_MO_applies_73, M_MO_applies_93, M_MO_applies_94, M_MO_applies_127, M_MO_applies_128, hK2, h5, x0, x7, hc, c1, c17, M_MO_end]
      · have hc1 : cnt < 600 := by grind
        have hc2 : ¬ 600 < cnt + 1 := by grind
        have hc3 : cnt + 1 ≤ 600 := by grind
        have lb := (hT _ x2 x3).2.2.2.2.1
        have ee : envs + 1 - 1 = envs := by grind
        obtain ⟨g1, dp1, y1, y2, y3, y4, y5⟩ := q_addL hS hc1 hV (hE.mono (cnt1 := cnt) (envs1 := envs) Int32.le_rfl (Int32.le_of_lt hU.2.1) (fun _ _ _ => rfl) (fun _ _ _ => rfl) (fun _ _ _ => rfl)) (by grind) (by grind)
        refine ⟨1, (l (Int32.toNatClampNeg ((fp (Int32.toNatClampNeg (fc - 1)))))), cnt, va, cnt + 1, _, _, _, _, _, fc - 1, fk, fp, fe, vals, envs + 1, fc - 1, 1, (P (Int32.toNatClampNeg ((F2 (Int32.toNatClampNeg (fc - 1)))))), envs, va', cnt + 1, K, N, B, P, A, Y, G, _, _, F1, F2, F3, ?_, ?_, g1, dp1, rfl, rfl, rfl, y5, hF'.mono (by grind) (by grind) (by grind) (fun j a b => q_ne a b) y3 y4, fun _ => ⟨x1.symm, x2, x3, .inr ⟨s1, by grind, q_eq, s5, by grind, y1, by rw [y2]; grind⟩⟩, q_no (by decide), by decide⟩
        · simp [M_Work_stepReturning, M_Frames_latestKind, M_Frames_latestPart, M_Frames_latestEnvironment, q_at200 j0 j2, hk1, hp1, M_Frames_drop, hd, M_Work_applyFunction, q_at600 u0 u6, h5, M_Work_enterFunction, M_Store_hasRoom, hc2, s_Store_add s1 hc1, q_ne u0 hU.2.1, c1, c3, c7, c10, c11, M_Work_compute]
        · simp [M_MO_back, chk, hz, j0, j3, hk2, M_MO_applies, M_MO_applies_15, M_MO_applies_44, M_MO_applies_72, M_MO_applies_73, M_MO_applies_93, M_MO_applies_94, M_MO_applies_127, M_MO_applies_128, hK2, h5, x0, x7, hc3, s5, e7, ee, c1, c3, c17, M_MO_computes]
    · by_cases hw : (k (Int32.toNatClampNeg ((fp (Int32.toNatClampNeg (fc - 1)))))) = 6 ∧ (A (Int32.toNatClampNeg ((F2 (Int32.toNatClampNeg (fc - 1)))))) = q_fo (P (Int32.toNatClampNeg ((F2 (Int32.toNatClampNeg (fc - 1))))))
      · have w1 := (s_wA hS hU).1
        have w2 := (s_wA hS hU).2
        rw [if_pos hw] at w1 w2
        have hy : ¬ (Y (Int32.toNatClampNeg ((F2 (Int32.toNatClampNeg (fc - 1)))))) + 1 = q_ar (P (Int32.toNatClampNeg ((F2 (Int32.toNatClampNeg (fc - 1)))))) := fun h => hop ⟨hk2, by rw [hK2]; exact hw.1, hw.2, h⟩
        by_cases hc : cnt = 600
        · refine ⟨16, te, en, va, cnt, k, c, l, r, gv, fc, fk, fp, fe, vals, envs, fc, 16, te', en', va', cnt, K, N, B, P, A, Y, G, H, O, F1, F2, F3, ?_, ?_, g, dp, rfl, rfl, rfl, hS, hF, q_no (by decide), q_no (by decide), by decide⟩
          · simp [M_Work_stepReturning, M_Frames_latestKind, M_Frames_latestPart, M_Frames_latestEnvironment, q_at200 j0 j2, hk1, hp1, M_Frames_drop, hd, M_Work_applyFunction, q_at600 u0 u6, h5, w1, M_Work_growPartial, M_Store_hasRoom, hc, c1, c9, c11, M_Work_end]
          · simp [M_MO_back, chk, hz, j0, j3, hk2, M_MO_applies, M_MO_applies_15, M_MO_applies_44, M_MO_applies_72, M_MO_applies_73, M_MO_applies_93, M_MO_applies_94, M_MO_applies_127, M_MO_applies_128, hK2, h5, w2, s_argumentsOf, hy, x0, x7, hc, c1, c17, M_MO_end]
        · have hc1 : cnt < 600 := by grind
          have hc2 : ¬ 600 < cnt + 1 := by grind
          have hc3 : cnt + 1 ≤ 600 := by grind
          obtain ⟨g1, K1, N1, B1, P1, A1, Y1, G1, y1, y2, y3, y4⟩ := q_growA hS hc1 hU hw.1 hw.2 hy hV
          refine ⟨2, te, en, cnt, cnt + 1, _, _, _, _, _, fc - 1, fk, fp, fe, vals + 1, envs, fc - 1, 2, te', en', vals, cnt + 1, K1, N1, B1, P1, A1, Y1, G1, H, O, F1, F2, F3, ?_, ?_, g1, dp, rfl, rfl, rfl, y4, hF'.mono (by grind) (by grind) (by grind) (fun j a b => q_ne a b) y2 (fun _ _ _ => rfl), q_no (by decide), fun _ => ⟨s1, by grind, by rw [q_eq]; decide, s3, by grind, y1⟩, by decide⟩
          · simp [M_Work_stepReturning, M_Frames_latestKind, M_Frames_latestPart, M_Frames_latestEnvironment, q_at200 j0 j2, hk1, hp1, M_Frames_drop, hd, M_Work_applyFunction, q_at600 u0 u6, h5, w1, M_Work_growPartial, M_Store_hasRoom, hc2, s_addGrown s1 hc1 u0 hU.2.1, c1, c2, c7, c9, c11, M_Work_giveBack]
          · simp [M_MO_back, chk, hz, j0, j3, hk2, M_MO_applies, M_MO_applies_15, M_MO_applies_44, M_MO_applies_72, M_MO_applies_73, M_MO_applies_93, M_MO_applies_94, M_MO_applies_127, M_MO_applies_128, hK2, h5, w2, s_argumentsOf, hy, x0, x7, hc3, y3, c1, c2, c9, c17, M_MO_returns]
      · have w1 := (s_wA hS hU).1
        have w2 := (s_wA hS hU).2
        rw [if_neg hw] at w1 w2
        refine ⟨13, te, en, va, cnt, k, c, l, r, gv, fc - 1, fk, fp, fe, vals, envs, fc - 1, 13, te', en', va', cnt, K, N, B, P, A, Y, G, H, O, F1, F2, F3, ?_, ?_, g, dp, rfl, rfl, rfl, hS, hF', q_no (by decide), q_no (by decide), by decide⟩
        · simp [M_Work_stepReturning, M_Frames_latestKind, M_Frames_latestPart, M_Frames_latestEnvironment, q_at200 j0 j2, hk1, hp1, M_Frames_drop, hd, M_Work_applyFunction, q_at600 u0 u6, h5, w1, M_Work_endUnfit, c1, c2, c11, M_Work_end]
        · simp [M_MO_back, chk, hz, j0, j3, hk2, M_MO_applies, M_MO_applies_15, M_MO_applies_44, M_MO_applies_72, M_MO_applies_73, M_MO_applies_93, M_MO_applies_94, M_MO_applies_127, M_MO_applies_128, hK2, h5, w2, x0, x7, c1, c17, M_MO_end]
