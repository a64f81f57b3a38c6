theorem q_oper {n : Int32} {lam pk pf ps : Nat → Int32} {pc : Nat → Int64} {tg sb nu : Nat → Int32} {ch : Nat → Int64} {fi se : Nat → Int32} {te en va cnt : Int32} {k : Nat → Int32} {c : Nat → Int64} {l r gv : Nat → Int32} {fc : Int32} {fk fp fe : Nat → Int32} {vals envs frs st' te' en' va' made : Int32} {K N : Nat → Int32} {B : Nat → Int64} {P A Y G H O F1 F2 F3 : Nat → Int32} {tells waiting : Int32} {told what wher insi : Nat → Int32} {a0 a1 a2 x0 x1 x2 fl0 cs0 kd0 : Int32} {ct0 : Int64} {ag : Nat → Int32}
    (hM : q_M n lam 2 te en va cnt k c l r gv fc fk fp fe vals envs frs st' te' en' va' made K N B P A Y G H O F1 F2 F3) (hf : 0 < fc)
    (hop : (F1 (Int32.toNatClampNeg (fc - 1))) = 2 ∧ (K (Int32.toNatClampNeg ((F2 (Int32.toNatClampNeg (fc - 1)))))) = 6 ∧ (A (Int32.toNatClampNeg ((F2 (Int32.toNatClampNeg (fc - 1)))))) = q_fo (P (Int32.toNatClampNeg ((F2 (Int32.toNatClampNeg (fc - 1)))))) ∧ (Y (Int32.toNatClampNeg ((F2 (Int32.toNatClampNeg (fc - 1)))))) + 1 = q_ar (P (Int32.toNatClampNeg ((F2 (Int32.toNatClampNeg (fc - 1)))))))
    (hA : ∃ g : Nat → Int32, (∃ dp, q_S n lam cnt k c l r gv g dp vals envs K N B P A Y G H O ∧ q_F n lam cnt vals envs k g dp fc fk fp fe F1 F2 F3) ∧ q_V vals cnt k g va va' ∧ q_V vals cnt k g a0 x0 ∧ q_V vals cnt k g a1 x1 ∧ q_V vals cnt k g a2 x2)
    (y0 : ag 0 = a0) (y1 : q_ar (P (Int32.toNatClampNeg ((F2 (Int32.toNatClampNeg (fc - 1)))))) ≠ 1 → ag 1 = a1) (y2 : q_ar (P (Int32.toNatClampNeg ((F2 (Int32.toNatClampNeg (fc - 1)))))) = 3 → ag 2 = a2)
    (g0 : M_MO_argument Y G (F2 (Int32.toNatClampNeg (fc - 1))) va' 0 = some x0) (g1 : M_MO_argument Y G (F2 (Int32.toNatClampNeg (fc - 1))) va' 1 = some x1) (g2 : M_MO_argument Y G (F2 (Int32.toNatClampNeg (fc - 1))) va' 2 = some x2) :
    ∃ st1 va1 cnt1 k1 c1' l1 r1 gv1 fc1 fl cs kd ct vals1 frs1 st2 va2 made1 K1 N1 B1 P1 A1 Y1,
      M_Work_stepOperating 2 va cnt k c l r gv fc fp (P (Int32.toNatClampNeg ((F2 (Int32.toNatClampNeg (fc - 1)))))) (q_ar (P (Int32.toNatClampNeg ((F2 (Int32.toNatClampNeg (fc - 1))))))) fl0 cs0 kd0 ct0 ag = some (st1, va1, cnt1, k1, c1', l1, r1, gv1, fc1, fl, cs, kd, ct) ∧
      M_MO_back vals envs frs st' te' en' va' made tells waiting tg sb nu ch fi se K N B P A Y G H O F1 F2 F3 told what wher insi = some (vals1, envs, frs1, st2, te', en', va2, made1, tells, waiting, K1, N1, B1, P1, A1, Y1, G, H, O, F1, F2, F3, told, what, wher, insi) ∧
      q_M n lam st1 te en va1 cnt1 k1 c1' l1 r1 gv1 fc1 fk fp fe vals1 envs frs1 st2 te' en' va2 made1 K1 N1 B1 P1 A1 Y1 G H O F1 F2 F3 := by
  obtain ⟨-, -, rfl, rfl, rfl, -, -, -, -, -⟩ := hM
  obtain ⟨g, ⟨dp, hS, hF⟩, hV, hV0, hV1, hV2⟩ := hA
  obtain ⟨s1, s2, s3, s4, s5, s6, s7⟩ := id hS
  obtain ⟨f1, f2, f3⟩ := id hF
  obtain ⟨hk2, hK6, hA, hY⟩ := hop
  have j0 : 0 ≤ fc - 1 := by grind
  have j1 : fc - 1 < fc := by grind
  have j2 : fc - 1 < 200 := by grind
  have j3 : fc - 1 < 201 := by grind
  have j4 : fc - 1 ≤ fc := by grind
  have hd : ¬ fc ≤ 0 := by grind
  have hz : ¬ fc = 0 := by grind
  have hF' := hF.less j0 j4
  have hU : q_V vals cnt k g (fp (Int32.toNatClampNeg (fc - 1))) (F2 (Int32.toNatClampNeg (fc - 1))) := by
    rcases f3 (fc - 1) j0 j1 with ⟨-, h⟩ | ⟨-, h, -⟩ | ⟨-, -, h⟩
    · rw [hk2] at h; exact absurd h (by decide)
    · rw [hk2] at h; exact absurd h (by decide)
    · exact h
  obtain ⟨hI2, hK2, m0, m6, u6, x6⟩ := q_pt hS hU
  have hk6 : (k (Int32.toNatClampNeg ((fp (Int32.toNatClampNeg (fc - 1)))))) = 6 := by rw [← hK2]; exact hK6
  have h5 : ¬ (K (Int32.toNatClampNeg ((F2 (Int32.toNatClampNeg (fc - 1)))))) = 5 := by rw [hK6]; decide
  obtain ⟨e1, e2, e3, e4, e5, e6, e7, e8⟩ := hI2.2.2.2.2.2.2.1 hk6
  have u0 := hU.1
  have w0 := hU.2.2.2.1
  have w7 : (F2 (Int32.toNatClampNeg (fc - 1))) < 700 := by grind
  have v7 : vals < 700 := by grind
  have w2 := (s_wA hS hU).2
  rw [if_pos ⟨hk6, hA⟩] at w2
  obtain ⟨fl, cs, kd, ct, pf, rest⟩ := q_perf (f0 := fl0) (h0 := cs0) (kd0 := kd0) (ct0 := ct0) hS w0 w7 e2 e3 y0 y1 y2 g0 g1 g2 hV0 hV1 hV2
  rcases rest with ⟨rfl, gg⟩ | ⟨rfl, gg, h610, x, hx, hr⟩ | ⟨rfl, gg, h6, h10, rfl, kd0', kd3, nn, bb, hC, hr⟩
  · by_cases hc : cnt = 600
    · refine ⟨16, va, cnt, k, c, l, r, gv, fc, 1, cs, kd, ct, vals, fc, 16, va', cnt, K, N, B, P, A, Y, ?_, ?_, g, dp, rfl, rfl, rfl, hS, hF, q_no (by decide), q_no (by decide), by decide⟩
      · simp [M_Work_stepOperating, pf, k4, k1, M_Deed_valuesMade, M_Store_hasRoom, hc, M_Work_end]
      · simp [M_MO_back, chk, hz, j0, j3, hk2, M_MO_applies, M_MO_applies_15, M_MO_applies_44, M_MO_applies_72, M_MO_applies_73, M_MO_applies_93, M_MO_applies_94, M_MO_applies_127, M_MO_applies_128, h5, w0, w7, w2, k1, s_argumentsOf, hY, gg, hc, M_MO_end, k17]
    · have hc1 : cnt < 600 := by grind
      have hc2 : ¬ 600 < cnt + 1 := by grind
      have hc3 : cnt + 1 ≤ 600 := by grind
      obtain ⟨g1', d1, d2⟩ := q_dead (x := 6) (y := (c (Int32.toNatClampNeg ((fp (Int32.toNatClampNeg (fc - 1))))))) (z := va) (u := (fp (Int32.toNatClampNeg (fc - 1)))) (e := (gv (Int32.toNatClampNeg ((fp (Int32.toNatClampNeg (fc - 1)))))) + 1) hS hc1
      refine ⟨14, va, cnt + 1, _, _, _, _, _, fc - 1, 1, cs, kd, ct, vals, fc - 1, 14, va', cnt + 1, K, N, B, P, A, Y, ?_, ?_, g1', dp, rfl, rfl, rfl, d2, hF'.mono (by grind) Int32.le_rfl Int32.le_rfl (fun j a b => q_ne a b) d1 (fun _ _ _ => rfl), q_no (by decide), q_no (by decide), by decide⟩
      · simp [M_Work_stepOperating, pf, k4, k1, k7, M_Deed_valuesMade, M_Store_hasRoom, hc2, M_Frames_latestPart, q_at200 j0 j2, s_addGrown s1 hc1 u0 hU.2.1, M_Frames_drop, hd, M_Work_end]
      · simp [M_MO_back, chk, hz, j0, j3, hk2, M_MO_applies, M_MO_applies_15, M_MO_applies_44, M_MO_applies_72, M_MO_applies_73, M_MO_applies_93, M_MO_applies_94, M_MO_applies_127, M_MO_applies_128, h5, w0, w7, w2, k1, s_argumentsOf, hY, gg, hc3, M_MO_end, k17]
  · have hx0 : ¬ cs = -1 := by have := hx.1; grind
    have hz1 : (P (Int32.toNatClampNeg ((F2 (Int32.toNatClampNeg (fc - 1)))))) = 6 ∨ (P (Int32.toNatClampNeg ((F2 (Int32.toNatClampNeg (fc - 1)))))) = 10 := h610
    by_cases hc : cnt = 600
    · refine ⟨16, va, cnt, k, c, l, r, gv, fc, 0, cs, kd, ct, vals, fc, 16, va', cnt, K, N, B, P, A, Y, ?_, ?_, g, dp, rfl, rfl, rfl, hS, hF, q_no (by decide), q_no (by decide), by decide⟩
      · simp [M_Work_stepOperating, pf, k4, k1, M_Deed_valuesMade, hx0, M_Store_hasRoom, hc, M_Work_end]
      · rcases hz1 with hp | hp
        · simp [M_MO_back, chk, hz, j0, j3, hk2, M_MO_applies, M_MO_applies_15, M_MO_applies_44, M_MO_applies_72, M_MO_applies_73, M_MO_applies_93, M_MO_applies_94, M_MO_applies_127, M_MO_applies_128, h5, w0, w7, w2, k1, s_argumentsOf, hY, gg, hp, hc, M_MO_end, k17]
        · simp [M_MO_back, chk, hz, j0, j3, hk2, M_MO_applies, M_MO_applies_15, M_MO_applies_44, M_MO_applies_72, M_MO_applies_73, M_MO_applies_93, M_MO_applies_94, M_MO_applies_127, M_MO_applies_128, h5, w0, w7, w2, k1, s_argumentsOf, hY, gg, hp, hc, M_MO_end, k17]
    · have hc1 : cnt < 600 := by grind
      have hc2 : ¬ 600 < cnt + 1 := by grind
      have hc3 : cnt + 1 ≤ 600 := by grind
      obtain ⟨g1', d1, d2⟩ := q_dead (x := 6) (y := (c (Int32.toNatClampNeg ((fp (Int32.toNatClampNeg (fc - 1))))))) (z := va) (u := (fp (Int32.toNatClampNeg (fc - 1)))) (e := (gv (Int32.toNatClampNeg ((fp (Int32.toNatClampNeg (fc - 1)))))) + 1) hS hc1
      refine ⟨2, cs, cnt + 1, _, _, _, _, _, fc - 1, 0, cs, kd, ct, vals, fc - 1, 2, x, cnt + 1, K, N, B, P, A, Y, ?_, ?_, g1', dp, rfl, rfl, rfl, d2, hF'.mono (by grind) Int32.le_rfl Int32.le_rfl (fun j a b => q_ne a b) d1 (fun _ _ _ => rfl), q_no (by decide), fun _ => hx.mono Int32.le_rfl (by grind) (fun j a b => q_ne a b) d1, by decide⟩
      · simp [M_Work_stepOperating, pf, k4, k1, k2, k7, M_Deed_valuesMade, hx0, M_Store_hasRoom, hc2, M_Frames_latestPart, q_at200 j0 j2, s_addGrown s1 hc1 u0 hU.2.1, M_Frames_drop, hd, M_Work_giveBack]
      · rcases hz1 with hp | hp
        · simp [M_MO_back, chk, hz, j0, j3, hk2, M_MO_applies, M_MO_applies_15, M_MO_applies_44, M_MO_applies_72, M_MO_applies_73, M_MO_applies_93, M_MO_applies_94, M_MO_applies_127, M_MO_applies_128, h5, w0, w7, w2, k1, k2, k8, s_argumentsOf, hY, gg, hp, hc3, hr, M_MO_returns, k17]
        · simp [M_MO_back, chk, hz, j0, j3, hk2, M_MO_applies, M_MO_applies_15, M_MO_applies_44, M_MO_applies_72, M_MO_applies_73, M_MO_applies_93, M_MO_applies_94, M_MO_applies_127, M_MO_applies_128, h5, w0, w7, w2, k1, k2, k8, s_argumentsOf, hY, gg, hp, hc3, hr, M_MO_returns, k17]
  · by_cases hc : 600 < cnt + 2
    · have hc3 : ¬ cnt + 2 ≤ 600 := by grind
      refine ⟨16, va, cnt, k, c, l, r, gv, fc, 0, -1, kd, ct, vals, fc, 16, va', cnt, K, N, B, P, A, Y, ?_, ?_, g, dp, rfl, rfl, rfl, hS, hF, q_no (by decide), q_no (by decide), by decide⟩
      · simp [M_Work_stepOperating, pf, k4, k1, M_Deed_valuesMade, M_Store_hasRoom, hc, M_Work_end]
      · simp [M_MO_back, chk, hz, j0, j3, hk2, M_MO_applies, M_MO_applies_15, M_MO_applies_44, M_MO_applies_72, M_MO_applies_73, M_MO_applies_93, M_MO_applies_94, M_MO_applies_127, M_MO_applies_128, h5, w0, w7, w2, k1, s_argumentsOf, hY, gg, h6, h10, hc3, M_MO_end, k17]
    · have hc1 : cnt < 600 := by grind
      have hc4 : cnt + 1 < 600 := by grind
      have hc5 : 0 ≤ cnt + 1 := by grind
      have hc3 : cnt + 2 ≤ 600 := by grind
      have hc6 : cnt + 1 + 1 = cnt + 2 := by grind
      obtain ⟨g1', d1, d2⟩ := q_dead (x := 6) (y := (c (Int32.toNatClampNeg ((fp (Int32.toNatClampNeg (fc - 1))))))) (z := va) (u := (fp (Int32.toNatClampNeg (fc - 1)))) (e := (gv (Int32.toNatClampNeg ((fp (Int32.toNatClampNeg (fc - 1)))))) + 1) hS hc1
      obtain ⟨g2', t1, t2, t3⟩ := q_addV (x := kd) (y := ct) (z := -1) (u := -1) (x' := kd) (b' := bb) (y' := nn) (z' := 0) (u' := 0) d2 hc4 ⟨rfl, kd0', by grind⟩ (fun _ => hC) (fun z => by grind) (fun z => by grind) (fun z => by grind) (fun z => by grind)
      rw [hc6] at t3
      refine ⟨2, cnt + 1, cnt + 2, _, _, _, _, _, fc - 1, 0, -1, kd, ct, vals + 1, fc - 1, 2, vals, cnt + 2, _, _, _, _, _, _, ?_, ?_, g2', dp, rfl, rfl, rfl, t3, hF'.mono (by grind) (by grind) Int32.le_rfl (fun j a b => by rw [q_ne a (by grind), q_ne a b]) (fun j a b => by rw [t2 j a (by grind), d1 j a b]) (fun _ _ _ => rfl), q_no (by decide), fun _ => ⟨hc5, by grind, by rw [q_eq]; grind, s3, by grind, t1⟩, by decide⟩
      · simp [M_Work_stepOperating, pf, k4, k1, k2, k7, M_Deed_valuesMade, M_Store_hasRoom, hc, M_Frames_latestPart, q_at200 j0 j2, s_addGrown s1 hc1 u0 hU.2.1, s_Store_add hc5 hc4, hc6, M_Frames_drop, hd, M_Work_giveBack]
      · simp [M_MO_back, chk, hz, j0, j3, hk2, M_MO_applies, M_MO_applies_15, M_MO_applies_44, M_MO_applies_72, M_MO_applies_73, M_MO_applies_93, M_MO_applies_94, M_MO_applies_127, M_MO_applies_128, h5, w0, w7, w2, k1, k2, k8, s_argumentsOf, hY, gg, h6, h10, hc3, hr, M_MO_returns, k17]
