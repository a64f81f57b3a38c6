abbrev q_XT := Int32 × Int32 × Int32 × Int32 × Int32 × Int32 × Int32 × (Nat → Int32) × (Nat → Int64) × (Nat → Int32) × (Nat → Int32) × (Nat → Int32) × Int32 × (Nat → Int32) × (Nat → Int32) × (Nat → Int32) × Int32 × Int32 × Int32 × Int32 × Int32 × Int64 × (Nat → Int32) × Int32 × Int32 × (Nat → Int32) × (Nat → Int32) × (Nat → Int32) × (Nat → Int32)
abbrev q_YT := Int32 × Int32 × Int32 × Int32 × Int32 × Int32 × Int32 × Int32 × Int32 × Int32 × Int32 × Int32 × (Nat → Int32) × (Nat → Int32) × (Nat → Int64) × (Nat → Int32) × (Nat → Int32) × (Nat → Int32) × (Nat → Int32) × (Nat → Int32) × (Nat → Int32) × (Nat → Int32) × (Nat → Int32) × (Nat → Int32) × (Nat → Int32) × (Nat → Int32) × (Nat → Int32) × (Nat → Int32)
def q_R (n : Int32) (lam : Nat → Int32) (bu : Int32) (st : Int32) (sp : Int32) (co : Int32) (te : Int32) (en : Int32) (va : Int32) (cnt : Int32) (k : (Nat → Int32)) (c : (Nat → Int64)) (l : (Nat → Int32)) (r : (Nat → Int32)) (gv : (Nat → Int32)) (fc : Int32) (fk : (Nat → Int32)) (fp : (Nat → Int32)) (fe : (Nat → Int32)) (dop : Int32) (dma : Int32) (dfa : Int32) (dch : Int32) (dki : Int32) (dco : Int64) (dar : (Nat → Int32)) (tc : Int32) (tw : Int32) (tn : (Nat → Int32)) (tp : (Nat → Int32)) (tv : (Nat → Int32)) (tl : (Nat → Int32)) (vals : Int32) (envs : Int32) (frs : Int32) (st' : Int32) (te' : Int32) (en' : Int32) (va' : Int32) (sp' : Int32) (co' : Int32) (made : Int32) (tells : Int32) (wai : Int32) (K : (Nat → Int32)) (N : (Nat → Int32)) (B : (Nat → Int64)) (P : (Nat → Int32)) (A : (Nat → Int32)) (Y : (Nat → Int32)) (G : (Nat → Int32)) (H : (Nat → Int32)) (O : (Nat → Int32)) (F1 : (Nat → Int32)) (F2 : (Nat → Int32)) (F3 : (Nat → Int32)) (told : (Nat → Int32)) (wha : (Nat → Int32)) (whe : (Nat → Int32)) (ins : (Nat → Int32)) : Prop :=
  q_M n lam st te en va cnt k c l r gv fc fk fp fe vals envs frs st' te' en' va' made K N B P A Y G H O F1 F2 F3 ∧ sp = sp' ∧ co = co' ∧ 0 ≤ co ∧ co ≤ bu ∧ bu ≤ 100000 ∧ q_N tc tn tells told ∧ (st = 1 ∨ st = 2 → tells = 0)
def q_RT (n : Int32) (lam : Nat → Int32) (bu : Int32) (X : q_XT) (Y : q_YT) : Prop :=
  q_R n lam bu X.1 X.2.1 X.2.2.1 X.2.2.2.1 X.2.2.2.2.1 X.2.2.2.2.2.1 X.2.2.2.2.2.2.1 X.2.2.2.2.2.2.2.1 X.2.2.2.2.2.2.2.2.1 X.2.2.2.2.2.2.2.2.2.1 X.2.2.2.2.2.2.2.2.2.2.1 X.2.2.2.2.2.2.2.2.2.2.2.1 X.2.2.2.2.2.2.2.2.2.2.2.2.1 X.2.2.2.2.2.2.2.2.2.2.2.2.2.1 X.2.2.2.2.2.2.2.2.2.2.2.2.2.2.1 X.2.2.2.2.2.2.2.2.2.2.2.2.2.2.2.1 X.2.2.2.2.2.2.2.2.2.2.2.2.2.2.2.2.1 X.2.2.2.2.2.2.2.2.2.2.2.2.2.2.2.2.2.1 X.2.2.2.2.2.2.2.2.2.2.2.2.2.2.2.2.2.2.1 X.2.2.2.2.2.2.2.2.2.2.2.2.2.2.2.2.2.2.2.1 X.2.2.2.2.2.2.2.2.2.2.2.2.2.2.2.2.2.2.2.2.1 X.2.2.2.2.2.2.2.2.2.2.2.2.2.2.2.2.2.2.2.2.2.1 X.2.2.2.2.2.2.2.2.2.2.2.2.2.2.2.2.2.2.2.2.2.2.1 X.2.2.2.2.2.2.2.2.2.2.2.2.2.2.2.2.2.2.2.2.2.2.2.1 X.2.2.2.2.2.2.2.2.2.2.2.2.2.2.2.2.2.2.2.2.2.2.2.2.1 X.2.2.2.2.2.2.2.2.2.2.2.2.2.2.2.2.2.2.2.2.2.2.2.2.2.1 X.2.2.2.2.2.2.2.2.2.2.2.2.2.2.2.2.2.2.2.2.2.2.2.2.2.2.1 X.2.2.2.2.2.2.2.2.2.2.2.2.2.2.2.2.2.2.2.2.2.2.2.2.2.2.2.1 X.2.2.2.2.2.2.2.2.2.2.2.2.2.2.2.2.2.2.2.2.2.2.2.2.2.2.2.2 Y.1 Y.2.1 Y.2.2.1 Y.2.2.2.1 Y.2.2.2.2.1 Y.2.2.2.2.2.1 Y.2.2.2.2.2.2.1 Y.2.2.2.2.2.2.2.1 Y.2.2.2.2.2.2.2.2.1 Y.2.2.2.2.2.2.2.2.2.1 Y.2.2.2.2.2.2.2.2.2.2.1 Y.2.2.2.2.2.2.2.2.2.2.2.1 Y.2.2.2.2.2.2.2.2.2.2.2.2.1 Y.2.2.2.2.2.2.2.2.2.2.2.2.2.1 Y.2.2.2.2.2.2.2.2.2.2.2.2.2.2.1 Y.2.2.2.2.2.2.2.2.2.2.2.2.2.2.2.1 Y.2.2.2.2.2.2.2.2.2.2.2.2.2.2.2.2.1 Y.2.2.2.2.2.2.2.2.2.2.2.2.2.2.2.2.2.1 Y.2.2.2.2.2.2.2.2.2.2.2.2.2.2.2.2.2.2.1 Y.2.2.2.2.2.2.2.2.2.2.2.2.2.2.2.2.2.2.2.1 Y.2.2.2.2.2.2.2.2.2.2.2.2.2.2.2.2.2.2.2.2.1 Y.2.2.2.2.2.2.2.2.2.2.2.2.2.2.2.2.2.2.2.2.2.1 Y.2.2.2.2.2.2.2.2.2.2.2.2.2.2.2.2.2.2.2.2.2.2.1 Y.2.2.2.2.2.2.2.2.2.2.2.2.2.2.2.2.2.2.2.2.2.2.2.1 Y.2.2.2.2.2.2.2.2.2.2.2.2.2.2.2.2.2.2.2.2.2.2.2.2.1 Y.2.2.2.2.2.2.2.2.2.2.2.2.2.2.2.2.2.2.2.2.2.2.2.2.2.1 Y.2.2.2.2.2.2.2.2.2.2.2.2.2.2.2.2.2.2.2.2.2.2.2.2.2.2.1 Y.2.2.2.2.2.2.2.2.2.2.2.2.2.2.2.2.2.2.2.2.2.2.2.2.2.2.2
theorem q_step {n bu : Int32} {lam pk pf ps : Nat → Int32} {pc : Nat → Int64} {tg sb nu : Nat → Int32} {ch : Nat → Int64} {fi se : Nat → Int32} {st : Int32} {sp : Int32} {co : Int32} {te : Int32} {en : Int32} {va : Int32} {cnt : Int32} {k : (Nat → Int32)} {c : (Nat → Int64)} {l : (Nat → Int32)} {r : (Nat → Int32)} {gv : (Nat → Int32)} {fc : Int32} {fk : (Nat → Int32)} {fp : (Nat → Int32)} {fe : (Nat → Int32)} {dop : Int32} {dma : Int32} {dfa : Int32} {dch : Int32} {dki : Int32} {dco : Int64} {dar : (Nat → Int32)} {tc : Int32} {tw : Int32} {tn : (Nat → Int32)} {tp : (Nat → Int32)} {tv : (Nat → Int32)} {tl : (Nat → Int32)} {vals : Int32} {envs : Int32} {frs : Int32} {st' : Int32} {te' : Int32} {en' : Int32} {va' : Int32} {sp' : Int32} {co' : Int32} {made : Int32} {tells : Int32} {wai : Int32} {K : (Nat → Int32)} {N : (Nat → Int32)} {B : (Nat → Int64)} {P : (Nat → Int32)} {A : (Nat → Int32)} {Y : (Nat → Int32)} {G : (Nat → Int32)} {H : (Nat → Int32)} {O : (Nat → Int32)} {F1 : (Nat → Int32)} {F2 : (Nat → Int32)} {F3 : (Nat → Int32)} {told : (Nat → Int32)} {wha : (Nat → Int32)} {whe : (Nat → Int32)} {ins : (Nat → Int32)} (hP : q_P n lam pk pf ps pc tg sb nu ch fi se) (hR : q_R n lam bu st sp co te en va cnt k c l r gv fc fk fp fe dop dma dfa dch dki dco dar tc tw tn tp tv tl vals envs frs st' te' en' va' sp' co' made tells wai K N B P A Y G H O F1 F2 F3 told wha whe ins) (hst : st = 1 ∨ st = 2) :
    ∃ (XX : q_XT) (YY : q_YT), M_Work_step bu st sp co te en va cnt k c l r gv fc fk fp fe dop dma dfa dch dki dco dar tc tw tn tp tv tl pk pf ps pc = some XX ∧ M_MO_step vals envs frs st' te' en' va' bu sp' co' made tells wai tg sb nu ch fi se K N B P A Y G H O F1 F2 F3 told wha whe ins = some YY ∧ q_RT n lam bu XX YY := by
  obtain ⟨hM, rfl, rfl, co0, cob, bub, hN, ht⟩ := hR
  obtain rfl := ht hst
  have hM' := id hM
  obtain ⟨g, dp, e1, e2, e3, hS, hF, h1, h2, -⟩ := hM'
  obtain ⟨f1, f2, f3⟩ := id hF
  obtain ⟨s1, s2, s3, s4, s5, s6, s7⟩ := id hS
  have o5 : q_M n lam 15 te en va cnt k c l r gv fc fk fp fe vals envs frs 15 te' en' va' made K N B P A Y G H O F1 F2 F3 := by
    obtain ⟨g, dp, e1, e2, e3, hS, hF, h1, h2, -⟩ := hM
    exact ⟨g, dp, rfl, e2, e3, hS, hF, q_no (by decide), q_no (by decide), by decide⟩
  have fin : ∀ {stt x : Int32}, stt = 15 → stt = 1 ∨ stt = 2 → x = 0 := fun h z => by subst h; rcases z with z | z <;> exact absurd z (by decide)
  rcases hst with rfl | rfl
  · have c1 : M_Work_operates 1 k c gv fc fk fp = some 0 := by rw [M_Work_operates, if_neg (by decide)]
    subst e1
    have c2 : M_MO_cost frs 1 va' K N P A Y G F1 F2 = some 1 := by rw [M_MO_cost, if_neg (by decide)]
    by_cases hb : co + 1 ≤ bu
    · obtain ⟨st1, te1, en1, va1, cnt1, k1', c1', l1, r1, gv1, fc1, fk1, fp1, fe1, vals1, frs1, st2, te2, en2, va2, made1, K1, N1, B1, P1, A1, Y1, F11, F21, F31, x1, x2, x3⟩ := q_comp hP hM
      refine ⟨(st1, sp + 1, co + 1, te1, en1, va1, cnt1, k1', c1', l1, r1, gv1, fc1, fk1, fp1, fe1, dop, dma, dfa, dch, dki, dco, dar, tc, tw, tn, tp, tv, tl), (vals1, envs, frs1, st2, te2, en2, va2, sp + 1, co + 1, made1, 0, wai, K1, N1, B1, P1, A1, Y1, G, H, O, F11, F21, F31, told, wha, whe, ins), ?_, ?_, ?_⟩
      · rw [M_Work_step, c1, k1, if_pos rfl, M_Work_step_57, if_pos hb, if_pos rfl, x1, k14]
      · rw [M_MO_step, c2, k1, if_pos hb, if_pos rfl, x2, k16]
      · exact ⟨x3, rfl, rfl, by grind, hb, bub, hN, fun _ => rfl⟩
    · refine ⟨(15, sp + 1, co, te, en, va, cnt, k, c, l, r, gv, fc, fk, fp, fe, dop, dma, dfa, dch, dki, dco, dar, tc, tw, tn, tp, tv, tl), (vals, envs, frs, 15, te', en', va', sp + 1, co, made, 0, wai, K, N, B, P, A, Y, G, H, O, F1, F2, F3, told, wha, whe, ins), ?_, ?_, ?_⟩
      · rw [M_Work_step, c1, k1, if_pos rfl, M_Work_step_57, if_neg hb]; rfl
      · rw [M_MO_step, c2, k1, if_neg hb]; rfl
      · exact ⟨o5, rfl, rfl, co0, cob, bub, hN, fin rfl⟩
  · subst e1 e2 e3
    have hV := h2 rfl
    by_cases hz : fc = 0
    · have c1 : M_Work_operates 2 k c gv fc fk fp = some 0 := by
        rw [M_Work_operates, if_pos rfl, M_Frames_latestKind, k1, q_neg (by rw [hz]; decide), if_neg (by decide)]
      have c2 : M_MO_cost fc 2 va' K N P A Y G F1 F2 = some 1 := by rw [M_MO_cost, if_pos rfl, if_pos hz]
      by_cases hb : co + 1 ≤ bu
      · obtain ⟨cn1, wt1, nm1, pa1, ev1, la1, td1, wa1, wh1, ins1, x1, x2, x3⟩ := q_tell (cn := tc) (wt := tw) (wt' := wai) (nm := tn) (pa := tp) (ev := tv) (la := tl) (td := told) (wa := wha) (wh := whe) (ins := ins) hP hS hV
        have o1 : q_M n lam 11 te en va cnt k c l r gv fc fk fp fe vals envs fc 11 te' en' va' cnt K N B P A Y G H O F1 F2 F3 := ⟨g, dp, rfl, rfl, rfl, hS, hF, q_no (by decide), q_no (by decide), by decide⟩
        refine ⟨(11, sp + 1, co + 1, te, en, va, cnt, k, c, l, r, gv, fc, fk, fp, fe, dop, dma, dfa, dch, dki, dco, dar, cn1, wt1, nm1, pa1, ev1, la1), (vals, envs, fc, 11, te', en', va', sp + 1, co + 1, cnt, cn1, wt1, K, N, B, P, A, Y, G, H, O, F1, F2, F3, td1, wa1, wh1, ins1), ?_, ?_, ?_⟩
        · rw [M_Work_step, c1, k1, if_pos rfl, M_Work_step_57, if_pos hb, if_neg (by decide), if_pos rfl, if_pos (by rw [hz]; decide), x1, k6]; rfl
        · rw [M_MO_step, c2, k1, if_pos hb, if_neg (by decide), M_MO_back, if_pos hz, M_MO_end, k1, x2, k6, k26]; rfl
        · exact ⟨o1, rfl, rfl, by grind, hb, bub, x3, fun z => by
            rcases z with z | z
            · exact absurd (show (11 : Int32) = 1 from z) (by decide)
            · exact absurd (show (11 : Int32) = 2 from z) (by decide)⟩
      · refine ⟨(15, sp + 1, co, te, en, va, cnt, k, c, l, r, gv, fc, fk, fp, fe, dop, dma, dfa, dch, dki, dco, dar, tc, tw, tn, tp, tv, tl), (vals, envs, fc, 15, te', en', va', sp + 1, co, cnt, 0, wai, K, N, B, P, A, Y, G, H, O, F1, F2, F3, told, wha, whe, ins), ?_, ?_, ?_⟩
        · rw [M_Work_step, c1, k1, if_pos rfl, M_Work_step_57, if_neg hb]; rfl
        · rw [M_MO_step, c2, k1, if_neg hb]; rfl
        · exact ⟨o5, rfl, rfl, co0, cob, bub, hN, fin rfl⟩
    have hf : 0 < fc := by grind
    have hf2 : ¬ fc ≤ 0 := by grind
    have j0 : 0 ≤ fc - 1 := by grind
    have j1 : fc - 1 < fc := by grind
    have j2 : fc - 1 < 200 := by grind
    have j3 : fc - 1 < 201 := by grind
    by_cases hop : (F1 (Int32.toNatClampNeg (fc - 1))) = 2 ∧ (K (Int32.toNatClampNeg ((F2 (Int32.toNatClampNeg (fc - 1)))))) = 6 ∧ (A (Int32.toNatClampNeg ((F2 (Int32.toNatClampNeg (fc - 1)))))) = q_fo (P (Int32.toNatClampNeg ((F2 (Int32.toNatClampNeg (fc - 1)))))) ∧ (Y (Int32.toNatClampNeg ((F2 (Int32.toNatClampNeg (fc - 1)))))) + 1 = q_ar (P (Int32.toNatClampNeg ((F2 (Int32.toNatClampNeg (fc - 1))))))
    · have hU : (fk (Int32.toNatClampNeg (fc - 1))) = 2 ∧ q_V vals cnt k g (fp (Int32.toNatClampNeg (fc - 1))) (F2 (Int32.toNatClampNeg (fc - 1))) := by
        rcases f3 (fc - 1) j0 j1 with ⟨-, h⟩ | ⟨-, h, -⟩ | ⟨h', -, h⟩
        · rw [hop.1] at h; exact absurd h (by decide)
        · rw [hop.1] at h; exact absurd h (by decide)
        · exact ⟨h', h⟩
      obtain ⟨hk, hU⟩ := hU
      obtain ⟨hI2, hK2, m0, m6, u6, x6⟩ := q_pt hS hU
      have hk6 : (k (Int32.toNatClampNeg ((fp (Int32.toNatClampNeg (fc - 1)))))) = 6 := by rw [← hK2]; exact hop.2.1
      obtain ⟨p1, p2, p3, p4, p5, p6, p7, p8⟩ := hI2.2.2.2.2.2.2.1 hk6
      have w0 := hU.2.2.2.1
      have w7 : (F2 (Int32.toNatClampNeg (fc - 1))) < 700 := by grind
      obtain ⟨ag, a0, a1, a2, x0, x1, x2, ha, y0, y1, y2, g0, g1, g2, hV0, hV1, hV2⟩ := q_args (o0 := dop) (m0 := dma) (ag := dar) hS hU hV hk6 hop.2.2.2
      have lenV : ∀ {a x : Int32}, q_V vals cnt k g a x → (k (Int32.toNatClampNeg (a))) = 3 → M_Packed_length (c (Int32.toNatClampNeg (a))) = some (N (Int32.toNatClampNeg (x))) ∧ 0 ≤ (N (Int32.toNatClampNeg (x))) ∧ (N (Int32.toNatClampNeg (x))) ≤ 7 := fun hv h3 => by
        rcases (q_pt hS hv).1.2.2.1 (by rw [h3]; decide) with z | z | z | z
        · exact absurd (h3.symm.trans z.1) (by decide)
        · exact absurd (h3.symm.trans z.1) (by decide)
        · exact absurd (h3.symm.trans z) (by decide)
        · obtain ⟨-, L, hL⟩ := z; exact hL.len
      obtain ⟨q0, Q0, -, -, q06, Q06⟩ := q_pt hS hV0
      obtain ⟨q1, Q1, -, -, q16, Q16⟩ := q_pt hS hV1
      obtain ⟨p, t1, t2, t3, t4⟩ := s_cost (o := 0) (n0 := 0) (n1 := 0) (N := N) (c := c) p2 p3 w0 w7 g0 g1 hV0.2.2.2.1 (by grind) hV1.2.2.2.1 (by grind) y0 y1 hV0.1 q06 hV1.1 q16 Q0 Q1 (lenV hV0) (lenV hV1)
      have hw1 := s_w1 hS hU
      rw [if_pos ⟨hk6, hop.2.2⟩] at hw1
      have c1 : M_Work_operates 2 k c gv fc fk fp = some 1 := by
        rw [M_Work_operates, if_pos rfl, M_Frames_latestKind, k1, q_at200 j0 j2, if_pos hk, M_Frames_latestPart, k1, q_at200 j0 j2, hw1, k1, if_neg (by decide)]
      have c2 : M_MO_cost fc 2 va' K N P A Y G F1 F2 = some (1 + p) := by
        rw [M_MO_cost, if_pos rfl, if_neg hz, if_pos hop.1, (s_wA hS hU).2, if_pos ⟨hk6, hop.2.2.1⟩, s_argumentsOf]
        simp only [chk, j0, j3, w0, w7, and_self, if_true, k1]
        rw [if_neg (by decide), if_pos hop.2.2.2, M_MO_cost_77, if_neg (by decide), t2, k1]
      have hr : M_Frames_latestPart fc fp = some (fp (Int32.toNatClampNeg (fc - 1))) := by rw [M_Frames_latestPart, q_at200 j0 j2]
      by_cases hb : co + (1 + p) ≤ bu
      · obtain ⟨st1, va1, cnt1, k1', c1', l1, r1, gv1, fc1, fl, cs, kd, ct, vals1, frs1, st2, va2, made1, K1, N1, B1, P1, A1, Y1, z1, z2, z3⟩ := q_oper (pk := pk) (pf := pf) (ps := ps) (pc := pc) (tells := 0) (waiting := wai) (told := told) (what := wha) (wher := whe) (insi := ins) (tg := tg) (sb := sb) (nu := nu) (ch := ch) (fi := fi) (se := se) (fl0 := dfa) (cs0 := dch) (kd0 := dki) (ct0 := dco) hM hf hop ⟨g, ⟨dp, hS, hF⟩, hV, hV0, hV1, hV2⟩ y0 y1 y2 g0 g1 g2
        refine ⟨(st1, sp + 1, co + (1 + p), te, en, va1, cnt1, k1', c1', l1, r1, gv1, fc1, fk, fp, fe, (P (Int32.toNatClampNeg ((F2 (Int32.toNatClampNeg (fc - 1)))))), q_ar (P (Int32.toNatClampNeg ((F2 (Int32.toNatClampNeg (fc - 1)))))), fl, cs, kd, ct, ag, tc, tw, tn, tp, tv, tl), (vals1, envs, frs1, st2, te', en', va2, sp + 1, co + (1 + p), made1, 0, wai, K1, N1, B1, P1, A1, Y1, G, H, O, F1, F2, F3, told, wha, whe, ins), ?_, ?_, ?_⟩
        · rw [M_Work_step, c1, k1, if_neg (by decide), hr, k1, ha, k3, t1, k1, M_Work_step_57, if_pos hb, if_neg (by decide), if_neg (by decide), z1, k13]
        · rw [M_MO_step, c2, k1, if_pos hb, if_neg (by decide), z2, k26]
        · exact ⟨z3, rfl, rfl, by grind, hb, bub, hN, fun _ => rfl⟩
      · refine ⟨(15, sp + 1, co, te, en, va, cnt, k, c, l, r, gv, fc, fk, fp, fe, (P (Int32.toNatClampNeg ((F2 (Int32.toNatClampNeg (fc - 1)))))), q_ar (P (Int32.toNatClampNeg ((F2 (Int32.toNatClampNeg (fc - 1)))))), dfa, dch, dki, dco, ag, tc, tw, tn, tp, tv, tl), (vals, envs, fc, 15, te', en', va', sp + 1, co, cnt, 0, wai, K, N, B, P, A, Y, G, H, O, F1, F2, F3, told, wha, whe, ins), ?_, ?_, ?_⟩
        · rw [M_Work_step, c1, k1, if_neg (by decide), hr, k1, ha, k3, t1, k1, M_Work_step_57, if_neg hb]; rfl
        · rw [M_MO_step, c2, k1, if_neg hb]; rfl
        · exact ⟨o5, rfl, rfl, co0, cob, bub, hN, fin rfl⟩
    · have cc : M_Work_operates 2 k c gv fc fk fp = some 0 ∧ M_MO_cost fc 2 va' K N P A Y G F1 F2 = some 1 := by
        rcases f3 (fc - 1) j0 j1 with ⟨h, h'⟩ | ⟨h, h', -⟩ | ⟨h, h', hU⟩
        · constructor
          · rw [M_Work_operates, if_pos rfl, M_Frames_latestKind, k1, q_at200 j0 j2, h, if_neg (by decide)]
          · rw [M_MO_cost, if_pos rfl, if_neg hz, h', chk, if_pos ⟨j0, j3⟩, if_neg (by decide)]
        · constructor
          · rw [M_Work_operates, if_pos rfl, M_Frames_latestKind, k1, q_at200 j0 j2, h, if_neg (by decide)]
          · rw [M_MO_cost, if_pos rfl, if_neg hz, h', chk, if_pos ⟨j0, j3⟩, if_neg (by decide)]
        · obtain ⟨hI2, hK2, m0, m6, u6, x6⟩ := q_pt hS hU
          have w0 := hU.2.2.2.1
          have w7 : (F2 (Int32.toNatClampNeg (fc - 1))) < 700 := by grind
          have hw1 := s_w1 hS hU
          rw [if_neg (fun z => hop ⟨h', by rw [hK2]; exact z.1, z.2⟩)] at hw1
          constructor
          · rw [M_Work_operates, if_pos rfl, M_Frames_latestKind, k1, q_at200 j0 j2, if_pos h, M_Frames_latestPart, k1, q_at200 j0 j2, hw1, k1, if_pos rfl]
          · rw [M_MO_cost, if_pos rfl, if_neg hz, if_pos h', (s_wA hS hU).2, s_argumentsOf]
            simp only [chk, j0, j3, w0, w7, and_self, if_true, k1]
            by_cases hw : (k (Int32.toNatClampNeg ((fp (Int32.toNatClampNeg (fc - 1)))))) = 6 ∧ (A (Int32.toNatClampNeg ((F2 (Int32.toNatClampNeg (fc - 1)))))) = q_fo (P (Int32.toNatClampNeg ((F2 (Int32.toNatClampNeg (fc - 1))))))
            · rw [if_pos hw, if_neg (by decide), if_neg (fun z => hop ⟨h', by rw [hK2]; exact hw.1, hw.2, z⟩), M_MO_cost_76, M_MO_cost_77, if_pos rfl]
            · rw [if_neg hw, if_pos rfl, M_MO_cost_76, M_MO_cost_77, if_pos rfl]
      obtain ⟨c1, c2⟩ := cc
      by_cases hb : co + 1 ≤ bu
      · obtain ⟨st1, te1, en1, va1, cnt1, k1', c1', l1, r1, gv1, fc1, fk1, fp1, fe1, vals1, envs1, frs1, st2, te2, en2, va2, made1, K1, N1, B1, P1, A1, Y1, G1, H1, O1, F11, F21, F31, z1, z2, z3⟩ := q_ret (tells := 0) (waiting := wai) (told := told) (what := wha) (wher := whe) (insi := ins) hP hM hf hop
        refine ⟨(st1, sp + 1, co + 1, te1, en1, va1, cnt1, k1', c1', l1, r1, gv1, fc1, fk1, fp1, fe1, dop, dma, dfa, dch, dki, dco, dar, tc, tw, tn, tp, tv, tl), (vals1, envs1, frs1, st2, te2, en2, va2, sp + 1, co + 1, made1, 0, wai, K1, N1, B1, P1, A1, Y1, G1, H1, O1, F11, F21, F31, told, wha, whe, ins), ?_, ?_, ?_⟩
        · rw [M_Work_step, c1, k1, if_pos rfl, M_Work_step_57, if_pos hb, if_neg (by decide), if_pos rfl, if_neg hf2, z1, k14]
        · rw [M_MO_step, c2, k1, if_pos hb, if_neg (by decide), z2, k26]
        · exact ⟨z3, rfl, rfl, by grind, hb, bub, hN, fun _ => rfl⟩
      · refine ⟨(15, sp + 1, co, te, en, va, cnt, k, c, l, r, gv, fc, fk, fp, fe, dop, dma, dfa, dch, dki, dco, dar, tc, tw, tn, tp, tv, tl), (vals, envs, fc, 15, te', en', va', sp + 1, co, cnt, 0, wai, K, N, B, P, A, Y, G, H, O, F1, F2, F3, told, wha, whe, ins), ?_, ?_, ?_⟩
        · rw [M_Work_step, c1, k1, if_pos rfl, M_Work_step_57, if_neg hb]; rfl
        · rw [M_MO_step, c2, k1, if_neg hb]; rfl
        · exact ⟨o5, rfl, rfl, co0, cob, bub, hN, fin rfl⟩
