theorem q_runL {n bu : Int32} {lam pk pf ps : Nat → Int32} {pc : Nat → Int64} {tg sb nu : Nat → Int32} {ch : Nat → Int64} {fi se : Nat → Int32} {v1 : Int32} (hP : q_P n lam pk pf ps pc tg sb nu ch fi se) :
    ∀ (m f f1 : Nat) (X : q_XT) (Y : q_YT) (v2 : Int32), (v1 - v2).toNatClampNeg = m → 0 ≤ v2 → v2 ≤ v1 → v1 ≤ 100 → m < f → m < f1 → q_RT n lam bu X Y →
      ∃ (r : Int32) (X1 : q_XT) (Y1 : q_YT), M_TM_run_43 bu pk pf ps pc f X.1 X.2.1 X.2.2.1 X.2.2.2.1 X.2.2.2.2.1 X.2.2.2.2.2.1 X.2.2.2.2.2.2.1 X.2.2.2.2.2.2.2.1 X.2.2.2.2.2.2.2.2.1 X.2.2.2.2.2.2.2.2.2.1 X.2.2.2.2.2.2.2.2.2.2.1 X.2.2.2.2.2.2.2.2.2.2.2.1 X.2.2.2.2.2.2.2.2.2.2.2.2.1 X.2.2.2.2.2.2.2.2.2.2.2.2.2.1 X.2.2.2.2.2.2.2.2.2.2.2.2.2.2.1 X.2.2.2.2.2.2.2.2.2.2.2.2.2.2.2.1 X.2.2.2.2.2.2.2.2.2.2.2.2.2.2.2.2.1 X.2.2.2.2.2.2.2.2.2.2.2.2.2.2.2.2.2.1 X.2.2.2.2.2.2.2.2.2.2.2.2.2.2.2.2.2.2.1 X.2.2.2.2.2.2.2.2.2.2.2.2.2.2.2.2.2.2.2.1 X.2.2.2.2.2.2.2.2.2.2.2.2.2.2.2.2.2.2.2.2.1 X.2.2.2.2.2.2.2.2.2.2.2.2.2.2.2.2.2.2.2.2.2.1 X.2.2.2.2.2.2.2.2.2.2.2.2.2.2.2.2.2.2.2.2.2.2.1 X.2.2.2.2.2.2.2.2.2.2.2.2.2.2.2.2.2.2.2.2.2.2.2.1 X.2.2.2.2.2.2.2.2.2.2.2.2.2.2.2.2.2.2.2.2.2.2.2.2.1 X.2.2.2.2.2.2.2.2.2.2.2.2.2.2.2.2.2.2.2.2.2.2.2.2.2.1 X.2.2.2.2.2.2.2.2.2.2.2.2.2.2.2.2.2.2.2.2.2.2.2.2.2.2.1 X.2.2.2.2.2.2.2.2.2.2.2.2.2.2.2.2.2.2.2.2.2.2.2.2.2.2.2.1 X.2.2.2.2.2.2.2.2.2.2.2.2.2.2.2.2.2.2.2.2.2.2.2.2.2.2.2.2 v1 v2 = some (0, r, X1) ∧ M_MO_run_33 bu tg sb nu ch fi se f1 0 Y.1 Y.2.1 Y.2.2.1 Y.2.2.2.1 Y.2.2.2.2.1 Y.2.2.2.2.2.1 Y.2.2.2.2.2.2.1 Y.2.2.2.2.2.2.2.1 Y.2.2.2.2.2.2.2.2.1 Y.2.2.2.2.2.2.2.2.2.1 Y.2.2.2.2.2.2.2.2.2.2.1 Y.2.2.2.2.2.2.2.2.2.2.2.1 Y.2.2.2.2.2.2.2.2.2.2.2.2.1 Y.2.2.2.2.2.2.2.2.2.2.2.2.2.1 Y.2.2.2.2.2.2.2.2.2.2.2.2.2.2.1 Y.2.2.2.2.2.2.2.2.2.2.2.2.2.2.2.1 Y.2.2.2.2.2.2.2.2.2.2.2.2.2.2.2.2.1 Y.2.2.2.2.2.2.2.2.2.2.2.2.2.2.2.2.2.1 Y.2.2.2.2.2.2.2.2.2.2.2.2.2.2.2.2.2.2.1 Y.2.2.2.2.2.2.2.2.2.2.2.2.2.2.2.2.2.2.2.1 Y.2.2.2.2.2.2.2.2.2.2.2.2.2.2.2.2.2.2.2.2.1 Y.2.2.2.2.2.2.2.2.2.2.2.2.2.2.2.2.2.2.2.2.2.1 Y.2.2.2.2.2.2.2.2.2.2.2.2.2.2.2.2.2.2.2.2.2.2.1 Y.2.2.2.2.2.2.2.2.2.2.2.2.2.2.2.2.2.2.2.2.2.2.2.1 Y.2.2.2.2.2.2.2.2.2.2.2.2.2.2.2.2.2.2.2.2.2.2.2.2.1 Y.2.2.2.2.2.2.2.2.2.2.2.2.2.2.2.2.2.2.2.2.2.2.2.2.2.1 Y.2.2.2.2.2.2.2.2.2.2.2.2.2.2.2.2.2.2.2.2.2.2.2.2.2.2.1 Y.2.2.2.2.2.2.2.2.2.2.2.2.2.2.2.2.2.2.2.2.2.2.2.2.2.2.2 v1 v2 = some (r, 0, Y1) ∧ q_RT n lam bu X1 Y1 := by
  intro m
  induction m with
  | zero =>
    intro f f1 X Y v2 hm h0 h1 h2 hf hf1 hR
    obtain ⟨f, rfl⟩ : ∃ x, f = x + 1 := ⟨f - 1, by omega⟩
    obtain ⟨f1, rfl⟩ : ∃ x, f1 = x + 1 := ⟨f1 - 1, by omega⟩
    have hv : v1 ≤ v2 := by
      false_or_by_contra
      have := q_dec (a := v2) (b := v1) h0 (by grind)
      omega
    refine ⟨v2, X, Y, ?_, ?_, hR⟩
    · rw [M_TM_run_43, if_pos hv]
    · rw [M_MO_run_33, if_pos rfl, if_pos hv]
  | succ m ih =>
    intro f f1 X Y v2 hm h0 h1 h2 hf hf1 hR
    obtain ⟨f, rfl⟩ : ∃ x, f = x + 1 := ⟨f - 1, by omega⟩
    obtain ⟨f1, rfl⟩ : ∃ x, f1 = x + 1 := ⟨f1 - 1, by omega⟩
    have hv : ¬ v1 ≤ v2 := by
      intro h
      have : v1 = v2 := by grind
      subst this
      simp at hm
    have hm1 := q_dec (a := v2) (b := v1) h0 (by grind)
    have hM := hR.1
    obtain ⟨g, dp, e1, e2, e3, hS, hF, a1, a2, a3⟩ := id hM
    by_cases hst : 10 ≤ X.1
    · refine ⟨v2, X, Y, ?_, ?_, hR⟩
      · rw [M_TM_run_43, if_neg hv, if_pos hst]
      · rw [M_MO_run_33, if_pos rfl, if_neg hv, if_pos (by rw [← e1]; exact hst)]
    · have hs : X.1 = 1 ∨ X.1 = 2 := by
        rcases a3 with h | h | h
        · exact .inl h
        · exact .inr h
        · exact absurd h hst
      obtain ⟨X1, Y1, b1, b2, b3⟩ := q_step hP hR hs
      obtain ⟨r, X2, Y2, c1, c2, c3⟩ := ih f f1 X1 Y1 (v2 + 1) (by omega) (by grind) (by grind) h2 (by omega) (by omega) b3
      refine ⟨r, X2, Y2, ?_, ?_, c3⟩
      · rw [M_TM_run_43, if_neg hv, if_neg hst, b1]; exact c1
      · rw [M_MO_run_33, if_pos rfl, if_neg hv, if_neg (by rw [← e1]; exact hst), b2]; exact c2
