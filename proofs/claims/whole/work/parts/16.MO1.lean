theorem ifp {α : Type} {c : Prop} [Decidable c] {a b r : α} (h : c) (hm : (if c then a else b) = r) : a = r := (if_pos h).symm.trans hm
theorem ifn {α : Type} {c : Prop} [Decidable c] {a b r : α} (h : ¬ c) (hm : (if c then a else b) = r) : b = r := (if_neg h).symm.trans hm
def M_MO_about (t_threw : Int32) (t_size : Int32) (t_terms : Int32) (t_latestVersion : Int32) (t_frames : Int32) (t_state : Int32) (t_steps : Int32) (t_costs : Int32) (t_made : Int32) (t_tells : Int32) (x1 : Int32) : Option (Int32 × Int32) :=
  (if x1 = 0 then
    some (t_size, 0)
  else
    (if x1 = 1 then
      some (t_terms, 0)
    else
      (if x1 = 2 then
        some (t_latestVersion, 0)
      else
        (if x1 = 3 then
          some (t_state, 0)
        else
          (if x1 = 4 then
            some (t_steps, 0)
          else
            (if x1 = 5 then
              some (t_costs, 0)
            else
              (if x1 = 6 then
                some (t_frames, 0)
              else
                (if x1 = 7 then
                  some (t_made, 0)
                else
                  (if x1 = 8 then
                    some (t_tells, 0)
                  else
                    some ((-1), 0))))))))))
set_option maxHeartbeats 4000000 in
set_option maxRecDepth 100000 in
theorem c_MO_about (l : Launch) (dC : Nat → ClassId) (dI : Nat → Nat → Nat) (cI cL : ClassId) (sz : Nat) (q_t q_t_text q_t_tags q_t_subs q_t_numbers q_t_chars q_t_firsts q_t_seconds q_t_depths q_t_lambdas q_t_owners q_t_kind q_t_number q_t_bytes q_t_part q_t_around q_t_many q_t_given q_t_holds q_t_outer q_t_frame q_t_first q_t_second q_t_told q_t_what q_t_where q_t_inside : Nat) (t_threw t_size t_at t_error t_found t_version t_terms t_latestVersion t_values t_environments t_frames t_state t_term t_environment t_value t_budget t_steps t_costs t_made t_tells t_waiting x1 r0 u_t_threw : Int32) (hm : M_MO_about t_threw t_size t_terms t_latestVersion t_frames t_state t_steps t_costs t_made t_tells x1 = some (r0, u_t_threw)) : Met l yX9_about wsX9_about ({ frames := 0, cells := 0, slots := 0, locals := 0 }) (frPc (dC, dI) vwCl [(cI, .int), (cL, .long)] [(q_t, .inr (8, [.int t_threw, .ref q_t_text, .int t_size, .int t_at, .int t_error, .int t_found, .ref q_t_tags, .ref q_t_subs, .ref q_t_numbers, .ref q_t_chars, .ref q_t_firsts, .ref q_t_seconds, .ref q_t_depths, .ref q_t_lambdas, .ref q_t_owners, .int t_version, .int t_terms, .int t_latestVersion, .int t_values, .ref q_t_kind, .ref q_t_number, .ref q_t_bytes, .ref q_t_part, .ref q_t_around, .ref q_t_many, .ref q_t_given, .int t_environments, .ref q_t_holds, .ref q_t_outer, .int t_frames, .ref q_t_frame, .ref q_t_first, .ref q_t_second, .int t_state, .int t_term, .int t_environment, .int t_value, .int t_budget, .int t_steps, .int t_costs, .int t_made, .int t_tells, .ref q_t_told, .int t_waiting, .ref q_t_what, .ref q_t_where, .ref q_t_inside]))] sz [.ref q_t, .int x1]) (va_Qi (fun (r : Int32) (_ : Unit) => r = r0) (frB (dC, dI) vwCl [(cI, .int), (cL, .long)] (va_A [(q_t, .inr (8, [.int t_threw, .ref q_t_text, .int t_size, .int t_at, .int t_error, .int t_found, .ref q_t_tags, .ref q_t_subs, .ref q_t_numbers, .ref q_t_chars, .ref q_t_firsts, .ref q_t_seconds, .ref q_t_depths, .ref q_t_lambdas, .ref q_t_owners, .int t_version, .int t_terms, .int t_latestVersion, .int t_values, .ref q_t_kind, .ref q_t_number, .ref q_t_bytes, .ref q_t_part, .ref q_t_around, .ref q_t_many, .ref q_t_given, .int t_environments, .ref q_t_holds, .ref q_t_outer, .int t_frames, .ref q_t_frame, .ref q_t_first, .ref q_t_second, .int t_state, .int t_term, .int t_environment, .int t_value, .int t_budget, .int t_steps, .int t_costs, .int t_made, .int t_tells, .ref q_t_told, .int t_waiting, .ref q_t_what, .ref q_t_where, .ref q_t_inside]))] sz) [(q_t, .inr (8, [.int u_t_threw, .ref q_t_text, .int t_size, .int t_at, .int t_error, .int t_found, .ref q_t_tags, .ref q_t_subs, .ref q_t_numbers, .ref q_t_chars, .ref q_t_firsts, .ref q_t_seconds, .ref q_t_depths, .ref q_t_lambdas, .ref q_t_owners, .int t_version, .int t_terms, .int t_latestVersion, .int t_values, .ref q_t_kind, .ref q_t_number, .ref q_t_bytes, .ref q_t_part, .ref q_t_around, .ref q_t_many, .ref q_t_given, .int t_environments, .ref q_t_holds, .ref q_t_outer, .int t_frames, .ref q_t_frame, .ref q_t_first, .ref q_t_second, .int t_state, .int t_term, .int t_environment, .int t_value, .int t_budget, .int t_steps, .int t_costs, .int t_made, .int t_tells, .ref q_t_told, .int t_waiting, .ref q_t_what, .ref q_t_where, .ref q_t_inside]))]) (va_A [(q_t, .inr (8, [.int t_threw, .ref q_t_text, .int t_size, .int t_at, .int t_error, .int t_found, .ref q_t_tags, .ref q_t_subs, .ref q_t_numbers, .ref q_t_chars, .ref q_t_firsts, .ref q_t_seconds, .ref q_t_depths, .ref q_t_lambdas, .ref q_t_owners, .int t_version, .int t_terms, .int t_latestVersion, .int t_values, .ref q_t_kind, .ref q_t_number, .ref q_t_bytes, .ref q_t_part, .ref q_t_around, .ref q_t_many, .ref q_t_given, .int t_environments, .ref q_t_holds, .ref q_t_outer, .int t_frames, .ref q_t_frame, .ref q_t_first, .ref q_t_second, .int t_state, .int t_term, .int t_environment, .int t_value, .int t_budget, .int t_steps, .int t_costs, .int t_made, .int t_tells, .ref q_t_told, .int t_waiting, .ref q_t_what, .ref q_t_where, .ref q_t_inside]))] sz)) 0 0 (va_A [(q_t, .inr (8, [.int t_threw, .ref q_t_text, .int t_size, .int t_at, .int t_error, .int t_found, .ref q_t_tags, .ref q_t_subs, .ref q_t_numbers, .ref q_t_chars, .ref q_t_firsts, .ref q_t_seconds, .ref q_t_depths, .ref q_t_lambdas, .ref q_t_owners, .int t_version, .int t_terms, .int t_latestVersion, .int t_values, .ref q_t_kind, .ref q_t_number, .ref q_t_bytes, .ref q_t_part, .ref q_t_around, .ref q_t_many, .ref q_t_given, .int t_environments, .ref q_t_holds, .ref q_t_outer, .int t_frames, .ref q_t_frame, .ref q_t_first, .ref q_t_second, .int t_state, .int t_term, .int t_environment, .int t_value, .int t_budget, .int t_steps, .int t_costs, .int t_made, .int t_tells, .ref q_t_told, .int t_waiting, .ref q_t_what, .ref q_t_where, .ref q_t_inside]))] sz) := by
  refine Met.ofW (cc := cX9_about) (maxL := 2) (ret := (some .int)) (by decide) rfl ?_
  intro p e s m args below meth c s₁ B hml hv
  obtain ⟨rfl, hsz, hP, hK, hD0, hZ⟩ := hv
  have hx := B.exec
  have hb := B.bytes
  have hr := B.returns
  have hts := atoms_spec (ws := wsX9_about) B.pre
  have hown : s.vm.findClass RX9 = some m.cls := findClass_of_methodNamed B.named
  have hlocks := B.notSynchronized
  subst hsz
  have hD := hD0.self (sz := s.heap.size)
  generalize hAe : va_A [(q_t, .inr (8, [.int t_threw, .ref q_t_text, .int t_size, .int t_at, .int t_error, .int t_found, .ref q_t_tags, .ref q_t_subs, .ref q_t_numbers, .ref q_t_chars, .ref q_t_firsts, .ref q_t_seconds, .ref q_t_depths, .ref q_t_lambdas, .ref q_t_owners, .int t_version, .int t_terms, .int t_latestVersion, .int t_values, .ref q_t_kind, .ref q_t_number, .ref q_t_bytes, .ref q_t_part, .ref q_t_around, .ref q_t_many, .ref q_t_given, .int t_environments, .ref q_t_holds, .ref q_t_outer, .int t_frames, .ref q_t_frame, .ref q_t_first, .ref q_t_second, .int t_state, .int t_term, .int t_environment, .int t_value, .int t_budget, .int t_steps, .int t_costs, .int t_made, .int t_tells, .ref q_t_told, .int t_waiting, .ref q_t_what, .ref q_t_where, .ref q_t_inside]))] s.heap.size = A at hD hZ ⊢
  have hA : ∀ q : Nat, s.heap.size ≤ q → A q := fun q h => by rw [← hAe]; exact Or.inr h
  have hS : va_S A s.heap s.heap [] := va_S.rf
  have hP : va_P (dC, dI) vwCl [(q_t, .inr (8, [.int t_threw, .ref q_t_text, .int t_size, .int t_at, .int t_error, .int t_found, .ref q_t_tags, .ref q_t_subs, .ref q_t_numbers, .ref q_t_chars, .ref q_t_firsts, .ref q_t_seconds, .ref q_t_depths, .ref q_t_lambdas, .ref q_t_owners, .int t_version, .int t_terms, .int t_latestVersion, .int t_values, .ref q_t_kind, .ref q_t_number, .ref q_t_bytes, .ref q_t_part, .ref q_t_around, .ref q_t_many, .ref q_t_given, .int t_environments, .ref q_t_holds, .ref q_t_outer, .int t_frames, .ref q_t_frame, .ref q_t_first, .ref q_t_second, .int t_state, .int t_term, .int t_environment, .int t_value, .int t_budget, .int t_steps, .int t_costs, .int t_made, .int t_tells, .ref q_t_told, .int t_waiting, .ref q_t_what, .ref q_t_where, .ref q_t_inside]))] s.heap := hP
  have hl := lv_entry ([.ref q_t, .int x1]) (n := 2) (Nat.le_of_ble_eq_true rfl)
  rw [lg_entry_eq]
  generalize (lg_sl ([.ref q_t, .int x1]) ++ List.replicate (2 - (lg_sl ([.ref q_t, .int x1])).length) Slot.unset).toArray = ls at hl ⊢
  have hl : lv_has ls 2 [(0, .ref q_t), (1, .int x1)] := hl
  refine wq hP hS (fun Q hQ H locs hP hS => ?_)
  have htw : ∀ w ∈ AW, w.before _ s = true := fun w h => hts w (List.mem_cons_of_mem _ h)
  have hn0 : ∀ w ∈ wsX90, w ∈ wsX9_about := fun w h => List.mem_cons_of_mem _ (inX9 w h)
  unfold M_MO_about at hm
  refine lv_aload_n hx hb dX9_about_0 rfl (lv_at hl 0 rfl) ?_
  refine lv_iconst (v := 0) hx hb dX9_about_1 (by decide) ?_
  refine va_put (D := (dC, dI)) (ci := 8) (v := .int 0) (ty := .int) (C := RX9) (T := TX9) (N := 47) hx hb hts hn0 tyX9 tyX9_ok nmX9 hown hK hP hD hS 0 rfl rfl 0 (by decide) (htw _ aw_713) (fun _ h9 => h9) rfl (by decide +kernel) rfl rfl (Nat.le_of_ble_eq_true rfl) dX9_about_2 (fun H locs hP hD hS => ?_)
  have hP : va_P (dC, dI) vwCl [(q_t, .inr (8, [.int 0, .ref q_t_text, .int t_size, .int t_at, .int t_error, .int t_found, .ref q_t_tags, .ref q_t_subs, .ref q_t_numbers, .ref q_t_chars, .ref q_t_firsts, .ref q_t_seconds, .ref q_t_depths, .ref q_t_lambdas, .ref q_t_owners, .int t_version, .int t_terms, .int t_latestVersion, .int t_values, .ref q_t_kind, .ref q_t_number, .ref q_t_bytes, .ref q_t_part, .ref q_t_around, .ref q_t_many, .ref q_t_given, .int t_environments, .ref q_t_holds, .ref q_t_outer, .int t_frames, .ref q_t_frame, .ref q_t_first, .ref q_t_second, .int t_state, .int t_term, .int t_environment, .int t_value, .int t_budget, .int t_steps, .int t_costs, .int t_made, .int t_tells, .ref q_t_told, .int t_waiting, .ref q_t_what, .ref q_t_where, .ref q_t_inside]))] H := hP
  have hD : va_D A [(q_t, .inr (8, [.int 0, .ref q_t_text, .int t_size, .int t_at, .int t_error, .int t_found, .ref q_t_tags, .ref q_t_subs, .ref q_t_numbers, .ref q_t_chars, .ref q_t_firsts, .ref q_t_seconds, .ref q_t_depths, .ref q_t_lambdas, .ref q_t_owners, .int t_version, .int t_terms, .int t_latestVersion, .int t_values, .ref q_t_kind, .ref q_t_number, .ref q_t_bytes, .ref q_t_part, .ref q_t_around, .ref q_t_many, .ref q_t_given, .int t_environments, .ref q_t_holds, .ref q_t_outer, .int t_frames, .ref q_t_frame, .ref q_t_first, .ref q_t_second, .int t_state, .int t_term, .int t_environment, .int t_value, .int t_budget, .int t_steps, .int t_costs, .int t_made, .int t_tells, .ref q_t_told, .int t_waiting, .ref q_t_what, .ref q_t_where, .ref q_t_inside]))] := hD
  refine lv_iload_n hx hb dX9_about_5 rfl (lv_at hl 1 rfl) ?_
  by_cases h6_0 : x1 = 0
  · replace hm := ifp h6_0 hm
    refine lv_tableIn hx hb dX9_about_6 (by rw [h6_0]; decide) (by rw [h6_0]; decide) (by rw [h6_0]; rfl) rfl ?_
    refine lv_aload_n hx hb dX9_about_56 rfl (lv_at hl 0 rfl) ?_
    refine va_get (D := (dC, dI)) (ci := 8) (v := .int t_size) (C := RX9) (T := TX9) (N := 47) hx hb hts hn0 hown hK hP 0 rfl rfl 2 (by decide) (htw _ aw_715) (fun _ h9 => h9) rfl dX9_about_57 ?_
    obtain ⟨rfl, rfl⟩ := ij2 hm
    subst hQ
    exact W.iret hx hb hr (fun t ht hW => ⟨⟨_, (), rfl, rfl, by rw [ht]; exact hP, va_K.moved hW.alike hK, hD⟩, hS.F ht⟩) hS.2.2 dX9_about_60
  · replace hm := ifn h6_0 hm
    by_cases h6_1 : x1 = 1
    · replace hm := ifp h6_1 hm
      refine lv_tableIn hx hb dX9_about_6 (by rw [h6_1]; decide) (by rw [h6_1]; decide) (by rw [h6_1]; rfl) rfl ?_
      refine lv_aload_n hx hb dX9_about_61 rfl (lv_at hl 0 rfl) ?_
      refine va_get (D := (dC, dI)) (ci := 8) (v := .int t_terms) (C := RX9) (T := TX9) (N := 47) hx hb hts hn0 hown hK hP 0 rfl rfl 16 (by decide) (htw _ aw_729) (fun _ h9 => h9) rfl dX9_about_62 ?_
      obtain ⟨rfl, rfl⟩ := ij2 hm
      subst hQ
      exact W.iret hx hb hr (fun t ht hW => ⟨⟨_, (), rfl, rfl, by rw [ht]; exact hP, va_K.moved hW.alike hK, hD⟩, hS.F ht⟩) hS.2.2 dX9_about_65
    · replace hm := ifn h6_1 hm
      by_cases h6_2 : x1 = 2
      · replace hm := ifp h6_2 hm
        refine lv_tableIn hx hb dX9_about_6 (by rw [h6_2]; decide) (by rw [h6_2]; decide) (by rw [h6_2]; rfl) rfl ?_
        refine lv_aload_n hx hb dX9_about_66 rfl (lv_at hl 0 rfl) ?_
        refine va_get (D := (dC, dI)) (ci := 8) (v := .int t_latestVersion) (C := RX9) (T := TX9) (N := 47) hx hb hts hn0 hown hK hP 0 rfl rfl 17 (by decide) (htw _ aw_730) (fun _ h9 => h9) rfl dX9_about_67 ?_
        obtain ⟨rfl, rfl⟩ := ij2 hm
        subst hQ
        exact W.iret hx hb hr (fun t ht hW => ⟨⟨_, (), rfl, rfl, by rw [ht]; exact hP, va_K.moved hW.alike hK, hD⟩, hS.F ht⟩) hS.2.2 dX9_about_70
      · replace hm := ifn h6_2 hm
        by_cases h6_3 : x1 = 3
        · replace hm := ifp h6_3 hm
          refine lv_tableIn hx hb dX9_about_6 (by rw [h6_3]; decide) (by rw [h6_3]; decide) (by rw [h6_3]; rfl) rfl ?_
          refine lv_aload_n hx hb dX9_about_71 rfl (lv_at hl 0 rfl) ?_
          refine va_get (D := (dC, dI)) (ci := 8) (v := .int t_state) (C := RX9) (T := TX9) (N := 47) hx hb hts hn0 hown hK hP 0 rfl rfl 33 (by decide) (htw _ aw_746) (fun _ h9 => h9) rfl dX9_about_72 ?_
          obtain ⟨rfl, rfl⟩ := ij2 hm
          subst hQ
          exact W.iret hx hb hr (fun t ht hW => ⟨⟨_, (), rfl, rfl, by rw [ht]; exact hP, va_K.moved hW.alike hK, hD⟩, hS.F ht⟩) hS.2.2 dX9_about_75
        · replace hm := ifn h6_3 hm
          by_cases h6_4 : x1 = 4
          · replace hm := ifp h6_4 hm
            refine lv_tableIn hx hb dX9_about_6 (by rw [h6_4]; decide) (by rw [h6_4]; decide) (by rw [h6_4]; rfl) rfl ?_
            refine lv_aload_n hx hb dX9_about_76 rfl (lv_at hl 0 rfl) ?_
            refine va_get (D := (dC, dI)) (ci := 8) (v := .int t_steps) (C := RX9) (T := TX9) (N := 47) hx hb hts hn0 hown hK hP 0 rfl rfl 38 (by decide) (htw _ aw_751) (fun _ h9 => h9) rfl dX9_about_77 ?_
            obtain ⟨rfl, rfl⟩ := ij2 hm
            subst hQ
            exact W.iret hx hb hr (fun t ht hW => ⟨⟨_, (), rfl, rfl, by rw [ht]; exact hP, va_K.moved hW.alike hK, hD⟩, hS.F ht⟩) hS.2.2 dX9_about_80
          · replace hm := ifn h6_4 hm
            by_cases h6_5 : x1 = 5
            · replace hm := ifp h6_5 hm
              refine lv_tableIn hx hb dX9_about_6 (by rw [h6_5]; decide) (by rw [h6_5]; decide) (by rw [h6_5]; rfl) rfl ?_
              refine lv_aload_n hx hb dX9_about_81 rfl (lv_at hl 0 rfl) ?_
              refine va_get (D := (dC, dI)) (ci := 8) (v := .int t_costs) (C := RX9) (T := TX9) (N := 47) hx hb hts hn0 hown hK hP 0 rfl rfl 39 (by decide) (htw _ aw_752) (fun _ h9 => h9) rfl dX9_about_82 ?_
              obtain ⟨rfl, rfl⟩ := ij2 hm
              subst hQ
              exact W.iret hx hb hr (fun t ht hW => ⟨⟨_, (), rfl, rfl, by rw [ht]; exact hP, va_K.moved hW.alike hK, hD⟩, hS.F ht⟩) hS.2.2 dX9_about_85
            · replace hm := ifn h6_5 hm
              by_cases h6_6 : x1 = 6
              · replace hm := ifp h6_6 hm
                refine lv_tableIn hx hb dX9_about_6 (by rw [h6_6]; decide) (by rw [h6_6]; decide) (by rw [h6_6]; rfl) rfl ?_
                refine lv_aload_n hx hb dX9_about_86 rfl (lv_at hl 0 rfl) ?_
                refine va_get (D := (dC, dI)) (ci := 8) (v := .int t_frames) (C := RX9) (T := TX9) (N := 47) hx hb hts hn0 hown hK hP 0 rfl rfl 29 (by decide) (htw _ aw_742) (fun _ h9 => h9) rfl dX9_about_87 ?_
                obtain ⟨rfl, rfl⟩ := ij2 hm
                subst hQ
                exact W.iret hx hb hr (fun t ht hW => ⟨⟨_, (), rfl, rfl, by rw [ht]; exact hP, va_K.moved hW.alike hK, hD⟩, hS.F ht⟩) hS.2.2 dX9_about_90
              · replace hm := ifn h6_6 hm
                by_cases h6_7 : x1 = 7
                · replace hm := ifp h6_7 hm
                  refine lv_tableIn hx hb dX9_about_6 (by rw [h6_7]; decide) (by rw [h6_7]; decide) (by rw [h6_7]; rfl) rfl ?_
                  refine lv_aload_n hx hb dX9_about_91 rfl (lv_at hl 0 rfl) ?_
                  refine va_get (D := (dC, dI)) (ci := 8) (v := .int t_made) (C := RX9) (T := TX9) (N := 47) hx hb hts hn0 hown hK hP 0 rfl rfl 40 (by decide) (htw _ aw_753) (fun _ h9 => h9) rfl dX9_about_92 ?_
                  obtain ⟨rfl, rfl⟩ := ij2 hm
                  subst hQ
                  exact W.iret hx hb hr (fun t ht hW => ⟨⟨_, (), rfl, rfl, by rw [ht]; exact hP, va_K.moved hW.alike hK, hD⟩, hS.F ht⟩) hS.2.2 dX9_about_95
                · replace hm := ifn h6_7 hm
                  by_cases h6_8 : x1 = 8
                  · replace hm := ifp h6_8 hm
                    refine lv_tableIn hx hb dX9_about_6 (by rw [h6_8]; decide) (by rw [h6_8]; decide) (by rw [h6_8]; rfl) rfl ?_
                    refine lv_aload_n hx hb dX9_about_96 rfl (lv_at hl 0 rfl) ?_
                    refine va_get (D := (dC, dI)) (ci := 8) (v := .int t_tells) (C := RX9) (T := TX9) (N := 47) hx hb hts hn0 hown hK hP 0 rfl rfl 41 (by decide) (htw _ aw_754) (fun _ h9 => h9) rfl dX9_about_97 ?_
                    obtain ⟨rfl, rfl⟩ := ij2 hm
                    subst hQ
                    exact W.iret hx hb hr (fun t ht hW => ⟨⟨_, (), rfl, rfl, by rw [ht]; exact hP, va_K.moved hW.alike hK, hD⟩, hS.F ht⟩) hS.2.2 dX9_about_100
                  · replace hm := ifn h6_8 hm
                    refine lv_tableOut hx hb dX9_about_6 (by have g6_0 := lv_neT h6_0 (show (0 : Int32).toInt = 0 from by decide); have g6_1 := lv_neT h6_1 (show (1 : Int32).toInt = 1 from by decide); have g6_2 := lv_neT h6_2 (show (2 : Int32).toInt = 2 from by decide); have g6_3 := lv_neT h6_3 (show (3 : Int32).toInt = 3 from by decide); have g6_4 := lv_neT h6_4 (show (4 : Int32).toInt = 4 from by decide); have g6_5 := lv_neT h6_5 (show (5 : Int32).toInt = 5 from by decide); have g6_6 := lv_neT h6_6 (show (6 : Int32).toInt = 6 from by decide); have g6_7 := lv_neT h6_7 (show (7 : Int32).toInt = 7 from by decide); have g6_8 := lv_neT h6_8 (show (8 : Int32).toInt = 8 from by decide); omega) rfl ?_
                    refine lv_iconst (v := (-1)) hx hb dX9_about_101 (by decide) ?_
                    obtain ⟨rfl, rfl⟩ := ij2 hm
                    subst hQ
                    exact W.iret hx hb hr (fun t ht hW => ⟨⟨_, (), rfl, rfl, by rw [ht]; exact hP, va_K.moved hW.alike hK, hD⟩, hS.F ht⟩) hS.2.2 dX9_about_102
def M_MO_argumentsOf (x0 : Int32) : Option (Int32) :=
  (if x0 = 6 then
    some 3
  else
    (if x0 = 8 then
      some 1
    else
      some 2))
set_option maxHeartbeats 4000000 in
set_option maxRecDepth 100000 in
theorem c_MO_argumentsOf (l : Launch) (dC : Nat → ClassId) (dI : Nat → Nat → Nat) (cI cL : ClassId) (sz : Nat) (x0 r0 : Int32) (hm : M_MO_argumentsOf x0 = some r0) : Met l yX9_argumentsOf wsX9_argumentsOf ({ frames := 0, cells := 0, slots := 0, locals := 0 }) (frPc (dC, dI) vwCl [(cI, .int), (cL, .long)] [] sz [.int x0]) (va_Qi (fun (r : Int32) (_ : Unit) => r = r0) (frB (dC, dI) vwCl [(cI, .int), (cL, .long)] (va_A [] sz) []) (va_A [] sz)) 0 0 (va_A [] sz) := by
  refine Met.ofW (cc := cX9_argumentsOf) (maxL := 1) (ret := (some .int)) (by decide) rfl ?_
  intro p e s m args below meth c s₁ B hml hv
  obtain ⟨rfl, hsz, hP, hK, hD0, hZ⟩ := hv
  have hx := B.exec
  have hb := B.bytes
  have hr := B.returns
  have hts := atoms_spec (ws := wsX9_argumentsOf) B.pre
  have hown : s.vm.findClass RX9 = some m.cls := findClass_of_methodNamed B.named
  have hlocks := B.notSynchronized
  subst hsz
  have hD := hD0.self (sz := s.heap.size)
  generalize hAe : va_A [] s.heap.size = A at hD hZ ⊢
  have hA : ∀ q : Nat, s.heap.size ≤ q → A q := fun q h => by rw [← hAe]; exact Or.inr h
  have hS : va_S A s.heap s.heap [] := va_S.rf
  have hP : va_P (dC, dI) vwCl [] s.heap := hP
  have hl := lv_entry ([.int x0]) (n := 1) (Nat.le_of_ble_eq_true rfl)
  rw [lg_entry_eq]
  generalize (lg_sl ([.int x0]) ++ List.replicate (1 - (lg_sl ([.int x0])).length) Slot.unset).toArray = ls at hl ⊢
  have hl : lv_has ls 1 [(0, .int x0)] := hl
  refine wq hP hS (fun Q hQ H locs hP hS => ?_)
  have htw : ∀ w ∈ AW, w.before _ s = true := fun w h => hts w (List.mem_cons_of_mem _ h)
  unfold M_MO_argumentsOf at hm
  refine lv_iload_n hx hb dX9_argumentsOf_0 rfl (lv_at hl 0 rfl) ?_
  refine lv_bipush (v := 6) hx hb dX9_argumentsOf_1 (by decide) ?_
  refine lv_icmp_ne hx hb dX9_argumentsOf_3 rfl (fun h3 => ?_) (fun h3 => ?_)
  · replace hm := ifn h3 hm
    refine lv_iload_n hx hb dX9_argumentsOf_10 rfl (lv_at hl 0 rfl) ?_
    refine lv_bipush (v := 8) hx hb dX9_argumentsOf_11 (by decide) ?_
    refine lv_icmp_ne hx hb dX9_argumentsOf_13 rfl (fun h13 => ?_) (fun h13 => ?_)
    · replace hm := ifn h13 hm
      refine lv_iconst (v := 2) hx hb dX9_argumentsOf_20 (by decide) ?_
      obtain rfl := Option.some.inj hm
      subst hQ
      exact W.iret hx hb hr (fun t ht hW => ⟨⟨_, (), rfl, rfl, by rw [ht]; exact hP, va_K.moved hW.alike hK, hD⟩, hS.F ht⟩) hS.2.2 dX9_argumentsOf_21
    · replace hm := ifp h13 hm
      refine lv_iconst (v := 1) hx hb dX9_argumentsOf_16 (by decide) ?_
      refine lv_goto hx hb dX9_argumentsOf_17 rfl ?_
      obtain rfl := Option.some.inj hm
      subst hQ
      exact W.iret hx hb hr (fun t ht hW => ⟨⟨_, (), rfl, rfl, by rw [ht]; exact hP, va_K.moved hW.alike hK, hD⟩, hS.F ht⟩) hS.2.2 dX9_argumentsOf_21
  · replace hm := ifp h3 hm
    refine lv_iconst (v := 3) hx hb dX9_argumentsOf_6 (by decide) ?_
    refine lv_goto hx hb dX9_argumentsOf_7 rfl ?_
    obtain rfl := Option.some.inj hm
    subst hQ
    exact W.iret hx hb hr (fun t ht hW => ⟨⟨_, (), rfl, rfl, by rw [ht]; exact hP, va_K.moved hW.alike hK, hD⟩, hS.F ht⟩) hS.2.2 dX9_argumentsOf_21
def M_MO_computes (t_state : Int32) (t_term : Int32) (t_environment : Int32) (x1 : Int32) (x2 : Int32) : Option (Int32 × Int32 × Int32) :=
  some (1, x1, x2)
set_option maxHeartbeats 4000000 in
set_option maxRecDepth 100000 in
theorem c_MO_computes (l : Launch) (dC : Nat → ClassId) (dI : Nat → Nat → Nat) (cI cL : ClassId) (sz : Nat) (q_t q_t_text q_t_tags q_t_subs q_t_numbers q_t_chars q_t_firsts q_t_seconds q_t_depths q_t_lambdas q_t_owners q_t_kind q_t_number q_t_bytes q_t_part q_t_around q_t_many q_t_given q_t_holds q_t_outer q_t_frame q_t_first q_t_second q_t_told q_t_what q_t_where q_t_inside : Nat) (t_threw t_size t_at t_error t_found t_version t_terms t_latestVersion t_values t_environments t_frames t_state t_term t_environment t_value t_budget t_steps t_costs t_made t_tells t_waiting x1 x2 u_t_state u_t_term u_t_environment : Int32) (hm : M_MO_computes t_state t_term t_environment x1 x2 = some (u_t_state, u_t_term, u_t_environment)) : Met l yX9_computes wsX9_computes ({ frames := 0, cells := 0, slots := 0, locals := 0 }) (frPc (dC, dI) vwCl [(cI, .int), (cL, .long)] [(q_t, .inr (8, [.int t_threw, .ref q_t_text, .int t_size, .int t_at, .int t_error, .int t_found, .ref q_t_tags, .ref q_t_subs, .ref q_t_numbers, .ref q_t_chars, .ref q_t_firsts, .ref q_t_seconds, .ref q_t_depths, .ref q_t_lambdas, .ref q_t_owners, .int t_version, .int t_terms, .int t_latestVersion, .int t_values, .ref q_t_kind, .ref q_t_number, .ref q_t_bytes, .ref q_t_part, .ref q_t_around, .ref q_t_many, .ref q_t_given, .int t_environments, .ref q_t_holds, .ref q_t_outer, .int t_frames, .ref q_t_frame, .ref q_t_first, .ref q_t_second, .int t_state, .int t_term, .int t_environment, .int t_value, .int t_budget, .int t_steps, .int t_costs, .int t_made, .int t_tells, .ref q_t_told, .int t_waiting, .ref q_t_what, .ref q_t_where, .ref q_t_inside]))] sz [.ref q_t, .int x1, .int x2]) (va_Qv (fun (_ : Unit) => True) (frB (dC, dI) vwCl [(cI, .int), (cL, .long)] (va_A [(q_t, .inr (8, [.int t_threw, .ref q_t_text, .int t_size, .int t_at, .int t_error, .int t_found, .ref q_t_tags, .ref q_t_subs, .ref q_t_numbers, .ref q_t_chars, .ref q_t_firsts, .ref q_t_seconds, .ref q_t_depths, .ref q_t_lambdas, .ref q_t_owners, .int t_version, .int t_terms, .int t_latestVersion, .int t_values, .ref q_t_kind, .ref q_t_number, .ref q_t_bytes, .ref q_t_part, .ref q_t_around, .ref q_t_many, .ref q_t_given, .int t_environments, .ref q_t_holds, .ref q_t_outer, .int t_frames, .ref q_t_frame, .ref q_t_first, .ref q_t_second, .int t_state, .int t_term, .int t_environment, .int t_value, .int t_budget, .int t_steps, .int t_costs, .int t_made, .int t_tells, .ref q_t_told, .int t_waiting, .ref q_t_what, .ref q_t_where, .ref q_t_inside]))] sz) [(q_t, .inr (8, [.int t_threw, .ref q_t_text, .int t_size, .int t_at, .int t_error, .int t_found, .ref q_t_tags, .ref q_t_subs, .ref q_t_numbers, .ref q_t_chars, .ref q_t_firsts, .ref q_t_seconds, .ref q_t_depths, .ref q_t_lambdas, .ref q_t_owners, .int t_version, .int t_terms, .int t_latestVersion, .int t_values, .ref q_t_kind, .ref q_t_number, .ref q_t_bytes, .ref q_t_part, .ref q_t_around, .ref q_t_many, .ref q_t_given, .int t_environments, .ref q_t_holds, .ref q_t_outer, .int t_frames, .ref q_t_frame, .ref q_t_first, .ref q_t_second, .int u_t_state, .int u_t_term, .int u_t_environment, .int t_value, .int t_budget, .int t_steps, .int t_costs, .int t_made, .int t_tells, .ref q_t_told, .int t_waiting, .ref q_t_what, .ref q_t_where, .ref q_t_inside]))]) (va_A [(q_t, .inr (8, [.int t_threw, .ref q_t_text, .int t_size, .int t_at, .int t_error, .int t_found, .ref q_t_tags, .ref q_t_subs, .ref q_t_numbers, .ref q_t_chars, .ref q_t_firsts, .ref q_t_seconds, .ref q_t_depths, .ref q_t_lambdas, .ref q_t_owners, .int t_version, .int t_terms, .int t_latestVersion, .int t_values, .ref q_t_kind, .ref q_t_number, .ref q_t_bytes, .ref q_t_part, .ref q_t_around, .ref q_t_many, .ref q_t_given, .int t_environments, .ref q_t_holds, .ref q_t_outer, .int t_frames, .ref q_t_frame, .ref q_t_first, .ref q_t_second, .int t_state, .int t_term, .int t_environment, .int t_value, .int t_budget, .int t_steps, .int t_costs, .int t_made, .int t_tells, .ref q_t_told, .int t_waiting, .ref q_t_what, .ref q_t_where, .ref q_t_inside]))] sz)) 0 0 (va_A [(q_t, .inr (8, [.int t_threw, .ref q_t_text, .int t_size, .int t_at, .int t_error, .int t_found, .ref q_t_tags, .ref q_t_subs, .ref q_t_numbers, .ref q_t_chars, .ref q_t_firsts, .ref q_t_seconds, .ref q_t_depths, .ref q_t_lambdas, .ref q_t_owners, .int t_version, .int t_terms, .int t_latestVersion, .int t_values, .ref q_t_kind, .ref q_t_number, .ref q_t_bytes, .ref q_t_part, .ref q_t_around, .ref q_t_many, .ref q_t_given, .int t_environments, .ref q_t_holds, .ref q_t_outer, .int t_frames, .ref q_t_frame, .ref q_t_first, .ref q_t_second, .int t_state, .int t_term, .int t_environment, .int t_value, .int t_budget, .int t_steps, .int t_costs, .int t_made, .int t_tells, .ref q_t_told, .int t_waiting, .ref q_t_what, .ref q_t_where, .ref q_t_inside]))] sz) := by
  refine Met.ofW (cc := cX9_computes) (maxL := 3) (ret := none) (by decide) rfl ?_
  intro p e s m args below meth c s₁ B hml hv
  obtain ⟨rfl, hsz, hP, hK, hD0, hZ⟩ := hv
  have hx := B.exec
  have hb := B.bytes
  have hr := B.returns
  have hts := atoms_spec (ws := wsX9_computes) B.pre
  have hown : s.vm.findClass RX9 = some m.cls := findClass_of_methodNamed B.named
  have hlocks := B.notSynchronized
  subst hsz
  have hD := hD0.self (sz := s.heap.size)
  generalize hAe : va_A [(q_t, .inr (8, [.int t_threw, .ref q_t_text, .int t_size, .int t_at, .int t_error, .int t_found, .ref q_t_tags, .ref q_t_subs, .ref q_t_numbers, .ref q_t_chars, .ref q_t_firsts, .ref q_t_seconds, .ref q_t_depths, .ref q_t_lambdas, .ref q_t_owners, .int t_version, .int t_terms, .int t_latestVersion, .int t_values, .ref q_t_kind, .ref q_t_number, .ref q_t_bytes, .ref q_t_part, .ref q_t_around, .ref q_t_many, .ref q_t_given, .int t_environments, .ref q_t_holds, .ref q_t_outer, .int t_frames, .ref q_t_frame, .ref q_t_first, .ref q_t_second, .int t_state, .int t_term, .int t_environment, .int t_value, .int t_budget, .int t_steps, .int t_costs, .int t_made, .int t_tells, .ref q_t_told, .int t_waiting, .ref q_t_what, .ref q_t_where, .ref q_t_inside]))] s.heap.size = A at hD hZ ⊢
  have hA : ∀ q : Nat, s.heap.size ≤ q → A q := fun q h => by rw [← hAe]; exact Or.inr h
  have hS : va_S A s.heap s.heap [] := va_S.rf
  have hP : va_P (dC, dI) vwCl [(q_t, .inr (8, [.int t_threw, .ref q_t_text, .int t_size, .int t_at, .int t_error, .int t_found, .ref q_t_tags, .ref q_t_subs, .ref q_t_numbers, .ref q_t_chars, .ref q_t_firsts, .ref q_t_seconds, .ref q_t_depths, .ref q_t_lambdas, .ref q_t_owners, .int t_version, .int t_terms, .int t_latestVersion, .int t_values, .ref q_t_kind, .ref q_t_number, .ref q_t_bytes, .ref q_t_part, .ref q_t_around, .ref q_t_many, .ref q_t_given, .int t_environments, .ref q_t_holds, .ref q_t_outer, .int t_frames, .ref q_t_frame, .ref q_t_first, .ref q_t_second, .int t_state, .int t_term, .int t_environment, .int t_value, .int t_budget, .int t_steps, .int t_costs, .int t_made, .int t_tells, .ref q_t_told, .int t_waiting, .ref q_t_what, .ref q_t_where, .ref q_t_inside]))] s.heap := hP
  have hl := lv_entry ([.ref q_t, .int x1, .int x2]) (n := 3) (Nat.le_of_ble_eq_true rfl)
  rw [lg_entry_eq]
  generalize (lg_sl ([.ref q_t, .int x1, .int x2]) ++ List.replicate (3 - (lg_sl ([.ref q_t, .int x1, .int x2])).length) Slot.unset).toArray = ls at hl ⊢
  have hl : lv_has ls 3 [(0, .ref q_t), (1, .int x1), (2, .int x2)] := hl
  refine wq hP hS (fun Q hQ H locs hP hS => ?_)
  have htw : ∀ w ∈ AW, w.before _ s = true := fun w h => hts w (List.mem_cons_of_mem _ h)
  have hn0 : ∀ w ∈ wsX90, w ∈ wsX9_computes := fun w h => List.mem_cons_of_mem _ (inX9 w h)
  unfold M_MO_computes at hm
  refine lv_aload_n hx hb dX9_computes_0 rfl (lv_at hl 0 rfl) ?_
  refine lv_iload_n hx hb dX9_computes_1 rfl (lv_at hl 1 rfl) ?_
  refine va_put (D := (dC, dI)) (ci := 8) (v := .int x1) (ty := .int) (C := RX9) (T := TX9) (N := 47) hx hb hts hn0 tyX9 tyX9_ok nmX9 hown hK hP hD hS 0 rfl rfl 34 (by decide) (htw _ aw_747) (fun _ h9 => h9) rfl (by decide +kernel) rfl rfl (Nat.le_of_ble_eq_true rfl) dX9_computes_2 (fun H locs hP hD hS => ?_)
  have hP : va_P (dC, dI) vwCl [(q_t, .inr (8, [.int t_threw, .ref q_t_text, .int t_size, .int t_at, .int t_error, .int t_found, .ref q_t_tags, .ref q_t_subs, .ref q_t_numbers, .ref q_t_chars, .ref q_t_firsts, .ref q_t_seconds, .ref q_t_depths, .ref q_t_lambdas, .ref q_t_owners, .int t_version, .int t_terms, .int t_latestVersion, .int t_values, .ref q_t_kind, .ref q_t_number, .ref q_t_bytes, .ref q_t_part, .ref q_t_around, .ref q_t_many, .ref q_t_given, .int t_environments, .ref q_t_holds, .ref q_t_outer, .int t_frames, .ref q_t_frame, .ref q_t_first, .ref q_t_second, .int t_state, .int x1, .int t_environment, .int t_value, .int t_budget, .int t_steps, .int t_costs, .int t_made, .int t_tells, .ref q_t_told, .int t_waiting, .ref q_t_what, .ref q_t_where, .ref q_t_inside]))] H := hP
  have hD : va_D A [(q_t, .inr (8, [.int t_threw, .ref q_t_text, .int t_size, .int t_at, .int t_error, .int t_found, .ref q_t_tags, .ref q_t_subs, .ref q_t_numbers, .ref q_t_chars, .ref q_t_firsts, .ref q_t_seconds, .ref q_t_depths, .ref q_t_lambdas, .ref q_t_owners, .int t_version, .int t_terms, .int t_latestVersion, .int t_values, .ref q_t_kind, .ref q_t_number, .ref q_t_bytes, .ref q_t_part, .ref q_t_around, .ref q_t_many, .ref q_t_given, .int t_environments, .ref q_t_holds, .ref q_t_outer, .int t_frames, .ref q_t_frame, .ref q_t_first, .ref q_t_second, .int t_state, .int x1, .int t_environment, .int t_value, .int t_budget, .int t_steps, .int t_costs, .int t_made, .int t_tells, .ref q_t_told, .int t_waiting, .ref q_t_what, .ref q_t_where, .ref q_t_inside]))] := hD
  refine lv_aload_n hx hb dX9_computes_5 rfl (lv_at hl 0 rfl) ?_
  refine lv_iload_n hx hb dX9_computes_6 rfl (lv_at hl 2 rfl) ?_
  refine va_put (D := (dC, dI)) (ci := 8) (v := .int x2) (ty := .int) (C := RX9) (T := TX9) (N := 47) hx hb hts hn0 tyX9 tyX9_ok nmX9 hown hK hP hD hS 0 rfl rfl 35 (by decide) (htw _ aw_748) (fun _ h9 => h9) rfl (by decide +kernel) rfl rfl (Nat.le_of_ble_eq_true rfl) dX9_computes_7 (fun H locs hP hD hS => ?_)
  have hP : va_P (dC, dI) vwCl [(q_t, .inr (8, [.int t_threw, .ref q_t_text, .int t_size, .int t_at, .int t_error, .int t_found, .ref q_t_tags, .ref q_t_subs, .ref q_t_numbers, .ref q_t_chars, .ref q_t_firsts, .ref q_t_seconds, .ref q_t_depths, .ref q_t_lambdas, .ref q_t_owners, .int t_version, .int t_terms, .int t_latestVersion, .int t_values, .ref q_t_kind, .ref q_t_number, .ref q_t_bytes, .ref q_t_part, .ref q_t_around, .ref q_t_many, .ref q_t_given, .int t_environments, .ref q_t_holds, .ref q_t_outer, .int t_frames, .ref q_t_frame, .ref q_t_first, .ref q_t_second, .int t_state, .int x1, .int x2, .int t_value, .int t_budget, .int t_steps, .int t_costs, .int t_made, .int t_tells, .ref q_t_told, .int t_waiting, .ref q_t_what, .ref q_t_where, .ref q_t_inside]))] H := hP
  have hD : va_D A [(q_t, .inr (8, [.int t_threw, .ref q_t_text, .int t_size, .int t_at, .int t_error, .int t_found, .ref q_t_tags, .ref q_t_subs, .ref q_t_numbers, .ref q_t_chars, .ref q_t_firsts, .ref q_t_seconds, .ref q_t_depths, .ref q_t_lambdas, .ref q_t_owners, .int t_version, .int t_terms, .int t_latestVersion, .int t_values, .ref q_t_kind, .ref q_t_number, .ref q_t_bytes, .ref q_t_part, .ref q_t_around, .ref q_t_many, .ref q_t_given, .int t_environments, .ref q_t_holds, .ref q_t_outer, .int t_frames, .ref q_t_frame, .ref q_t_first, .ref q_t_second, .int t_state, .int x1, .int x2, .int t_value, .int t_budget, .int t_steps, .int t_costs, .int t_made, .int t_tells, .ref q_t_told, .int t_waiting, .ref q_t_what, .ref q_t_where, .ref q_t_inside]))] := hD
  refine lv_aload_n hx hb dX9_computes_10 rfl (lv_at hl 0 rfl) ?_
  refine lv_iconst (v := 1) hx hb dX9_computes_11 (by decide) ?_
  refine va_put (D := (dC, dI)) (ci := 8) (v := .int 1) (ty := .int) (C := RX9) (T := TX9) (N := 47) hx hb hts hn0 tyX9 tyX9_ok nmX9 hown hK hP hD hS 0 rfl rfl 33 (by decide) (htw _ aw_746) (fun _ h9 => h9) rfl (by decide +kernel) rfl rfl (Nat.le_of_ble_eq_true rfl) dX9_computes_12 (fun H locs hP hD hS => ?_)
  have hP : va_P (dC, dI) vwCl [(q_t, .inr (8, [.int t_threw, .ref q_t_text, .int t_size, .int t_at, .int t_error, .int t_found, .ref q_t_tags, .ref q_t_subs, .ref q_t_numbers, .ref q_t_chars, .ref q_t_firsts, .ref q_t_seconds, .ref q_t_depths, .ref q_t_lambdas, .ref q_t_owners, .int t_version, .int t_terms, .int t_latestVersion, .int t_values, .ref q_t_kind, .ref q_t_number, .ref q_t_bytes, .ref q_t_part, .ref q_t_around, .ref q_t_many, .ref q_t_given, .int t_environments, .ref q_t_holds, .ref q_t_outer, .int t_frames, .ref q_t_frame, .ref q_t_first, .ref q_t_second, .int 1, .int x1, .int x2, .int t_value, .int t_budget, .int t_steps, .int t_costs, .int t_made, .int t_tells, .ref q_t_told, .int t_waiting, .ref q_t_what, .ref q_t_where, .ref q_t_inside]))] H := hP
  have hD : va_D A [(q_t, .inr (8, [.int t_threw, .ref q_t_text, .int t_size, .int t_at, .int t_error, .int t_found, .ref q_t_tags, .ref q_t_subs, .ref q_t_numbers, .ref q_t_chars, .ref q_t_firsts, .ref q_t_seconds, .ref q_t_depths, .ref q_t_lambdas, .ref q_t_owners, .int t_version, .int t_terms, .int t_latestVersion, .int t_values, .ref q_t_kind, .ref q_t_number, .ref q_t_bytes, .ref q_t_part, .ref q_t_around, .ref q_t_many, .ref q_t_given, .int t_environments, .ref q_t_holds, .ref q_t_outer, .int t_frames, .ref q_t_frame, .ref q_t_first, .ref q_t_second, .int 1, .int x1, .int x2, .int t_value, .int t_budget, .int t_steps, .int t_costs, .int t_made, .int t_tells, .ref q_t_told, .int t_waiting, .ref q_t_what, .ref q_t_where, .ref q_t_inside]))] := hD
  obtain ⟨rfl, rfl, rfl⟩ := ij3 hm
  subst hQ
  exact W.vret hx hb hr (fun t ht hW => ⟨⟨(), rfl, trivial, by rw [ht]; exact hP, va_K.moved hW.alike hK, hD⟩, hS.F ht⟩) hS.2.2 dX9_computes_15
def M_MO_end (t_state : Int32) (x1 : Int32) : Option (Int32) :=
  some (10 + x1)
set_option maxHeartbeats 4000000 in
set_option maxRecDepth 100000 in
theorem c_MO_end (l : Launch) (dC : Nat → ClassId) (dI : Nat → Nat → Nat) (cI cL : ClassId) (sz : Nat) (q_t q_t_text q_t_tags q_t_subs q_t_numbers q_t_chars q_t_firsts q_t_seconds q_t_depths q_t_lambdas q_t_owners q_t_kind q_t_number q_t_bytes q_t_part q_t_around q_t_many q_t_given q_t_holds q_t_outer q_t_frame q_t_first q_t_second q_t_told q_t_what q_t_where q_t_inside : Nat) (t_threw t_size t_at t_error t_found t_version t_terms t_latestVersion t_values t_environments t_frames t_state t_term t_environment t_value t_budget t_steps t_costs t_made t_tells t_waiting x1 u_t_state : Int32) (hm : M_MO_end t_state x1 = some u_t_state) : Met l yX9_end wsX9_end ({ frames := 0, cells := 0, slots := 0, locals := 0 }) (frPc (dC, dI) vwCl [(cI, .int), (cL, .long)] [(q_t, .inr (8, [.int t_threw, .ref q_t_text, .int t_size, .int t_at, .int t_error, .int t_found, .ref q_t_tags, .ref q_t_subs, .ref q_t_numbers, .ref q_t_chars, .ref q_t_firsts, .ref q_t_seconds, .ref q_t_depths, .ref q_t_lambdas, .ref q_t_owners, .int t_version, .int t_terms, .int t_latestVersion, .int t_values, .ref q_t_kind, .ref q_t_number, .ref q_t_bytes, .ref q_t_part, .ref q_t_around, .ref q_t_many, .ref q_t_given, .int t_environments, .ref q_t_holds, .ref q_t_outer, .int t_frames, .ref q_t_frame, .ref q_t_first, .ref q_t_second, .int t_state, .int t_term, .int t_environment, .int t_value, .int t_budget, .int t_steps, .int t_costs, .int t_made, .int t_tells, .ref q_t_told, .int t_waiting, .ref q_t_what, .ref q_t_where, .ref q_t_inside]))] sz [.ref q_t, .int x1]) (va_Qv (fun (_ : Unit) => True) (frB (dC, dI) vwCl [(cI, .int), (cL, .long)] (va_A [(q_t, .inr (8, [.int t_threw, .ref q_t_text, .int t_size, .int t_at, .int t_error, .int t_found, .ref q_t_tags, .ref q_t_subs, .ref q_t_numbers, .ref q_t_chars, .ref q_t_firsts, .ref q_t_seconds, .ref q_t_depths, .ref q_t_lambdas, .ref q_t_owners, .int t_version, .int t_terms, .int t_latestVersion, .int t_values, .ref q_t_kind, .ref q_t_number, .ref q_t_bytes, .ref q_t_part, .ref q_t_around, .ref q_t_many, .ref q_t_given, .int t_environments, .ref q_t_holds, .ref q_t_outer, .int t_frames, .ref q_t_frame, .ref q_t_first, .ref q_t_second, .int t_state, .int t_term, .int t_environment, .int t_value, .int t_budget, .int t_steps, .int t_costs, .int t_made, .int t_tells, .ref q_t_told, .int t_waiting, .ref q_t_what, .ref q_t_where, .ref q_t_inside]))] sz) [(q_t, .inr (8, [.int t_threw, .ref q_t_text, .int t_size, .int t_at, .int t_error, .int t_found, .ref q_t_tags, .ref q_t_subs, .ref q_t_numbers, .ref q_t_chars, .ref q_t_firsts, .ref q_t_seconds, .ref q_t_depths, .ref q_t_lambdas, .ref q_t_owners, .int t_version, .int t_terms, .int t_latestVersion, .int t_values, .ref q_t_kind, .ref q_t_number, .ref q_t_bytes, .ref q_t_part, .ref q_t_around, .ref q_t_many, .ref q_t_given, .int t_environments, .ref q_t_holds, .ref q_t_outer, .int t_frames, .ref q_t_frame, .ref q_t_first, .ref q_t_second, .int u_t_state, .int t_term, .int t_environment, .int t_value, .int t_budget, .int t_steps, .int t_costs, .int t_made, .int t_tells, .ref q_t_told, .int t_waiting, .ref q_t_what, .ref q_t_where, .ref q_t_inside]))]) (va_A [(q_t, .inr (8, [.int t_threw, .ref q_t_text, .int t_size, .int t_at, .int t_error, .int t_found, .ref q_t_tags, .ref q_t_subs, .ref q_t_numbers, .ref q_t_chars, .ref q_t_firsts, .ref q_t_seconds, .ref q_t_depths, .ref q_t_lambdas, .ref q_t_owners, .int t_version, .int t_terms, .int t_latestVersion, .int t_values, .ref q_t_kind, .ref q_t_number, .ref q_t_bytes, .ref q_t_part, .ref q_t_around, .ref q_t_many, .ref q_t_given, .int t_environments, .ref q_t_holds, .ref q_t_outer, .int t_frames, .ref q_t_frame, .ref q_t_first, .ref q_t_second, .int t_state, .int t_term, .int t_environment, .int t_value, .int t_budget, .int t_steps, .int t_costs, .int t_made, .int t_tells, .ref q_t_told, .int t_waiting, .ref q_t_what, .ref q_t_where, .ref q_t_inside]))] sz)) 0 0 (va_A [(q_t, .inr (8, [.int t_threw, .ref q_t_text, .int t_size, .int t_at, .int t_error, .int t_found, .ref q_t_tags, .ref q_t_subs, .ref q_t_numbers, .ref q_t_chars, .ref q_t_firsts, .ref q_t_seconds, .ref q_t_depths, .ref q_t_lambdas, .ref q_t_owners, .int t_version, .int t_terms, .int t_latestVersion, .int t_values, .ref q_t_kind, .ref q_t_number, .ref q_t_bytes, .ref q_t_part, .ref q_t_around, .ref q_t_many, .ref q_t_given, .int t_environments, .ref q_t_holds, .ref q_t_outer, .int t_frames, .ref q_t_frame, .ref q_t_first, .ref q_t_second, .int t_state, .int t_term, .int t_environment, .int t_value, .int t_budget, .int t_steps, .int t_costs, .int t_made, .int t_tells, .ref q_t_told, .int t_waiting, .ref q_t_what, .ref q_t_where, .ref q_t_inside]))] sz) := by
  refine Met.ofW (cc := cX9_end) (maxL := 2) (ret := none) (by decide) rfl ?_
  intro p e s m args below meth c s₁ B hml hv
  obtain ⟨rfl, hsz, hP, hK, hD0, hZ⟩ := hv
  have hx := B.exec
  have hb := B.bytes
  have hr := B.returns
  have hts := atoms_spec (ws := wsX9_end) B.pre
  have hown : s.vm.findClass RX9 = some m.cls := findClass_of_methodNamed B.named
  have hlocks := B.notSynchronized
  subst hsz
  have hD := hD0.self (sz := s.heap.size)
  generalize hAe : va_A [(q_t, .inr (8, [.int t_threw, .ref q_t_text, .int t_size, .int t_at, .int t_error, .int t_found, .ref q_t_tags, .ref q_t_subs, .ref q_t_numbers, .ref q_t_chars, .ref q_t_firsts, .ref q_t_seconds, .ref q_t_depths, .ref q_t_lambdas, .ref q_t_owners, .int t_version, .int t_terms, .int t_latestVersion, .int t_values, .ref q_t_kind, .ref q_t_number, .ref q_t_bytes, .ref q_t_part, .ref q_t_around, .ref q_t_many, .ref q_t_given, .int t_environments, .ref q_t_holds, .ref q_t_outer, .int t_frames, .ref q_t_frame, .ref q_t_first, .ref q_t_second, .int t_state, .int t_term, .int t_environment, .int t_value, .int t_budget, .int t_steps, .int t_costs, .int t_made, .int t_tells, .ref q_t_told, .int t_waiting, .ref q_t_what, .ref q_t_where, .ref q_t_inside]))] s.heap.size = A at hD hZ ⊢
  have hA : ∀ q : Nat, s.heap.size ≤ q → A q := fun q h => by rw [← hAe]; exact Or.inr h
  have hS : va_S A s.heap s.heap [] := va_S.rf
  have hP : va_P (dC, dI) vwCl [(q_t, .inr (8, [.int t_threw, .ref q_t_text, .int t_size, .int t_at, .int t_error, .int t_found, .ref q_t_tags, .ref q_t_subs, .ref q_t_numbers, .ref q_t_chars, .ref q_t_firsts, .ref q_t_seconds, .ref q_t_depths, .ref q_t_lambdas, .ref q_t_owners, .int t_version, .int t_terms, .int t_latestVersion, .int t_values, .ref q_t_kind, .ref q_t_number, .ref q_t_bytes, .ref q_t_part, .ref q_t_around, .ref q_t_many, .ref q_t_given, .int t_environments, .ref q_t_holds, .ref q_t_outer, .int t_frames, .ref q_t_frame, .ref q_t_first, .ref q_t_second, .int t_state, .int t_term, .int t_environment, .int t_value, .int t_budget, .int t_steps, .int t_costs, .int t_made, .int t_tells, .ref q_t_told, .int t_waiting, .ref q_t_what, .ref q_t_where, .ref q_t_inside]))] s.heap := hP
  have hl := lv_entry ([.ref q_t, .int x1]) (n := 2) (Nat.le_of_ble_eq_true rfl)
  rw [lg_entry_eq]
  generalize (lg_sl ([.ref q_t, .int x1]) ++ List.replicate (2 - (lg_sl ([.ref q_t, .int x1])).length) Slot.unset).toArray = ls at hl ⊢
  have hl : lv_has ls 2 [(0, .ref q_t), (1, .int x1)] := hl
  refine wq hP hS (fun Q hQ H locs hP hS => ?_)
  have htw : ∀ w ∈ AW, w.before _ s = true := fun w h => hts w (List.mem_cons_of_mem _ h)
  have hn0 : ∀ w ∈ wsX90, w ∈ wsX9_end := fun w h => List.mem_cons_of_mem _ (inX9 w h)
  unfold M_MO_end at hm
  refine lv_aload_n hx hb dX9_end_0 rfl (lv_at hl 0 rfl) ?_
  refine lv_bipush (v := 10) hx hb dX9_end_1 (by decide) ?_
  refine lv_iload_n hx hb dX9_end_3 rfl (lv_at hl 1 rfl) ?_
  refine lv_iadd hx hb dX9_end_4 ?_
  refine va_put (D := (dC, dI)) (ci := 8) (v := .int (10 + x1)) (ty := .int) (C := RX9) (T := TX9) (N := 47) hx hb hts hn0 tyX9 tyX9_ok nmX9 hown hK hP hD hS 0 rfl rfl 33 (by decide) (htw _ aw_746) (fun _ h9 => h9) rfl (by decide +kernel) rfl rfl (Nat.le_of_ble_eq_true rfl) dX9_end_5 (fun H locs hP hD hS => ?_)
  have hP : va_P (dC, dI) vwCl [(q_t, .inr (8, [.int t_threw, .ref q_t_text, .int t_size, .int t_at, .int t_error, .int t_found, .ref q_t_tags, .ref q_t_subs, .ref q_t_numbers, .ref q_t_chars, .ref q_t_firsts, .ref q_t_seconds, .ref q_t_depths, .ref q_t_lambdas, .ref q_t_owners, .int t_version, .int t_terms, .int t_latestVersion, .int t_values, .ref q_t_kind, .ref q_t_number, .ref q_t_bytes, .ref q_t_part, .ref q_t_around, .ref q_t_many, .ref q_t_given, .int t_environments, .ref q_t_holds, .ref q_t_outer, .int t_frames, .ref q_t_frame, .ref q_t_first, .ref q_t_second, .int (10 + x1), .int t_term, .int t_environment, .int t_value, .int t_budget, .int t_steps, .int t_costs, .int t_made, .int t_tells, .ref q_t_told, .int t_waiting, .ref q_t_what, .ref q_t_where, .ref q_t_inside]))] H := hP
  have hD : va_D A [(q_t, .inr (8, [.int t_threw, .ref q_t_text, .int t_size, .int t_at, .int t_error, .int t_found, .ref q_t_tags, .ref q_t_subs, .ref q_t_numbers, .ref q_t_chars, .ref q_t_firsts, .ref q_t_seconds, .ref q_t_depths, .ref q_t_lambdas, .ref q_t_owners, .int t_version, .int t_terms, .int t_latestVersion, .int t_values, .ref q_t_kind, .ref q_t_number, .ref q_t_bytes, .ref q_t_part, .ref q_t_around, .ref q_t_many, .ref q_t_given, .int t_environments, .ref q_t_holds, .ref q_t_outer, .int t_frames, .ref q_t_frame, .ref q_t_first, .ref q_t_second, .int (10 + x1), .int t_term, .int t_environment, .int t_value, .int t_budget, .int t_steps, .int t_costs, .int t_made, .int t_tells, .ref q_t_told, .int t_waiting, .ref q_t_what, .ref q_t_where, .ref q_t_inside]))] := hD
  obtain rfl := Option.some.inj hm
  subst hQ
  exact W.vret hx hb hr (fun t ht hW => ⟨⟨(), rfl, trivial, by rw [ht]; exact hP, va_K.moved hW.alike hK, hD⟩, hS.F ht⟩) hS.2.2 dX9_end_8
def M_MO_argument (t_many : Nat → Int32) (t_given : Nat → Int32) (x1 : Int32) (x2 : Int32) (x3 : Int32) : Option (Int32) :=
  chk ((0 : Int32) ≤ x1 ∧ x1 < 700) ((if (t_many x1.toNatClampNeg) ≤ x3 then
    some x2
  else
    chk ((0 : Int32) ≤ ((3 * x1) + x3) ∧ ((3 * x1) + x3) < 2100) (some (t_given ((3 * x1) + x3).toNatClampNeg))))
set_option maxHeartbeats 4000000 in
set_option maxRecDepth 100000 in
theorem c_MO_argument (l : Launch) (dC : Nat → ClassId) (dI : Nat → Nat → Nat) (cI cL : ClassId) (sz : Nat) (q_t q_t_text q_t_tags q_t_subs q_t_numbers q_t_chars q_t_firsts q_t_seconds q_t_depths q_t_lambdas q_t_owners q_t_kind q_t_number q_t_bytes q_t_part q_t_around q_t_many q_t_given q_t_holds q_t_outer q_t_frame q_t_first q_t_second q_t_told q_t_what q_t_where q_t_inside : Nat) (t_threw t_size t_at t_error t_found t_version t_terms t_latestVersion t_values t_environments t_frames t_state t_term t_environment t_value t_budget t_steps t_costs t_made t_tells t_waiting : Int32) (t_many t_given : Nat → Int32) (x1 x2 x3 r0 : Int32) (hm : M_MO_argument t_many t_given x1 x2 x3 = some r0) : Met l yX9_argument wsX9_argument ({ frames := 0, cells := 0, slots := 0, locals := 0 }) (frPc (dC, dI) vwCl [(cI, .int), (cL, .long)] [(q_t, .inr (8, [.int t_threw, .ref q_t_text, .int t_size, .int t_at, .int t_error, .int t_found, .ref q_t_tags, .ref q_t_subs, .ref q_t_numbers, .ref q_t_chars, .ref q_t_firsts, .ref q_t_seconds, .ref q_t_depths, .ref q_t_lambdas, .ref q_t_owners, .int t_version, .int t_terms, .int t_latestVersion, .int t_values, .ref q_t_kind, .ref q_t_number, .ref q_t_bytes, .ref q_t_part, .ref q_t_around, .ref q_t_many, .ref q_t_given, .int t_environments, .ref q_t_holds, .ref q_t_outer, .int t_frames, .ref q_t_frame, .ref q_t_first, .ref q_t_second, .int t_state, .int t_term, .int t_environment, .int t_value, .int t_budget, .int t_steps, .int t_costs, .int t_made, .int t_tells, .ref q_t_told, .int t_waiting, .ref q_t_what, .ref q_t_where, .ref q_t_inside])), (q_t_many, .inl (cI, 700, .inl t_many)), (q_t_given, .inl (cI, 2100, .inl t_given))] sz [.ref q_t, .int x1, .int x2, .int x3]) (va_Qi (fun (r : Int32) (_ : Unit) => r = r0) (frB (dC, dI) vwCl [(cI, .int), (cL, .long)] (va_A [(q_t, .inr (8, [.int t_threw, .ref q_t_text, .int t_size, .int t_at, .int t_error, .int t_found, .ref q_t_tags, .ref q_t_subs, .ref q_t_numbers, .ref q_t_chars, .ref q_t_firsts, .ref q_t_seconds, .ref q_t_depths, .ref q_t_lambdas, .ref q_t_owners, .int t_version, .int t_terms, .int t_latestVersion, .int t_values, .ref q_t_kind, .ref q_t_number, .ref q_t_bytes, .ref q_t_part, .ref q_t_around, .ref q_t_many, .ref q_t_given, .int t_environments, .ref q_t_holds, .ref q_t_outer, .int t_frames, .ref q_t_frame, .ref q_t_first, .ref q_t_second, .int t_state, .int t_term, .int t_environment, .int t_value, .int t_budget, .int t_steps, .int t_costs, .int t_made, .int t_tells, .ref q_t_told, .int t_waiting, .ref q_t_what, .ref q_t_where, .ref q_t_inside])), (q_t_many, .inl (cI, 700, .inl t_many)), (q_t_given, .inl (cI, 2100, .inl t_given))] sz) [(q_t, .inr (8, [.int t_threw, .ref q_t_text, .int t_size, .int t_at, .int t_error, .int t_found, .ref q_t_tags, .ref q_t_subs, .ref q_t_numbers, .ref q_t_chars, .ref q_t_firsts, .ref q_t_seconds, .ref q_t_depths, .ref q_t_lambdas, .ref q_t_owners, .int t_version, .int t_terms, .int t_latestVersion, .int t_values, .ref q_t_kind, .ref q_t_number, .ref q_t_bytes, .ref q_t_part, .ref q_t_around, .ref q_t_many, .ref q_t_given, .int t_environments, .ref q_t_holds, .ref q_t_outer, .int t_frames, .ref q_t_frame, .ref q_t_first, .ref q_t_second, .int t_state, .int t_term, .int t_environment, .int t_value, .int t_budget, .int t_steps, .int t_costs, .int t_made, .int t_tells, .ref q_t_told, .int t_waiting, .ref q_t_what, .ref q_t_where, .ref q_t_inside])), (q_t_many, .inl (cI, 700, .inl t_many)), (q_t_given, .inl (cI, 2100, .inl t_given))]) (va_A [(q_t, .inr (8, [.int t_threw, .ref q_t_text, .int t_size, .int t_at, .int t_error, .int t_found, .ref q_t_tags, .ref q_t_subs, .ref q_t_numbers, .ref q_t_chars, .ref q_t_firsts, .ref q_t_seconds, .ref q_t_depths, .ref q_t_lambdas, .ref q_t_owners, .int t_version, .int t_terms, .int t_latestVersion, .int t_values, .ref q_t_kind, .ref q_t_number, .ref q_t_bytes, .ref q_t_part, .ref q_t_around, .ref q_t_many, .ref q_t_given, .int t_environments, .ref q_t_holds, .ref q_t_outer, .int t_frames, .ref q_t_frame, .ref q_t_first, .ref q_t_second, .int t_state, .int t_term, .int t_environment, .int t_value, .int t_budget, .int t_steps, .int t_costs, .int t_made, .int t_tells, .ref q_t_told, .int t_waiting, .ref q_t_what, .ref q_t_where, .ref q_t_inside])), (q_t_many, .inl (cI, 700, .inl t_many)), (q_t_given, .inl (cI, 2100, .inl t_given))] sz)) 0 0 (va_A [(q_t, .inr (8, [.int t_threw, .ref q_t_text, .int t_size, .int t_at, .int t_error, .int t_found, .ref q_t_tags, .ref q_t_subs, .ref q_t_numbers, .ref q_t_chars, .ref q_t_firsts, .ref q_t_seconds, .ref q_t_depths, .ref q_t_lambdas, .ref q_t_owners, .int t_version, .int t_terms, .int t_latestVersion, .int t_values, .ref q_t_kind, .ref q_t_number, .ref q_t_bytes, .ref q_t_part, .ref q_t_around, .ref q_t_many, .ref q_t_given, .int t_environments, .ref q_t_holds, .ref q_t_outer, .int t_frames, .ref q_t_frame, .ref q_t_first, .ref q_t_second, .int t_state, .int t_term, .int t_environment, .int t_value, .int t_budget, .int t_steps, .int t_costs, .int t_made, .int t_tells, .ref q_t_told, .int t_waiting, .ref q_t_what, .ref q_t_where, .ref q_t_inside])), (q_t_many, .inl (cI, 700, .inl t_many)), (q_t_given, .inl (cI, 2100, .inl t_given))] sz) := by
  refine Met.ofW (cc := cX9_argument) (maxL := 4) (ret := (some .int)) (by decide) rfl ?_
  intro p e s m args below meth c s₁ B hml hv
  obtain ⟨rfl, hsz, hP, hK, hD0, hZ⟩ := hv
  have hx := B.exec
  have hb := B.bytes
  have hr := B.returns
  have hts := atoms_spec (ws := wsX9_argument) B.pre
  have hown : s.vm.findClass RX9 = some m.cls := findClass_of_methodNamed B.named
  have hlocks := B.notSynchronized
  subst hsz
  have hD := hD0.self (sz := s.heap.size)
  generalize hAe : va_A [(q_t, .inr (8, [.int t_threw, .ref q_t_text, .int t_size, .int t_at, .int t_error, .int t_found, .ref q_t_tags, .ref q_t_subs, .ref q_t_numbers, .ref q_t_chars, .ref q_t_firsts, .ref q_t_seconds, .ref q_t_depths, .ref q_t_lambdas, .ref q_t_owners, .int t_version, .int t_terms, .int t_latestVersion, .int t_values, .ref q_t_kind, .ref q_t_number, .ref q_t_bytes, .ref q_t_part, .ref q_t_around, .ref q_t_many, .ref q_t_given, .int t_environments, .ref q_t_holds, .ref q_t_outer, .int t_frames, .ref q_t_frame, .ref q_t_first, .ref q_t_second, .int t_state, .int t_term, .int t_environment, .int t_value, .int t_budget, .int t_steps, .int t_costs, .int t_made, .int t_tells, .ref q_t_told, .int t_waiting, .ref q_t_what, .ref q_t_where, .ref q_t_inside])), (q_t_many, .inl (cI, 700, .inl t_many)), (q_t_given, .inl (cI, 2100, .inl t_given))] s.heap.size = A at hD hZ ⊢
  have hA : ∀ q : Nat, s.heap.size ≤ q → A q := fun q h => by rw [← hAe]; exact Or.inr h
  have hS : va_S A s.heap s.heap [] := va_S.rf
  have hP : va_P (dC, dI) vwCl [(q_t, .inr (8, [.int t_threw, .ref q_t_text, .int t_size, .int t_at, .int t_error, .int t_found, .ref q_t_tags, .ref q_t_subs, .ref q_t_numbers, .ref q_t_chars, .ref q_t_firsts, .ref q_t_seconds, .ref q_t_depths, .ref q_t_lambdas, .ref q_t_owners, .int t_version, .int t_terms, .int t_latestVersion, .int t_values, .ref q_t_kind, .ref q_t_number, .ref q_t_bytes, .ref q_t_part, .ref q_t_around, .ref q_t_many, .ref q_t_given, .int t_environments, .ref q_t_holds, .ref q_t_outer, .int t_frames, .ref q_t_frame, .ref q_t_first, .ref q_t_second, .int t_state, .int t_term, .int t_environment, .int t_value, .int t_budget, .int t_steps, .int t_costs, .int t_made, .int t_tells, .ref q_t_told, .int t_waiting, .ref q_t_what, .ref q_t_where, .ref q_t_inside])), (q_t_many, .inl (cI, 700, .inl t_many)), (q_t_given, .inl (cI, 2100, .inl t_given))] s.heap := hP
  have hl := lv_entry ([.ref q_t, .int x1, .int x2, .int x3]) (n := 4) (Nat.le_of_ble_eq_true rfl)
  rw [lg_entry_eq]
  generalize (lg_sl ([.ref q_t, .int x1, .int x2, .int x3]) ++ List.replicate (4 - (lg_sl ([.ref q_t, .int x1, .int x2, .int x3])).length) Slot.unset).toArray = ls at hl ⊢
  have hl : lv_has ls 4 [(0, .ref q_t), (1, .int x1), (2, .int x2), (3, .int x3)] := hl
  refine wq hP hS (fun Q hQ H locs hP hS => ?_)
  have htw : ∀ w ∈ AW, w.before _ s = true := fun w h => hts w (List.mem_cons_of_mem _ h)
  have hn0 : ∀ w ∈ wsX90, w ∈ wsX9_argument := fun w h => List.mem_cons_of_mem _ (inX9 w h)
  unfold M_MO_argument at hm
  refine lv_iload_n hx hb dX9_argument_0 rfl (lv_at hl 3 rfl) ?_
  refine lv_aload_n hx hb dX9_argument_1 rfl (lv_at hl 0 rfl) ?_
  refine va_get (D := (dC, dI)) (ci := 8) (v := .ref q_t_many) (C := RX9) (T := TX9) (N := 47) hx hb hts hn0 hown hK hP 0 rfl rfl 24 (by decide) (htw _ aw_737) (fun _ h9 => h9) rfl dX9_argument_2 ?_
  refine lv_iload_n hx hb dX9_argument_5 rfl (lv_at hl 1 rfl) ?_
  obtain ⟨h6, hm⟩ := chk_inv hm
  refine va_iald (D := (dC, dI)) hx hb hK hP 1 0 rfl rfl (in_of (n := 700) (by decide) h6) dX9_argument_6 ?_
  refine lv_icmp_ge hx hb dX9_argument_7 rfl (fun h7 => ?_) (fun h7 => ?_)
  · replace hm := ifp h7 hm
    refine lv_iload_n hx hb dX9_argument_23 rfl (lv_at hl 2 rfl) ?_
    obtain rfl := Option.some.inj hm
    subst hQ
    exact W.iret hx hb hr (fun t ht hW => ⟨⟨_, (), rfl, rfl, by rw [ht]; exact hP, va_K.moved hW.alike hK, hD⟩, hS.F ht⟩) hS.2.2 dX9_argument_24
  · replace hm := ifn h7 hm
    refine lv_aload_n hx hb dX9_argument_10 rfl (lv_at hl 0 rfl) ?_
    refine va_get (D := (dC, dI)) (ci := 8) (v := .ref q_t_given) (C := RX9) (T := TX9) (N := 47) hx hb hts hn0 hown hK hP 0 rfl rfl 25 (by decide) (htw _ aw_738) (fun _ h9 => h9) rfl dX9_argument_11 ?_
    refine lv_iconst (v := 3) hx hb dX9_argument_14 (by decide) ?_
    refine lv_iload_n hx hb dX9_argument_15 rfl (lv_at hl 1 rfl) ?_
    refine lv_imul hx hb dX9_argument_16 ?_
    refine lv_iload_n hx hb dX9_argument_17 rfl (lv_at hl 3 rfl) ?_
    refine lv_iadd hx hb dX9_argument_18 ?_
    obtain ⟨h19, hm⟩ := chk_inv hm
    refine va_iald (D := (dC, dI)) hx hb hK hP 2 0 rfl rfl (in_of (n := 2100) (by decide) h19) dX9_argument_19 ?_
    refine lv_goto hx hb dX9_argument_20 rfl ?_
    obtain rfl := Option.some.inj hm
    subst hQ
    exact W.iret hx hb hr (fun t ht hW => ⟨⟨_, (), rfl, rfl, by rw [ht]; exact hP, va_K.moved hW.alike hK, hD⟩, hS.F ht⟩) hS.2.2 dX9_argument_24
def M_MO_wanted (x0 : Int32) (x1 : Int32) : Option (Int32) :=
  (if x0 = 6 then
    (if x1 = 0 then
      some 1
    else
      some (-1))
  else
    (if x0 = 10 then
      (if x1 = 0 then
        some 2
      else
        some (-1))
    else
      (if 6 ≤ x0 then
        (if x0 = 9 then
          (if x1 = 1 then
            some 0
          else
            some 3)
        else
          some 3)
      else
        some 0)))
set_option maxHeartbeats 4000000 in
set_option maxRecDepth 100000 in
theorem c_MO_wanted (l : Launch) (dC : Nat → ClassId) (dI : Nat → Nat → Nat) (cI cL : ClassId) (sz : Nat) (x0 x1 r0 : Int32) (hm : M_MO_wanted x0 x1 = some r0) : Met l yX9_wanted wsX9_wanted ({ frames := 0, cells := 0, slots := 0, locals := 0 }) (frPc (dC, dI) vwCl [(cI, .int), (cL, .long)] [] sz [.int x0, .int x1]) (va_Qi (fun (r : Int32) (_ : Unit) => r = r0) (frB (dC, dI) vwCl [(cI, .int), (cL, .long)] (va_A [] sz) []) (va_A [] sz)) 0 0 (va_A [] sz) := by
  refine Met.ofW (cc := cX9_wanted) (maxL := 2) (ret := (some .int)) (by decide) rfl ?_
  intro p e s m args below meth c s₁ B hml hv
  obtain ⟨rfl, hsz, hP, hK, hD0, hZ⟩ := hv
  have hx := B.exec
  have hb := B.bytes
  have hr := B.returns
  have hts := atoms_spec (ws := wsX9_wanted) B.pre
  have hown : s.vm.findClass RX9 = some m.cls := findClass_of_methodNamed B.named
  have hlocks := B.notSynchronized
  subst hsz
  have hD := hD0.self (sz := s.heap.size)
  generalize hAe : va_A [] s.heap.size = A at hD hZ ⊢
  have hA : ∀ q : Nat, s.heap.size ≤ q → A q := fun q h => by rw [← hAe]; exact Or.inr h
  have hS : va_S A s.heap s.heap [] := va_S.rf
  have hP : va_P (dC, dI) vwCl [] s.heap := hP
  have hl := lv_entry ([.int x0, .int x1]) (n := 2) (Nat.le_of_ble_eq_true rfl)
  rw [lg_entry_eq]
  generalize (lg_sl ([.int x0, .int x1]) ++ List.replicate (2 - (lg_sl ([.int x0, .int x1])).length) Slot.unset).toArray = ls at hl ⊢
  have hl : lv_has ls 2 [(0, .int x0), (1, .int x1)] := hl
  refine wq hP hS (fun Q hQ H locs hP hS => ?_)
  have htw : ∀ w ∈ AW, w.before _ s = true := fun w h => hts w (List.mem_cons_of_mem _ h)
  unfold M_MO_wanted at hm
  refine lv_iload_n hx hb dX9_wanted_0 rfl (lv_at hl 0 rfl) ?_
  refine lv_bipush (v := 6) hx hb dX9_wanted_1 (by decide) ?_
  refine lv_icmp_ne hx hb dX9_wanted_3 rfl (fun h3 => ?_) (fun h3 => ?_)
  · replace hm := ifn h3 hm
    refine lv_iload_n hx hb dX9_wanted_16 rfl (lv_at hl 0 rfl) ?_
    refine lv_bipush (v := 10) hx hb dX9_wanted_17 (by decide) ?_
    refine lv_icmp_ne hx hb dX9_wanted_19 rfl (fun h19 => ?_) (fun h19 => ?_)
    · replace hm := ifn h19 hm
      refine lv_iload_n hx hb dX9_wanted_32 rfl (lv_at hl 0 rfl) ?_
      refine lv_bipush (v := 6) hx hb dX9_wanted_33 (by decide) ?_
      refine lv_icmp_ge hx hb dX9_wanted_35 rfl (fun h35 => ?_) (fun h35 => ?_)
      · replace hm := ifp h35 hm
        refine lv_iload_n hx hb dX9_wanted_42 rfl (lv_at hl 0 rfl) ?_
        refine lv_bipush (v := 9) hx hb dX9_wanted_43 (by decide) ?_
        refine lv_icmp_ne hx hb dX9_wanted_45 rfl (fun h45 => ?_) (fun h45 => ?_)
        · replace hm := ifn h45 hm
          refine lv_iconst (v := 3) hx hb dX9_wanted_57 (by decide) ?_
          obtain rfl := Option.some.inj hm
          subst hQ
          exact W.iret hx hb hr (fun t ht hW => ⟨⟨_, (), rfl, rfl, by rw [ht]; exact hP, va_K.moved hW.alike hK, hD⟩, hS.F ht⟩) hS.2.2 dX9_wanted_58
        · replace hm := ifp h45 hm
          refine lv_iload_n hx hb dX9_wanted_48 rfl (lv_at hl 1 rfl) ?_
          refine lv_iconst (v := 1) hx hb dX9_wanted_49 (by decide) ?_
          refine lv_icmp_ne hx hb dX9_wanted_50 rfl (fun h50 => ?_) (fun h50 => ?_)
          · replace hm := ifn h50 hm
            refine lv_iconst (v := 3) hx hb dX9_wanted_57 (by decide) ?_
            obtain rfl := Option.some.inj hm
            subst hQ
            exact W.iret hx hb hr (fun t ht hW => ⟨⟨_, (), rfl, rfl, by rw [ht]; exact hP, va_K.moved hW.alike hK, hD⟩, hS.F ht⟩) hS.2.2 dX9_wanted_58
          · replace hm := ifp h50 hm
            refine lv_iconst (v := 0) hx hb dX9_wanted_53 (by decide) ?_
            refine lv_goto hx hb dX9_wanted_54 rfl ?_
            obtain rfl := Option.some.inj hm
            subst hQ
            exact W.iret hx hb hr (fun t ht hW => ⟨⟨_, (), rfl, rfl, by rw [ht]; exact hP, va_K.moved hW.alike hK, hD⟩, hS.F ht⟩) hS.2.2 dX9_wanted_58
      · replace hm := ifn h35 hm
        refine lv_iconst (v := 0) hx hb dX9_wanted_38 (by decide) ?_
        refine lv_goto hx hb dX9_wanted_39 rfl ?_
        obtain rfl := Option.some.inj hm
        subst hQ
        exact W.iret hx hb hr (fun t ht hW => ⟨⟨_, (), rfl, rfl, by rw [ht]; exact hP, va_K.moved hW.alike hK, hD⟩, hS.F ht⟩) hS.2.2 dX9_wanted_58
    · replace hm := ifp h19 hm
      refine lv_iload_n hx hb dX9_wanted_22 rfl (lv_at hl 1 rfl) ?_
      refine lv_if_ne hx hb dX9_wanted_23 rfl (fun h23 => ?_) (fun h23 => ?_)
      · replace hm := ifn h23 hm
        refine lv_iconst (v := (-1)) hx hb dX9_wanted_30 (by decide) ?_
        obtain rfl := Option.some.inj hm
        subst hQ
        exact W.iret hx hb hr (fun t ht hW => ⟨⟨_, (), rfl, rfl, by rw [ht]; exact hP, va_K.moved hW.alike hK, hD⟩, hS.F ht⟩) hS.2.2 dX9_wanted_31
      · replace hm := ifp h23 hm
        refine lv_iconst (v := 2) hx hb dX9_wanted_26 (by decide) ?_
        refine lv_goto hx hb dX9_wanted_27 rfl ?_
        obtain rfl := Option.some.inj hm
        subst hQ
        exact W.iret hx hb hr (fun t ht hW => ⟨⟨_, (), rfl, rfl, by rw [ht]; exact hP, va_K.moved hW.alike hK, hD⟩, hS.F ht⟩) hS.2.2 dX9_wanted_31
  · replace hm := ifp h3 hm
    refine lv_iload_n hx hb dX9_wanted_6 rfl (lv_at hl 1 rfl) ?_
    refine lv_if_ne hx hb dX9_wanted_7 rfl (fun h7 => ?_) (fun h7 => ?_)
    · replace hm := ifn h7 hm
      refine lv_iconst (v := (-1)) hx hb dX9_wanted_14 (by decide) ?_
      obtain rfl := Option.some.inj hm
      subst hQ
      exact W.iret hx hb hr (fun t ht hW => ⟨⟨_, (), rfl, rfl, by rw [ht]; exact hP, va_K.moved hW.alike hK, hD⟩, hS.F ht⟩) hS.2.2 dX9_wanted_15
    · replace hm := ifp h7 hm
      refine lv_iconst (v := 1) hx hb dX9_wanted_10 (by decide) ?_
      refine lv_goto hx hb dX9_wanted_11 rfl ?_
      obtain rfl := Option.some.inj hm
      subst hQ
      exact W.iret hx hb hr (fun t ht hW => ⟨⟨_, (), rfl, rfl, by rw [ht]; exact hP, va_K.moved hW.alike hK, hD⟩, hS.F ht⟩) hS.2.2 dX9_wanted_15
def M_MO_fits_13 (t_kind : Nat → Int32) (t_part : Nat → Int32) (t_many : Nat → Int32) (t_given : Nat → Int32) : Nat → Int32 → Int32 → Int32 → Int32 → Int32 → Option (Int32)
  | 0, _, _, _, _, _ => none
  | f + 1, v1, v2, v3, v4, v5 =>
    c1 (M_MO_argumentsOf v3) (fun r16 =>
      (if r16 ≤ v5 then
        chk (v4 = 0 ∨ v4 = 1) (some v4)
      else
        (if v4 = 0 then
          M_MO_fits_13 t_kind t_part t_many t_given f v1 v2 v3 0 (v5 + 1)
        else
          c1 (M_MO_wanted v3 v5) (fun r30 =>
            (if r30 = (-1) then
              M_MO_fits_13 t_kind t_part t_many t_given f v1 v2 v3 1 (v5 + 1)
            else
              c1 (M_MO_argument t_many t_given v1 v2 v5) (fun r46 =>
                chk ((0 : Int32) ≤ r46 ∧ r46 < 700) (c1 (M_MO_wanted v3 v5) (fun r53 =>
                  (if (t_kind r46.toNatClampNeg) = r53 then
                    M_MO_fits_13 t_kind t_part t_many t_given f v1 v2 v3 1 (v5 + 1)
                  else
                    M_MO_fits_13 t_kind t_part t_many t_given f v1 v2 v3 0 (v5 + 1))))))))))
def M_MO_fits (t_kind : Nat → Int32) (t_part : Nat → Int32) (t_many : Nat → Int32) (t_given : Nat → Int32) (x1 : Int32) (x2 : Int32) : Option (Int32) :=
  chk ((0 : Int32) ≤ x1 ∧ x1 < 700) (M_MO_fits_13 t_kind t_part t_many t_given 1000 x1 x2 (t_part x1.toNatClampNeg) 1 0)
set_option maxHeartbeats 4000000 in
set_option maxRecDepth 100000 in
theorem c_MO_fits (l : Launch) (dC : Nat → ClassId) (dI : Nat → Nat → Nat) (cI cL : ClassId) (sz : Nat) (q_t q_t_text q_t_tags q_t_subs q_t_numbers q_t_chars q_t_firsts q_t_seconds q_t_depths q_t_lambdas q_t_owners q_t_kind q_t_number q_t_bytes q_t_part q_t_around q_t_many q_t_given q_t_holds q_t_outer q_t_frame q_t_first q_t_second q_t_told q_t_what q_t_where q_t_inside : Nat) (t_threw t_size t_at t_error t_found t_version t_terms t_latestVersion t_values t_environments t_frames t_state t_term t_environment t_value t_budget t_steps t_costs t_made t_tells t_waiting : Int32) (t_kind t_part t_many t_given : Nat → Int32) (x1 x2 r0 : Int32) (hm : M_MO_fits t_kind t_part t_many t_given x1 x2 = some r0) : Met l yX9_fits wsX9_fits ({ frames := 1, cells := 0, slots := 0, locals := 23 }) (frPc (dC, dI) vwCl [(cI, .int), (cL, .long)] [(q_t, .inr (8, [.int t_threw, .ref q_t_text, .int t_size, .int t_at, .int t_error, .int t_found, .ref q_t_tags, .ref q_t_subs, .ref q_t_numbers, .ref q_t_chars, .ref q_t_firsts, .ref q_t_seconds, .ref q_t_depths, .ref q_t_lambdas, .ref q_t_owners, .int t_version, .int t_terms, .int t_latestVersion, .int t_values, .ref q_t_kind, .ref q_t_number, .ref q_t_bytes, .ref q_t_part, .ref q_t_around, .ref q_t_many, .ref q_t_given, .int t_environments, .ref q_t_holds, .ref q_t_outer, .int t_frames, .ref q_t_frame, .ref q_t_first, .ref q_t_second, .int t_state, .int t_term, .int t_environment, .int t_value, .int t_budget, .int t_steps, .int t_costs, .int t_made, .int t_tells, .ref q_t_told, .int t_waiting, .ref q_t_what, .ref q_t_where, .ref q_t_inside])), (q_t_kind, .inl (cI, 700, .inl t_kind)), (q_t_part, .inl (cI, 700, .inl t_part)), (q_t_many, .inl (cI, 700, .inl t_many)), (q_t_given, .inl (cI, 2100, .inl t_given))] sz [.ref q_t, .int x1, .int x2]) (va_Qi (fun (r : Int32) (_ : Unit) => r = r0) (frB (dC, dI) vwCl [(cI, .int), (cL, .long)] (va_A [(q_t, .inr (8, [.int t_threw, .ref q_t_text, .int t_size, .int t_at, .int t_error, .int t_found, .ref q_t_tags, .ref q_t_subs, .ref q_t_numbers, .ref q_t_chars, .ref q_t_firsts, .ref q_t_seconds, .ref q_t_depths, .ref q_t_lambdas, .ref q_t_owners, .int t_version, .int t_terms, .int t_latestVersion, .int t_values, .ref q_t_kind, .ref q_t_number, .ref q_t_bytes, .ref q_t_part, .ref q_t_around, .ref q_t_many, .ref q_t_given, .int t_environments, .ref q_t_holds, .ref q_t_outer, .int t_frames, .ref q_t_frame, .ref q_t_first, .ref q_t_second, .int t_state, .int t_term, .int t_environment, .int t_value, .int t_budget, .int t_steps, .int t_costs, .int t_made, .int t_tells, .ref q_t_told, .int t_waiting, .ref q_t_what, .ref q_t_where, .ref q_t_inside])), (q_t_kind, .inl (cI, 700, .inl t_kind)), (q_t_part, .inl (cI, 700, .inl t_part)), (q_t_many, .inl (cI, 700, .inl t_many)), (q_t_given, .inl (cI, 2100, .inl t_given))] sz) [(q_t, .inr (8, [.int t_threw, .ref q_t_text, .int t_size, .int t_at, .int t_error, .int t_found, .ref q_t_tags, .ref q_t_subs, .ref q_t_numbers, .ref q_t_chars, .ref q_t_firsts, .ref q_t_seconds, .ref q_t_depths, .ref q_t_lambdas, .ref q_t_owners, .int t_version, .int t_terms, .int t_latestVersion, .int t_values, .ref q_t_kind, .ref q_t_number, .ref q_t_bytes, .ref q_t_part, .ref q_t_around, .ref q_t_many, .ref q_t_given, .int t_environments, .ref q_t_holds, .ref q_t_outer, .int t_frames, .ref q_t_frame, .ref q_t_first, .ref q_t_second, .int t_state, .int t_term, .int t_environment, .int t_value, .int t_budget, .int t_steps, .int t_costs, .int t_made, .int t_tells, .ref q_t_told, .int t_waiting, .ref q_t_what, .ref q_t_where, .ref q_t_inside])), (q_t_kind, .inl (cI, 700, .inl t_kind)), (q_t_part, .inl (cI, 700, .inl t_part)), (q_t_many, .inl (cI, 700, .inl t_many)), (q_t_given, .inl (cI, 2100, .inl t_given))]) (va_A [(q_t, .inr (8, [.int t_threw, .ref q_t_text, .int t_size, .int t_at, .int t_error, .int t_found, .ref q_t_tags, .ref q_t_subs, .ref q_t_numbers, .ref q_t_chars, .ref q_t_firsts, .ref q_t_seconds, .ref q_t_depths, .ref q_t_lambdas, .ref q_t_owners, .int t_version, .int t_terms, .int t_latestVersion, .int t_values, .ref q_t_kind, .ref q_t_number, .ref q_t_bytes, .ref q_t_part, .ref q_t_around, .ref q_t_many, .ref q_t_given, .int t_environments, .ref q_t_holds, .ref q_t_outer, .int t_frames, .ref q_t_frame, .ref q_t_first, .ref q_t_second, .int t_state, .int t_term, .int t_environment, .int t_value, .int t_budget, .int t_steps, .int t_costs, .int t_made, .int t_tells, .ref q_t_told, .int t_waiting, .ref q_t_what, .ref q_t_where, .ref q_t_inside])), (q_t_kind, .inl (cI, 700, .inl t_kind)), (q_t_part, .inl (cI, 700, .inl t_part)), (q_t_many, .inl (cI, 700, .inl t_many)), (q_t_given, .inl (cI, 2100, .inl t_given))] sz)) 0 0 (va_A [(q_t, .inr (8, [.int t_threw, .ref q_t_text, .int t_size, .int t_at, .int t_error, .int t_found, .ref q_t_tags, .ref q_t_subs, .ref q_t_numbers, .ref q_t_chars, .ref q_t_firsts, .ref q_t_seconds, .ref q_t_depths, .ref q_t_lambdas, .ref q_t_owners, .int t_version, .int t_terms, .int t_latestVersion, .int t_values, .ref q_t_kind, .ref q_t_number, .ref q_t_bytes, .ref q_t_part, .ref q_t_around, .ref q_t_many, .ref q_t_given, .int t_environments, .ref q_t_holds, .ref q_t_outer, .int t_frames, .ref q_t_frame, .ref q_t_first, .ref q_t_second, .int t_state, .int t_term, .int t_environment, .int t_value, .int t_budget, .int t_steps, .int t_costs, .int t_made, .int t_tells, .ref q_t_told, .int t_waiting, .ref q_t_what, .ref q_t_where, .ref q_t_inside])), (q_t_kind, .inl (cI, 700, .inl t_kind)), (q_t_part, .inl (cI, 700, .inl t_part)), (q_t_many, .inl (cI, 700, .inl t_many)), (q_t_given, .inl (cI, 2100, .inl t_given))] sz) := by
  refine Met.ofW (cc := cX9_fits) (maxL := 6) (ret := (some .boolean)) (by decide) rfl ?_
  intro p e s m args below meth c s₁ B hml hv
  obtain ⟨rfl, hsz, hP, hK, hD0, hZ⟩ := hv
  have hx := B.exec
  have hb := B.bytes
  have hr := B.returns
  have hts := atoms_spec (ws := wsX9_fits) B.pre
  have hown : s.vm.findClass RX9 = some m.cls := findClass_of_methodNamed B.named
  have hlocks := B.notSynchronized
  subst hsz
  have hD := hD0.self (sz := s.heap.size)
  generalize hAe : va_A [(q_t, .inr (8, [.int t_threw, .ref q_t_text, .int t_size, .int t_at, .int t_error, .int t_found, .ref q_t_tags, .ref q_t_subs, .ref q_t_numbers, .ref q_t_chars, .ref q_t_firsts, .ref q_t_seconds, .ref q_t_depths, .ref q_t_lambdas, .ref q_t_owners, .int t_version, .int t_terms, .int t_latestVersion, .int t_values, .ref q_t_kind, .ref q_t_number, .ref q_t_bytes, .ref q_t_part, .ref q_t_around, .ref q_t_many, .ref q_t_given, .int t_environments, .ref q_t_holds, .ref q_t_outer, .int t_frames, .ref q_t_frame, .ref q_t_first, .ref q_t_second, .int t_state, .int t_term, .int t_environment, .int t_value, .int t_budget, .int t_steps, .int t_costs, .int t_made, .int t_tells, .ref q_t_told, .int t_waiting, .ref q_t_what, .ref q_t_where, .ref q_t_inside])), (q_t_kind, .inl (cI, 700, .inl t_kind)), (q_t_part, .inl (cI, 700, .inl t_part)), (q_t_many, .inl (cI, 700, .inl t_many)), (q_t_given, .inl (cI, 2100, .inl t_given))] s.heap.size = A at hD hZ ⊢
  have hA : ∀ q : Nat, s.heap.size ≤ q → A q := fun q h => by rw [← hAe]; exact Or.inr h
  have hS : va_S A s.heap s.heap [] := va_S.rf
  have hP : va_P (dC, dI) vwCl [(q_t, .inr (8, [.int t_threw, .ref q_t_text, .int t_size, .int t_at, .int t_error, .int t_found, .ref q_t_tags, .ref q_t_subs, .ref q_t_numbers, .ref q_t_chars, .ref q_t_firsts, .ref q_t_seconds, .ref q_t_depths, .ref q_t_lambdas, .ref q_t_owners, .int t_version, .int t_terms, .int t_latestVersion, .int t_values, .ref q_t_kind, .ref q_t_number, .ref q_t_bytes, .ref q_t_part, .ref q_t_around, .ref q_t_many, .ref q_t_given, .int t_environments, .ref q_t_holds, .ref q_t_outer, .int t_frames, .ref q_t_frame, .ref q_t_first, .ref q_t_second, .int t_state, .int t_term, .int t_environment, .int t_value, .int t_budget, .int t_steps, .int t_costs, .int t_made, .int t_tells, .ref q_t_told, .int t_waiting, .ref q_t_what, .ref q_t_where, .ref q_t_inside])), (q_t_kind, .inl (cI, 700, .inl t_kind)), (q_t_part, .inl (cI, 700, .inl t_part)), (q_t_many, .inl (cI, 700, .inl t_many)), (q_t_given, .inl (cI, 2100, .inl t_given))] s.heap := hP
  have hl := lv_entry ([.ref q_t, .int x1, .int x2]) (n := 6) (Nat.le_of_ble_eq_true rfl)
  rw [lg_entry_eq]
  generalize (lg_sl ([.ref q_t, .int x1, .int x2]) ++ List.replicate (6 - (lg_sl ([.ref q_t, .int x1, .int x2])).length) Slot.unset).toArray = ls at hl ⊢
  have hl : lv_has ls 6 [(0, .ref q_t), (1, .int x1), (2, .int x2)] := hl
  refine wq hP hS (fun Q hQ H locs hP hS => ?_)
  have htw : ∀ w ∈ AW, w.before _ s = true := fun w h => hts w (List.mem_cons_of_mem _ h)
  have hn0 : ∀ w ∈ wsX90, w ∈ wsX9_fits := fun w h => List.mem_cons_of_mem _ (inX9 w h)
  have L13 : ∀ (f : Nat) (v1 v2 v3 v4 v5 : Int32) (ls : Array Slot) (H : Heap) (locs : List Loc), M_MO_fits_13 t_kind t_part t_many t_given f v1 v2 v3 v4 v5 = some r0 → lv_has ls 6 [(0, .ref q_t), (1, .int v1), (2, .int v2), (3, .int v3), (4, .int v4), (5, .int v5)] → va_P (dC, dI) vwCl [(q_t, .inr (8, [.int t_threw, .ref q_t_text, .int t_size, .int t_at, .int t_error, .int t_found, .ref q_t_tags, .ref q_t_subs, .ref q_t_numbers, .ref q_t_chars, .ref q_t_firsts, .ref q_t_seconds, .ref q_t_depths, .ref q_t_lambdas, .ref q_t_owners, .int t_version, .int t_terms, .int t_latestVersion, .int t_values, .ref q_t_kind, .ref q_t_number, .ref q_t_bytes, .ref q_t_part, .ref q_t_around, .ref q_t_many, .ref q_t_given, .int t_environments, .ref q_t_holds, .ref q_t_outer, .int t_frames, .ref q_t_frame, .ref q_t_first, .ref q_t_second, .int t_state, .int t_term, .int t_environment, .int t_value, .int t_budget, .int t_steps, .int t_costs, .int t_made, .int t_tells, .ref q_t_told, .int t_waiting, .ref q_t_what, .ref q_t_where, .ref q_t_inside])), (q_t_kind, .inl (cI, 700, .inl t_kind)), (q_t_part, .inl (cI, 700, .inl t_part)), (q_t_many, .inl (cI, 700, .inl t_many)), (q_t_given, .inl (cI, 2100, .inl t_given))] H → va_D A [(q_t, .inr (8, [.int t_threw, .ref q_t_text, .int t_size, .int t_at, .int t_error, .int t_found, .ref q_t_tags, .ref q_t_subs, .ref q_t_numbers, .ref q_t_chars, .ref q_t_firsts, .ref q_t_seconds, .ref q_t_depths, .ref q_t_lambdas, .ref q_t_owners, .int t_version, .int t_terms, .int t_latestVersion, .int t_values, .ref q_t_kind, .ref q_t_number, .ref q_t_bytes, .ref q_t_part, .ref q_t_around, .ref q_t_many, .ref q_t_given, .int t_environments, .ref q_t_holds, .ref q_t_outer, .int t_frames, .ref q_t_frame, .ref q_t_first, .ref q_t_second, .int t_state, .int t_term, .int t_environment, .int t_value, .int t_budget, .int t_steps, .int t_costs, .int t_made, .int t_tells, .ref q_t_told, .int t_waiting, .ref q_t_what, .ref q_t_where, .ref q_t_inside])), (q_t_kind, .inl (cI, 700, .inl t_kind)), (q_t_part, .inl (cI, 700, .inl t_part)), (q_t_many, .inl (cI, 700, .inl t_many)), (q_t_given, .inl (cI, 2100, .inl t_given))] → va_S A s.heap H locs → W p l e ({ frames := 1, cells := 0, slots := 0, locals := 23 }) s m [.ref q_t, .int x1, .int x2].toArray below meth c H locs 0 0 Q (F0 m 13 ls []) := by
    intro f
    induction f with
    | zero => intro v1 v2 v3 v4 v5 ls H locs hm; rw [M_MO_fits_13] at hm; cases hm
    | succ f ih13 =>
      intro v1 v2 v3 v4 v5 ls H locs hm hl hP hD hS
      rw [M_MO_fits_13] at hm
      refine lv_iload hx hb dX9_fits_13 (lv_at hl 5 rfl) ?_
      refine lv_iload_n hx hb dX9_fits_15 rfl (lv_at hl 3 rfl) ?_
      obtain ⟨r16, e16, hm⟩ := c1_inv hm
      refine fr_i (wr := [(q_t, .inr (8, [.int t_threw, .ref q_t_text, .int t_size, .int t_at, .int t_error, .int t_found, .ref q_t_tags, .ref q_t_subs, .ref q_t_numbers, .ref q_t_chars, .ref q_t_firsts, .ref q_t_seconds, .ref q_t_depths, .ref q_t_lambdas, .ref q_t_owners, .int t_version, .int t_terms, .int t_latestVersion, .int t_values, .ref q_t_kind, .ref q_t_number, .ref q_t_bytes, .ref q_t_part, .ref q_t_around, .ref q_t_many, .ref q_t_given, .int t_environments, .ref q_t_holds, .ref q_t_outer, .int t_frames, .ref q_t_frame, .ref q_t_first, .ref q_t_second, .int t_state, .int t_term, .int t_environment, .int t_value, .int t_budget, .int t_steps, .int t_costs, .int t_made, .int t_tells, .ref q_t_told, .int t_waiting, .ref q_t_what, .ref q_t_where, .ref q_t_inside])), (q_t_kind, .inl (cI, 700, .inl t_kind)), (q_t_part, .inl (cI, 700, .inl t_part)), (q_t_many, .inl (cI, 700, .inl t_many)), (q_t_given, .inl (cI, 2100, .inl t_given))]) (w2 := [(q_t, .inr (8, [.int t_threw, .ref q_t_text, .int t_size, .int t_at, .int t_error, .int t_found, .ref q_t_tags, .ref q_t_subs, .ref q_t_numbers, .ref q_t_chars, .ref q_t_firsts, .ref q_t_seconds, .ref q_t_depths, .ref q_t_lambdas, .ref q_t_owners, .int t_version, .int t_terms, .int t_latestVersion, .int t_values, .ref q_t_kind, .ref q_t_number, .ref q_t_bytes, .ref q_t_part, .ref q_t_around, .ref q_t_many, .ref q_t_given, .int t_environments, .ref q_t_holds, .ref q_t_outer, .int t_frames, .ref q_t_frame, .ref q_t_first, .ref q_t_second, .int t_state, .int t_term, .int t_environment, .int t_value, .int t_budget, .int t_steps, .int t_costs, .int t_made, .int t_tells, .ref q_t_told, .int t_waiting, .ref q_t_what, .ref q_t_where, .ref q_t_inside])), (q_t_kind, .inl (cI, 700, .inl t_kind)), (q_t_part, .inl (cI, 700, .inl t_part)), (q_t_many, .inl (cI, 700, .inl t_many)), (q_t_given, .inl (cI, 2100, .inl t_given))]) (va_runS (As := [.int v3]) (rest := [.int v5]) ⟨hx, hb, hml, hown, hts⟩ (c_MO_argumentsOf l dC dI cI cL H.size v3 r16 e16) (kS 1 hts aw_930 rfl rfl aw_9 aw_928 aw_929 (by decide +kernel) ⟨Nat.le_of_ble_eq_true rfl, Nat.le_of_ble_eq_true rfl⟩) (fr_preS hK hP hD hS hA hZ [] rfl rfl) rfl rfl hl.1 rfl (lv_room (Nat.le_of_ble_eq_true rfl)) dX9_fits_16 ⟨Nat.le_of_ble_eq_true rfl, Nat.le_of_ble_eq_true rfl⟩) hP hD hS hA [] [0, 1, 2, 3, 4] [0, 1, 2, 3, 4] rfl rfl rfl (by decide) rfl rfl (fun H locs hP hD hS => ?_)
      have hP : va_P (dC, dI) vwCl [(q_t, .inr (8, [.int t_threw, .ref q_t_text, .int t_size, .int t_at, .int t_error, .int t_found, .ref q_t_tags, .ref q_t_subs, .ref q_t_numbers, .ref q_t_chars, .ref q_t_firsts, .ref q_t_seconds, .ref q_t_depths, .ref q_t_lambdas, .ref q_t_owners, .int t_version, .int t_terms, .int t_latestVersion, .int t_values, .ref q_t_kind, .ref q_t_number, .ref q_t_bytes, .ref q_t_part, .ref q_t_around, .ref q_t_many, .ref q_t_given, .int t_environments, .ref q_t_holds, .ref q_t_outer, .int t_frames, .ref q_t_frame, .ref q_t_first, .ref q_t_second, .int t_state, .int t_term, .int t_environment, .int t_value, .int t_budget, .int t_steps, .int t_costs, .int t_made, .int t_tells, .ref q_t_told, .int t_waiting, .ref q_t_what, .ref q_t_where, .ref q_t_inside])), (q_t_kind, .inl (cI, 700, .inl t_kind)), (q_t_part, .inl (cI, 700, .inl t_part)), (q_t_many, .inl (cI, 700, .inl t_many)), (q_t_given, .inl (cI, 2100, .inl t_given))] H := hP
      have hD : va_D A [(q_t, .inr (8, [.int t_threw, .ref q_t_text, .int t_size, .int t_at, .int t_error, .int t_found, .ref q_t_tags, .ref q_t_subs, .ref q_t_numbers, .ref q_t_chars, .ref q_t_firsts, .ref q_t_seconds, .ref q_t_depths, .ref q_t_lambdas, .ref q_t_owners, .int t_version, .int t_terms, .int t_latestVersion, .int t_values, .ref q_t_kind, .ref q_t_number, .ref q_t_bytes, .ref q_t_part, .ref q_t_around, .ref q_t_many, .ref q_t_given, .int t_environments, .ref q_t_holds, .ref q_t_outer, .int t_frames, .ref q_t_frame, .ref q_t_first, .ref q_t_second, .int t_state, .int t_term, .int t_environment, .int t_value, .int t_budget, .int t_steps, .int t_costs, .int t_made, .int t_tells, .ref q_t_told, .int t_waiting, .ref q_t_what, .ref q_t_where, .ref q_t_inside])), (q_t_kind, .inl (cI, 700, .inl t_kind)), (q_t_part, .inl (cI, 700, .inl t_part)), (q_t_many, .inl (cI, 700, .inl t_many)), (q_t_given, .inl (cI, 2100, .inl t_given))] := hD
      refine lv_icmp_ge hx hb dX9_fits_19 rfl (fun h19 => ?_) (fun h19 => ?_)
      · replace hm := ifp h19 hm
        refine lv_iload hx hb dX9_fits_72 (lv_at hl 4 rfl) ?_
        obtain ⟨h74, hm⟩ := chk_inv hm
        try clear L13
        try clear ih13
        obtain rfl := Option.some.inj hm
        subst hQ
        exact W.zret hx hb hr (zn h74) (fun t ht hW => ⟨⟨_, (), rfl, rfl, by rw [ht]; exact hP, va_K.moved hW.alike hK, hD⟩, hS.F ht⟩) hS.2.2 dX9_fits_74
      · replace hm := ifn h19 hm
        refine lv_iload hx hb dX9_fits_22 (lv_at hl 4 rfl) ?_
        refine lv_if_eq hx hb dX9_fits_24 rfl (fun h24 => ?_) (fun h24 => ?_)
        · replace hm := ifp h24 hm
          refine lv_iconst (v := 0) hx hb dX9_fits_63 (by decide) ?_
          refine lv_istore (lv' := [(4, .int 0), (0, .ref q_t), (1, .int v1), (2, .int v2), (3, .int v3), (5, .int v5)]) hx hb dX9_fits_64 hl (by decide) rfl (fun ls hl => ?_)
          refine lv_iinc (k := 5) (v := v5 + 1) (lv' := [(5, .int (v5 + 1)), (4, .int 0), (0, .ref q_t), (1, .int v1), (2, .int v2), (3, .int v3)]) hx hb dX9_fits_66 hl rfl rfl (by decide) rfl (fun ls hl => ?_)
          refine lv_goto hx hb dX9_fits_69 rfl ?_
          exact ih13 _ _ _ _ _ _ _ _ hm (lv_sub hl [2, 3, 4, 5, 1, 0] rfl) hP hD hS
        · replace hm := ifn h24 hm
          refine lv_iload_n hx hb dX9_fits_27 rfl (lv_at hl 3 rfl) ?_
          refine lv_iload hx hb dX9_fits_28 (lv_at hl 5 rfl) ?_
          obtain ⟨r30, e30, hm⟩ := c1_inv hm
          refine fr_i (wr := [(q_t, .inr (8, [.int t_threw, .ref q_t_text, .int t_size, .int t_at, .int t_error, .int t_found, .ref q_t_tags, .ref q_t_subs, .ref q_t_numbers, .ref q_t_chars, .ref q_t_firsts, .ref q_t_seconds, .ref q_t_depths, .ref q_t_lambdas, .ref q_t_owners, .int t_version, .int t_terms, .int t_latestVersion, .int t_values, .ref q_t_kind, .ref q_t_number, .ref q_t_bytes, .ref q_t_part, .ref q_t_around, .ref q_t_many, .ref q_t_given, .int t_environments, .ref q_t_holds, .ref q_t_outer, .int t_frames, .ref q_t_frame, .ref q_t_first, .ref q_t_second, .int t_state, .int t_term, .int t_environment, .int t_value, .int t_budget, .int t_steps, .int t_costs, .int t_made, .int t_tells, .ref q_t_told, .int t_waiting, .ref q_t_what, .ref q_t_where, .ref q_t_inside])), (q_t_kind, .inl (cI, 700, .inl t_kind)), (q_t_part, .inl (cI, 700, .inl t_part)), (q_t_many, .inl (cI, 700, .inl t_many)), (q_t_given, .inl (cI, 2100, .inl t_given))]) (w2 := [(q_t, .inr (8, [.int t_threw, .ref q_t_text, .int t_size, .int t_at, .int t_error, .int t_found, .ref q_t_tags, .ref q_t_subs, .ref q_t_numbers, .ref q_t_chars, .ref q_t_firsts, .ref q_t_seconds, .ref q_t_depths, .ref q_t_lambdas, .ref q_t_owners, .int t_version, .int t_terms, .int t_latestVersion, .int t_values, .ref q_t_kind, .ref q_t_number, .ref q_t_bytes, .ref q_t_part, .ref q_t_around, .ref q_t_many, .ref q_t_given, .int t_environments, .ref q_t_holds, .ref q_t_outer, .int t_frames, .ref q_t_frame, .ref q_t_first, .ref q_t_second, .int t_state, .int t_term, .int t_environment, .int t_value, .int t_budget, .int t_steps, .int t_costs, .int t_made, .int t_tells, .ref q_t_told, .int t_waiting, .ref q_t_what, .ref q_t_where, .ref q_t_inside])), (q_t_kind, .inl (cI, 700, .inl t_kind)), (q_t_part, .inl (cI, 700, .inl t_part)), (q_t_many, .inl (cI, 700, .inl t_many)), (q_t_given, .inl (cI, 2100, .inl t_given))]) (va_runS (As := [.int v3, .int v5]) (rest := []) ⟨hx, hb, hml, hown, hts⟩ (c_MO_wanted l dC dI cI cL H.size v3 v5 r30 e30) (kS 2 hts aw_1022 rfl rfl aw_9 aw_1020 aw_1021 (by decide +kernel) ⟨Nat.le_of_ble_eq_true rfl, Nat.le_of_ble_eq_true rfl⟩) (fr_preS hK hP hD hS hA hZ [] rfl rfl) rfl rfl hl.1 rfl (lv_room (Nat.le_of_ble_eq_true rfl)) dX9_fits_30 ⟨Nat.le_of_ble_eq_true rfl, Nat.le_of_ble_eq_true rfl⟩) hP hD hS hA [] [0, 1, 2, 3, 4] [0, 1, 2, 3, 4] rfl rfl rfl (by decide) rfl rfl (fun H locs hP hD hS => ?_)
          have hP : va_P (dC, dI) vwCl [(q_t, .inr (8, [.int t_threw, .ref q_t_text, .int t_size, .int t_at, .int t_error, .int t_found, .ref q_t_tags, .ref q_t_subs, .ref q_t_numbers, .ref q_t_chars, .ref q_t_firsts, .ref q_t_seconds, .ref q_t_depths, .ref q_t_lambdas, .ref q_t_owners, .int t_version, .int t_terms, .int t_latestVersion, .int t_values, .ref q_t_kind, .ref q_t_number, .ref q_t_bytes, .ref q_t_part, .ref q_t_around, .ref q_t_many, .ref q_t_given, .int t_environments, .ref q_t_holds, .ref q_t_outer, .int t_frames, .ref q_t_frame, .ref q_t_first, .ref q_t_second, .int t_state, .int t_term, .int t_environment, .int t_value, .int t_budget, .int t_steps, .int t_costs, .int t_made, .int t_tells, .ref q_t_told, .int t_waiting, .ref q_t_what, .ref q_t_where, .ref q_t_inside])), (q_t_kind, .inl (cI, 700, .inl t_kind)), (q_t_part, .inl (cI, 700, .inl t_part)), (q_t_many, .inl (cI, 700, .inl t_many)), (q_t_given, .inl (cI, 2100, .inl t_given))] H := hP
          have hD : va_D A [(q_t, .inr (8, [.int t_threw, .ref q_t_text, .int t_size, .int t_at, .int t_error, .int t_found, .ref q_t_tags, .ref q_t_subs, .ref q_t_numbers, .ref q_t_chars, .ref q_t_firsts, .ref q_t_seconds, .ref q_t_depths, .ref q_t_lambdas, .ref q_t_owners, .int t_version, .int t_terms, .int t_latestVersion, .int t_values, .ref q_t_kind, .ref q_t_number, .ref q_t_bytes, .ref q_t_part, .ref q_t_around, .ref q_t_many, .ref q_t_given, .int t_environments, .ref q_t_holds, .ref q_t_outer, .int t_frames, .ref q_t_frame, .ref q_t_first, .ref q_t_second, .int t_state, .int t_term, .int t_environment, .int t_value, .int t_budget, .int t_steps, .int t_costs, .int t_made, .int t_tells, .ref q_t_told, .int t_waiting, .ref q_t_what, .ref q_t_where, .ref q_t_inside])), (q_t_kind, .inl (cI, 700, .inl t_kind)), (q_t_part, .inl (cI, 700, .inl t_part)), (q_t_many, .inl (cI, 700, .inl t_many)), (q_t_given, .inl (cI, 2100, .inl t_given))] := hD
          refine lv_iconst (v := (-1)) hx hb dX9_fits_33 (by decide) ?_
          refine lv_icmp_eq hx hb dX9_fits_34 rfl (fun h34 => ?_) (fun h34 => ?_)
          · replace hm := ifp h34 hm
            refine lv_iconst (v := 1) hx hb dX9_fits_59 (by decide) ?_
            refine lv_goto hx hb dX9_fits_60 rfl ?_
            refine lv_istore (lv' := [(4, .int 1), (0, .ref q_t), (1, .int v1), (2, .int v2), (3, .int v3), (5, .int v5)]) hx hb dX9_fits_64 hl (by decide) rfl (fun ls hl => ?_)
            refine lv_iinc (k := 5) (v := v5 + 1) (lv' := [(5, .int (v5 + 1)), (4, .int 1), (0, .ref q_t), (1, .int v1), (2, .int v2), (3, .int v3)]) hx hb dX9_fits_66 hl rfl rfl (by decide) rfl (fun ls hl => ?_)
            refine lv_goto hx hb dX9_fits_69 rfl ?_
            exact ih13 _ _ _ _ _ _ _ _ hm (lv_sub hl [2, 3, 4, 5, 1, 0] rfl) hP hD hS
          · replace hm := ifn h34 hm
            refine lv_aload_n hx hb dX9_fits_37 rfl (lv_at hl 0 rfl) ?_
            refine va_get (D := (dC, dI)) (ci := 8) (v := .ref q_t_kind) (C := RX9) (T := TX9) (N := 47) hx hb hts hn0 hown hK hP 0 rfl rfl 19 (by decide) (htw _ aw_732) (fun _ h9 => h9) rfl dX9_fits_38 ?_
            refine lv_aload_n hx hb dX9_fits_41 rfl (lv_at hl 0 rfl) ?_
            refine lv_iload_n hx hb dX9_fits_42 rfl (lv_at hl 1 rfl) ?_
            refine lv_iload_n hx hb dX9_fits_43 rfl (lv_at hl 2 rfl) ?_
            refine lv_iload hx hb dX9_fits_44 (lv_at hl 5 rfl) ?_
            obtain ⟨r46, e46, hm⟩ := c1_inv hm
            refine fr_i (wr := [(q_t_kind, .inl (cI, 700, .inl t_kind)), (q_t_part, .inl (cI, 700, .inl t_part))]) (w2 := [(q_t, .inr (8, [.int t_threw, .ref q_t_text, .int t_size, .int t_at, .int t_error, .int t_found, .ref q_t_tags, .ref q_t_subs, .ref q_t_numbers, .ref q_t_chars, .ref q_t_firsts, .ref q_t_seconds, .ref q_t_depths, .ref q_t_lambdas, .ref q_t_owners, .int t_version, .int t_terms, .int t_latestVersion, .int t_values, .ref q_t_kind, .ref q_t_number, .ref q_t_bytes, .ref q_t_part, .ref q_t_around, .ref q_t_many, .ref q_t_given, .int t_environments, .ref q_t_holds, .ref q_t_outer, .int t_frames, .ref q_t_frame, .ref q_t_first, .ref q_t_second, .int t_state, .int t_term, .int t_environment, .int t_value, .int t_budget, .int t_steps, .int t_costs, .int t_made, .int t_tells, .ref q_t_told, .int t_waiting, .ref q_t_what, .ref q_t_where, .ref q_t_inside])), (q_t_kind, .inl (cI, 700, .inl t_kind)), (q_t_part, .inl (cI, 700, .inl t_part)), (q_t_many, .inl (cI, 700, .inl t_many)), (q_t_given, .inl (cI, 2100, .inl t_given))]) (va_runV (As := [.int v1, .int v2, .int v5]) (rest := [.ref q_t_kind]) ⟨hx, hb, hml, hown, hts⟩ (c_MO_argument l dC dI cI cL H.size q_t q_t_text q_t_tags q_t_subs q_t_numbers q_t_chars q_t_firsts q_t_seconds q_t_depths q_t_lambdas q_t_owners q_t_kind q_t_number q_t_bytes q_t_part q_t_around q_t_many q_t_given q_t_holds q_t_outer q_t_frame q_t_first q_t_second q_t_told q_t_what q_t_where q_t_inside t_threw t_size t_at t_error t_found t_version t_terms t_latestVersion t_values t_environments t_frames t_state t_term t_environment t_value t_budget t_steps t_costs t_made t_tells t_waiting t_many t_given v1 v2 v5 r46 e46) (kV 3 hts aw_938 rfl rfl aw_9 aw_935 aw_937 as_44 (by decide +kernel) ⟨Nat.le_of_ble_eq_true rfl, Nat.le_of_ble_eq_true rfl⟩) (fr_preV hK hP hD hS hA hZ [0, 3, 4] rfl rfl (ci := 8) (q0 := 0) rfl rfl) rfl rfl hl.1 rfl (lv_room (Nat.le_of_ble_eq_true rfl)) dX9_fits_46 ⟨Nat.le_of_ble_eq_true rfl, Nat.le_of_ble_eq_true rfl⟩) hP hD hS hA [0, 3, 4] [1, 2] [2, 0, 1, 3, 4] rfl rfl rfl (by decide) rfl rfl (fun H locs hP hD hS => ?_)
            have hP : va_P (dC, dI) vwCl [(q_t, .inr (8, [.int t_threw, .ref q_t_text, .int t_size, .int t_at, .int t_error, .int t_found, .ref q_t_tags, .ref q_t_subs, .ref q_t_numbers, .ref q_t_chars, .ref q_t_firsts, .ref q_t_seconds, .ref q_t_depths, .ref q_t_lambdas, .ref q_t_owners, .int t_version, .int t_terms, .int t_latestVersion, .int t_values, .ref q_t_kind, .ref q_t_number, .ref q_t_bytes, .ref q_t_part, .ref q_t_around, .ref q_t_many, .ref q_t_given, .int t_environments, .ref q_t_holds, .ref q_t_outer, .int t_frames, .ref q_t_frame, .ref q_t_first, .ref q_t_second, .int t_state, .int t_term, .int t_environment, .int t_value, .int t_budget, .int t_steps, .int t_costs, .int t_made, .int t_tells, .ref q_t_told, .int t_waiting, .ref q_t_what, .ref q_t_where, .ref q_t_inside])), (q_t_kind, .inl (cI, 700, .inl t_kind)), (q_t_part, .inl (cI, 700, .inl t_part)), (q_t_many, .inl (cI, 700, .inl t_many)), (q_t_given, .inl (cI, 2100, .inl t_given))] H := hP
            have hD : va_D A [(q_t, .inr (8, [.int t_threw, .ref q_t_text, .int t_size, .int t_at, .int t_error, .int t_found, .ref q_t_tags, .ref q_t_subs, .ref q_t_numbers, .ref q_t_chars, .ref q_t_firsts, .ref q_t_seconds, .ref q_t_depths, .ref q_t_lambdas, .ref q_t_owners, .int t_version, .int t_terms, .int t_latestVersion, .int t_values, .ref q_t_kind, .ref q_t_number, .ref q_t_bytes, .ref q_t_part, .ref q_t_around, .ref q_t_many, .ref q_t_given, .int t_environments, .ref q_t_holds, .ref q_t_outer, .int t_frames, .ref q_t_frame, .ref q_t_first, .ref q_t_second, .int t_state, .int t_term, .int t_environment, .int t_value, .int t_budget, .int t_steps, .int t_costs, .int t_made, .int t_tells, .ref q_t_told, .int t_waiting, .ref q_t_what, .ref q_t_where, .ref q_t_inside])), (q_t_kind, .inl (cI, 700, .inl t_kind)), (q_t_part, .inl (cI, 700, .inl t_part)), (q_t_many, .inl (cI, 700, .inl t_many)), (q_t_given, .inl (cI, 2100, .inl t_given))] := hD
            obtain ⟨h49, hm⟩ := chk_inv hm
            refine va_iald (D := (dC, dI)) hx hb hK hP 1 0 rfl rfl (in_of (n := 700) (by decide) h49) dX9_fits_49 ?_
            refine lv_iload_n hx hb dX9_fits_50 rfl (lv_at hl 3 rfl) ?_
            refine lv_iload hx hb dX9_fits_51 (lv_at hl 5 rfl) ?_
            obtain ⟨r53, e53, hm⟩ := c1_inv hm
            refine fr_i (wr := [(q_t, .inr (8, [.int t_threw, .ref q_t_text, .int t_size, .int t_at, .int t_error, .int t_found, .ref q_t_tags, .ref q_t_subs, .ref q_t_numbers, .ref q_t_chars, .ref q_t_firsts, .ref q_t_seconds, .ref q_t_depths, .ref q_t_lambdas, .ref q_t_owners, .int t_version, .int t_terms, .int t_latestVersion, .int t_values, .ref q_t_kind, .ref q_t_number, .ref q_t_bytes, .ref q_t_part, .ref q_t_around, .ref q_t_many, .ref q_t_given, .int t_environments, .ref q_t_holds, .ref q_t_outer, .int t_frames, .ref q_t_frame, .ref q_t_first, .ref q_t_second, .int t_state, .int t_term, .int t_environment, .int t_value, .int t_budget, .int t_steps, .int t_costs, .int t_made, .int t_tells, .ref q_t_told, .int t_waiting, .ref q_t_what, .ref q_t_where, .ref q_t_inside])), (q_t_kind, .inl (cI, 700, .inl t_kind)), (q_t_part, .inl (cI, 700, .inl t_part)), (q_t_many, .inl (cI, 700, .inl t_many)), (q_t_given, .inl (cI, 2100, .inl t_given))]) (w2 := [(q_t, .inr (8, [.int t_threw, .ref q_t_text, .int t_size, .int t_at, .int t_error, .int t_found, .ref q_t_tags, .ref q_t_subs, .ref q_t_numbers, .ref q_t_chars, .ref q_t_firsts, .ref q_t_seconds, .ref q_t_depths, .ref q_t_lambdas, .ref q_t_owners, .int t_version, .int t_terms, .int t_latestVersion, .int t_values, .ref q_t_kind, .ref q_t_number, .ref q_t_bytes, .ref q_t_part, .ref q_t_around, .ref q_t_many, .ref q_t_given, .int t_environments, .ref q_t_holds, .ref q_t_outer, .int t_frames, .ref q_t_frame, .ref q_t_first, .ref q_t_second, .int t_state, .int t_term, .int t_environment, .int t_value, .int t_budget, .int t_steps, .int t_costs, .int t_made, .int t_tells, .ref q_t_told, .int t_waiting, .ref q_t_what, .ref q_t_where, .ref q_t_inside])), (q_t_kind, .inl (cI, 700, .inl t_kind)), (q_t_part, .inl (cI, 700, .inl t_part)), (q_t_many, .inl (cI, 700, .inl t_many)), (q_t_given, .inl (cI, 2100, .inl t_given))]) (va_runS (As := [.int v3, .int v5]) (rest := [.int (t_kind r46.toNatClampNeg)]) ⟨hx, hb, hml, hown, hts⟩ (c_MO_wanted l dC dI cI cL H.size v3 v5 r53 e53) (kS 2 hts aw_1022 rfl rfl aw_9 aw_1020 aw_1021 (by decide +kernel) ⟨Nat.le_of_ble_eq_true rfl, Nat.le_of_ble_eq_true rfl⟩) (fr_preS hK hP hD hS hA hZ [] rfl rfl) rfl rfl hl.1 rfl (lv_room (Nat.le_of_ble_eq_true rfl)) dX9_fits_53 ⟨Nat.le_of_ble_eq_true rfl, Nat.le_of_ble_eq_true rfl⟩) hP hD hS hA [] [0, 1, 2, 3, 4] [0, 1, 2, 3, 4] rfl rfl rfl (by decide) rfl rfl (fun H locs hP hD hS => ?_)
            have hP : va_P (dC, dI) vwCl [(q_t, .inr (8, [.int t_threw, .ref q_t_text, .int t_size, .int t_at, .int t_error, .int t_found, .ref q_t_tags, .ref q_t_subs, .ref q_t_numbers, .ref q_t_chars, .ref q_t_firsts, .ref q_t_seconds, .ref q_t_depths, .ref q_t_lambdas, .ref q_t_owners, .int t_version, .int t_terms, .int t_latestVersion, .int t_values, .ref q_t_kind, .ref q_t_number, .ref q_t_bytes, .ref q_t_part, .ref q_t_around, .ref q_t_many, .ref q_t_given, .int t_environments, .ref q_t_holds, .ref q_t_outer, .int t_frames, .ref q_t_frame, .ref q_t_first, .ref q_t_second, .int t_state, .int t_term, .int t_environment, .int t_value, .int t_budget, .int t_steps, .int t_costs, .int t_made, .int t_tells, .ref q_t_told, .int t_waiting, .ref q_t_what, .ref q_t_where, .ref q_t_inside])), (q_t_kind, .inl (cI, 700, .inl t_kind)), (q_t_part, .inl (cI, 700, .inl t_part)), (q_t_many, .inl (cI, 700, .inl t_many)), (q_t_given, .inl (cI, 2100, .inl t_given))] H := hP
            have hD : va_D A [(q_t, .inr (8, [.int t_threw, .ref q_t_text, .int t_size, .int t_at, .int t_error, .int t_found, .ref q_t_tags, .ref q_t_subs, .ref q_t_numbers, .ref q_t_chars, .ref q_t_firsts, .ref q_t_seconds, .ref q_t_depths, .ref q_t_lambdas, .ref q_t_owners, .int t_version, .int t_terms, .int t_latestVersion, .int t_values, .ref q_t_kind, .ref q_t_number, .ref q_t_bytes, .ref q_t_part, .ref q_t_around, .ref q_t_many, .ref q_t_given, .int t_environments, .ref q_t_holds, .ref q_t_outer, .int t_frames, .ref q_t_frame, .ref q_t_first, .ref q_t_second, .int t_state, .int t_term, .int t_environment, .int t_value, .int t_budget, .int t_steps, .int t_costs, .int t_made, .int t_tells, .ref q_t_told, .int t_waiting, .ref q_t_what, .ref q_t_where, .ref q_t_inside])), (q_t_kind, .inl (cI, 700, .inl t_kind)), (q_t_part, .inl (cI, 700, .inl t_part)), (q_t_many, .inl (cI, 700, .inl t_many)), (q_t_given, .inl (cI, 2100, .inl t_given))] := hD
            refine lv_icmp_ne hx hb dX9_fits_56 rfl (fun h56 => ?_) (fun h56 => ?_)
            · replace hm := ifn h56 hm
              refine lv_iconst (v := 0) hx hb dX9_fits_63 (by decide) ?_
              refine lv_istore (lv' := [(4, .int 0), (0, .ref q_t), (1, .int v1), (2, .int v2), (3, .int v3), (5, .int v5)]) hx hb dX9_fits_64 hl (by decide) rfl (fun ls hl => ?_)
              refine lv_iinc (k := 5) (v := v5 + 1) (lv' := [(5, .int (v5 + 1)), (4, .int 0), (0, .ref q_t), (1, .int v1), (2, .int v2), (3, .int v3)]) hx hb dX9_fits_66 hl rfl rfl (by decide) rfl (fun ls hl => ?_)
              refine lv_goto hx hb dX9_fits_69 rfl ?_
              exact ih13 _ _ _ _ _ _ _ _ hm (lv_sub hl [2, 3, 4, 5, 1, 0] rfl) hP hD hS
            · replace hm := ifp h56 hm
              refine lv_iconst (v := 1) hx hb dX9_fits_59 (by decide) ?_
              refine lv_goto hx hb dX9_fits_60 rfl ?_
              refine lv_istore (lv' := [(4, .int 1), (0, .ref q_t), (1, .int v1), (2, .int v2), (3, .int v3), (5, .int v5)]) hx hb dX9_fits_64 hl (by decide) rfl (fun ls hl => ?_)
              refine lv_iinc (k := 5) (v := v5 + 1) (lv' := [(5, .int (v5 + 1)), (4, .int 1), (0, .ref q_t), (1, .int v1), (2, .int v2), (3, .int v3)]) hx hb dX9_fits_66 hl rfl rfl (by decide) rfl (fun ls hl => ?_)
              refine lv_goto hx hb dX9_fits_69 rfl ?_
              exact ih13 _ _ _ _ _ _ _ _ hm (lv_sub hl [2, 3, 4, 5, 1, 0] rfl) hP hD hS
  unfold M_MO_fits at hm
  refine lv_aload_n hx hb dX9_fits_0 rfl (lv_at hl 0 rfl) ?_
  refine va_get (D := (dC, dI)) (ci := 8) (v := .ref q_t_part) (C := RX9) (T := TX9) (N := 47) hx hb hts hn0 hown hK hP 0 rfl rfl 22 (by decide) (htw _ aw_735) (fun _ h9 => h9) rfl dX9_fits_1 ?_
  refine lv_iload_n hx hb dX9_fits_4 rfl (lv_at hl 1 rfl) ?_
  obtain ⟨h5, hm⟩ := chk_inv hm
  refine va_iald (D := (dC, dI)) hx hb hK hP 2 0 rfl rfl (in_of (n := 700) (by decide) h5) dX9_fits_5 ?_
  refine lv_istore_n (lv' := [(3, .int (t_part x1.toNatClampNeg)), (0, .ref q_t), (1, .int x1), (2, .int x2)]) hx hb dX9_fits_6 rfl hl (by decide) rfl (fun ls hl => ?_)
  refine lv_iconst (v := 1) hx hb dX9_fits_7 (by decide) ?_
  refine lv_istore (lv' := [(4, .int 1), (3, .int (t_part x1.toNatClampNeg)), (0, .ref q_t), (1, .int x1), (2, .int x2)]) hx hb dX9_fits_8 hl (by decide) rfl (fun ls hl => ?_)
  refine lv_iconst (v := 0) hx hb dX9_fits_10 (by decide) ?_
  refine lv_istore (lv' := [(5, .int 0), (4, .int 1), (3, .int (t_part x1.toNatClampNeg)), (0, .ref q_t), (1, .int x1), (2, .int x2)]) hx hb dX9_fits_11 hl (by decide) rfl (fun ls hl => ?_)
  exact L13 _ _ _ _ _ _ _ _ _ hm (lv_sub hl [3, 4, 5, 2, 1, 0] rfl) hP hD hS
def M_MO_isInt (x0 : Int64) : Option (Int32) :=
  (if (lg_cmp x0 (-2147483648)) < 0 then
    some 0
  else
    (if 0 < (lg_cmp x0 2147483647) then
      some 0
    else
      some 1))
set_option maxHeartbeats 4000000 in
set_option maxRecDepth 100000 in
theorem c_MO_isInt (l : Launch) (dC : Nat → ClassId) (dI : Nat → Nat → Nat) (cI cL : ClassId) (sz : Nat) (x0 : Int64) (r0 : Int32) (hm : M_MO_isInt x0 = some r0) : Met l yX9_isInt wsX9_isInt ({ frames := 0, cells := 0, slots := 0, locals := 0 }) (frPc (dC, dI) vwCl [(cI, .int), (cL, .long)] [] sz [.long x0]) (va_Qi (fun (r : Int32) (_ : Unit) => r = r0) (frB (dC, dI) vwCl [(cI, .int), (cL, .long)] (va_A [] sz) []) (va_A [] sz)) 0 0 (va_A [] sz) := by
  refine Met.ofW (cc := cX9_isInt) (maxL := 2) (ret := (some .boolean)) (by decide) rfl ?_
  intro p e s m args below meth c s₁ B hml hv
  obtain ⟨rfl, hsz, hP, hK, hD0, hZ⟩ := hv
  have hx := B.exec
  have hb := B.bytes
  have hr := B.returns
  have hts := atoms_spec (ws := wsX9_isInt) B.pre
  have hown : s.vm.findClass RX9 = some m.cls := findClass_of_methodNamed B.named
  have hlocks := B.notSynchronized
  subst hsz
  have hD := hD0.self (sz := s.heap.size)
  generalize hAe : va_A [] s.heap.size = A at hD hZ ⊢
  have hA : ∀ q : Nat, s.heap.size ≤ q → A q := fun q h => by rw [← hAe]; exact Or.inr h
  have hS : va_S A s.heap s.heap [] := va_S.rf
  have hP : va_P (dC, dI) vwCl [] s.heap := hP
  have hl := lv_entry ([.long x0]) (n := 2) (Nat.le_of_ble_eq_true rfl)
  rw [lg_entry_eq]
  generalize (lg_sl ([.long x0]) ++ List.replicate (2 - (lg_sl ([.long x0])).length) Slot.unset).toArray = ls at hl ⊢
  have hl : lv_has ls 2 [(0, .long x0)] := hl
  refine wq hP hS (fun Q hQ H locs hP hS => ?_)
  have htw : ∀ w ∈ AW, w.before _ s = true := fun w h => hts w (List.mem_cons_of_mem _ h)
  unfold M_MO_isInt at hm
  refine lv_lload_n hx hb dX9_isInt_0 rfl (lv_at hl 0 rfl) ?_
  refine lv_ldc2 (v := (-2147483648)) hx hb hown (htw _ aw_1026) dX9_isInt_1 ?_
  refine W.lcmp hx hb dX9_isInt_4 ?_
  refine lv_if_lt hx hb dX9_isInt_5 rfl (fun h5 => ?_) (fun h5 => ?_)
  · replace hm := ifp h5 hm
    refine lv_iconst (v := 0) hx hb dX9_isInt_20 (by decide) ?_
    obtain rfl := Option.some.inj hm
    subst hQ
    exact W.zret hx hb hr (by decide) (fun t ht hW => ⟨⟨_, (), rfl, rfl, by rw [ht]; exact hP, va_K.moved hW.alike hK, hD⟩, hS.F ht⟩) hS.2.2 dX9_isInt_21
  · replace hm := ifn h5 hm
    refine lv_lload_n hx hb dX9_isInt_8 rfl (lv_at hl 0 rfl) ?_
    refine lv_ldc2 (v := 2147483647) hx hb hown (htw _ aw_887) dX9_isInt_9 ?_
    refine W.lcmp hx hb dX9_isInt_12 ?_
    refine lv_if_gt hx hb dX9_isInt_13 rfl (fun h13 => ?_) (fun h13 => ?_)
    · replace hm := ifp h13 hm
      refine lv_iconst (v := 0) hx hb dX9_isInt_20 (by decide) ?_
      obtain rfl := Option.some.inj hm
      subst hQ
      exact W.zret hx hb hr (by decide) (fun t ht hW => ⟨⟨_, (), rfl, rfl, by rw [ht]; exact hP, va_K.moved hW.alike hK, hD⟩, hS.F ht⟩) hS.2.2 dX9_isInt_21
    · replace hm := ifn h13 hm
      refine lv_iconst (v := 1) hx hb dX9_isInt_16 (by decide) ?_
      refine lv_goto hx hb dX9_isInt_17 rfl ?_
      obtain rfl := Option.some.inj hm
      subst hQ
      exact W.zret hx hb hr (by decide) (fun t ht hW => ⟨⟨_, (), rfl, rfl, by rw [ht]; exact hP, va_K.moved hW.alike hK, hD⟩, hS.F ht⟩) hS.2.2 dX9_isInt_21
def M_MO_gives_147 (t_kind : Nat → Int32) (t_number : Nat → Int32) (t_part : Nat → Int32) (t_many : Nat → Int32) (t_given : Nat → Int32) (z0 : Int64) : Option (Int32) :=
  c1 (M_MO_isInt z0) (fun r147 =>
    chk (r147 = 0 ∨ r147 = 1) (some r147))
def M_MO_gives (t_kind : Nat → Int32) (t_number : Nat → Int32) (t_part : Nat → Int32) (t_many : Nat → Int32) (t_given : Nat → Int32) (x1 : Int32) (x2 : Int32) : Option (Int32) :=
  c1 (M_MO_fits t_kind t_part t_many t_given x1 x2) (fun r3 =>
    (if r3 = 0 then
      some 0
    else
      chk ((0 : Int32) ≤ x1 ∧ x1 < 700) (c1 (M_MO_argument t_many t_given x1 x2 (0 : Int32)) (fun r22 =>
        c1 (M_MO_argument t_many t_given x1 x2 (1 : Int32)) (fun r31 =>
          chk ((0 : Int32) ≤ r22 ∧ r22 < 700) (chk ((0 : Int32) ≤ r31 ∧ r31 < 700) ((if (t_part x1.toNatClampNeg) = 3 then
            (if (lg_cmp ((t_number r31.toNatClampNeg).toInt64) 0) = 0 then
              some 0
            else
              chk (¬ ((t_number r31.toNatClampNeg).toInt64) = 0) (c1 (M_MO_isInt (((t_number r22.toNatClampNeg).toInt64) / ((t_number r31.toNatClampNeg).toInt64))) (fun r73 =>
                (if r73 = 0 then
                  some 0
                else
                  some 1))))
          else
            (if (t_part x1.toNatClampNeg) = 9 then
              (if (lg_cmp ((t_number r31.toNatClampNeg).toInt64) 0) < 0 then
                some 0
              else
                (if 0 ≤ (lg_cmp ((t_number r31.toNatClampNeg).toInt64) ((t_number r22.toNatClampNeg).toInt64)) then
                  some 0
                else
                  some 1))
            else
              (if 3 ≤ (t_part x1.toNatClampNeg) then
                (if (t_part x1.toNatClampNeg) = 7 then
                  (if 0 < (lg_cmp (((t_number r22.toNatClampNeg).toInt64) + ((t_number r31.toNatClampNeg).toInt64)) 7) then
                    some 0
                  else
                    some 1)
                else
                  some 1)
              else
                (if (t_part x1.toNatClampNeg) = 0 then
                  M_MO_gives_147 t_kind t_number t_part t_many t_given (((t_number r22.toNatClampNeg).toInt64) + ((t_number r31.toNatClampNeg).toInt64))
                else
                  (if (t_part x1.toNatClampNeg) = 1 then
                    M_MO_gives_147 t_kind t_number t_part t_many t_given (((t_number r22.toNatClampNeg).toInt64) - ((t_number r31.toNatClampNeg).toInt64))
                  else
                    M_MO_gives_147 t_kind t_number t_part t_many t_given (((t_number r22.toNatClampNeg).toInt64) * ((t_number r31.toNatClampNeg).toInt64))))))))))))))
set_option maxHeartbeats 4000000 in
set_option maxRecDepth 100000 in
theorem c_MO_gives (l : Launch) (dC : Nat → ClassId) (dI : Nat → Nat → Nat) (cI cL : ClassId) (sz : Nat) (q_t q_t_text q_t_tags q_t_subs q_t_numbers q_t_chars q_t_firsts q_t_seconds q_t_depths q_t_lambdas q_t_owners q_t_kind q_t_number q_t_bytes q_t_part q_t_around q_t_many q_t_given q_t_holds q_t_outer q_t_frame q_t_first q_t_second q_t_told q_t_what q_t_where q_t_inside : Nat) (t_threw t_size t_at t_error t_found t_version t_terms t_latestVersion t_values t_environments t_frames t_state t_term t_environment t_value t_budget t_steps t_costs t_made t_tells t_waiting : Int32) (t_kind t_number t_part t_many t_given : Nat → Int32) (x1 x2 r0 : Int32) (hm : M_MO_gives t_kind t_number t_part t_many t_given x1 x2 = some r0) : Met l yX9_gives wsX9_gives ({ frames := 2, cells := 0, slots := 0, locals := 48 }) (frPc (dC, dI) vwCl [(cI, .int), (cL, .long)] [(q_t, .inr (8, [.int t_threw, .ref q_t_text, .int t_size, .int t_at, .int t_error, .int t_found, .ref q_t_tags, .ref q_t_subs, .ref q_t_numbers, .ref q_t_chars, .ref q_t_firsts, .ref q_t_seconds, .ref q_t_depths, .ref q_t_lambdas, .ref q_t_owners, .int t_version, .int t_terms, .int t_latestVersion, .int t_values, .ref q_t_kind, .ref q_t_number, .ref q_t_bytes, .ref q_t_part, .ref q_t_around, .ref q_t_many, .ref q_t_given, .int t_environments, .ref q_t_holds, .ref q_t_outer, .int t_frames, .ref q_t_frame, .ref q_t_first, .ref q_t_second, .int t_state, .int t_term, .int t_environment, .int t_value, .int t_budget, .int t_steps, .int t_costs, .int t_made, .int t_tells, .ref q_t_told, .int t_waiting, .ref q_t_what, .ref q_t_where, .ref q_t_inside])), (q_t_kind, .inl (cI, 700, .inl t_kind)), (q_t_number, .inl (cI, 700, .inl t_number)), (q_t_part, .inl (cI, 700, .inl t_part)), (q_t_many, .inl (cI, 700, .inl t_many)), (q_t_given, .inl (cI, 2100, .inl t_given))] sz [.ref q_t, .int x1, .int x2]) (va_Qi (fun (r : Int32) (_ : Unit) => r = r0) (frB (dC, dI) vwCl [(cI, .int), (cL, .long)] (va_A [(q_t, .inr (8, [.int t_threw, .ref q_t_text, .int t_size, .int t_at, .int t_error, .int t_found, .ref q_t_tags, .ref q_t_subs, .ref q_t_numbers, .ref q_t_chars, .ref q_t_firsts, .ref q_t_seconds, .ref q_t_depths, .ref q_t_lambdas, .ref q_t_owners, .int t_version, .int t_terms, .int t_latestVersion, .int t_values, .ref q_t_kind, .ref q_t_number, .ref q_t_bytes, .ref q_t_part, .ref q_t_around, .ref q_t_many, .ref q_t_given, .int t_environments, .ref q_t_holds, .ref q_t_outer, .int t_frames, .ref q_t_frame, .ref q_t_first, .ref q_t_second, .int t_state, .int t_term, .int t_environment, .int t_value, .int t_budget, .int t_steps, .int t_costs, .int t_made, .int t_tells, .ref q_t_told, .int t_waiting, .ref q_t_what, .ref q_t_where, .ref q_t_inside])), (q_t_kind, .inl (cI, 700, .inl t_kind)), (q_t_number, .inl (cI, 700, .inl t_number)), (q_t_part, .inl (cI, 700, .inl t_part)), (q_t_many, .inl (cI, 700, .inl t_many)), (q_t_given, .inl (cI, 2100, .inl t_given))] sz) [(q_t, .inr (8, [.int t_threw, .ref q_t_text, .int t_size, .int t_at, .int t_error, .int t_found, .ref q_t_tags, .ref q_t_subs, .ref q_t_numbers, .ref q_t_chars, .ref q_t_firsts, .ref q_t_seconds, .ref q_t_depths, .ref q_t_lambdas, .ref q_t_owners, .int t_version, .int t_terms, .int t_latestVersion, .int t_values, .ref q_t_kind, .ref q_t_number, .ref q_t_bytes, .ref q_t_part, .ref q_t_around, .ref q_t_many, .ref q_t_given, .int t_environments, .ref q_t_holds, .ref q_t_outer, .int t_frames, .ref q_t_frame, .ref q_t_first, .ref q_t_second, .int t_state, .int t_term, .int t_environment, .int t_value, .int t_budget, .int t_steps, .int t_costs, .int t_made, .int t_tells, .ref q_t_told, .int t_waiting, .ref q_t_what, .ref q_t_where, .ref q_t_inside])), (q_t_kind, .inl (cI, 700, .inl t_kind)), (q_t_number, .inl (cI, 700, .inl t_number)), (q_t_part, .inl (cI, 700, .inl t_part)), (q_t_many, .inl (cI, 700, .inl t_many)), (q_t_given, .inl (cI, 2100, .inl t_given))]) (va_A [(q_t, .inr (8, [.int t_threw, .ref q_t_text, .int t_size, .int t_at, .int t_error, .int t_found, .ref q_t_tags, .ref q_t_subs, .ref q_t_numbers, .ref q_t_chars, .ref q_t_firsts, .ref q_t_seconds, .ref q_t_depths, .ref q_t_lambdas, .ref q_t_owners, .int t_version, .int t_terms, .int t_latestVersion, .int t_values, .ref q_t_kind, .ref q_t_number, .ref q_t_bytes, .ref q_t_part, .ref q_t_around, .ref q_t_many, .ref q_t_given, .int t_environments, .ref q_t_holds, .ref q_t_outer, .int t_frames, .ref q_t_frame, .ref q_t_first, .ref q_t_second, .int t_state, .int t_term, .int t_environment, .int t_value, .int t_budget, .int t_steps, .int t_costs, .int t_made, .int t_tells, .ref q_t_told, .int t_waiting, .ref q_t_what, .ref q_t_where, .ref q_t_inside])), (q_t_kind, .inl (cI, 700, .inl t_kind)), (q_t_number, .inl (cI, 700, .inl t_number)), (q_t_part, .inl (cI, 700, .inl t_part)), (q_t_many, .inl (cI, 700, .inl t_many)), (q_t_given, .inl (cI, 2100, .inl t_given))] sz)) 0 0 (va_A [(q_t, .inr (8, [.int t_threw, .ref q_t_text, .int t_size, .int t_at, .int t_error, .int t_found, .ref q_t_tags, .ref q_t_subs, .ref q_t_numbers, .ref q_t_chars, .ref q_t_firsts, .ref q_t_seconds, .ref q_t_depths, .ref q_t_lambdas, .ref q_t_owners, .int t_version, .int t_terms, .int t_latestVersion, .int t_values, .ref q_t_kind, .ref q_t_number, .ref q_t_bytes, .ref q_t_part, .ref q_t_around, .ref q_t_many, .ref q_t_given, .int t_environments, .ref q_t_holds, .ref q_t_outer, .int t_frames, .ref q_t_frame, .ref q_t_first, .ref q_t_second, .int t_state, .int t_term, .int t_environment, .int t_value, .int t_budget, .int t_steps, .int t_costs, .int t_made, .int t_tells, .ref q_t_told, .int t_waiting, .ref q_t_what, .ref q_t_where, .ref q_t_inside])), (q_t_kind, .inl (cI, 700, .inl t_kind)), (q_t_number, .inl (cI, 700, .inl t_number)), (q_t_part, .inl (cI, 700, .inl t_part)), (q_t_many, .inl (cI, 700, .inl t_many)), (q_t_given, .inl (cI, 2100, .inl t_given))] sz) := by
  refine Met.ofW (cc := cX9_gives) (maxL := 10) (ret := (some .boolean)) (by decide) rfl ?_
  intro p e s m args below meth c s₁ B hml hv
  obtain ⟨rfl, hsz, hP, hK, hD0, hZ⟩ := hv
  have hx := B.exec
  have hb := B.bytes
  have hr := B.returns
  have hts := atoms_spec (ws := wsX9_gives) B.pre
  have hown : s.vm.findClass RX9 = some m.cls := findClass_of_methodNamed B.named
  have hlocks := B.notSynchronized
  subst hsz
  have hD := hD0.self (sz := s.heap.size)
  generalize hAe : va_A [(q_t, .inr (8, [.int t_threw, .ref q_t_text, .int t_size, .int t_at, .int t_error, .int t_found, .ref q_t_tags, .ref q_t_subs, .ref q_t_numbers, .ref q_t_chars, .ref q_t_firsts, .ref q_t_seconds, .ref q_t_depths, .ref q_t_lambdas, .ref q_t_owners, .int t_version, .int t_terms, .int t_latestVersion, .int t_values, .ref q_t_kind, .ref q_t_number, .ref q_t_bytes, .ref q_t_part, .ref q_t_around, .ref q_t_many, .ref q_t_given, .int t_environments, .ref q_t_holds, .ref q_t_outer, .int t_frames, .ref q_t_frame, .ref q_t_first, .ref q_t_second, .int t_state, .int t_term, .int t_environment, .int t_value, .int t_budget, .int t_steps, .int t_costs, .int t_made, .int t_tells, .ref q_t_told, .int t_waiting, .ref q_t_what, .ref q_t_where, .ref q_t_inside])), (q_t_kind, .inl (cI, 700, .inl t_kind)), (q_t_number, .inl (cI, 700, .inl t_number)), (q_t_part, .inl (cI, 700, .inl t_part)), (q_t_many, .inl (cI, 700, .inl t_many)), (q_t_given, .inl (cI, 2100, .inl t_given))] s.heap.size = A at hD hZ ⊢
  have hA : ∀ q : Nat, s.heap.size ≤ q → A q := fun q h => by rw [← hAe]; exact Or.inr h
  have hS : va_S A s.heap s.heap [] := va_S.rf
  have hP : va_P (dC, dI) vwCl [(q_t, .inr (8, [.int t_threw, .ref q_t_text, .int t_size, .int t_at, .int t_error, .int t_found, .ref q_t_tags, .ref q_t_subs, .ref q_t_numbers, .ref q_t_chars, .ref q_t_firsts, .ref q_t_seconds, .ref q_t_depths, .ref q_t_lambdas, .ref q_t_owners, .int t_version, .int t_terms, .int t_latestVersion, .int t_values, .ref q_t_kind, .ref q_t_number, .ref q_t_bytes, .ref q_t_part, .ref q_t_around, .ref q_t_many, .ref q_t_given, .int t_environments, .ref q_t_holds, .ref q_t_outer, .int t_frames, .ref q_t_frame, .ref q_t_first, .ref q_t_second, .int t_state, .int t_term, .int t_environment, .int t_value, .int t_budget, .int t_steps, .int t_costs, .int t_made, .int t_tells, .ref q_t_told, .int t_waiting, .ref q_t_what, .ref q_t_where, .ref q_t_inside])), (q_t_kind, .inl (cI, 700, .inl t_kind)), (q_t_number, .inl (cI, 700, .inl t_number)), (q_t_part, .inl (cI, 700, .inl t_part)), (q_t_many, .inl (cI, 700, .inl t_many)), (q_t_given, .inl (cI, 2100, .inl t_given))] s.heap := hP
  have hl := lv_entry ([.ref q_t, .int x1, .int x2]) (n := 10) (Nat.le_of_ble_eq_true rfl)
  rw [lg_entry_eq]
  generalize (lg_sl ([.ref q_t, .int x1, .int x2]) ++ List.replicate (10 - (lg_sl ([.ref q_t, .int x1, .int x2])).length) Slot.unset).toArray = ls at hl ⊢
  have hl : lv_has ls 10 [(0, .ref q_t), (1, .int x1), (2, .int x2)] := hl
  refine wq hP hS (fun Q hQ H locs hP hS => ?_)
  have htw : ∀ w ∈ AW, w.before _ s = true := fun w h => hts w (List.mem_cons_of_mem _ h)
  have hn0 : ∀ w ∈ wsX90, w ∈ wsX9_gives := fun w h => List.mem_cons_of_mem _ (inX9 w h)
  have L147 : ∀ (z0 : Int64) (ls : Array Slot) (H : Heap) (locs : List Loc), M_MO_gives_147 t_kind t_number t_part t_many t_given z0 = some r0 → lv_has ls 10 [] → va_P (dC, dI) vwCl [(q_t, .inr (8, [.int t_threw, .ref q_t_text, .int t_size, .int t_at, .int t_error, .int t_found, .ref q_t_tags, .ref q_t_subs, .ref q_t_numbers, .ref q_t_chars, .ref q_t_firsts, .ref q_t_seconds, .ref q_t_depths, .ref q_t_lambdas, .ref q_t_owners, .int t_version, .int t_terms, .int t_latestVersion, .int t_values, .ref q_t_kind, .ref q_t_number, .ref q_t_bytes, .ref q_t_part, .ref q_t_around, .ref q_t_many, .ref q_t_given, .int t_environments, .ref q_t_holds, .ref q_t_outer, .int t_frames, .ref q_t_frame, .ref q_t_first, .ref q_t_second, .int t_state, .int t_term, .int t_environment, .int t_value, .int t_budget, .int t_steps, .int t_costs, .int t_made, .int t_tells, .ref q_t_told, .int t_waiting, .ref q_t_what, .ref q_t_where, .ref q_t_inside])), (q_t_kind, .inl (cI, 700, .inl t_kind)), (q_t_number, .inl (cI, 700, .inl t_number)), (q_t_part, .inl (cI, 700, .inl t_part)), (q_t_many, .inl (cI, 700, .inl t_many)), (q_t_given, .inl (cI, 2100, .inl t_given))] H → va_D A [(q_t, .inr (8, [.int t_threw, .ref q_t_text, .int t_size, .int t_at, .int t_error, .int t_found, .ref q_t_tags, .ref q_t_subs, .ref q_t_numbers, .ref q_t_chars, .ref q_t_firsts, .ref q_t_seconds, .ref q_t_depths, .ref q_t_lambdas, .ref q_t_owners, .int t_version, .int t_terms, .int t_latestVersion, .int t_values, .ref q_t_kind, .ref q_t_number, .ref q_t_bytes, .ref q_t_part, .ref q_t_around, .ref q_t_many, .ref q_t_given, .int t_environments, .ref q_t_holds, .ref q_t_outer, .int t_frames, .ref q_t_frame, .ref q_t_first, .ref q_t_second, .int t_state, .int t_term, .int t_environment, .int t_value, .int t_budget, .int t_steps, .int t_costs, .int t_made, .int t_tells, .ref q_t_told, .int t_waiting, .ref q_t_what, .ref q_t_where, .ref q_t_inside])), (q_t_kind, .inl (cI, 700, .inl t_kind)), (q_t_number, .inl (cI, 700, .inl t_number)), (q_t_part, .inl (cI, 700, .inl t_part)), (q_t_many, .inl (cI, 700, .inl t_many)), (q_t_given, .inl (cI, 2100, .inl t_given))] → va_S A s.heap H locs → W p l e ({ frames := 2, cells := 0, slots := 0, locals := 48 }) s m [.ref q_t, .int x1, .int x2].toArray below meth c H locs 0 0 Q (F0 m 147 ls [.long z0]) := by
    intro z0 ls H locs hm hl hP hD hS
    unfold M_MO_gives_147 at hm
    obtain ⟨r147, e147, hm⟩ := c1_inv hm
    refine fr_i (wr := [(q_t, .inr (8, [.int t_threw, .ref q_t_text, .int t_size, .int t_at, .int t_error, .int t_found, .ref q_t_tags, .ref q_t_subs, .ref q_t_numbers, .ref q_t_chars, .ref q_t_firsts, .ref q_t_seconds, .ref q_t_depths, .ref q_t_lambdas, .ref q_t_owners, .int t_version, .int t_terms, .int t_latestVersion, .int t_values, .ref q_t_kind, .ref q_t_number, .ref q_t_bytes, .ref q_t_part, .ref q_t_around, .ref q_t_many, .ref q_t_given, .int t_environments, .ref q_t_holds, .ref q_t_outer, .int t_frames, .ref q_t_frame, .ref q_t_first, .ref q_t_second, .int t_state, .int t_term, .int t_environment, .int t_value, .int t_budget, .int t_steps, .int t_costs, .int t_made, .int t_tells, .ref q_t_told, .int t_waiting, .ref q_t_what, .ref q_t_where, .ref q_t_inside])), (q_t_kind, .inl (cI, 700, .inl t_kind)), (q_t_number, .inl (cI, 700, .inl t_number)), (q_t_part, .inl (cI, 700, .inl t_part)), (q_t_many, .inl (cI, 700, .inl t_many)), (q_t_given, .inl (cI, 2100, .inl t_given))]) (w2 := [(q_t, .inr (8, [.int t_threw, .ref q_t_text, .int t_size, .int t_at, .int t_error, .int t_found, .ref q_t_tags, .ref q_t_subs, .ref q_t_numbers, .ref q_t_chars, .ref q_t_firsts, .ref q_t_seconds, .ref q_t_depths, .ref q_t_lambdas, .ref q_t_owners, .int t_version, .int t_terms, .int t_latestVersion, .int t_values, .ref q_t_kind, .ref q_t_number, .ref q_t_bytes, .ref q_t_part, .ref q_t_around, .ref q_t_many, .ref q_t_given, .int t_environments, .ref q_t_holds, .ref q_t_outer, .int t_frames, .ref q_t_frame, .ref q_t_first, .ref q_t_second, .int t_state, .int t_term, .int t_environment, .int t_value, .int t_budget, .int t_steps, .int t_costs, .int t_made, .int t_tells, .ref q_t_told, .int t_waiting, .ref q_t_what, .ref q_t_where, .ref q_t_inside])), (q_t_kind, .inl (cI, 700, .inl t_kind)), (q_t_number, .inl (cI, 700, .inl t_number)), (q_t_part, .inl (cI, 700, .inl t_part)), (q_t_many, .inl (cI, 700, .inl t_many)), (q_t_given, .inl (cI, 2100, .inl t_given))]) (va_runS (As := [.long z0]) (rest := []) ⟨hx, hb, hml, hown, hts⟩ (c_MO_isInt l dC dI cI cL H.size z0 r147 e147) (kS 1 hts aw_1025 rfl rfl aw_9 aw_1023 aw_1024 (by decide +kernel) ⟨Nat.le_of_ble_eq_true rfl, Nat.le_of_ble_eq_true rfl⟩) (fr_preS hK hP hD hS hA hZ [] rfl rfl) rfl rfl hl.1 rfl (lv_room (Nat.le_of_ble_eq_true rfl)) dX9_gives_147 ⟨Nat.le_of_ble_eq_true rfl, Nat.le_of_ble_eq_true rfl⟩) hP hD hS hA [] [0, 1, 2, 3, 4, 5] [0, 1, 2, 3, 4, 5] rfl rfl rfl (by decide) rfl rfl (fun H locs hP hD hS => ?_)
    have hP : va_P (dC, dI) vwCl [(q_t, .inr (8, [.int t_threw, .ref q_t_text, .int t_size, .int t_at, .int t_error, .int t_found, .ref q_t_tags, .ref q_t_subs, .ref q_t_numbers, .ref q_t_chars, .ref q_t_firsts, .ref q_t_seconds, .ref q_t_depths, .ref q_t_lambdas, .ref q_t_owners, .int t_version, .int t_terms, .int t_latestVersion, .int t_values, .ref q_t_kind, .ref q_t_number, .ref q_t_bytes, .ref q_t_part, .ref q_t_around, .ref q_t_many, .ref q_t_given, .int t_environments, .ref q_t_holds, .ref q_t_outer, .int t_frames, .ref q_t_frame, .ref q_t_first, .ref q_t_second, .int t_state, .int t_term, .int t_environment, .int t_value, .int t_budget, .int t_steps, .int t_costs, .int t_made, .int t_tells, .ref q_t_told, .int t_waiting, .ref q_t_what, .ref q_t_where, .ref q_t_inside])), (q_t_kind, .inl (cI, 700, .inl t_kind)), (q_t_number, .inl (cI, 700, .inl t_number)), (q_t_part, .inl (cI, 700, .inl t_part)), (q_t_many, .inl (cI, 700, .inl t_many)), (q_t_given, .inl (cI, 2100, .inl t_given))] H := hP
    have hD : va_D A [(q_t, .inr (8, [.int t_threw, .ref q_t_text, .int t_size, .int t_at, .int t_error, .int t_found, .ref q_t_tags, .ref q_t_subs, .ref q_t_numbers, .ref q_t_chars, .ref q_t_firsts, .ref q_t_seconds, .ref q_t_depths, .ref q_t_lambdas, .ref q_t_owners, .int t_version, .int t_terms, .int t_latestVersion, .int t_values, .ref q_t_kind, .ref q_t_number, .ref q_t_bytes, .ref q_t_part, .ref q_t_around, .ref q_t_many, .ref q_t_given, .int t_environments, .ref q_t_holds, .ref q_t_outer, .int t_frames, .ref q_t_frame, .ref q_t_first, .ref q_t_second, .int t_state, .int t_term, .int t_environment, .int t_value, .int t_budget, .int t_steps, .int t_costs, .int t_made, .int t_tells, .ref q_t_told, .int t_waiting, .ref q_t_what, .ref q_t_where, .ref q_t_inside])), (q_t_kind, .inl (cI, 700, .inl t_kind)), (q_t_number, .inl (cI, 700, .inl t_number)), (q_t_part, .inl (cI, 700, .inl t_part)), (q_t_many, .inl (cI, 700, .inl t_many)), (q_t_given, .inl (cI, 2100, .inl t_given))] := hD
    refine lv_goto hx hb dX9_gives_150 rfl ?_
    obtain ⟨h176, hm⟩ := chk_inv hm
    try clear L147
    obtain rfl := Option.some.inj hm
    subst hQ
    exact W.zret hx hb hr (zn h176) (fun t ht hW => ⟨⟨_, (), rfl, rfl, by rw [ht]; exact hP, va_K.moved hW.alike hK, hD⟩, hS.F ht⟩) hS.2.2 dX9_gives_176
  unfold M_MO_gives at hm
  refine lv_aload_n hx hb dX9_gives_0 rfl (lv_at hl 0 rfl) ?_
  refine lv_iload_n hx hb dX9_gives_1 rfl (lv_at hl 1 rfl) ?_
  refine lv_iload_n hx hb dX9_gives_2 rfl (lv_at hl 2 rfl) ?_
  obtain ⟨r3, e3, hm⟩ := c1_inv hm
  refine fr_i (wr := [(q_t_number, .inl (cI, 700, .inl t_number))]) (w2 := [(q_t, .inr (8, [.int t_threw, .ref q_t_text, .int t_size, .int t_at, .int t_error, .int t_found, .ref q_t_tags, .ref q_t_subs, .ref q_t_numbers, .ref q_t_chars, .ref q_t_firsts, .ref q_t_seconds, .ref q_t_depths, .ref q_t_lambdas, .ref q_t_owners, .int t_version, .int t_terms, .int t_latestVersion, .int t_values, .ref q_t_kind, .ref q_t_number, .ref q_t_bytes, .ref q_t_part, .ref q_t_around, .ref q_t_many, .ref q_t_given, .int t_environments, .ref q_t_holds, .ref q_t_outer, .int t_frames, .ref q_t_frame, .ref q_t_first, .ref q_t_second, .int t_state, .int t_term, .int t_environment, .int t_value, .int t_budget, .int t_steps, .int t_costs, .int t_made, .int t_tells, .ref q_t_told, .int t_waiting, .ref q_t_what, .ref q_t_where, .ref q_t_inside])), (q_t_kind, .inl (cI, 700, .inl t_kind)), (q_t_number, .inl (cI, 700, .inl t_number)), (q_t_part, .inl (cI, 700, .inl t_part)), (q_t_many, .inl (cI, 700, .inl t_many)), (q_t_given, .inl (cI, 2100, .inl t_given))]) (va_runV (As := [.int x1, .int x2]) (rest := []) ⟨hx, hb, hml, hown, hts⟩ (c_MO_fits l dC dI cI cL H.size q_t q_t_text q_t_tags q_t_subs q_t_numbers q_t_chars q_t_firsts q_t_seconds q_t_depths q_t_lambdas q_t_owners q_t_kind q_t_number q_t_bytes q_t_part q_t_around q_t_many q_t_given q_t_holds q_t_outer q_t_frame q_t_first q_t_second q_t_told q_t_what q_t_where q_t_inside t_threw t_size t_at t_error t_found t_version t_terms t_latestVersion t_values t_environments t_frames t_state t_term t_environment t_value t_budget t_steps t_costs t_made t_tells t_waiting t_kind t_part t_many t_given x1 x2 r3 e3) (kV 2 hts aw_1019 rfl rfl aw_9 aw_1016 aw_1018 as_64 (by decide +kernel) ⟨Nat.le_of_ble_eq_true rfl, Nat.le_of_ble_eq_true rfl⟩) (fr_preV hK hP hD hS hA hZ [0, 1, 3, 4, 5] rfl rfl (ci := 8) (q0 := 0) rfl rfl) rfl rfl hl.1 rfl (lv_room (Nat.le_of_ble_eq_true rfl)) dX9_gives_3 ⟨Nat.le_of_ble_eq_true rfl, Nat.le_of_ble_eq_true rfl⟩) hP hD hS hA [0, 1, 3, 4, 5] [2] [1, 2, 0, 3, 4, 5] rfl rfl rfl (by decide) rfl rfl (fun H locs hP hD hS => ?_)
  have hP : va_P (dC, dI) vwCl [(q_t, .inr (8, [.int t_threw, .ref q_t_text, .int t_size, .int t_at, .int t_error, .int t_found, .ref q_t_tags, .ref q_t_subs, .ref q_t_numbers, .ref q_t_chars, .ref q_t_firsts, .ref q_t_seconds, .ref q_t_depths, .ref q_t_lambdas, .ref q_t_owners, .int t_version, .int t_terms, .int t_latestVersion, .int t_values, .ref q_t_kind, .ref q_t_number, .ref q_t_bytes, .ref q_t_part, .ref q_t_around, .ref q_t_many, .ref q_t_given, .int t_environments, .ref q_t_holds, .ref q_t_outer, .int t_frames, .ref q_t_frame, .ref q_t_first, .ref q_t_second, .int t_state, .int t_term, .int t_environment, .int t_value, .int t_budget, .int t_steps, .int t_costs, .int t_made, .int t_tells, .ref q_t_told, .int t_waiting, .ref q_t_what, .ref q_t_where, .ref q_t_inside])), (q_t_kind, .inl (cI, 700, .inl t_kind)), (q_t_number, .inl (cI, 700, .inl t_number)), (q_t_part, .inl (cI, 700, .inl t_part)), (q_t_many, .inl (cI, 700, .inl t_many)), (q_t_given, .inl (cI, 2100, .inl t_given))] H := hP
  have hD : va_D A [(q_t, .inr (8, [.int t_threw, .ref q_t_text, .int t_size, .int t_at, .int t_error, .int t_found, .ref q_t_tags, .ref q_t_subs, .ref q_t_numbers, .ref q_t_chars, .ref q_t_firsts, .ref q_t_seconds, .ref q_t_depths, .ref q_t_lambdas, .ref q_t_owners, .int t_version, .int t_terms, .int t_latestVersion, .int t_values, .ref q_t_kind, .ref q_t_number, .ref q_t_bytes, .ref q_t_part, .ref q_t_around, .ref q_t_many, .ref q_t_given, .int t_environments, .ref q_t_holds, .ref q_t_outer, .int t_frames, .ref q_t_frame, .ref q_t_first, .ref q_t_second, .int t_state, .int t_term, .int t_environment, .int t_value, .int t_budget, .int t_steps, .int t_costs, .int t_made, .int t_tells, .ref q_t_told, .int t_waiting, .ref q_t_what, .ref q_t_where, .ref q_t_inside])), (q_t_kind, .inl (cI, 700, .inl t_kind)), (q_t_number, .inl (cI, 700, .inl t_number)), (q_t_part, .inl (cI, 700, .inl t_part)), (q_t_many, .inl (cI, 700, .inl t_many)), (q_t_given, .inl (cI, 2100, .inl t_given))] := hD
  refine lv_if_ne hx hb dX9_gives_6 rfl (fun h6 => ?_) (fun h6 => ?_)
  · replace hm := ifn h6 hm
    refine lv_aload_n hx hb dX9_gives_11 rfl (lv_at hl 0 rfl) ?_
    refine va_get (D := (dC, dI)) (ci := 8) (v := .ref q_t_part) (C := RX9) (T := TX9) (N := 47) hx hb hts hn0 hown hK hP 0 rfl rfl 22 (by decide) (htw _ aw_735) (fun _ h9 => h9) rfl dX9_gives_12 ?_
    refine lv_iload_n hx hb dX9_gives_15 rfl (lv_at hl 1 rfl) ?_
    obtain ⟨h16, hm⟩ := chk_inv hm
    refine va_iald (D := (dC, dI)) hx hb hK hP 3 0 rfl rfl (in_of (n := 700) (by decide) h16) dX9_gives_16 ?_
    refine lv_istore_n (lv' := [(3, .int (t_part x1.toNatClampNeg)), (0, .ref q_t), (1, .int x1), (2, .int x2)]) hx hb dX9_gives_17 rfl hl (by decide) rfl (fun ls hl => ?_)
    refine lv_aload_n hx hb dX9_gives_18 rfl (lv_at hl 1 rfl) ?_
    refine lv_iload_n hx hb dX9_gives_19 rfl (lv_at hl 2 rfl) ?_
    refine lv_iload_n hx hb dX9_gives_20 rfl (lv_at hl 3 rfl) ?_
    refine lv_iconst (v := 0) hx hb dX9_gives_21 (by decide) ?_
    obtain ⟨r22, e22, hm⟩ := c1_inv hm
    refine fr_i (wr := [(q_t_kind, .inl (cI, 700, .inl t_kind)), (q_t_number, .inl (cI, 700, .inl t_number)), (q_t_part, .inl (cI, 700, .inl t_part))]) (w2 := [(q_t, .inr (8, [.int t_threw, .ref q_t_text, .int t_size, .int t_at, .int t_error, .int t_found, .ref q_t_tags, .ref q_t_subs, .ref q_t_numbers, .ref q_t_chars, .ref q_t_firsts, .ref q_t_seconds, .ref q_t_depths, .ref q_t_lambdas, .ref q_t_owners, .int t_version, .int t_terms, .int t_latestVersion, .int t_values, .ref q_t_kind, .ref q_t_number, .ref q_t_bytes, .ref q_t_part, .ref q_t_around, .ref q_t_many, .ref q_t_given, .int t_environments, .ref q_t_holds, .ref q_t_outer, .int t_frames, .ref q_t_frame, .ref q_t_first, .ref q_t_second, .int t_state, .int t_term, .int t_environment, .int t_value, .int t_budget, .int t_steps, .int t_costs, .int t_made, .int t_tells, .ref q_t_told, .int t_waiting, .ref q_t_what, .ref q_t_where, .ref q_t_inside])), (q_t_kind, .inl (cI, 700, .inl t_kind)), (q_t_number, .inl (cI, 700, .inl t_number)), (q_t_part, .inl (cI, 700, .inl t_part)), (q_t_many, .inl (cI, 700, .inl t_many)), (q_t_given, .inl (cI, 2100, .inl t_given))]) (va_runV (As := [.int x1, .int x2, .int 0]) (rest := []) ⟨hx, hb, hml, hown, hts⟩ (c_MO_argument l dC dI cI cL H.size q_t q_t_text q_t_tags q_t_subs q_t_numbers q_t_chars q_t_firsts q_t_seconds q_t_depths q_t_lambdas q_t_owners q_t_kind q_t_number q_t_bytes q_t_part q_t_around q_t_many q_t_given q_t_holds q_t_outer q_t_frame q_t_first q_t_second q_t_told q_t_what q_t_where q_t_inside t_threw t_size t_at t_error t_found t_version t_terms t_latestVersion t_values t_environments t_frames t_state t_term t_environment t_value t_budget t_steps t_costs t_made t_tells t_waiting t_many t_given x1 x2 (0 : Int32) r22 e22) (kV 3 hts aw_938 rfl rfl aw_9 aw_935 aw_937 as_44 (by decide +kernel) ⟨Nat.le_of_ble_eq_true rfl, Nat.le_of_ble_eq_true rfl⟩) (fr_preV hK hP hD hS hA hZ [0, 4, 5] rfl rfl (ci := 8) (q0 := 0) rfl rfl) rfl rfl hl.1 rfl (lv_room (Nat.le_of_ble_eq_true rfl)) dX9_gives_22 ⟨Nat.le_of_ble_eq_true rfl, Nat.le_of_ble_eq_true rfl⟩) hP hD hS hA [0, 4, 5] [1, 2, 3] [3, 0, 1, 2, 4, 5] rfl rfl rfl (by decide) rfl rfl (fun H locs hP hD hS => ?_)
    have hP : va_P (dC, dI) vwCl [(q_t, .inr (8, [.int t_threw, .ref q_t_text, .int t_size, .int t_at, .int t_error, .int t_found, .ref q_t_tags, .ref q_t_subs, .ref q_t_numbers, .ref q_t_chars, .ref q_t_firsts, .ref q_t_seconds, .ref q_t_depths, .ref q_t_lambdas, .ref q_t_owners, .int t_version, .int t_terms, .int t_latestVersion, .int t_values, .ref q_t_kind, .ref q_t_number, .ref q_t_bytes, .ref q_t_part, .ref q_t_around, .ref q_t_many, .ref q_t_given, .int t_environments, .ref q_t_holds, .ref q_t_outer, .int t_frames, .ref q_t_frame, .ref q_t_first, .ref q_t_second, .int t_state, .int t_term, .int t_environment, .int t_value, .int t_budget, .int t_steps, .int t_costs, .int t_made, .int t_tells, .ref q_t_told, .int t_waiting, .ref q_t_what, .ref q_t_where, .ref q_t_inside])), (q_t_kind, .inl (cI, 700, .inl t_kind)), (q_t_number, .inl (cI, 700, .inl t_number)), (q_t_part, .inl (cI, 700, .inl t_part)), (q_t_many, .inl (cI, 700, .inl t_many)), (q_t_given, .inl (cI, 2100, .inl t_given))] H := hP
    have hD : va_D A [(q_t, .inr (8, [.int t_threw, .ref q_t_text, .int t_size, .int t_at, .int t_error, .int t_found, .ref q_t_tags, .ref q_t_subs, .ref q_t_numbers, .ref q_t_chars, .ref q_t_firsts, .ref q_t_seconds, .ref q_t_depths, .ref q_t_lambdas, .ref q_t_owners, .int t_version, .int t_terms, .int t_latestVersion, .int t_values, .ref q_t_kind, .ref q_t_number, .ref q_t_bytes, .ref q_t_part, .ref q_t_around, .ref q_t_many, .ref q_t_given, .int t_environments, .ref q_t_holds, .ref q_t_outer, .int t_frames, .ref q_t_frame, .ref q_t_first, .ref q_t_second, .int t_state, .int t_term, .int t_environment, .int t_value, .int t_budget, .int t_steps, .int t_costs, .int t_made, .int t_tells, .ref q_t_told, .int t_waiting, .ref q_t_what, .ref q_t_where, .ref q_t_inside])), (q_t_kind, .inl (cI, 700, .inl t_kind)), (q_t_number, .inl (cI, 700, .inl t_number)), (q_t_part, .inl (cI, 700, .inl t_part)), (q_t_many, .inl (cI, 700, .inl t_many)), (q_t_given, .inl (cI, 2100, .inl t_given))] := hD
    refine lv_istore (lv' := [(4, .int r22), (3, .int (t_part x1.toNatClampNeg)), (0, .ref q_t), (1, .int x1), (2, .int x2)]) hx hb dX9_gives_25 hl (by decide) rfl (fun ls hl => ?_)
    refine lv_aload_n hx hb dX9_gives_27 rfl (lv_at hl 2 rfl) ?_
    refine lv_iload_n hx hb dX9_gives_28 rfl (lv_at hl 3 rfl) ?_
    refine lv_iload_n hx hb dX9_gives_29 rfl (lv_at hl 4 rfl) ?_
    refine lv_iconst (v := 1) hx hb dX9_gives_30 (by decide) ?_
    obtain ⟨r31, e31, hm⟩ := c1_inv hm
    refine fr_i (wr := [(q_t_kind, .inl (cI, 700, .inl t_kind)), (q_t_number, .inl (cI, 700, .inl t_number)), (q_t_part, .inl (cI, 700, .inl t_part))]) (w2 := [(q_t, .inr (8, [.int t_threw, .ref q_t_text, .int t_size, .int t_at, .int t_error, .int t_found, .ref q_t_tags, .ref q_t_subs, .ref q_t_numbers, .ref q_t_chars, .ref q_t_firsts, .ref q_t_seconds, .ref q_t_depths, .ref q_t_lambdas, .ref q_t_owners, .int t_version, .int t_terms, .int t_latestVersion, .int t_values, .ref q_t_kind, .ref q_t_number, .ref q_t_bytes, .ref q_t_part, .ref q_t_around, .ref q_t_many, .ref q_t_given, .int t_environments, .ref q_t_holds, .ref q_t_outer, .int t_frames, .ref q_t_frame, .ref q_t_first, .ref q_t_second, .int t_state, .int t_term, .int t_environment, .int t_value, .int t_budget, .int t_steps, .int t_costs, .int t_made, .int t_tells, .ref q_t_told, .int t_waiting, .ref q_t_what, .ref q_t_where, .ref q_t_inside])), (q_t_kind, .inl (cI, 700, .inl t_kind)), (q_t_number, .inl (cI, 700, .inl t_number)), (q_t_part, .inl (cI, 700, .inl t_part)), (q_t_many, .inl (cI, 700, .inl t_many)), (q_t_given, .inl (cI, 2100, .inl t_given))]) (va_runV (As := [.int x1, .int x2, .int 1]) (rest := []) ⟨hx, hb, hml, hown, hts⟩ (c_MO_argument l dC dI cI cL H.size q_t q_t_text q_t_tags q_t_subs q_t_numbers q_t_chars q_t_firsts q_t_seconds q_t_depths q_t_lambdas q_t_owners q_t_kind q_t_number q_t_bytes q_t_part q_t_around q_t_many q_t_given q_t_holds q_t_outer q_t_frame q_t_first q_t_second q_t_told q_t_what q_t_where q_t_inside t_threw t_size t_at t_error t_found t_version t_terms t_latestVersion t_values t_environments t_frames t_state t_term t_environment t_value t_budget t_steps t_costs t_made t_tells t_waiting t_many t_given x1 x2 (1 : Int32) r31 e31) (kV 3 hts aw_938 rfl rfl aw_9 aw_935 aw_937 as_44 (by decide +kernel) ⟨Nat.le_of_ble_eq_true rfl, Nat.le_of_ble_eq_true rfl⟩) (fr_preV hK hP hD hS hA hZ [0, 4, 5] rfl rfl (ci := 8) (q0 := 0) rfl rfl) rfl rfl hl.1 rfl (lv_room (Nat.le_of_ble_eq_true rfl)) dX9_gives_31 ⟨Nat.le_of_ble_eq_true rfl, Nat.le_of_ble_eq_true rfl⟩) hP hD hS hA [0, 4, 5] [1, 2, 3] [3, 0, 1, 2, 4, 5] rfl rfl rfl (by decide) rfl rfl (fun H locs hP hD hS => ?_)
    have hP : va_P (dC, dI) vwCl [(q_t, .inr (8, [.int t_threw, .ref q_t_text, .int t_size, .int t_at, .int t_error, .int t_found, .ref q_t_tags, .ref q_t_subs, .ref q_t_numbers, .ref q_t_chars, .ref q_t_firsts, .ref q_t_seconds, .ref q_t_depths, .ref q_t_lambdas, .ref q_t_owners, .int t_version, .int t_terms, .int t_latestVersion, .int t_values, .ref q_t_kind, .ref q_t_number, .ref q_t_bytes, .ref q_t_part, .ref q_t_around, .ref q_t_many, .ref q_t_given, .int t_environments, .ref q_t_holds, .ref q_t_outer, .int t_frames, .ref q_t_frame, .ref q_t_first, .ref q_t_second, .int t_state, .int t_term, .int t_environment, .int t_value, .int t_budget, .int t_steps, .int t_costs, .int t_made, .int t_tells, .ref q_t_told, .int t_waiting, .ref q_t_what, .ref q_t_where, .ref q_t_inside])), (q_t_kind, .inl (cI, 700, .inl t_kind)), (q_t_number, .inl (cI, 700, .inl t_number)), (q_t_part, .inl (cI, 700, .inl t_part)), (q_t_many, .inl (cI, 700, .inl t_many)), (q_t_given, .inl (cI, 2100, .inl t_given))] H := hP
    have hD : va_D A [(q_t, .inr (8, [.int t_threw, .ref q_t_text, .int t_size, .int t_at, .int t_error, .int t_found, .ref q_t_tags, .ref q_t_subs, .ref q_t_numbers, .ref q_t_chars, .ref q_t_firsts, .ref q_t_seconds, .ref q_t_depths, .ref q_t_lambdas, .ref q_t_owners, .int t_version, .int t_terms, .int t_latestVersion, .int t_values, .ref q_t_kind, .ref q_t_number, .ref q_t_bytes, .ref q_t_part, .ref q_t_around, .ref q_t_many, .ref q_t_given, .int t_environments, .ref q_t_holds, .ref q_t_outer, .int t_frames, .ref q_t_frame, .ref q_t_first, .ref q_t_second, .int t_state, .int t_term, .int t_environment, .int t_value, .int t_budget, .int t_steps, .int t_costs, .int t_made, .int t_tells, .ref q_t_told, .int t_waiting, .ref q_t_what, .ref q_t_where, .ref q_t_inside])), (q_t_kind, .inl (cI, 700, .inl t_kind)), (q_t_number, .inl (cI, 700, .inl t_number)), (q_t_part, .inl (cI, 700, .inl t_part)), (q_t_many, .inl (cI, 700, .inl t_many)), (q_t_given, .inl (cI, 2100, .inl t_given))] := hD
    refine lv_istore (lv' := [(5, .int r31), (4, .int r22), (3, .int (t_part x1.toNatClampNeg)), (0, .ref q_t), (1, .int x1), (2, .int x2)]) hx hb dX9_gives_34 hl (by decide) rfl (fun ls hl => ?_)
    refine lv_aload_n hx hb dX9_gives_36 rfl (lv_at hl 3 rfl) ?_
    refine va_get (D := (dC, dI)) (ci := 8) (v := .ref q_t_number) (C := RX9) (T := TX9) (N := 47) hx hb hts hn0 hown hK hP 0 rfl rfl 20 (by decide) (htw _ aw_733) (fun _ h9 => h9) rfl dX9_gives_37 ?_
    refine lv_iload hx hb dX9_gives_40 (lv_at hl 1 rfl) ?_
    obtain ⟨h42, hm⟩ := chk_inv hm
    refine va_iald (D := (dC, dI)) hx hb hK hP 2 0 rfl rfl (in_of (n := 700) (by decide) h42) dX9_gives_42 ?_
    refine lv_i2l (v := (t_number r22.toNatClampNeg).toInt64) hx hb dX9_gives_43 rfl ?_
    refine lv_lstore (lv' := [(6, .long ((t_number r22.toNatClampNeg).toInt64)), (5, .int r31), (4, .int r22), (3, .int (t_part x1.toNatClampNeg)), (0, .ref q_t), (1, .int x1), (2, .int x2)]) hx hb dX9_gives_44 hl (by decide) rfl (fun ls hl => ?_)
    refine lv_aload_n hx hb dX9_gives_46 rfl (lv_at hl 4 rfl) ?_
    refine va_get (D := (dC, dI)) (ci := 8) (v := .ref q_t_number) (C := RX9) (T := TX9) (N := 47) hx hb hts hn0 hown hK hP 0 rfl rfl 20 (by decide) (htw _ aw_733) (fun _ h9 => h9) rfl dX9_gives_47 ?_
    refine lv_iload hx hb dX9_gives_50 (lv_at hl 1 rfl) ?_
    obtain ⟨h52, hm⟩ := chk_inv hm
    refine va_iald (D := (dC, dI)) hx hb hK hP 2 0 rfl rfl (in_of (n := 700) (by decide) h52) dX9_gives_52 ?_
    refine lv_i2l (v := (t_number r31.toNatClampNeg).toInt64) hx hb dX9_gives_53 rfl ?_
    refine lv_lstore (lv' := [(8, .long ((t_number r31.toNatClampNeg).toInt64)), (6, .long ((t_number r22.toNatClampNeg).toInt64)), (5, .int r31), (4, .int r22), (3, .int (t_part x1.toNatClampNeg)), (0, .ref q_t), (1, .int x1), (2, .int x2)]) hx hb dX9_gives_54 hl (by decide) rfl (fun ls hl => ?_)
    refine lv_iload_n hx hb dX9_gives_56 rfl (lv_at hl 4 rfl) ?_
    refine lv_iconst (v := 3) hx hb dX9_gives_57 (by decide) ?_
    refine lv_icmp_ne hx hb dX9_gives_58 rfl (fun h58 => ?_) (fun h58 => ?_)
    · replace hm := ifn h58 hm
      refine lv_iload_n hx hb dX9_gives_85 rfl (lv_at hl 4 rfl) ?_
      refine lv_bipush (v := 9) hx hb dX9_gives_86 (by decide) ?_
      refine lv_icmp_ne hx hb dX9_gives_88 rfl (fun h88 => ?_) (fun h88 => ?_)
      · replace hm := ifn h88 hm
        refine lv_iload_n hx hb dX9_gives_112 rfl (lv_at hl 4 rfl) ?_
        refine lv_iconst (v := 3) hx hb dX9_gives_113 (by decide) ?_
        refine lv_icmp_ge hx hb dX9_gives_114 rfl (fun h114 => ?_) (fun h114 => ?_)
        · replace hm := ifp h114 hm
          refine lv_iload_n hx hb dX9_gives_153 rfl (lv_at hl 4 rfl) ?_
          refine lv_bipush (v := 7) hx hb dX9_gives_154 (by decide) ?_
          refine lv_icmp_ne hx hb dX9_gives_156 rfl (fun h156 => ?_) (fun h156 => ?_)
          · replace hm := ifn h156 hm
            refine lv_iconst (v := 1) hx hb dX9_gives_171 (by decide) ?_
            refine lv_goto hx hb dX9_gives_172 rfl ?_
            try clear L147
            obtain rfl := Option.some.inj hm
            subst hQ
            exact W.zret hx hb hr (by decide) (fun t ht hW => ⟨⟨_, (), rfl, rfl, by rw [ht]; exact hP, va_K.moved hW.alike hK, hD⟩, hS.F ht⟩) hS.2.2 dX9_gives_176
          · replace hm := ifp h156 hm
            refine lv_lload hx hb dX9_gives_159 (lv_at hl 1 rfl) ?_
            refine lv_lload hx hb dX9_gives_161 (lv_at hl 0 rfl) ?_
            refine lv_ladd hx hb dX9_gives_163 ?_
            refine lv_ldc2 (v := 7) hx hb hown (htw _ aw_1027) dX9_gives_164 ?_
            refine W.lcmp hx hb dX9_gives_167 ?_
            refine lv_if_gt hx hb dX9_gives_168 rfl (fun h168 => ?_) (fun h168 => ?_)
            · replace hm := ifp h168 hm
              refine lv_iconst (v := 0) hx hb dX9_gives_175 (by decide) ?_
              try clear L147
              obtain rfl := Option.some.inj hm
              subst hQ
              exact W.zret hx hb hr (by decide) (fun t ht hW => ⟨⟨_, (), rfl, rfl, by rw [ht]; exact hP, va_K.moved hW.alike hK, hD⟩, hS.F ht⟩) hS.2.2 dX9_gives_176
            · replace hm := ifn h168 hm
              refine lv_iconst (v := 1) hx hb dX9_gives_171 (by decide) ?_
              refine lv_goto hx hb dX9_gives_172 rfl ?_
              try clear L147
              obtain rfl := Option.some.inj hm
              subst hQ
              exact W.zret hx hb hr (by decide) (fun t ht hW => ⟨⟨_, (), rfl, rfl, by rw [ht]; exact hP, va_K.moved hW.alike hK, hD⟩, hS.F ht⟩) hS.2.2 dX9_gives_176
        · replace hm := ifn h114 hm
          refine lv_iload_n hx hb dX9_gives_117 rfl (lv_at hl 4 rfl) ?_
          refine lv_if_ne hx hb dX9_gives_118 rfl (fun h118 => ?_) (fun h118 => ?_)
          · replace hm := ifn h118 hm
            refine lv_iload_n hx hb dX9_gives_129 rfl (lv_at hl 4 rfl) ?_
            refine lv_iconst (v := 1) hx hb dX9_gives_130 (by decide) ?_
            refine lv_icmp_ne hx hb dX9_gives_131 rfl (fun h131 => ?_) (fun h131 => ?_)
            · replace hm := ifn h131 hm
              refine lv_lload hx hb dX9_gives_142 (lv_at hl 1 rfl) ?_
              refine lv_lload hx hb dX9_gives_144 (lv_at hl 0 rfl) ?_
              refine lv_lmul hx hb dX9_gives_146 ?_
              exact L147 _ _ _ _ hm (lv_sub hl [] rfl) hP hD hS
            · replace hm := ifp h131 hm
              refine lv_lload hx hb dX9_gives_134 (lv_at hl 1 rfl) ?_
              refine lv_lload hx hb dX9_gives_136 (lv_at hl 0 rfl) ?_
              refine lv_lsub hx hb dX9_gives_138 ?_
              refine lv_goto hx hb dX9_gives_139 rfl ?_
              exact L147 _ _ _ _ hm (lv_sub hl [] rfl) hP hD hS
          · replace hm := ifp h118 hm
            refine lv_lload hx hb dX9_gives_121 (lv_at hl 1 rfl) ?_
            refine lv_lload hx hb dX9_gives_123 (lv_at hl 0 rfl) ?_
            refine lv_ladd hx hb dX9_gives_125 ?_
            refine lv_goto hx hb dX9_gives_126 rfl ?_
            exact L147 _ _ _ _ hm (lv_sub hl [] rfl) hP hD hS
      · replace hm := ifp h88 hm
        refine lv_lload hx hb dX9_gives_91 (lv_at hl 0 rfl) ?_
        refine lv_lconst (v := 0) hx hb dX9_gives_93 (by decide) ?_
        refine W.lcmp hx hb dX9_gives_94 ?_
        refine lv_if_lt hx hb dX9_gives_95 rfl (fun h95 => ?_) (fun h95 => ?_)
        · replace hm := ifp h95 hm
          refine lv_iconst (v := 0) hx hb dX9_gives_110 (by decide) ?_
          try clear L147
          obtain rfl := Option.some.inj hm
          subst hQ
          exact W.zret hx hb hr (by decide) (fun t ht hW => ⟨⟨_, (), rfl, rfl, by rw [ht]; exact hP, va_K.moved hW.alike hK, hD⟩, hS.F ht⟩) hS.2.2 dX9_gives_111
        · replace hm := ifn h95 hm
          refine lv_lload hx hb dX9_gives_98 (lv_at hl 0 rfl) ?_
          refine lv_lload hx hb dX9_gives_100 (lv_at hl 1 rfl) ?_
          refine W.lcmp hx hb dX9_gives_102 ?_
          refine lv_if_ge hx hb dX9_gives_103 rfl (fun h103 => ?_) (fun h103 => ?_)
          · replace hm := ifp h103 hm
            refine lv_iconst (v := 0) hx hb dX9_gives_110 (by decide) ?_
            try clear L147
            obtain rfl := Option.some.inj hm
            subst hQ
            exact W.zret hx hb hr (by decide) (fun t ht hW => ⟨⟨_, (), rfl, rfl, by rw [ht]; exact hP, va_K.moved hW.alike hK, hD⟩, hS.F ht⟩) hS.2.2 dX9_gives_111
          · replace hm := ifn h103 hm
            refine lv_iconst (v := 1) hx hb dX9_gives_106 (by decide) ?_
            refine lv_goto hx hb dX9_gives_107 rfl ?_
            try clear L147
            obtain rfl := Option.some.inj hm
            subst hQ
            exact W.zret hx hb hr (by decide) (fun t ht hW => ⟨⟨_, (), rfl, rfl, by rw [ht]; exact hP, va_K.moved hW.alike hK, hD⟩, hS.F ht⟩) hS.2.2 dX9_gives_111
    · replace hm := ifp h58 hm
      refine lv_lload hx hb dX9_gives_61 (lv_at hl 0 rfl) ?_
      refine lv_lconst (v := 0) hx hb dX9_gives_63 (by decide) ?_
      refine W.lcmp hx hb dX9_gives_64 ?_
      refine lv_if_eq hx hb dX9_gives_65 rfl (fun h65 => ?_) (fun h65 => ?_)
      · replace hm := ifp h65 hm
        refine lv_iconst (v := 0) hx hb dX9_gives_83 (by decide) ?_
        try clear L147
        obtain rfl := Option.some.inj hm
        subst hQ
        exact W.zret hx hb hr (by decide) (fun t ht hW => ⟨⟨_, (), rfl, rfl, by rw [ht]; exact hP, va_K.moved hW.alike hK, hD⟩, hS.F ht⟩) hS.2.2 dX9_gives_84
      · replace hm := ifn h65 hm
        refine lv_lload hx hb dX9_gives_68 (lv_at hl 1 rfl) ?_
        refine lv_lload hx hb dX9_gives_70 (lv_at hl 0 rfl) ?_
        obtain ⟨h72, hm⟩ := chk_inv hm
        refine lv_ldiv hx hb dX9_gives_72 h72 ?_
        obtain ⟨r73, e73, hm⟩ := c1_inv hm
        refine fr_i (wr := [(q_t, .inr (8, [.int t_threw, .ref q_t_text, .int t_size, .int t_at, .int t_error, .int t_found, .ref q_t_tags, .ref q_t_subs, .ref q_t_numbers, .ref q_t_chars, .ref q_t_firsts, .ref q_t_seconds, .ref q_t_depths, .ref q_t_lambdas, .ref q_t_owners, .int t_version, .int t_terms, .int t_latestVersion, .int t_values, .ref q_t_kind, .ref q_t_number, .ref q_t_bytes, .ref q_t_part, .ref q_t_around, .ref q_t_many, .ref q_t_given, .int t_environments, .ref q_t_holds, .ref q_t_outer, .int t_frames, .ref q_t_frame, .ref q_t_first, .ref q_t_second, .int t_state, .int t_term, .int t_environment, .int t_value, .int t_budget, .int t_steps, .int t_costs, .int t_made, .int t_tells, .ref q_t_told, .int t_waiting, .ref q_t_what, .ref q_t_where, .ref q_t_inside])), (q_t_kind, .inl (cI, 700, .inl t_kind)), (q_t_number, .inl (cI, 700, .inl t_number)), (q_t_part, .inl (cI, 700, .inl t_part)), (q_t_many, .inl (cI, 700, .inl t_many)), (q_t_given, .inl (cI, 2100, .inl t_given))]) (w2 := [(q_t, .inr (8, [.int t_threw, .ref q_t_text, .int t_size, .int t_at, .int t_error, .int t_found, .ref q_t_tags, .ref q_t_subs, .ref q_t_numbers, .ref q_t_chars, .ref q_t_firsts, .ref q_t_seconds, .ref q_t_depths, .ref q_t_lambdas, .ref q_t_owners, .int t_version, .int t_terms, .int t_latestVersion, .int t_values, .ref q_t_kind, .ref q_t_number, .ref q_t_bytes, .ref q_t_part, .ref q_t_around, .ref q_t_many, .ref q_t_given, .int t_environments, .ref q_t_holds, .ref q_t_outer, .int t_frames, .ref q_t_frame, .ref q_t_first, .ref q_t_second, .int t_state, .int t_term, .int t_environment, .int t_value, .int t_budget, .int t_steps, .int t_costs, .int t_made, .int t_tells, .ref q_t_told, .int t_waiting, .ref q_t_what, .ref q_t_where, .ref q_t_inside])), (q_t_kind, .inl (cI, 700, .inl t_kind)), (q_t_number, .inl (cI, 700, .inl t_number)), (q_t_part, .inl (cI, 700, .inl t_part)), (q_t_many, .inl (cI, 700, .inl t_many)), (q_t_given, .inl (cI, 2100, .inl t_given))]) (va_runS (As := [.long (((t_number r22.toNatClampNeg).toInt64) / ((t_number r31.toNatClampNeg).toInt64))]) (rest := []) ⟨hx, hb, hml, hown, hts⟩ (c_MO_isInt l dC dI cI cL H.size (((t_number r22.toNatClampNeg).toInt64) / ((t_number r31.toNatClampNeg).toInt64)) r73 e73) (kS 1 hts aw_1025 rfl rfl aw_9 aw_1023 aw_1024 (by decide +kernel) ⟨Nat.le_of_ble_eq_true rfl, Nat.le_of_ble_eq_true rfl⟩) (fr_preS hK hP hD hS hA hZ [] rfl rfl) rfl rfl hl.1 rfl (lv_room (Nat.le_of_ble_eq_true rfl)) dX9_gives_73 ⟨Nat.le_of_ble_eq_true rfl, Nat.le_of_ble_eq_true rfl⟩) hP hD hS hA [] [0, 1, 2, 3, 4, 5] [0, 1, 2, 3, 4, 5] rfl rfl rfl (by decide) rfl rfl (fun H locs hP hD hS => ?_)
        have hP : va_P (dC, dI) vwCl [(q_t, .inr (8, [.int t_threw, .ref q_t_text, .int t_size, .int t_at, .int t_error, .int t_found, .ref q_t_tags, .ref q_t_subs, .ref q_t_numbers, .ref q_t_chars, .ref q_t_firsts, .ref q_t_seconds, .ref q_t_depths, .ref q_t_lambdas, .ref q_t_owners, .int t_version, .int t_terms, .int t_latestVersion, .int t_values, .ref q_t_kind, .ref q_t_number, .ref q_t_bytes, .ref q_t_part, .ref q_t_around, .ref q_t_many, .ref q_t_given, .int t_environments, .ref q_t_holds, .ref q_t_outer, .int t_frames, .ref q_t_frame, .ref q_t_first, .ref q_t_second, .int t_state, .int t_term, .int t_environment, .int t_value, .int t_budget, .int t_steps, .int t_costs, .int t_made, .int t_tells, .ref q_t_told, .int t_waiting, .ref q_t_what, .ref q_t_where, .ref q_t_inside])), (q_t_kind, .inl (cI, 700, .inl t_kind)), (q_t_number, .inl (cI, 700, .inl t_number)), (q_t_part, .inl (cI, 700, .inl t_part)), (q_t_many, .inl (cI, 700, .inl t_many)), (q_t_given, .inl (cI, 2100, .inl t_given))] H := hP
        have hD : va_D A [(q_t, .inr (8, [.int t_threw, .ref q_t_text, .int t_size, .int t_at, .int t_error, .int t_found, .ref q_t_tags, .ref q_t_subs, .ref q_t_numbers, .ref q_t_chars, .ref q_t_firsts, .ref q_t_seconds, .ref q_t_depths, .ref q_t_lambdas, .ref q_t_owners, .int t_version, .int t_terms, .int t_latestVersion, .int t_values, .ref q_t_kind, .ref q_t_number, .ref q_t_bytes, .ref q_t_part, .ref q_t_around, .ref q_t_many, .ref q_t_given, .int t_environments, .ref q_t_holds, .ref q_t_outer, .int t_frames, .ref q_t_frame, .ref q_t_first, .ref q_t_second, .int t_state, .int t_term, .int t_environment, .int t_value, .int t_budget, .int t_steps, .int t_costs, .int t_made, .int t_tells, .ref q_t_told, .int t_waiting, .ref q_t_what, .ref q_t_where, .ref q_t_inside])), (q_t_kind, .inl (cI, 700, .inl t_kind)), (q_t_number, .inl (cI, 700, .inl t_number)), (q_t_part, .inl (cI, 700, .inl t_part)), (q_t_many, .inl (cI, 700, .inl t_many)), (q_t_given, .inl (cI, 2100, .inl t_given))] := hD
        refine lv_if_eq hx hb dX9_gives_76 rfl (fun h76 => ?_) (fun h76 => ?_)
        · replace hm := ifp h76 hm
          refine lv_iconst (v := 0) hx hb dX9_gives_83 (by decide) ?_
          try clear L147
          obtain rfl := Option.some.inj hm
          subst hQ
          exact W.zret hx hb hr (by decide) (fun t ht hW => ⟨⟨_, (), rfl, rfl, by rw [ht]; exact hP, va_K.moved hW.alike hK, hD⟩, hS.F ht⟩) hS.2.2 dX9_gives_84
        · replace hm := ifn h76 hm
          refine lv_iconst (v := 1) hx hb dX9_gives_79 (by decide) ?_
          refine lv_goto hx hb dX9_gives_80 rfl ?_
          try clear L147
          obtain rfl := Option.some.inj hm
          subst hQ
          exact W.zret hx hb hr (by decide) (fun t ht hW => ⟨⟨_, (), rfl, rfl, by rw [ht]; exact hP, va_K.moved hW.alike hK, hD⟩, hS.F ht⟩) hS.2.2 dX9_gives_84
  · replace hm := ifp h6 hm
    refine lv_iconst (v := 0) hx hb dX9_gives_9 (by decide) ?_
    try clear L147
    obtain rfl := Option.some.inj hm
    subst hQ
    exact W.zret hx hb hr (by decide) (fun t ht hW => ⟨⟨_, (), rfl, rfl, by rw [ht]; exact hP, va_K.moved hW.alike hK, hD⟩, hS.F ht⟩) hS.2.2 dX9_gives_10
def M_MO_newValue (t_values : Int32) (t_kind : Nat → Int32) (t_number : Nat → Int32) (t_bytes : Nat → Int64) (t_part : Nat → Int32) (t_around : Nat → Int32) (t_many : Nat → Int32) (x1 : Int32) (x2 : Int32) (x3 : Int32) (x4 : Int32) : Option (Int32 × Int32 × (Nat → Int32) × (Nat → Int32) × (Nat → Int64) × (Nat → Int32) × (Nat → Int32) × (Nat → Int32)) :=
  chk ((0 : Int32) ≤ t_values ∧ t_values < 700) (chk ((0 : Int32) ≤ t_values ∧ t_values < 700) (chk ((0 : Int32) ≤ t_values ∧ t_values < 700) (chk ((0 : Int32) ≤ t_values ∧ t_values < 700) (chk ((0 : Int32) ≤ t_values ∧ t_values < 700) (chk ((0 : Int32) ≤ t_values ∧ t_values < 700) (some ((t_values + 1) - 1, t_values + 1, upd t_kind t_values.toNatClampNeg x1, upd t_number t_values.toNatClampNeg x2, vp_updL t_bytes t_values.toNatClampNeg 0, upd t_part t_values.toNatClampNeg x3, upd t_around t_values.toNatClampNeg x4, upd t_many t_values.toNatClampNeg 0)))))))
set_option maxHeartbeats 4000000 in
set_option maxRecDepth 100000 in
theorem c_MO_newValue (l : Launch) (dC : Nat → ClassId) (dI : Nat → Nat → Nat) (cI cL : ClassId) (sz : Nat) (q_t q_t_text q_t_tags q_t_subs q_t_numbers q_t_chars q_t_firsts q_t_seconds q_t_depths q_t_lambdas q_t_owners q_t_kind q_t_number q_t_bytes q_t_part q_t_around q_t_many q_t_given q_t_holds q_t_outer q_t_frame q_t_first q_t_second q_t_told q_t_what q_t_where q_t_inside : Nat) (t_threw t_size t_at t_error t_found t_version t_terms t_latestVersion t_values t_environments t_frames t_state t_term t_environment t_value t_budget t_steps t_costs t_made t_tells t_waiting : Int32) (t_kind t_number : Nat → Int32) (t_bytes : Nat → Int64) (t_part t_around t_many : Nat → Int32) (x1 x2 x3 x4 r0 u_t_values : Int32) (u_t_kind u_t_number : Nat → Int32) (u_t_bytes : Nat → Int64) (u_t_part u_t_around u_t_many : Nat → Int32) (hm : M_MO_newValue t_values t_kind t_number t_bytes t_part t_around t_many x1 x2 x3 x4 = some (r0, u_t_values, u_t_kind, u_t_number, u_t_bytes, u_t_part, u_t_around, u_t_many)) : Met l yX9_newValue wsX9_newValue ({ frames := 0, cells := 0, slots := 0, locals := 0 }) (frPc (dC, dI) vwCl [(cI, .int), (cL, .long)] [(q_t, .inr (8, [.int t_threw, .ref q_t_text, .int t_size, .int t_at, .int t_error, .int t_found, .ref q_t_tags, .ref q_t_subs, .ref q_t_numbers, .ref q_t_chars, .ref q_t_firsts, .ref q_t_seconds, .ref q_t_depths, .ref q_t_lambdas, .ref q_t_owners, .int t_version, .int t_terms, .int t_latestVersion, .int t_values, .ref q_t_kind, .ref q_t_number, .ref q_t_bytes, .ref q_t_part, .ref q_t_around, .ref q_t_many, .ref q_t_given, .int t_environments, .ref q_t_holds, .ref q_t_outer, .int t_frames, .ref q_t_frame, .ref q_t_first, .ref q_t_second, .int t_state, .int t_term, .int t_environment, .int t_value, .int t_budget, .int t_steps, .int t_costs, .int t_made, .int t_tells, .ref q_t_told, .int t_waiting, .ref q_t_what, .ref q_t_where, .ref q_t_inside])), (q_t_kind, .inl (cI, 700, .inl t_kind)), (q_t_number, .inl (cI, 700, .inl t_number)), (q_t_bytes, .inl (cL, 700, .inr (.inl t_bytes))), (q_t_part, .inl (cI, 700, .inl t_part)), (q_t_around, .inl (cI, 700, .inl t_around)), (q_t_many, .inl (cI, 700, .inl t_many))] sz [.ref q_t, .int x1, .int x2, .int x3, .int x4]) (va_Qi (fun (r : Int32) (_ : Unit) => r = r0) (frB (dC, dI) vwCl [(cI, .int), (cL, .long)] (va_A [(q_t, .inr (8, [.int t_threw, .ref q_t_text, .int t_size, .int t_at, .int t_error, .int t_found, .ref q_t_tags, .ref q_t_subs, .ref q_t_numbers, .ref q_t_chars, .ref q_t_firsts, .ref q_t_seconds, .ref q_t_depths, .ref q_t_lambdas, .ref q_t_owners, .int t_version, .int t_terms, .int t_latestVersion, .int t_values, .ref q_t_kind, .ref q_t_number, .ref q_t_bytes, .ref q_t_part, .ref q_t_around, .ref q_t_many, .ref q_t_given, .int t_environments, .ref q_t_holds, .ref q_t_outer, .int t_frames, .ref q_t_frame, .ref q_t_first, .ref q_t_second, .int t_state, .int t_term, .int t_environment, .int t_value, .int t_budget, .int t_steps, .int t_costs, .int t_made, .int t_tells, .ref q_t_told, .int t_waiting, .ref q_t_what, .ref q_t_where, .ref q_t_inside])), (q_t_kind, .inl (cI, 700, .inl t_kind)), (q_t_number, .inl (cI, 700, .inl t_number)), (q_t_bytes, .inl (cL, 700, .inr (.inl t_bytes))), (q_t_part, .inl (cI, 700, .inl t_part)), (q_t_around, .inl (cI, 700, .inl t_around)), (q_t_many, .inl (cI, 700, .inl t_many))] sz) [(q_t, .inr (8, [.int t_threw, .ref q_t_text, .int t_size, .int t_at, .int t_error, .int t_found, .ref q_t_tags, .ref q_t_subs, .ref q_t_numbers, .ref q_t_chars, .ref q_t_firsts, .ref q_t_seconds, .ref q_t_depths, .ref q_t_lambdas, .ref q_t_owners, .int t_version, .int t_terms, .int t_latestVersion, .int u_t_values, .ref q_t_kind, .ref q_t_number, .ref q_t_bytes, .ref q_t_part, .ref q_t_around, .ref q_t_many, .ref q_t_given, .int t_environments, .ref q_t_holds, .ref q_t_outer, .int t_frames, .ref q_t_frame, .ref q_t_first, .ref q_t_second, .int t_state, .int t_term, .int t_environment, .int t_value, .int t_budget, .int t_steps, .int t_costs, .int t_made, .int t_tells, .ref q_t_told, .int t_waiting, .ref q_t_what, .ref q_t_where, .ref q_t_inside])), (q_t_kind, .inl (cI, 700, .inl u_t_kind)), (q_t_number, .inl (cI, 700, .inl u_t_number)), (q_t_bytes, .inl (cL, 700, .inr (.inl u_t_bytes))), (q_t_part, .inl (cI, 700, .inl u_t_part)), (q_t_around, .inl (cI, 700, .inl u_t_around)), (q_t_many, .inl (cI, 700, .inl u_t_many))]) (va_A [(q_t, .inr (8, [.int t_threw, .ref q_t_text, .int t_size, .int t_at, .int t_error, .int t_found, .ref q_t_tags, .ref q_t_subs, .ref q_t_numbers, .ref q_t_chars, .ref q_t_firsts, .ref q_t_seconds, .ref q_t_depths, .ref q_t_lambdas, .ref q_t_owners, .int t_version, .int t_terms, .int t_latestVersion, .int t_values, .ref q_t_kind, .ref q_t_number, .ref q_t_bytes, .ref q_t_part, .ref q_t_around, .ref q_t_many, .ref q_t_given, .int t_environments, .ref q_t_holds, .ref q_t_outer, .int t_frames, .ref q_t_frame, .ref q_t_first, .ref q_t_second, .int t_state, .int t_term, .int t_environment, .int t_value, .int t_budget, .int t_steps, .int t_costs, .int t_made, .int t_tells, .ref q_t_told, .int t_waiting, .ref q_t_what, .ref q_t_where, .ref q_t_inside])), (q_t_kind, .inl (cI, 700, .inl t_kind)), (q_t_number, .inl (cI, 700, .inl t_number)), (q_t_bytes, .inl (cL, 700, .inr (.inl t_bytes))), (q_t_part, .inl (cI, 700, .inl t_part)), (q_t_around, .inl (cI, 700, .inl t_around)), (q_t_many, .inl (cI, 700, .inl t_many))] sz)) 0 0 (va_A [(q_t, .inr (8, [.int t_threw, .ref q_t_text, .int t_size, .int t_at, .int t_error, .int t_found, .ref q_t_tags, .ref q_t_subs, .ref q_t_numbers, .ref q_t_chars, .ref q_t_firsts, .ref q_t_seconds, .ref q_t_depths, .ref q_t_lambdas, .ref q_t_owners, .int t_version, .int t_terms, .int t_latestVersion, .int t_values, .ref q_t_kind, .ref q_t_number, .ref q_t_bytes, .ref q_t_part, .ref q_t_around, .ref q_t_many, .ref q_t_given, .int t_environments, .ref q_t_holds, .ref q_t_outer, .int t_frames, .ref q_t_frame, .ref q_t_first, .ref q_t_second, .int t_state, .int t_term, .int t_environment, .int t_value, .int t_budget, .int t_steps, .int t_costs, .int t_made, .int t_tells, .ref q_t_told, .int t_waiting, .ref q_t_what, .ref q_t_where, .ref q_t_inside])), (q_t_kind, .inl (cI, 700, .inl t_kind)), (q_t_number, .inl (cI, 700, .inl t_number)), (q_t_bytes, .inl (cL, 700, .inr (.inl t_bytes))), (q_t_part, .inl (cI, 700, .inl t_part)), (q_t_around, .inl (cI, 700, .inl t_around)), (q_t_many, .inl (cI, 700, .inl t_many))] sz) := by
  refine Met.ofW (cc := cX9_newValue) (maxL := 5) (ret := (some .int)) (by decide) rfl ?_
  intro p e s m args below meth c s₁ B hml hv
  obtain ⟨rfl, hsz, hP, hK, hD0, hZ⟩ := hv
  have hx := B.exec
  have hb := B.bytes
  have hr := B.returns
  have hts := atoms_spec (ws := wsX9_newValue) B.pre
  have hown : s.vm.findClass RX9 = some m.cls := findClass_of_methodNamed B.named
  have hlocks := B.notSynchronized
  subst hsz
  have hD := hD0.self (sz := s.heap.size)
  generalize hAe : va_A [(q_t, .inr (8, [.int t_threw, .ref q_t_text, .int t_size, .int t_at, .int t_error, .int t_found, .ref q_t_tags, .ref q_t_subs, .ref q_t_numbers, .ref q_t_chars, .ref q_t_firsts, .ref q_t_seconds, .ref q_t_depths, .ref q_t_lambdas, .ref q_t_owners, .int t_version, .int t_terms, .int t_latestVersion, .int t_values, .ref q_t_kind, .ref q_t_number, .ref q_t_bytes, .ref q_t_part, .ref q_t_around, .ref q_t_many, .ref q_t_given, .int t_environments, .ref q_t_holds, .ref q_t_outer, .int t_frames, .ref q_t_frame, .ref q_t_first, .ref q_t_second, .int t_state, .int t_term, .int t_environment, .int t_value, .int t_budget, .int t_steps, .int t_costs, .int t_made, .int t_tells, .ref q_t_told, .int t_waiting, .ref q_t_what, .ref q_t_where, .ref q_t_inside])), (q_t_kind, .inl (cI, 700, .inl t_kind)), (q_t_number, .inl (cI, 700, .inl t_number)), (q_t_bytes, .inl (cL, 700, .inr (.inl t_bytes))), (q_t_part, .inl (cI, 700, .inl t_part)), (q_t_around, .inl (cI, 700, .inl t_around)), (q_t_many, .inl (cI, 700, .inl t_many))] s.heap.size = A at hD hZ ⊢
  have hA : ∀ q : Nat, s.heap.size ≤ q → A q := fun q h => by rw [← hAe]; exact Or.inr h
  have hS : va_S A s.heap s.heap [] := va_S.rf
  have hP : va_P (dC, dI) vwCl [(q_t, .inr (8, [.int t_threw, .ref q_t_text, .int t_size, .int t_at, .int t_error, .int t_found, .ref q_t_tags, .ref q_t_subs, .ref q_t_numbers, .ref q_t_chars, .ref q_t_firsts, .ref q_t_seconds, .ref q_t_depths, .ref q_t_lambdas, .ref q_t_owners, .int t_version, .int t_terms, .int t_latestVersion, .int t_values, .ref q_t_kind, .ref q_t_number, .ref q_t_bytes, .ref q_t_part, .ref q_t_around, .ref q_t_many, .ref q_t_given, .int t_environments, .ref q_t_holds, .ref q_t_outer, .int t_frames, .ref q_t_frame, .ref q_t_first, .ref q_t_second, .int t_state, .int t_term, .int t_environment, .int t_value, .int t_budget, .int t_steps, .int t_costs, .int t_made, .int t_tells, .ref q_t_told, .int t_waiting, .ref q_t_what, .ref q_t_where, .ref q_t_inside])), (q_t_kind, .inl (cI, 700, .inl t_kind)), (q_t_number, .inl (cI, 700, .inl t_number)), (q_t_bytes, .inl (cL, 700, .inr (.inl t_bytes))), (q_t_part, .inl (cI, 700, .inl t_part)), (q_t_around, .inl (cI, 700, .inl t_around)), (q_t_many, .inl (cI, 700, .inl t_many))] s.heap := hP
  have hl := lv_entry ([.ref q_t, .int x1, .int x2, .int x3, .int x4]) (n := 5) (Nat.le_of_ble_eq_true rfl)
  rw [lg_entry_eq]
  generalize (lg_sl ([.ref q_t, .int x1, .int x2, .int x3, .int x4]) ++ List.replicate (5 - (lg_sl ([.ref q_t, .int x1, .int x2, .int x3, .int x4])).length) Slot.unset).toArray = ls at hl ⊢
  have hl : lv_has ls 5 [(0, .ref q_t), (1, .int x1), (2, .int x2), (3, .int x3), (4, .int x4)] := hl
  refine wq hP hS (fun Q hQ H locs hP hS => ?_)
  have htw : ∀ w ∈ AW, w.before _ s = true := fun w h => hts w (List.mem_cons_of_mem _ h)
  have hn0 : ∀ w ∈ wsX90, w ∈ wsX9_newValue := fun w h => List.mem_cons_of_mem _ (inX9 w h)
  unfold M_MO_newValue at hm
  refine lv_aload_n hx hb dX9_newValue_0 rfl (lv_at hl 0 rfl) ?_
  refine va_get (D := (dC, dI)) (ci := 8) (v := .ref q_t_kind) (C := RX9) (T := TX9) (N := 47) hx hb hts hn0 hown hK hP 0 rfl rfl 19 (by decide) (htw _ aw_732) (fun _ h9 => h9) rfl dX9_newValue_1 ?_
  refine lv_aload_n hx hb dX9_newValue_4 rfl (lv_at hl 0 rfl) ?_
  refine va_get (D := (dC, dI)) (ci := 8) (v := .int t_values) (C := RX9) (T := TX9) (N := 47) hx hb hts hn0 hown hK hP 0 rfl rfl 18 (by decide) (htw _ aw_731) (fun _ h9 => h9) rfl dX9_newValue_5 ?_
  refine lv_iload_n hx hb dX9_newValue_8 rfl (lv_at hl 1 rfl) ?_
  obtain ⟨h9, hm⟩ := chk_inv hm
  refine va_iast (D := (dC, dI)) hx hb hK hP hD hS 1 0 rfl rfl (in_of (n := 700) (by decide) h9) dX9_newValue_9 (fun H locs hP hD hS => ?_)
  have hP : va_P (dC, dI) vwCl [(q_t, .inr (8, [.int t_threw, .ref q_t_text, .int t_size, .int t_at, .int t_error, .int t_found, .ref q_t_tags, .ref q_t_subs, .ref q_t_numbers, .ref q_t_chars, .ref q_t_firsts, .ref q_t_seconds, .ref q_t_depths, .ref q_t_lambdas, .ref q_t_owners, .int t_version, .int t_terms, .int t_latestVersion, .int t_values, .ref q_t_kind, .ref q_t_number, .ref q_t_bytes, .ref q_t_part, .ref q_t_around, .ref q_t_many, .ref q_t_given, .int t_environments, .ref q_t_holds, .ref q_t_outer, .int t_frames, .ref q_t_frame, .ref q_t_first, .ref q_t_second, .int t_state, .int t_term, .int t_environment, .int t_value, .int t_budget, .int t_steps, .int t_costs, .int t_made, .int t_tells, .ref q_t_told, .int t_waiting, .ref q_t_what, .ref q_t_where, .ref q_t_inside])), (q_t_kind, .inl (cI, 700, .inl (upd t_kind t_values.toNatClampNeg x1))), (q_t_number, .inl (cI, 700, .inl t_number)), (q_t_bytes, .inl (cL, 700, .inr (.inl t_bytes))), (q_t_part, .inl (cI, 700, .inl t_part)), (q_t_around, .inl (cI, 700, .inl t_around)), (q_t_many, .inl (cI, 700, .inl t_many))] H := hP
  have hD : va_D A [(q_t, .inr (8, [.int t_threw, .ref q_t_text, .int t_size, .int t_at, .int t_error, .int t_found, .ref q_t_tags, .ref q_t_subs, .ref q_t_numbers, .ref q_t_chars, .ref q_t_firsts, .ref q_t_seconds, .ref q_t_depths, .ref q_t_lambdas, .ref q_t_owners, .int t_version, .int t_terms, .int t_latestVersion, .int t_values, .ref q_t_kind, .ref q_t_number, .ref q_t_bytes, .ref q_t_part, .ref q_t_around, .ref q_t_many, .ref q_t_given, .int t_environments, .ref q_t_holds, .ref q_t_outer, .int t_frames, .ref q_t_frame, .ref q_t_first, .ref q_t_second, .int t_state, .int t_term, .int t_environment, .int t_value, .int t_budget, .int t_steps, .int t_costs, .int t_made, .int t_tells, .ref q_t_told, .int t_waiting, .ref q_t_what, .ref q_t_where, .ref q_t_inside])), (q_t_kind, .inl (cI, 700, .inl (upd t_kind t_values.toNatClampNeg x1))), (q_t_number, .inl (cI, 700, .inl t_number)), (q_t_bytes, .inl (cL, 700, .inr (.inl t_bytes))), (q_t_part, .inl (cI, 700, .inl t_part)), (q_t_around, .inl (cI, 700, .inl t_around)), (q_t_many, .inl (cI, 700, .inl t_many))] := hD
  refine lv_aload_n hx hb dX9_newValue_10 rfl (lv_at hl 0 rfl) ?_
  refine va_get (D := (dC, dI)) (ci := 8) (v := .ref q_t_number) (C := RX9) (T := TX9) (N := 47) hx hb hts hn0 hown hK hP 0 rfl rfl 20 (by decide) (htw _ aw_733) (fun _ h9 => h9) rfl dX9_newValue_11 ?_
  refine lv_aload_n hx hb dX9_newValue_14 rfl (lv_at hl 0 rfl) ?_
  refine va_get (D := (dC, dI)) (ci := 8) (v := .int t_values) (C := RX9) (T := TX9) (N := 47) hx hb hts hn0 hown hK hP 0 rfl rfl 18 (by decide) (htw _ aw_731) (fun _ h9 => h9) rfl dX9_newValue_15 ?_
  refine lv_iload_n hx hb dX9_newValue_18 rfl (lv_at hl 2 rfl) ?_
  obtain ⟨h19, hm⟩ := chk_inv hm
  refine va_iast (D := (dC, dI)) hx hb hK hP hD hS 2 0 rfl rfl (in_of (n := 700) (by decide) h19) dX9_newValue_19 (fun H locs hP hD hS => ?_)
  have hP : va_P (dC, dI) vwCl [(q_t, .inr (8, [.int t_threw, .ref q_t_text, .int t_size, .int t_at, .int t_error, .int t_found, .ref q_t_tags, .ref q_t_subs, .ref q_t_numbers, .ref q_t_chars, .ref q_t_firsts, .ref q_t_seconds, .ref q_t_depths, .ref q_t_lambdas, .ref q_t_owners, .int t_version, .int t_terms, .int t_latestVersion, .int t_values, .ref q_t_kind, .ref q_t_number, .ref q_t_bytes, .ref q_t_part, .ref q_t_around, .ref q_t_many, .ref q_t_given, .int t_environments, .ref q_t_holds, .ref q_t_outer, .int t_frames, .ref q_t_frame, .ref q_t_first, .ref q_t_second, .int t_state, .int t_term, .int t_environment, .int t_value, .int t_budget, .int t_steps, .int t_costs, .int t_made, .int t_tells, .ref q_t_told, .int t_waiting, .ref q_t_what, .ref q_t_where, .ref q_t_inside])), (q_t_kind, .inl (cI, 700, .inl (upd t_kind t_values.toNatClampNeg x1))), (q_t_number, .inl (cI, 700, .inl (upd t_number t_values.toNatClampNeg x2))), (q_t_bytes, .inl (cL, 700, .inr (.inl t_bytes))), (q_t_part, .inl (cI, 700, .inl t_part)), (q_t_around, .inl (cI, 700, .inl t_around)), (q_t_many, .inl (cI, 700, .inl t_many))] H := hP
  have hD : va_D A [(q_t, .inr (8, [.int t_threw, .ref q_t_text, .int t_size, .int t_at, .int t_error, .int t_found, .ref q_t_tags, .ref q_t_subs, .ref q_t_numbers, .ref q_t_chars, .ref q_t_firsts, .ref q_t_seconds, .ref q_t_depths, .ref q_t_lambdas, .ref q_t_owners, .int t_version, .int t_terms, .int t_latestVersion, .int t_values, .ref q_t_kind, .ref q_t_number, .ref q_t_bytes, .ref q_t_part, .ref q_t_around, .ref q_t_many, .ref q_t_given, .int t_environments, .ref q_t_holds, .ref q_t_outer, .int t_frames, .ref q_t_frame, .ref q_t_first, .ref q_t_second, .int t_state, .int t_term, .int t_environment, .int t_value, .int t_budget, .int t_steps, .int t_costs, .int t_made, .int t_tells, .ref q_t_told, .int t_waiting, .ref q_t_what, .ref q_t_where, .ref q_t_inside])), (q_t_kind, .inl (cI, 700, .inl (upd t_kind t_values.toNatClampNeg x1))), (q_t_number, .inl (cI, 700, .inl (upd t_number t_values.toNatClampNeg x2))), (q_t_bytes, .inl (cL, 700, .inr (.inl t_bytes))), (q_t_part, .inl (cI, 700, .inl t_part)), (q_t_around, .inl (cI, 700, .inl t_around)), (q_t_many, .inl (cI, 700, .inl t_many))] := hD
  refine lv_aload_n hx hb dX9_newValue_20 rfl (lv_at hl 0 rfl) ?_
  refine va_get (D := (dC, dI)) (ci := 8) (v := .ref q_t_bytes) (C := RX9) (T := TX9) (N := 47) hx hb hts hn0 hown hK hP 0 rfl rfl 21 (by decide) (htw _ aw_734) (fun _ h9 => h9) rfl dX9_newValue_21 ?_
  refine lv_aload_n hx hb dX9_newValue_24 rfl (lv_at hl 0 rfl) ?_
  refine va_get (D := (dC, dI)) (ci := 8) (v := .int t_values) (C := RX9) (T := TX9) (N := 47) hx hb hts hn0 hown hK hP 0 rfl rfl 18 (by decide) (htw _ aw_731) (fun _ h9 => h9) rfl dX9_newValue_25 ?_
  refine lv_lconst (v := 0) hx hb dX9_newValue_28 (by decide) ?_
  obtain ⟨h29, hm⟩ := chk_inv hm
  refine va_last (D := (dC, dI)) hx hb hK hP hD hS 3 1 rfl rfl (in_of (n := 700) (by decide) h29) dX9_newValue_29 (fun H locs hP hD hS => ?_)
  have hP : va_P (dC, dI) vwCl [(q_t, .inr (8, [.int t_threw, .ref q_t_text, .int t_size, .int t_at, .int t_error, .int t_found, .ref q_t_tags, .ref q_t_subs, .ref q_t_numbers, .ref q_t_chars, .ref q_t_firsts, .ref q_t_seconds, .ref q_t_depths, .ref q_t_lambdas, .ref q_t_owners, .int t_version, .int t_terms, .int t_latestVersion, .int t_values, .ref q_t_kind, .ref q_t_number, .ref q_t_bytes, .ref q_t_part, .ref q_t_around, .ref q_t_many, .ref q_t_given, .int t_environments, .ref q_t_holds, .ref q_t_outer, .int t_frames, .ref q_t_frame, .ref q_t_first, .ref q_t_second, .int t_state, .int t_term, .int t_environment, .int t_value, .int t_budget, .int t_steps, .int t_costs, .int t_made, .int t_tells, .ref q_t_told, .int t_waiting, .ref q_t_what, .ref q_t_where, .ref q_t_inside])), (q_t_kind, .inl (cI, 700, .inl (upd t_kind t_values.toNatClampNeg x1))), (q_t_number, .inl (cI, 700, .inl (upd t_number t_values.toNatClampNeg x2))), (q_t_bytes, .inl (cL, 700, .inr (.inl (vp_updL t_bytes t_values.toNatClampNeg 0)))), (q_t_part, .inl (cI, 700, .inl t_part)), (q_t_around, .inl (cI, 700, .inl t_around)), (q_t_many, .inl (cI, 700, .inl t_many))] H := hP
  have hD : va_D A [(q_t, .inr (8, [.int t_threw, .ref q_t_text, .int t_size, .int t_at, .int t_error, .int t_found, .ref q_t_tags, .ref q_t_subs, .ref q_t_numbers, .ref q_t_chars, .ref q_t_firsts, .ref q_t_seconds, .ref q_t_depths, .ref q_t_lambdas, .ref q_t_owners, .int t_version, .int t_terms, .int t_latestVersion, .int t_values, .ref q_t_kind, .ref q_t_number, .ref q_t_bytes, .ref q_t_part, .ref q_t_around, .ref q_t_many, .ref q_t_given, .int t_environments, .ref q_t_holds, .ref q_t_outer, .int t_frames, .ref q_t_frame, .ref q_t_first, .ref q_t_second, .int t_state, .int t_term, .int t_environment, .int t_value, .int t_budget, .int t_steps, .int t_costs, .int t_made, .int t_tells, .ref q_t_told, .int t_waiting, .ref q_t_what, .ref q_t_where, .ref q_t_inside])), (q_t_kind, .inl (cI, 700, .inl (upd t_kind t_values.toNatClampNeg x1))), (q_t_number, .inl (cI, 700, .inl (upd t_number t_values.toNatClampNeg x2))), (q_t_bytes, .inl (cL, 700, .inr (.inl (vp_updL t_bytes t_values.toNatClampNeg 0)))), (q_t_part, .inl (cI, 700, .inl t_part)), (q_t_around, .inl (cI, 700, .inl t_around)), (q_t_many, .inl (cI, 700, .inl t_many))] := hD
  refine lv_aload_n hx hb dX9_newValue_30 rfl (lv_at hl 0 rfl) ?_
  refine va_get (D := (dC, dI)) (ci := 8) (v := .ref q_t_part) (C := RX9) (T := TX9) (N := 47) hx hb hts hn0 hown hK hP 0 rfl rfl 22 (by decide) (htw _ aw_735) (fun _ h9 => h9) rfl dX9_newValue_31 ?_
  refine lv_aload_n hx hb dX9_newValue_34 rfl (lv_at hl 0 rfl) ?_
  refine va_get (D := (dC, dI)) (ci := 8) (v := .int t_values) (C := RX9) (T := TX9) (N := 47) hx hb hts hn0 hown hK hP 0 rfl rfl 18 (by decide) (htw _ aw_731) (fun _ h9 => h9) rfl dX9_newValue_35 ?_
  refine lv_iload_n hx hb dX9_newValue_38 rfl (lv_at hl 3 rfl) ?_
  obtain ⟨h39, hm⟩ := chk_inv hm
  refine va_iast (D := (dC, dI)) hx hb hK hP hD hS 4 0 rfl rfl (in_of (n := 700) (by decide) h39) dX9_newValue_39 (fun H locs hP hD hS => ?_)
  have hP : va_P (dC, dI) vwCl [(q_t, .inr (8, [.int t_threw, .ref q_t_text, .int t_size, .int t_at, .int t_error, .int t_found, .ref q_t_tags, .ref q_t_subs, .ref q_t_numbers, .ref q_t_chars, .ref q_t_firsts, .ref q_t_seconds, .ref q_t_depths, .ref q_t_lambdas, .ref q_t_owners, .int t_version, .int t_terms, .int t_latestVersion, .int t_values, .ref q_t_kind, .ref q_t_number, .ref q_t_bytes, .ref q_t_part, .ref q_t_around, .ref q_t_many, .ref q_t_given, .int t_environments, .ref q_t_holds, .ref q_t_outer, .int t_frames, .ref q_t_frame, .ref q_t_first, .ref q_t_second, .int t_state, .int t_term, .int t_environment, .int t_value, .int t_budget, .int t_steps, .int t_costs, .int t_made, .int t_tells, .ref q_t_told, .int t_waiting, .ref q_t_what, .ref q_t_where, .ref q_t_inside])), (q_t_kind, .inl (cI, 700, .inl (upd t_kind t_values.toNatClampNeg x1))), (q_t_number, .inl (cI, 700, .inl (upd t_number t_values.toNatClampNeg x2))), (q_t_bytes, .inl (cL, 700, .inr (.inl (vp_updL t_bytes t_values.toNatClampNeg 0)))), (q_t_part, .inl (cI, 700, .inl (upd t_part t_values.toNatClampNeg x3))), (q_t_around, .inl (cI, 700, .inl t_around)), (q_t_many, .inl (cI, 700, .inl t_many))] H := hP
  have hD : va_D A [(q_t, .inr (8, [.int t_threw, .ref q_t_text, .int t_size, .int t_at, .int t_error, .int t_found, .ref q_t_tags, .ref q_t_subs, .ref q_t_numbers, .ref q_t_chars, .ref q_t_firsts, .ref q_t_seconds, .ref q_t_depths, .ref q_t_lambdas, .ref q_t_owners, .int t_version, .int t_terms, .int t_latestVersion, .int t_values, .ref q_t_kind, .ref q_t_number, .ref q_t_bytes, .ref q_t_part, .ref q_t_around, .ref q_t_many, .ref q_t_given, .int t_environments, .ref q_t_holds, .ref q_t_outer, .int t_frames, .ref q_t_frame, .ref q_t_first, .ref q_t_second, .int t_state, .int t_term, .int t_environment, .int t_value, .int t_budget, .int t_steps, .int t_costs, .int t_made, .int t_tells, .ref q_t_told, .int t_waiting, .ref q_t_what, .ref q_t_where, .ref q_t_inside])), (q_t_kind, .inl (cI, 700, .inl (upd t_kind t_values.toNatClampNeg x1))), (q_t_number, .inl (cI, 700, .inl (upd t_number t_values.toNatClampNeg x2))), (q_t_bytes, .inl (cL, 700, .inr (.inl (vp_updL t_bytes t_values.toNatClampNeg 0)))), (q_t_part, .inl (cI, 700, .inl (upd t_part t_values.toNatClampNeg x3))), (q_t_around, .inl (cI, 700, .inl t_around)), (q_t_many, .inl (cI, 700, .inl t_many))] := hD
  refine lv_aload_n hx hb dX9_newValue_40 rfl (lv_at hl 0 rfl) ?_
  refine va_get (D := (dC, dI)) (ci := 8) (v := .ref q_t_around) (C := RX9) (T := TX9) (N := 47) hx hb hts hn0 hown hK hP 0 rfl rfl 23 (by decide) (htw _ aw_736) (fun _ h9 => h9) rfl dX9_newValue_41 ?_
  refine lv_aload_n hx hb dX9_newValue_44 rfl (lv_at hl 0 rfl) ?_
  refine va_get (D := (dC, dI)) (ci := 8) (v := .int t_values) (C := RX9) (T := TX9) (N := 47) hx hb hts hn0 hown hK hP 0 rfl rfl 18 (by decide) (htw _ aw_731) (fun _ h9 => h9) rfl dX9_newValue_45 ?_
  refine lv_iload hx hb dX9_newValue_48 (lv_at hl 4 rfl) ?_
  obtain ⟨h50, hm⟩ := chk_inv hm
  refine va_iast (D := (dC, dI)) hx hb hK hP hD hS 5 0 rfl rfl (in_of (n := 700) (by decide) h50) dX9_newValue_50 (fun H locs hP hD hS => ?_)
  have hP : va_P (dC, dI) vwCl [(q_t, .inr (8, [.int t_threw, .ref q_t_text, .int t_size, .int t_at, .int t_error, .int t_found, .ref q_t_tags, .ref q_t_subs, .ref q_t_numbers, .ref q_t_chars, .ref q_t_firsts, .ref q_t_seconds, .ref q_t_depths, .ref q_t_lambdas, .ref q_t_owners, .int t_version, .int t_terms, .int t_latestVersion, .int t_values, .ref q_t_kind, .ref q_t_number, .ref q_t_bytes, .ref q_t_part, .ref q_t_around, .ref q_t_many, .ref q_t_given, .int t_environments, .ref q_t_holds, .ref q_t_outer, .int t_frames, .ref q_t_frame, .ref q_t_first, .ref q_t_second, .int t_state, .int t_term, .int t_environment, .int t_value, .int t_budget, .int t_steps, .int t_costs, .int t_made, .int t_tells, .ref q_t_told, .int t_waiting, .ref q_t_what, .ref q_t_where, .ref q_t_inside])), (q_t_kind, .inl (cI, 700, .inl (upd t_kind t_values.toNatClampNeg x1))), (q_t_number, .inl (cI, 700, .inl (upd t_number t_values.toNatClampNeg x2))), (q_t_bytes, .inl (cL, 700, .inr (.inl (vp_updL t_bytes t_values.toNatClampNeg 0)))), (q_t_part, .inl (cI, 700, .inl (upd t_part t_values.toNatClampNeg x3))), (q_t_around, .inl (cI, 700, .inl (upd t_around t_values.toNatClampNeg x4))), (q_t_many, .inl (cI, 700, .inl t_many))] H := hP
  have hD : va_D A [(q_t, .inr (8, [.int t_threw, .ref q_t_text, .int t_size, .int t_at, .int t_error, .int t_found, .ref q_t_tags, .ref q_t_subs, .ref q_t_numbers, .ref q_t_chars, .ref q_t_firsts, .ref q_t_seconds, .ref q_t_depths, .ref q_t_lambdas, .ref q_t_owners, .int t_version, .int t_terms, .int t_latestVersion, .int t_values, .ref q_t_kind, .ref q_t_number, .ref q_t_bytes, .ref q_t_part, .ref q_t_around, .ref q_t_many, .ref q_t_given, .int t_environments, .ref q_t_holds, .ref q_t_outer, .int t_frames, .ref q_t_frame, .ref q_t_first, .ref q_t_second, .int t_state, .int t_term, .int t_environment, .int t_value, .int t_budget, .int t_steps, .int t_costs, .int t_made, .int t_tells, .ref q_t_told, .int t_waiting, .ref q_t_what, .ref q_t_where, .ref q_t_inside])), (q_t_kind, .inl (cI, 700, .inl (upd t_kind t_values.toNatClampNeg x1))), (q_t_number, .inl (cI, 700, .inl (upd t_number t_values.toNatClampNeg x2))), (q_t_bytes, .inl (cL, 700, .inr (.inl (vp_updL t_bytes t_values.toNatClampNeg 0)))), (q_t_part, .inl (cI, 700, .inl (upd t_part t_values.toNatClampNeg x3))), (q_t_around, .inl (cI, 700, .inl (upd t_around t_values.toNatClampNeg x4))), (q_t_many, .inl (cI, 700, .inl t_many))] := hD
  refine lv_aload_n hx hb dX9_newValue_51 rfl (lv_at hl 0 rfl) ?_
  refine va_get (D := (dC, dI)) (ci := 8) (v := .ref q_t_many) (C := RX9) (T := TX9) (N := 47) hx hb hts hn0 hown hK hP 0 rfl rfl 24 (by decide) (htw _ aw_737) (fun _ h9 => h9) rfl dX9_newValue_52 ?_
  refine lv_aload_n hx hb dX9_newValue_55 rfl (lv_at hl 0 rfl) ?_
  refine va_get (D := (dC, dI)) (ci := 8) (v := .int t_values) (C := RX9) (T := TX9) (N := 47) hx hb hts hn0 hown hK hP 0 rfl rfl 18 (by decide) (htw _ aw_731) (fun _ h9 => h9) rfl dX9_newValue_56 ?_
  refine lv_iconst (v := 0) hx hb dX9_newValue_59 (by decide) ?_
  obtain ⟨h60, hm⟩ := chk_inv hm
  refine va_iast (D := (dC, dI)) hx hb hK hP hD hS 6 0 rfl rfl (in_of (n := 700) (by decide) h60) dX9_newValue_60 (fun H locs hP hD hS => ?_)
  have hP : va_P (dC, dI) vwCl [(q_t, .inr (8, [.int t_threw, .ref q_t_text, .int t_size, .int t_at, .int t_error, .int t_found, .ref q_t_tags, .ref q_t_subs, .ref q_t_numbers, .ref q_t_chars, .ref q_t_firsts, .ref q_t_seconds, .ref q_t_depths, .ref q_t_lambdas, .ref q_t_owners, .int t_version, .int t_terms, .int t_latestVersion, .int t_values, .ref q_t_kind, .ref q_t_number, .ref q_t_bytes, .ref q_t_part, .ref q_t_around, .ref q_t_many, .ref q_t_given, .int t_environments, .ref q_t_holds, .ref q_t_outer, .int t_frames, .ref q_t_frame, .ref q_t_first, .ref q_t_second, .int t_state, .int t_term, .int t_environment, .int t_value, .int t_budget, .int t_steps, .int t_costs, .int t_made, .int t_tells, .ref q_t_told, .int t_waiting, .ref q_t_what, .ref q_t_where, .ref q_t_inside])), (q_t_kind, .inl (cI, 700, .inl (upd t_kind t_values.toNatClampNeg x1))), (q_t_number, .inl (cI, 700, .inl (upd t_number t_values.toNatClampNeg x2))), (q_t_bytes, .inl (cL, 700, .inr (.inl (vp_updL t_bytes t_values.toNatClampNeg 0)))), (q_t_part, .inl (cI, 700, .inl (upd t_part t_values.toNatClampNeg x3))), (q_t_around, .inl (cI, 700, .inl (upd t_around t_values.toNatClampNeg x4))), (q_t_many, .inl (cI, 700, .inl (upd t_many t_values.toNatClampNeg 0)))] H := hP
  have hD : va_D A [(q_t, .inr (8, [.int t_threw, .ref q_t_text, .int t_size, .int t_at, .int t_error, .int t_found, .ref q_t_tags, .ref q_t_subs, .ref q_t_numbers, .ref q_t_chars, .ref q_t_firsts, .ref q_t_seconds, .ref q_t_depths, .ref q_t_lambdas, .ref q_t_owners, .int t_version, .int t_terms, .int t_latestVersion, .int t_values, .ref q_t_kind, .ref q_t_number, .ref q_t_bytes, .ref q_t_part, .ref q_t_around, .ref q_t_many, .ref q_t_given, .int t_environments, .ref q_t_holds, .ref q_t_outer, .int t_frames, .ref q_t_frame, .ref q_t_first, .ref q_t_second, .int t_state, .int t_term, .int t_environment, .int t_value, .int t_budget, .int t_steps, .int t_costs, .int t_made, .int t_tells, .ref q_t_told, .int t_waiting, .ref q_t_what, .ref q_t_where, .ref q_t_inside])), (q_t_kind, .inl (cI, 700, .inl (upd t_kind t_values.toNatClampNeg x1))), (q_t_number, .inl (cI, 700, .inl (upd t_number t_values.toNatClampNeg x2))), (q_t_bytes, .inl (cL, 700, .inr (.inl (vp_updL t_bytes t_values.toNatClampNeg 0)))), (q_t_part, .inl (cI, 700, .inl (upd t_part t_values.toNatClampNeg x3))), (q_t_around, .inl (cI, 700, .inl (upd t_around t_values.toNatClampNeg x4))), (q_t_many, .inl (cI, 700, .inl (upd t_many t_values.toNatClampNeg 0)))] := hD
  refine lv_aload_n hx hb dX9_newValue_61 rfl (lv_at hl 0 rfl) ?_
  refine lv_dup hx hb dX9_newValue_62 rfl ?_
  refine va_get (D := (dC, dI)) (ci := 8) (v := .int t_values) (C := RX9) (T := TX9) (N := 47) hx hb hts hn0 hown hK hP 0 rfl rfl 18 (by decide) (htw _ aw_731) (fun _ h9 => h9) rfl dX9_newValue_63 ?_
  refine lv_iconst (v := 1) hx hb dX9_newValue_66 (by decide) ?_
  refine lv_iadd hx hb dX9_newValue_67 ?_
  refine va_put (D := (dC, dI)) (ci := 8) (v := .int (t_values + 1)) (ty := .int) (C := RX9) (T := TX9) (N := 47) hx hb hts hn0 tyX9 tyX9_ok nmX9 hown hK hP hD hS 0 rfl rfl 18 (by decide) (htw _ aw_731) (fun _ h9 => h9) rfl (by decide +kernel) rfl rfl (Nat.le_of_ble_eq_true rfl) dX9_newValue_68 (fun H locs hP hD hS => ?_)
  have hP : va_P (dC, dI) vwCl [(q_t, .inr (8, [.int t_threw, .ref q_t_text, .int t_size, .int t_at, .int t_error, .int t_found, .ref q_t_tags, .ref q_t_subs, .ref q_t_numbers, .ref q_t_chars, .ref q_t_firsts, .ref q_t_seconds, .ref q_t_depths, .ref q_t_lambdas, .ref q_t_owners, .int t_version, .int t_terms, .int t_latestVersion, .int (t_values + 1), .ref q_t_kind, .ref q_t_number, .ref q_t_bytes, .ref q_t_part, .ref q_t_around, .ref q_t_many, .ref q_t_given, .int t_environments, .ref q_t_holds, .ref q_t_outer, .int t_frames, .ref q_t_frame, .ref q_t_first, .ref q_t_second, .int t_state, .int t_term, .int t_environment, .int t_value, .int t_budget, .int t_steps, .int t_costs, .int t_made, .int t_tells, .ref q_t_told, .int t_waiting, .ref q_t_what, .ref q_t_where, .ref q_t_inside])), (q_t_kind, .inl (cI, 700, .inl (upd t_kind t_values.toNatClampNeg x1))), (q_t_number, .inl (cI, 700, .inl (upd t_number t_values.toNatClampNeg x2))), (q_t_bytes, .inl (cL, 700, .inr (.inl (vp_updL t_bytes t_values.toNatClampNeg 0)))), (q_t_part, .inl (cI, 700, .inl (upd t_part t_values.toNatClampNeg x3))), (q_t_around, .inl (cI, 700, .inl (upd t_around t_values.toNatClampNeg x4))), (q_t_many, .inl (cI, 700, .inl (upd t_many t_values.toNatClampNeg 0)))] H := hP
  have hD : va_D A [(q_t, .inr (8, [.int t_threw, .ref q_t_text, .int t_size, .int t_at, .int t_error, .int t_found, .ref q_t_tags, .ref q_t_subs, .ref q_t_numbers, .ref q_t_chars, .ref q_t_firsts, .ref q_t_seconds, .ref q_t_depths, .ref q_t_lambdas, .ref q_t_owners, .int t_version, .int t_terms, .int t_latestVersion, .int (t_values + 1), .ref q_t_kind, .ref q_t_number, .ref q_t_bytes, .ref q_t_part, .ref q_t_around, .ref q_t_many, .ref q_t_given, .int t_environments, .ref q_t_holds, .ref q_t_outer, .int t_frames, .ref q_t_frame, .ref q_t_first, .ref q_t_second, .int t_state, .int t_term, .int t_environment, .int t_value, .int t_budget, .int t_steps, .int t_costs, .int t_made, .int t_tells, .ref q_t_told, .int t_waiting, .ref q_t_what, .ref q_t_where, .ref q_t_inside])), (q_t_kind, .inl (cI, 700, .inl (upd t_kind t_values.toNatClampNeg x1))), (q_t_number, .inl (cI, 700, .inl (upd t_number t_values.toNatClampNeg x2))), (q_t_bytes, .inl (cL, 700, .inr (.inl (vp_updL t_bytes t_values.toNatClampNeg 0)))), (q_t_part, .inl (cI, 700, .inl (upd t_part t_values.toNatClampNeg x3))), (q_t_around, .inl (cI, 700, .inl (upd t_around t_values.toNatClampNeg x4))), (q_t_many, .inl (cI, 700, .inl (upd t_many t_values.toNatClampNeg 0)))] := hD
  refine lv_aload_n hx hb dX9_newValue_71 rfl (lv_at hl 0 rfl) ?_
  refine va_get (D := (dC, dI)) (ci := 8) (v := .int (t_values + 1)) (C := RX9) (T := TX9) (N := 47) hx hb hts hn0 hown hK hP 0 rfl rfl 18 (by decide) (htw _ aw_731) (fun _ h9 => h9) rfl dX9_newValue_72 ?_
  refine lv_iconst (v := 1) hx hb dX9_newValue_75 (by decide) ?_
  refine lv_isub hx hb dX9_newValue_76 ?_
  obtain ⟨rfl, rfl, rfl, rfl, rfl, rfl, rfl, rfl⟩ := ij8 hm
  subst hQ
  exact W.iret hx hb hr (fun t ht hW => ⟨⟨_, (), rfl, rfl, by rw [ht]; exact hP, va_K.moved hW.alike hK, hD⟩, hS.F ht⟩) hS.2.2 dX9_newValue_77
def M_MO_more_34 : Nat → Int32 → (Nat → Int32) → (Nat → Int32) → (Nat → Int64) → (Nat → Int32) → (Nat → Int32) → (Nat → Int32) → (Nat → Int32) → Int32 → Int32 → Int32 → Int32 → Option (Int32 × Int32 × (Nat → Int32) × (Nat → Int32) × (Nat → Int64) × (Nat → Int32) × (Nat → Int32) × (Nat → Int32) × (Nat → Int32))
  | 0, _, _, _, _, _, _, _, _, _, _, _, _ => none
  | f + 1, t_values, t_kind, t_number, t_bytes, t_part, t_around, t_many, t_given, v1, v2, v3, v4 =>
    chk ((0 : Int32) ≤ v1 ∧ v1 < 700) ((if (t_many v1.toNatClampNeg) ≤ v4 then
      chk ((0 : Int32) ≤ v1 ∧ v1 < 700) (chk ((0 : Int32) ≤ v3 ∧ v3 < 700) ((if v2 = (-1) then
        some (v3, t_values, t_kind, t_number, t_bytes, t_part, t_around, upd t_many v3.toNatClampNeg (t_many v1.toNatClampNeg), t_given)
      else
        chk ((0 : Int32) ≤ v3 ∧ v3 < 700) (chk ((0 : Int32) ≤ ((3 * v3) + ((upd t_many v3.toNatClampNeg (t_many v1.toNatClampNeg)) v3.toNatClampNeg)) ∧ ((3 * v3) + ((upd t_many v3.toNatClampNeg (t_many v1.toNatClampNeg)) v3.toNatClampNeg)) < 2100) (chk ((0 : Int32) ≤ v3 ∧ v3 < 700) (chk ((0 : Int32) ≤ v3 ∧ v3 < 700) (some (v3, t_values, t_kind, t_number, t_bytes, t_part, t_around, upd (upd t_many v3.toNatClampNeg (t_many v1.toNatClampNeg)) v3.toNatClampNeg (((upd t_many v3.toNatClampNeg (t_many v1.toNatClampNeg)) v3.toNatClampNeg) + 1), upd t_given ((3 * v3) + ((upd t_many v3.toNatClampNeg (t_many v1.toNatClampNeg)) v3.toNatClampNeg)).toNatClampNeg v2))))))))
    else
      chk ((0 : Int32) ≤ ((3 * v1) + v4) ∧ ((3 * v1) + v4) < 2100) (chk ((0 : Int32) ≤ ((3 * v3) + v4) ∧ ((3 * v3) + v4) < 2100) (M_MO_more_34 f t_values t_kind t_number t_bytes t_part t_around t_many (upd t_given ((3 * v3) + v4).toNatClampNeg (t_given ((3 * v1) + v4).toNatClampNeg)) v1 v2 v3 (v4 + 1)))))
def M_MO_more_26 (t_values : Int32) (t_kind : Nat → Int32) (t_number : Nat → Int32) (t_bytes : Nat → Int64) (t_part : Nat → Int32) (t_around : Nat → Int32) (t_many : Nat → Int32) (t_given : Nat → Int32) (v1 : Int32) (v2 : Int32) (z1 : Int32) (z2 : Int32) (z3 : Int32) (z4 : Int32) (z5 : Int32) : Option (Int32 × Int32 × (Nat → Int32) × (Nat → Int32) × (Nat → Int64) × (Nat → Int32) × (Nat → Int32) × (Nat → Int32) × (Nat → Int32)) :=
  c8 (M_MO_newValue t_values t_kind t_number t_bytes t_part t_around t_many z1 z2 z3 (z4 + z5)) (fun r27 t_values_27 t_kind_27 t_number_27 t_bytes_27 t_part_27 t_around_27 t_many_27 =>
    M_MO_more_34 1000 t_values_27 t_kind_27 t_number_27 t_bytes_27 t_part_27 t_around_27 t_many_27 t_given v1 v2 r27 0)
def M_MO_more (t_values : Int32) (t_kind : Nat → Int32) (t_number : Nat → Int32) (t_bytes : Nat → Int64) (t_part : Nat → Int32) (t_around : Nat → Int32) (t_many : Nat → Int32) (t_given : Nat → Int32) (x1 : Int32) (x2 : Int32) : Option (Int32 × Int32 × (Nat → Int32) × (Nat → Int32) × (Nat → Int64) × (Nat → Int32) × (Nat → Int32) × (Nat → Int32) × (Nat → Int32)) :=
  chk ((0 : Int32) ≤ x1 ∧ x1 < 700) (chk ((0 : Int32) ≤ x1 ∧ x1 < 700) ((if x2 = (-1) then
    M_MO_more_26 t_values t_kind t_number t_bytes t_part t_around t_many t_given x1 x2 6 0 (t_part x1.toNatClampNeg) (t_around x1.toNatClampNeg) 1
  else
    M_MO_more_26 t_values t_kind t_number t_bytes t_part t_around t_many t_given x1 x2 6 0 (t_part x1.toNatClampNeg) (t_around x1.toNatClampNeg) 0)))
set_option maxHeartbeats 4000000 in
set_option maxRecDepth 100000 in
theorem c_MO_more (l : Launch) (dC : Nat → ClassId) (dI : Nat → Nat → Nat) (cI cL : ClassId) (sz : Nat) (q_t q_t_text q_t_tags q_t_subs q_t_numbers q_t_chars q_t_firsts q_t_seconds q_t_depths q_t_lambdas q_t_owners q_t_kind q_t_number q_t_bytes q_t_part q_t_around q_t_many q_t_given q_t_holds q_t_outer q_t_frame q_t_first q_t_second q_t_told q_t_what q_t_where q_t_inside : Nat) (t_threw t_size t_at t_error t_found t_version t_terms t_latestVersion t_values t_environments t_frames t_state t_term t_environment t_value t_budget t_steps t_costs t_made t_tells t_waiting : Int32) (t_kind t_number : Nat → Int32) (t_bytes : Nat → Int64) (t_part t_around t_many t_given : Nat → Int32) (x1 x2 r0 u_t_values : Int32) (u_t_kind u_t_number : Nat → Int32) (u_t_bytes : Nat → Int64) (u_t_part u_t_around u_t_many u_t_given : Nat → Int32) (hm : M_MO_more t_values t_kind t_number t_bytes t_part t_around t_many t_given x1 x2 = some (r0, u_t_values, u_t_kind, u_t_number, u_t_bytes, u_t_part, u_t_around, u_t_many, u_t_given)) : Met l yX9_more wsX9_more ({ frames := 1, cells := 0, slots := 0, locals := 24 }) (frPc (dC, dI) vwCl [(cI, .int), (cL, .long)] [(q_t, .inr (8, [.int t_threw, .ref q_t_text, .int t_size, .int t_at, .int t_error, .int t_found, .ref q_t_tags, .ref q_t_subs, .ref q_t_numbers, .ref q_t_chars, .ref q_t_firsts, .ref q_t_seconds, .ref q_t_depths, .ref q_t_lambdas, .ref q_t_owners, .int t_version, .int t_terms, .int t_latestVersion, .int t_values, .ref q_t_kind, .ref q_t_number, .ref q_t_bytes, .ref q_t_part, .ref q_t_around, .ref q_t_many, .ref q_t_given, .int t_environments, .ref q_t_holds, .ref q_t_outer, .int t_frames, .ref q_t_frame, .ref q_t_first, .ref q_t_second, .int t_state, .int t_term, .int t_environment, .int t_value, .int t_budget, .int t_steps, .int t_costs, .int t_made, .int t_tells, .ref q_t_told, .int t_waiting, .ref q_t_what, .ref q_t_where, .ref q_t_inside])), (q_t_kind, .inl (cI, 700, .inl t_kind)), (q_t_number, .inl (cI, 700, .inl t_number)), (q_t_bytes, .inl (cL, 700, .inr (.inl t_bytes))), (q_t_part, .inl (cI, 700, .inl t_part)), (q_t_around, .inl (cI, 700, .inl t_around)), (q_t_many, .inl (cI, 700, .inl t_many)), (q_t_given, .inl (cI, 2100, .inl t_given))] sz [.ref q_t, .int x1, .int x2]) (va_Qi (fun (r : Int32) (_ : Unit) => r = r0) (frB (dC, dI) vwCl [(cI, .int), (cL, .long)] (va_A [(q_t, .inr (8, [.int t_threw, .ref q_t_text, .int t_size, .int t_at, .int t_error, .int t_found, .ref q_t_tags, .ref q_t_subs, .ref q_t_numbers, .ref q_t_chars, .ref q_t_firsts, .ref q_t_seconds, .ref q_t_depths, .ref q_t_lambdas, .ref q_t_owners, .int t_version, .int t_terms, .int t_latestVersion, .int t_values, .ref q_t_kind, .ref q_t_number, .ref q_t_bytes, .ref q_t_part, .ref q_t_around, .ref q_t_many, .ref q_t_given, .int t_environments, .ref q_t_holds, .ref q_t_outer, .int t_frames, .ref q_t_frame, .ref q_t_first, .ref q_t_second, .int t_state, .int t_term, .int t_environment, .int t_value, .int t_budget, .int t_steps, .int t_costs, .int t_made, .int t_tells, .ref q_t_told, .int t_waiting, .ref q_t_what, .ref q_t_where, .ref q_t_inside])), (q_t_kind, .inl (cI, 700, .inl t_kind)), (q_t_number, .inl (cI, 700, .inl t_number)), (q_t_bytes, .inl (cL, 700, .inr (.inl t_bytes))), (q_t_part, .inl (cI, 700, .inl t_part)), (q_t_around, .inl (cI, 700, .inl t_around)), (q_t_many, .inl (cI, 700, .inl t_many)), (q_t_given, .inl (cI, 2100, .inl t_given))] sz) [(q_t, .inr (8, [.int t_threw, .ref q_t_text, .int t_size, .int t_at, .int t_error, .int t_found, .ref q_t_tags, .ref q_t_subs, .ref q_t_numbers, .ref q_t_chars, .ref q_t_firsts, .ref q_t_seconds, .ref q_t_depths, .ref q_t_lambdas, .ref q_t_owners, .int t_version, .int t_terms, .int t_latestVersion, .int u_t_values, .ref q_t_kind, .ref q_t_number, .ref q_t_bytes, .ref q_t_part, .ref q_t_around, .ref q_t_many, .ref q_t_given, .int t_environments, .ref q_t_holds, .ref q_t_outer, .int t_frames, .ref q_t_frame, .ref q_t_first, .ref q_t_second, .int t_state, .int t_term, .int t_environment, .int t_value, .int t_budget, .int t_steps, .int t_costs, .int t_made, .int t_tells, .ref q_t_told, .int t_waiting, .ref q_t_what, .ref q_t_where, .ref q_t_inside])), (q_t_kind, .inl (cI, 700, .inl u_t_kind)), (q_t_number, .inl (cI, 700, .inl u_t_number)), (q_t_bytes, .inl (cL, 700, .inr (.inl u_t_bytes))), (q_t_part, .inl (cI, 700, .inl u_t_part)), (q_t_around, .inl (cI, 700, .inl u_t_around)), (q_t_many, .inl (cI, 700, .inl u_t_many)), (q_t_given, .inl (cI, 2100, .inl u_t_given))]) (va_A [(q_t, .inr (8, [.int t_threw, .ref q_t_text, .int t_size, .int t_at, .int t_error, .int t_found, .ref q_t_tags, .ref q_t_subs, .ref q_t_numbers, .ref q_t_chars, .ref q_t_firsts, .ref q_t_seconds, .ref q_t_depths, .ref q_t_lambdas, .ref q_t_owners, .int t_version, .int t_terms, .int t_latestVersion, .int t_values, .ref q_t_kind, .ref q_t_number, .ref q_t_bytes, .ref q_t_part, .ref q_t_around, .ref q_t_many, .ref q_t_given, .int t_environments, .ref q_t_holds, .ref q_t_outer, .int t_frames, .ref q_t_frame, .ref q_t_first, .ref q_t_second, .int t_state, .int t_term, .int t_environment, .int t_value, .int t_budget, .int t_steps, .int t_costs, .int t_made, .int t_tells, .ref q_t_told, .int t_waiting, .ref q_t_what, .ref q_t_where, .ref q_t_inside])), (q_t_kind, .inl (cI, 700, .inl t_kind)), (q_t_number, .inl (cI, 700, .inl t_number)), (q_t_bytes, .inl (cL, 700, .inr (.inl t_bytes))), (q_t_part, .inl (cI, 700, .inl t_part)), (q_t_around, .inl (cI, 700, .inl t_around)), (q_t_many, .inl (cI, 700, .inl t_many)), (q_t_given, .inl (cI, 2100, .inl t_given))] sz)) 0 0 (va_A [(q_t, .inr (8, [.int t_threw, .ref q_t_text, .int t_size, .int t_at, .int t_error, .int t_found, .ref q_t_tags, .ref q_t_subs, .ref q_t_numbers, .ref q_t_chars, .ref q_t_firsts, .ref q_t_seconds, .ref q_t_depths, .ref q_t_lambdas, .ref q_t_owners, .int t_version, .int t_terms, .int t_latestVersion, .int t_values, .ref q_t_kind, .ref q_t_number, .ref q_t_bytes, .ref q_t_part, .ref q_t_around, .ref q_t_many, .ref q_t_given, .int t_environments, .ref q_t_holds, .ref q_t_outer, .int t_frames, .ref q_t_frame, .ref q_t_first, .ref q_t_second, .int t_state, .int t_term, .int t_environment, .int t_value, .int t_budget, .int t_steps, .int t_costs, .int t_made, .int t_tells, .ref q_t_told, .int t_waiting, .ref q_t_what, .ref q_t_where, .ref q_t_inside])), (q_t_kind, .inl (cI, 700, .inl t_kind)), (q_t_number, .inl (cI, 700, .inl t_number)), (q_t_bytes, .inl (cL, 700, .inr (.inl t_bytes))), (q_t_part, .inl (cI, 700, .inl t_part)), (q_t_around, .inl (cI, 700, .inl t_around)), (q_t_many, .inl (cI, 700, .inl t_many)), (q_t_given, .inl (cI, 2100, .inl t_given))] sz) := by
  refine Met.ofW (cc := cX9_more) (maxL := 5) (ret := (some .int)) (by decide) rfl ?_
  intro p e s m args below meth c s₁ B hml hv
  obtain ⟨rfl, hsz, hP, hK, hD0, hZ⟩ := hv
  have hx := B.exec
  have hb := B.bytes
  have hr := B.returns
  have hts := atoms_spec (ws := wsX9_more) B.pre
  have hown : s.vm.findClass RX9 = some m.cls := findClass_of_methodNamed B.named
  have hlocks := B.notSynchronized
  subst hsz
  have hD := hD0.self (sz := s.heap.size)
  generalize hAe : va_A [(q_t, .inr (8, [.int t_threw, .ref q_t_text, .int t_size, .int t_at, .int t_error, .int t_found, .ref q_t_tags, .ref q_t_subs, .ref q_t_numbers, .ref q_t_chars, .ref q_t_firsts, .ref q_t_seconds, .ref q_t_depths, .ref q_t_lambdas, .ref q_t_owners, .int t_version, .int t_terms, .int t_latestVersion, .int t_values, .ref q_t_kind, .ref q_t_number, .ref q_t_bytes, .ref q_t_part, .ref q_t_around, .ref q_t_many, .ref q_t_given, .int t_environments, .ref q_t_holds, .ref q_t_outer, .int t_frames, .ref q_t_frame, .ref q_t_first, .ref q_t_second, .int t_state, .int t_term, .int t_environment, .int t_value, .int t_budget, .int t_steps, .int t_costs, .int t_made, .int t_tells, .ref q_t_told, .int t_waiting, .ref q_t_what, .ref q_t_where, .ref q_t_inside])), (q_t_kind, .inl (cI, 700, .inl t_kind)), (q_t_number, .inl (cI, 700, .inl t_number)), (q_t_bytes, .inl (cL, 700, .inr (.inl t_bytes))), (q_t_part, .inl (cI, 700, .inl t_part)), (q_t_around, .inl (cI, 700, .inl t_around)), (q_t_many, .inl (cI, 700, .inl t_many)), (q_t_given, .inl (cI, 2100, .inl t_given))] s.heap.size = A at hD hZ ⊢
  have hA : ∀ q : Nat, s.heap.size ≤ q → A q := fun q h => by rw [← hAe]; exact Or.inr h
  have hS : va_S A s.heap s.heap [] := va_S.rf
  have hP : va_P (dC, dI) vwCl [(q_t, .inr (8, [.int t_threw, .ref q_t_text, .int t_size, .int t_at, .int t_error, .int t_found, .ref q_t_tags, .ref q_t_subs, .ref q_t_numbers, .ref q_t_chars, .ref q_t_firsts, .ref q_t_seconds, .ref q_t_depths, .ref q_t_lambdas, .ref q_t_owners, .int t_version, .int t_terms, .int t_latestVersion, .int t_values, .ref q_t_kind, .ref q_t_number, .ref q_t_bytes, .ref q_t_part, .ref q_t_around, .ref q_t_many, .ref q_t_given, .int t_environments, .ref q_t_holds, .ref q_t_outer, .int t_frames, .ref q_t_frame, .ref q_t_first, .ref q_t_second, .int t_state, .int t_term, .int t_environment, .int t_value, .int t_budget, .int t_steps, .int t_costs, .int t_made, .int t_tells, .ref q_t_told, .int t_waiting, .ref q_t_what, .ref q_t_where, .ref q_t_inside])), (q_t_kind, .inl (cI, 700, .inl t_kind)), (q_t_number, .inl (cI, 700, .inl t_number)), (q_t_bytes, .inl (cL, 700, .inr (.inl t_bytes))), (q_t_part, .inl (cI, 700, .inl t_part)), (q_t_around, .inl (cI, 700, .inl t_around)), (q_t_many, .inl (cI, 700, .inl t_many)), (q_t_given, .inl (cI, 2100, .inl t_given))] s.heap := hP
  have hl := lv_entry ([.ref q_t, .int x1, .int x2]) (n := 5) (Nat.le_of_ble_eq_true rfl)
  rw [lg_entry_eq]
  generalize (lg_sl ([.ref q_t, .int x1, .int x2]) ++ List.replicate (5 - (lg_sl ([.ref q_t, .int x1, .int x2])).length) Slot.unset).toArray = ls at hl ⊢
  have hl : lv_has ls 5 [(0, .ref q_t), (1, .int x1), (2, .int x2)] := hl
  refine wq hP hS (fun Q hQ H locs hP hS => ?_)
  have htw : ∀ w ∈ AW, w.before _ s = true := fun w h => hts w (List.mem_cons_of_mem _ h)
  have hn0 : ∀ w ∈ wsX90, w ∈ wsX9_more := fun w h => List.mem_cons_of_mem _ (inX9 w h)
  have L34 : ∀ (f : Nat) (t_values : Int32) (t_kind t_number : Nat → Int32) (t_bytes : Nat → Int64) (t_part t_around t_many t_given : Nat → Int32) (v1 v2 v3 v4 : Int32) (ls : Array Slot) (H : Heap) (locs : List Loc), M_MO_more_34 f t_values t_kind t_number t_bytes t_part t_around t_many t_given v1 v2 v3 v4 = some (r0, u_t_values, u_t_kind, u_t_number, u_t_bytes, u_t_part, u_t_around, u_t_many, u_t_given) → lv_has ls 5 [(0, .ref q_t), (1, .int v1), (2, .int v2), (3, .int v3), (4, .int v4)] → va_P (dC, dI) vwCl [(q_t, .inr (8, [.int t_threw, .ref q_t_text, .int t_size, .int t_at, .int t_error, .int t_found, .ref q_t_tags, .ref q_t_subs, .ref q_t_numbers, .ref q_t_chars, .ref q_t_firsts, .ref q_t_seconds, .ref q_t_depths, .ref q_t_lambdas, .ref q_t_owners, .int t_version, .int t_terms, .int t_latestVersion, .int t_values, .ref q_t_kind, .ref q_t_number, .ref q_t_bytes, .ref q_t_part, .ref q_t_around, .ref q_t_many, .ref q_t_given, .int t_environments, .ref q_t_holds, .ref q_t_outer, .int t_frames, .ref q_t_frame, .ref q_t_first, .ref q_t_second, .int t_state, .int t_term, .int t_environment, .int t_value, .int t_budget, .int t_steps, .int t_costs, .int t_made, .int t_tells, .ref q_t_told, .int t_waiting, .ref q_t_what, .ref q_t_where, .ref q_t_inside])), (q_t_kind, .inl (cI, 700, .inl t_kind)), (q_t_number, .inl (cI, 700, .inl t_number)), (q_t_bytes, .inl (cL, 700, .inr (.inl t_bytes))), (q_t_part, .inl (cI, 700, .inl t_part)), (q_t_around, .inl (cI, 700, .inl t_around)), (q_t_many, .inl (cI, 700, .inl t_many)), (q_t_given, .inl (cI, 2100, .inl t_given))] H → va_D A [(q_t, .inr (8, [.int t_threw, .ref q_t_text, .int t_size, .int t_at, .int t_error, .int t_found, .ref q_t_tags, .ref q_t_subs, .ref q_t_numbers, .ref q_t_chars, .ref q_t_firsts, .ref q_t_seconds, .ref q_t_depths, .ref q_t_lambdas, .ref q_t_owners, .int t_version, .int t_terms, .int t_latestVersion, .int t_values, .ref q_t_kind, .ref q_t_number, .ref q_t_bytes, .ref q_t_part, .ref q_t_around, .ref q_t_many, .ref q_t_given, .int t_environments, .ref q_t_holds, .ref q_t_outer, .int t_frames, .ref q_t_frame, .ref q_t_first, .ref q_t_second, .int t_state, .int t_term, .int t_environment, .int t_value, .int t_budget, .int t_steps, .int t_costs, .int t_made, .int t_tells, .ref q_t_told, .int t_waiting, .ref q_t_what, .ref q_t_where, .ref q_t_inside])), (q_t_kind, .inl (cI, 700, .inl t_kind)), (q_t_number, .inl (cI, 700, .inl t_number)), (q_t_bytes, .inl (cL, 700, .inr (.inl t_bytes))), (q_t_part, .inl (cI, 700, .inl t_part)), (q_t_around, .inl (cI, 700, .inl t_around)), (q_t_many, .inl (cI, 700, .inl t_many)), (q_t_given, .inl (cI, 2100, .inl t_given))] → va_S A s.heap H locs → W p l e ({ frames := 1, cells := 0, slots := 0, locals := 24 }) s m [.ref q_t, .int x1, .int x2].toArray below meth c H locs 0 0 Q (F0 m 34 ls []) := by
    intro f
    induction f with
    | zero => intro t_values t_kind t_number t_bytes t_part t_around t_many t_given v1 v2 v3 v4 ls H locs hm; rw [M_MO_more_34] at hm; cases hm
    | succ f ih34 =>
      intro t_values t_kind t_number t_bytes t_part t_around t_many t_given v1 v2 v3 v4 ls H locs hm hl hP hD hS
      rw [M_MO_more_34] at hm
      refine lv_iload hx hb dX9_more_34 (lv_at hl 4 rfl) ?_
      refine lv_aload_n hx hb dX9_more_36 rfl (lv_at hl 0 rfl) ?_
      refine va_get (D := (dC, dI)) (ci := 8) (v := .ref q_t_many) (C := RX9) (T := TX9) (N := 47) hx hb hts hn0 hown hK hP 0 rfl rfl 24 (by decide) (htw _ aw_737) (fun _ h9 => h9) rfl dX9_more_37 ?_
      refine lv_iload_n hx hb dX9_more_40 rfl (lv_at hl 1 rfl) ?_
      obtain ⟨h41, hm⟩ := chk_inv hm
      refine va_iald (D := (dC, dI)) hx hb hK hP 6 0 rfl rfl (in_of (n := 700) (by decide) h41) dX9_more_41 ?_
      refine lv_icmp_ge hx hb dX9_more_42 rfl (fun h42 => ?_) (fun h42 => ?_)
      · replace hm := ifp h42 hm
        refine lv_aload_n hx hb dX9_more_73 rfl (lv_at hl 0 rfl) ?_
        refine va_get (D := (dC, dI)) (ci := 8) (v := .ref q_t_many) (C := RX9) (T := TX9) (N := 47) hx hb hts hn0 hown hK hP 0 rfl rfl 24 (by decide) (htw _ aw_737) (fun _ h9 => h9) rfl dX9_more_74 ?_
        refine lv_iload_n hx hb dX9_more_77 rfl (lv_at hl 3 rfl) ?_
        refine lv_aload_n hx hb dX9_more_78 rfl (lv_at hl 0 rfl) ?_
        refine va_get (D := (dC, dI)) (ci := 8) (v := .ref q_t_many) (C := RX9) (T := TX9) (N := 47) hx hb hts hn0 hown hK hP 0 rfl rfl 24 (by decide) (htw _ aw_737) (fun _ h9 => h9) rfl dX9_more_79 ?_
        refine lv_iload_n hx hb dX9_more_82 rfl (lv_at hl 1 rfl) ?_
        obtain ⟨h83, hm⟩ := chk_inv hm
        refine va_iald (D := (dC, dI)) hx hb hK hP 6 0 rfl rfl (in_of (n := 700) (by decide) h83) dX9_more_83 ?_
        obtain ⟨h84, hm⟩ := chk_inv hm
        refine va_iast (D := (dC, dI)) hx hb hK hP hD hS 6 0 rfl rfl (in_of (n := 700) (by decide) h84) dX9_more_84 (fun H locs hP hD hS => ?_)
        have hP : va_P (dC, dI) vwCl [(q_t, .inr (8, [.int t_threw, .ref q_t_text, .int t_size, .int t_at, .int t_error, .int t_found, .ref q_t_tags, .ref q_t_subs, .ref q_t_numbers, .ref q_t_chars, .ref q_t_firsts, .ref q_t_seconds, .ref q_t_depths, .ref q_t_lambdas, .ref q_t_owners, .int t_version, .int t_terms, .int t_latestVersion, .int t_values, .ref q_t_kind, .ref q_t_number, .ref q_t_bytes, .ref q_t_part, .ref q_t_around, .ref q_t_many, .ref q_t_given, .int t_environments, .ref q_t_holds, .ref q_t_outer, .int t_frames, .ref q_t_frame, .ref q_t_first, .ref q_t_second, .int t_state, .int t_term, .int t_environment, .int t_value, .int t_budget, .int t_steps, .int t_costs, .int t_made, .int t_tells, .ref q_t_told, .int t_waiting, .ref q_t_what, .ref q_t_where, .ref q_t_inside])), (q_t_kind, .inl (cI, 700, .inl t_kind)), (q_t_number, .inl (cI, 700, .inl t_number)), (q_t_bytes, .inl (cL, 700, .inr (.inl t_bytes))), (q_t_part, .inl (cI, 700, .inl t_part)), (q_t_around, .inl (cI, 700, .inl t_around)), (q_t_many, .inl (cI, 700, .inl (upd t_many v3.toNatClampNeg (t_many v1.toNatClampNeg)))), (q_t_given, .inl (cI, 2100, .inl t_given))] H := hP
        have hD : va_D A [(q_t, .inr (8, [.int t_threw, .ref q_t_text, .int t_size, .int t_at, .int t_error, .int t_found, .ref q_t_tags, .ref q_t_subs, .ref q_t_numbers, .ref q_t_chars, .ref q_t_firsts, .ref q_t_seconds, .ref q_t_depths, .ref q_t_lambdas, .ref q_t_owners, .int t_version, .int t_terms, .int t_latestVersion, .int t_values, .ref q_t_kind, .ref q_t_number, .ref q_t_bytes, .ref q_t_part, .ref q_t_around, .ref q_t_many, .ref q_t_given, .int t_environments, .ref q_t_holds, .ref q_t_outer, .int t_frames, .ref q_t_frame, .ref q_t_first, .ref q_t_second, .int t_state, .int t_term, .int t_environment, .int t_value, .int t_budget, .int t_steps, .int t_costs, .int t_made, .int t_tells, .ref q_t_told, .int t_waiting, .ref q_t_what, .ref q_t_where, .ref q_t_inside])), (q_t_kind, .inl (cI, 700, .inl t_kind)), (q_t_number, .inl (cI, 700, .inl t_number)), (q_t_bytes, .inl (cL, 700, .inr (.inl t_bytes))), (q_t_part, .inl (cI, 700, .inl t_part)), (q_t_around, .inl (cI, 700, .inl t_around)), (q_t_many, .inl (cI, 700, .inl (upd t_many v3.toNatClampNeg (t_many v1.toNatClampNeg)))), (q_t_given, .inl (cI, 2100, .inl t_given))] := hD
        refine lv_iload_n hx hb dX9_more_85 rfl (lv_at hl 2 rfl) ?_
        refine lv_iconst (v := (-1)) hx hb dX9_more_86 (by decide) ?_
        refine lv_icmp_eq hx hb dX9_more_87 rfl (fun h87 => ?_) (fun h87 => ?_)
        · replace hm := ifp h87 hm
          refine lv_iload_n hx hb dX9_more_116 rfl (lv_at hl 3 rfl) ?_
          try clear L26
          try clear L34
          try clear ih34
          obtain ⟨rfl, rfl, rfl, rfl, rfl, rfl, rfl, rfl, rfl⟩ := ij9 hm
          subst hQ
          exact W.iret hx hb hr (fun t ht hW => ⟨⟨_, (), rfl, rfl, by rw [ht]; exact hP, va_K.moved hW.alike hK, hD⟩, hS.F ht⟩) hS.2.2 dX9_more_117
        · replace hm := ifn h87 hm
          refine lv_aload_n hx hb dX9_more_90 rfl (lv_at hl 0 rfl) ?_
          refine va_get (D := (dC, dI)) (ci := 8) (v := .ref q_t_given) (C := RX9) (T := TX9) (N := 47) hx hb hts hn0 hown hK hP 0 rfl rfl 25 (by decide) (htw _ aw_738) (fun _ h9 => h9) rfl dX9_more_91 ?_
          refine lv_iconst (v := 3) hx hb dX9_more_94 (by decide) ?_
          refine lv_iload_n hx hb dX9_more_95 rfl (lv_at hl 3 rfl) ?_
          refine lv_imul hx hb dX9_more_96 ?_
          refine lv_aload_n hx hb dX9_more_97 rfl (lv_at hl 0 rfl) ?_
          refine va_get (D := (dC, dI)) (ci := 8) (v := .ref q_t_many) (C := RX9) (T := TX9) (N := 47) hx hb hts hn0 hown hK hP 0 rfl rfl 24 (by decide) (htw _ aw_737) (fun _ h9 => h9) rfl dX9_more_98 ?_
          refine lv_iload_n hx hb dX9_more_101 rfl (lv_at hl 3 rfl) ?_
          obtain ⟨h102, hm⟩ := chk_inv hm
          refine va_iald (D := (dC, dI)) hx hb hK hP 6 0 rfl rfl (in_of (n := 700) (by decide) h102) dX9_more_102 ?_
          refine lv_iadd hx hb dX9_more_103 ?_
          refine lv_iload_n hx hb dX9_more_104 rfl (lv_at hl 2 rfl) ?_
          obtain ⟨h105, hm⟩ := chk_inv hm
          refine va_iast (D := (dC, dI)) hx hb hK hP hD hS 7 0 rfl rfl (in_of (n := 2100) (by decide) h105) dX9_more_105 (fun H locs hP hD hS => ?_)
          have hP : va_P (dC, dI) vwCl [(q_t, .inr (8, [.int t_threw, .ref q_t_text, .int t_size, .int t_at, .int t_error, .int t_found, .ref q_t_tags, .ref q_t_subs, .ref q_t_numbers, .ref q_t_chars, .ref q_t_firsts, .ref q_t_seconds, .ref q_t_depths, .ref q_t_lambdas, .ref q_t_owners, .int t_version, .int t_terms, .int t_latestVersion, .int t_values, .ref q_t_kind, .ref q_t_number, .ref q_t_bytes, .ref q_t_part, .ref q_t_around, .ref q_t_many, .ref q_t_given, .int t_environments, .ref q_t_holds, .ref q_t_outer, .int t_frames, .ref q_t_frame, .ref q_t_first, .ref q_t_second, .int t_state, .int t_term, .int t_environment, .int t_value, .int t_budget, .int t_steps, .int t_costs, .int t_made, .int t_tells, .ref q_t_told, .int t_waiting, .ref q_t_what, .ref q_t_where, .ref q_t_inside])), (q_t_kind, .inl (cI, 700, .inl t_kind)), (q_t_number, .inl (cI, 700, .inl t_number)), (q_t_bytes, .inl (cL, 700, .inr (.inl t_bytes))), (q_t_part, .inl (cI, 700, .inl t_part)), (q_t_around, .inl (cI, 700, .inl t_around)), (q_t_many, .inl (cI, 700, .inl (upd t_many v3.toNatClampNeg (t_many v1.toNatClampNeg)))), (q_t_given, .inl (cI, 2100, .inl (upd t_given ((3 * v3) + ((upd t_many v3.toNatClampNeg (t_many v1.toNatClampNeg)) v3.toNatClampNeg)).toNatClampNeg v2)))] H := hP
          have hD : va_D A [(q_t, .inr (8, [.int t_threw, .ref q_t_text, .int t_size, .int t_at, .int t_error, .int t_found, .ref q_t_tags, .ref q_t_subs, .ref q_t_numbers, .ref q_t_chars, .ref q_t_firsts, .ref q_t_seconds, .ref q_t_depths, .ref q_t_lambdas, .ref q_t_owners, .int t_version, .int t_terms, .int t_latestVersion, .int t_values, .ref q_t_kind, .ref q_t_number, .ref q_t_bytes, .ref q_t_part, .ref q_t_around, .ref q_t_many, .ref q_t_given, .int t_environments, .ref q_t_holds, .ref q_t_outer, .int t_frames, .ref q_t_frame, .ref q_t_first, .ref q_t_second, .int t_state, .int t_term, .int t_environment, .int t_value, .int t_budget, .int t_steps, .int t_costs, .int t_made, .int t_tells, .ref q_t_told, .int t_waiting, .ref q_t_what, .ref q_t_where, .ref q_t_inside])), (q_t_kind, .inl (cI, 700, .inl t_kind)), (q_t_number, .inl (cI, 700, .inl t_number)), (q_t_bytes, .inl (cL, 700, .inr (.inl t_bytes))), (q_t_part, .inl (cI, 700, .inl t_part)), (q_t_around, .inl (cI, 700, .inl t_around)), (q_t_many, .inl (cI, 700, .inl (upd t_many v3.toNatClampNeg (t_many v1.toNatClampNeg)))), (q_t_given, .inl (cI, 2100, .inl (upd t_given ((3 * v3) + ((upd t_many v3.toNatClampNeg (t_many v1.toNatClampNeg)) v3.toNatClampNeg)).toNatClampNeg v2)))] := hD
          refine lv_aload_n hx hb dX9_more_106 rfl (lv_at hl 0 rfl) ?_
          refine va_get (D := (dC, dI)) (ci := 8) (v := .ref q_t_many) (C := RX9) (T := TX9) (N := 47) hx hb hts hn0 hown hK hP 0 rfl rfl 24 (by decide) (htw _ aw_737) (fun _ h9 => h9) rfl dX9_more_107 ?_
          refine lv_iload_n hx hb dX9_more_110 rfl (lv_at hl 3 rfl) ?_
          refine lv_dup2_11 hx hb dX9_more_111 rfl rfl ?_
          obtain ⟨h112, hm⟩ := chk_inv hm
          refine va_iald (D := (dC, dI)) hx hb hK hP 6 0 rfl rfl (in_of (n := 700) (by decide) h112) dX9_more_112 ?_
          refine lv_iconst (v := 1) hx hb dX9_more_113 (by decide) ?_
          refine lv_iadd hx hb dX9_more_114 ?_
          obtain ⟨h115, hm⟩ := chk_inv hm
          refine va_iast (D := (dC, dI)) hx hb hK hP hD hS 6 0 rfl rfl (in_of (n := 700) (by decide) h115) dX9_more_115 (fun H locs hP hD hS => ?_)
          have hP : va_P (dC, dI) vwCl [(q_t, .inr (8, [.int t_threw, .ref q_t_text, .int t_size, .int t_at, .int t_error, .int t_found, .ref q_t_tags, .ref q_t_subs, .ref q_t_numbers, .ref q_t_chars, .ref q_t_firsts, .ref q_t_seconds, .ref q_t_depths, .ref q_t_lambdas, .ref q_t_owners, .int t_version, .int t_terms, .int t_latestVersion, .int t_values, .ref q_t_kind, .ref q_t_number, .ref q_t_bytes, .ref q_t_part, .ref q_t_around, .ref q_t_many, .ref q_t_given, .int t_environments, .ref q_t_holds, .ref q_t_outer, .int t_frames, .ref q_t_frame, .ref q_t_first, .ref q_t_second, .int t_state, .int t_term, .int t_environment, .int t_value, .int t_budget, .int t_steps, .int t_costs, .int t_made, .int t_tells, .ref q_t_told, .int t_waiting, .ref q_t_what, .ref q_t_where, .ref q_t_inside])), (q_t_kind, .inl (cI, 700, .inl t_kind)), (q_t_number, .inl (cI, 700, .inl t_number)), (q_t_bytes, .inl (cL, 700, .inr (.inl t_bytes))), (q_t_part, .inl (cI, 700, .inl t_part)), (q_t_around, .inl (cI, 700, .inl t_around)), (q_t_many, .inl (cI, 700, .inl (upd (upd t_many v3.toNatClampNeg (t_many v1.toNatClampNeg)) v3.toNatClampNeg (((upd t_many v3.toNatClampNeg (t_many v1.toNatClampNeg)) v3.toNatClampNeg) + 1)))), (q_t_given, .inl (cI, 2100, .inl (upd t_given ((3 * v3) + ((upd t_many v3.toNatClampNeg (t_many v1.toNatClampNeg)) v3.toNatClampNeg)).toNatClampNeg v2)))] H := hP
          have hD : va_D A [(q_t, .inr (8, [.int t_threw, .ref q_t_text, .int t_size, .int t_at, .int t_error, .int t_found, .ref q_t_tags, .ref q_t_subs, .ref q_t_numbers, .ref q_t_chars, .ref q_t_firsts, .ref q_t_seconds, .ref q_t_depths, .ref q_t_lambdas, .ref q_t_owners, .int t_version, .int t_terms, .int t_latestVersion, .int t_values, .ref q_t_kind, .ref q_t_number, .ref q_t_bytes, .ref q_t_part, .ref q_t_around, .ref q_t_many, .ref q_t_given, .int t_environments, .ref q_t_holds, .ref q_t_outer, .int t_frames, .ref q_t_frame, .ref q_t_first, .ref q_t_second, .int t_state, .int t_term, .int t_environment, .int t_value, .int t_budget, .int t_steps, .int t_costs, .int t_made, .int t_tells, .ref q_t_told, .int t_waiting, .ref q_t_what, .ref q_t_where, .ref q_t_inside])), (q_t_kind, .inl (cI, 700, .inl t_kind)), (q_t_number, .inl (cI, 700, .inl t_number)), (q_t_bytes, .inl (cL, 700, .inr (.inl t_bytes))), (q_t_part, .inl (cI, 700, .inl t_part)), (q_t_around, .inl (cI, 700, .inl t_around)), (q_t_many, .inl (cI, 700, .inl (upd (upd t_many v3.toNatClampNeg (t_many v1.toNatClampNeg)) v3.toNatClampNeg (((upd t_many v3.toNatClampNeg (t_many v1.toNatClampNeg)) v3.toNatClampNeg) + 1)))), (q_t_given, .inl (cI, 2100, .inl (upd t_given ((3 * v3) + ((upd t_many v3.toNatClampNeg (t_many v1.toNatClampNeg)) v3.toNatClampNeg)).toNatClampNeg v2)))] := hD
          refine lv_iload_n hx hb dX9_more_116 rfl (lv_at hl 3 rfl) ?_
          try clear L26
          try clear L34
          try clear ih34
          obtain ⟨rfl, rfl, rfl, rfl, rfl, rfl, rfl, rfl, rfl⟩ := ij9 hm
          subst hQ
          exact W.iret hx hb hr (fun t ht hW => ⟨⟨_, (), rfl, rfl, by rw [ht]; exact hP, va_K.moved hW.alike hK, hD⟩, hS.F ht⟩) hS.2.2 dX9_more_117
      · replace hm := ifn h42 hm
        refine lv_aload_n hx hb dX9_more_45 rfl (lv_at hl 0 rfl) ?_
        refine va_get (D := (dC, dI)) (ci := 8) (v := .ref q_t_given) (C := RX9) (T := TX9) (N := 47) hx hb hts hn0 hown hK hP 0 rfl rfl 25 (by decide) (htw _ aw_738) (fun _ h9 => h9) rfl dX9_more_46 ?_
        refine lv_iconst (v := 3) hx hb dX9_more_49 (by decide) ?_
        refine lv_iload_n hx hb dX9_more_50 rfl (lv_at hl 3 rfl) ?_
        refine lv_imul hx hb dX9_more_51 ?_
        refine lv_iload hx hb dX9_more_52 (lv_at hl 4 rfl) ?_
        refine lv_iadd hx hb dX9_more_54 ?_
        refine lv_aload_n hx hb dX9_more_55 rfl (lv_at hl 0 rfl) ?_
        refine va_get (D := (dC, dI)) (ci := 8) (v := .ref q_t_given) (C := RX9) (T := TX9) (N := 47) hx hb hts hn0 hown hK hP 0 rfl rfl 25 (by decide) (htw _ aw_738) (fun _ h9 => h9) rfl dX9_more_56 ?_
        refine lv_iconst (v := 3) hx hb dX9_more_59 (by decide) ?_
        refine lv_iload_n hx hb dX9_more_60 rfl (lv_at hl 1 rfl) ?_
        refine lv_imul hx hb dX9_more_61 ?_
        refine lv_iload hx hb dX9_more_62 (lv_at hl 4 rfl) ?_
        refine lv_iadd hx hb dX9_more_64 ?_
        obtain ⟨h65, hm⟩ := chk_inv hm
        refine va_iald (D := (dC, dI)) hx hb hK hP 7 0 rfl rfl (in_of (n := 2100) (by decide) h65) dX9_more_65 ?_
        obtain ⟨h66, hm⟩ := chk_inv hm
        refine va_iast (D := (dC, dI)) hx hb hK hP hD hS 7 0 rfl rfl (in_of (n := 2100) (by decide) h66) dX9_more_66 (fun H locs hP hD hS => ?_)
        have hP : va_P (dC, dI) vwCl [(q_t, .inr (8, [.int t_threw, .ref q_t_text, .int t_size, .int t_at, .int t_error, .int t_found, .ref q_t_tags, .ref q_t_subs, .ref q_t_numbers, .ref q_t_chars, .ref q_t_firsts, .ref q_t_seconds, .ref q_t_depths, .ref q_t_lambdas, .ref q_t_owners, .int t_version, .int t_terms, .int t_latestVersion, .int t_values, .ref q_t_kind, .ref q_t_number, .ref q_t_bytes, .ref q_t_part, .ref q_t_around, .ref q_t_many, .ref q_t_given, .int t_environments, .ref q_t_holds, .ref q_t_outer, .int t_frames, .ref q_t_frame, .ref q_t_first, .ref q_t_second, .int t_state, .int t_term, .int t_environment, .int t_value, .int t_budget, .int t_steps, .int t_costs, .int t_made, .int t_tells, .ref q_t_told, .int t_waiting, .ref q_t_what, .ref q_t_where, .ref q_t_inside])), (q_t_kind, .inl (cI, 700, .inl t_kind)), (q_t_number, .inl (cI, 700, .inl t_number)), (q_t_bytes, .inl (cL, 700, .inr (.inl t_bytes))), (q_t_part, .inl (cI, 700, .inl t_part)), (q_t_around, .inl (cI, 700, .inl t_around)), (q_t_many, .inl (cI, 700, .inl t_many)), (q_t_given, .inl (cI, 2100, .inl (upd t_given ((3 * v3) + v4).toNatClampNeg (t_given ((3 * v1) + v4).toNatClampNeg))))] H := hP
        have hD : va_D A [(q_t, .inr (8, [.int t_threw, .ref q_t_text, .int t_size, .int t_at, .int t_error, .int t_found, .ref q_t_tags, .ref q_t_subs, .ref q_t_numbers, .ref q_t_chars, .ref q_t_firsts, .ref q_t_seconds, .ref q_t_depths, .ref q_t_lambdas, .ref q_t_owners, .int t_version, .int t_terms, .int t_latestVersion, .int t_values, .ref q_t_kind, .ref q_t_number, .ref q_t_bytes, .ref q_t_part, .ref q_t_around, .ref q_t_many, .ref q_t_given, .int t_environments, .ref q_t_holds, .ref q_t_outer, .int t_frames, .ref q_t_frame, .ref q_t_first, .ref q_t_second, .int t_state, .int t_term, .int t_environment, .int t_value, .int t_budget, .int t_steps, .int t_costs, .int t_made, .int t_tells, .ref q_t_told, .int t_waiting, .ref q_t_what, .ref q_t_where, .ref q_t_inside])), (q_t_kind, .inl (cI, 700, .inl t_kind)), (q_t_number, .inl (cI, 700, .inl t_number)), (q_t_bytes, .inl (cL, 700, .inr (.inl t_bytes))), (q_t_part, .inl (cI, 700, .inl t_part)), (q_t_around, .inl (cI, 700, .inl t_around)), (q_t_many, .inl (cI, 700, .inl t_many)), (q_t_given, .inl (cI, 2100, .inl (upd t_given ((3 * v3) + v4).toNatClampNeg (t_given ((3 * v1) + v4).toNatClampNeg))))] := hD
        refine lv_iinc (k := 4) (v := v4 + 1) (lv' := [(4, .int (v4 + 1)), (0, .ref q_t), (1, .int v1), (2, .int v2), (3, .int v3)]) hx hb dX9_more_67 hl rfl rfl (by decide) rfl (fun ls hl => ?_)
        refine lv_goto hx hb dX9_more_70 rfl ?_
        exact ih34 _ _ _ _ _ _ _ _ _ _ _ _ _ _ _ hm (lv_sub hl [1, 2, 3, 4, 0] rfl) hP hD hS
  have L26 : ∀ (t_values : Int32) (t_kind t_number : Nat → Int32) (t_bytes : Nat → Int64) (t_part t_around t_many t_given : Nat → Int32) (v1 v2 z1 z2 z3 z4 z5 : Int32) (ls : Array Slot) (H : Heap) (locs : List Loc), M_MO_more_26 t_values t_kind t_number t_bytes t_part t_around t_many t_given v1 v2 z1 z2 z3 z4 z5 = some (r0, u_t_values, u_t_kind, u_t_number, u_t_bytes, u_t_part, u_t_around, u_t_many, u_t_given) → lv_has ls 5 [(0, .ref q_t), (1, .int v1), (2, .int v2)] → va_P (dC, dI) vwCl [(q_t, .inr (8, [.int t_threw, .ref q_t_text, .int t_size, .int t_at, .int t_error, .int t_found, .ref q_t_tags, .ref q_t_subs, .ref q_t_numbers, .ref q_t_chars, .ref q_t_firsts, .ref q_t_seconds, .ref q_t_depths, .ref q_t_lambdas, .ref q_t_owners, .int t_version, .int t_terms, .int t_latestVersion, .int t_values, .ref q_t_kind, .ref q_t_number, .ref q_t_bytes, .ref q_t_part, .ref q_t_around, .ref q_t_many, .ref q_t_given, .int t_environments, .ref q_t_holds, .ref q_t_outer, .int t_frames, .ref q_t_frame, .ref q_t_first, .ref q_t_second, .int t_state, .int t_term, .int t_environment, .int t_value, .int t_budget, .int t_steps, .int t_costs, .int t_made, .int t_tells, .ref q_t_told, .int t_waiting, .ref q_t_what, .ref q_t_where, .ref q_t_inside])), (q_t_kind, .inl (cI, 700, .inl t_kind)), (q_t_number, .inl (cI, 700, .inl t_number)), (q_t_bytes, .inl (cL, 700, .inr (.inl t_bytes))), (q_t_part, .inl (cI, 700, .inl t_part)), (q_t_around, .inl (cI, 700, .inl t_around)), (q_t_many, .inl (cI, 700, .inl t_many)), (q_t_given, .inl (cI, 2100, .inl t_given))] H → va_D A [(q_t, .inr (8, [.int t_threw, .ref q_t_text, .int t_size, .int t_at, .int t_error, .int t_found, .ref q_t_tags, .ref q_t_subs, .ref q_t_numbers, .ref q_t_chars, .ref q_t_firsts, .ref q_t_seconds, .ref q_t_depths, .ref q_t_lambdas, .ref q_t_owners, .int t_version, .int t_terms, .int t_latestVersion, .int t_values, .ref q_t_kind, .ref q_t_number, .ref q_t_bytes, .ref q_t_part, .ref q_t_around, .ref q_t_many, .ref q_t_given, .int t_environments, .ref q_t_holds, .ref q_t_outer, .int t_frames, .ref q_t_frame, .ref q_t_first, .ref q_t_second, .int t_state, .int t_term, .int t_environment, .int t_value, .int t_budget, .int t_steps, .int t_costs, .int t_made, .int t_tells, .ref q_t_told, .int t_waiting, .ref q_t_what, .ref q_t_where, .ref q_t_inside])), (q_t_kind, .inl (cI, 700, .inl t_kind)), (q_t_number, .inl (cI, 700, .inl t_number)), (q_t_bytes, .inl (cL, 700, .inr (.inl t_bytes))), (q_t_part, .inl (cI, 700, .inl t_part)), (q_t_around, .inl (cI, 700, .inl t_around)), (q_t_many, .inl (cI, 700, .inl t_many)), (q_t_given, .inl (cI, 2100, .inl t_given))] → va_S A s.heap H locs → W p l e ({ frames := 1, cells := 0, slots := 0, locals := 24 }) s m [.ref q_t, .int x1, .int x2].toArray below meth c H locs 0 0 Q (F0 m 26 ls [.int z5, .int z4, .int z3, .int z2, .int z1, .ref q_t]) := by
    intro t_values t_kind t_number t_bytes t_part t_around t_many t_given v1 v2 z1 z2 z3 z4 z5 ls H locs hm hl hP hD hS
    unfold M_MO_more_26 at hm
    refine lv_iadd hx hb dX9_more_26 ?_
    obtain ⟨r27, t_values_27, t_kind_27, t_number_27, t_bytes_27, t_part_27, t_around_27, t_many_27, e27, hm⟩ := c8_inv hm
    refine fr_i (wr := [(q_t_given, .inl (cI, 2100, .inl t_given))]) (w2 := [(q_t, .inr (8, [.int t_threw, .ref q_t_text, .int t_size, .int t_at, .int t_error, .int t_found, .ref q_t_tags, .ref q_t_subs, .ref q_t_numbers, .ref q_t_chars, .ref q_t_firsts, .ref q_t_seconds, .ref q_t_depths, .ref q_t_lambdas, .ref q_t_owners, .int t_version, .int t_terms, .int t_latestVersion, .int t_values_27, .ref q_t_kind, .ref q_t_number, .ref q_t_bytes, .ref q_t_part, .ref q_t_around, .ref q_t_many, .ref q_t_given, .int t_environments, .ref q_t_holds, .ref q_t_outer, .int t_frames, .ref q_t_frame, .ref q_t_first, .ref q_t_second, .int t_state, .int t_term, .int t_environment, .int t_value, .int t_budget, .int t_steps, .int t_costs, .int t_made, .int t_tells, .ref q_t_told, .int t_waiting, .ref q_t_what, .ref q_t_where, .ref q_t_inside])), (q_t_kind, .inl (cI, 700, .inl t_kind_27)), (q_t_number, .inl (cI, 700, .inl t_number_27)), (q_t_bytes, .inl (cL, 700, .inr (.inl t_bytes_27))), (q_t_part, .inl (cI, 700, .inl t_part_27)), (q_t_around, .inl (cI, 700, .inl t_around_27)), (q_t_many, .inl (cI, 700, .inl t_many_27)), (q_t_given, .inl (cI, 2100, .inl t_given))]) (va_runV (As := [.int z1, .int z2, .int z3, .int (z4 + z5)]) (rest := []) ⟨hx, hb, hml, hown, hts⟩ (c_MO_newValue l dC dI cI cL H.size q_t q_t_text q_t_tags q_t_subs q_t_numbers q_t_chars q_t_firsts q_t_seconds q_t_depths q_t_lambdas q_t_owners q_t_kind q_t_number q_t_bytes q_t_part q_t_around q_t_many q_t_given q_t_holds q_t_outer q_t_frame q_t_first q_t_second q_t_told q_t_what q_t_where q_t_inside t_threw t_size t_at t_error t_found t_version t_terms t_latestVersion t_values t_environments t_frames t_state t_term t_environment t_value t_budget t_steps t_costs t_made t_tells t_waiting t_kind t_number t_bytes t_part t_around t_many z1 z2 z3 (z4 + z5) r27 t_values_27 t_kind_27 t_number_27 t_bytes_27 t_part_27 t_around_27 t_many_27 e27) (kV 4 hts aw_958 rfl rfl aw_9 aw_955 aw_957 as_49 (by decide +kernel) ⟨Nat.le_of_ble_eq_true rfl, Nat.le_of_ble_eq_true rfl⟩) (fr_preV hK hP hD hS hA hZ [0, 1, 2, 3, 4, 5, 6] rfl rfl (ci := 8) (q0 := 0) rfl rfl) rfl rfl hl.1 rfl (lv_room (Nat.le_of_ble_eq_true rfl)) dX9_more_27 ⟨Nat.le_of_ble_eq_true rfl, Nat.le_of_ble_eq_true rfl⟩) hP hD hS hA [0, 1, 2, 3, 4, 5, 6] [7] [1, 2, 3, 4, 5, 6, 7, 0] rfl rfl rfl (by decide) rfl rfl (fun H locs hP hD hS => ?_)
    have hP : va_P (dC, dI) vwCl [(q_t, .inr (8, [.int t_threw, .ref q_t_text, .int t_size, .int t_at, .int t_error, .int t_found, .ref q_t_tags, .ref q_t_subs, .ref q_t_numbers, .ref q_t_chars, .ref q_t_firsts, .ref q_t_seconds, .ref q_t_depths, .ref q_t_lambdas, .ref q_t_owners, .int t_version, .int t_terms, .int t_latestVersion, .int t_values_27, .ref q_t_kind, .ref q_t_number, .ref q_t_bytes, .ref q_t_part, .ref q_t_around, .ref q_t_many, .ref q_t_given, .int t_environments, .ref q_t_holds, .ref q_t_outer, .int t_frames, .ref q_t_frame, .ref q_t_first, .ref q_t_second, .int t_state, .int t_term, .int t_environment, .int t_value, .int t_budget, .int t_steps, .int t_costs, .int t_made, .int t_tells, .ref q_t_told, .int t_waiting, .ref q_t_what, .ref q_t_where, .ref q_t_inside])), (q_t_kind, .inl (cI, 700, .inl t_kind_27)), (q_t_number, .inl (cI, 700, .inl t_number_27)), (q_t_bytes, .inl (cL, 700, .inr (.inl t_bytes_27))), (q_t_part, .inl (cI, 700, .inl t_part_27)), (q_t_around, .inl (cI, 700, .inl t_around_27)), (q_t_many, .inl (cI, 700, .inl t_many_27)), (q_t_given, .inl (cI, 2100, .inl t_given))] H := hP
    have hD : va_D A [(q_t, .inr (8, [.int t_threw, .ref q_t_text, .int t_size, .int t_at, .int t_error, .int t_found, .ref q_t_tags, .ref q_t_subs, .ref q_t_numbers, .ref q_t_chars, .ref q_t_firsts, .ref q_t_seconds, .ref q_t_depths, .ref q_t_lambdas, .ref q_t_owners, .int t_version, .int t_terms, .int t_latestVersion, .int t_values_27, .ref q_t_kind, .ref q_t_number, .ref q_t_bytes, .ref q_t_part, .ref q_t_around, .ref q_t_many, .ref q_t_given, .int t_environments, .ref q_t_holds, .ref q_t_outer, .int t_frames, .ref q_t_frame, .ref q_t_first, .ref q_t_second, .int t_state, .int t_term, .int t_environment, .int t_value, .int t_budget, .int t_steps, .int t_costs, .int t_made, .int t_tells, .ref q_t_told, .int t_waiting, .ref q_t_what, .ref q_t_where, .ref q_t_inside])), (q_t_kind, .inl (cI, 700, .inl t_kind_27)), (q_t_number, .inl (cI, 700, .inl t_number_27)), (q_t_bytes, .inl (cL, 700, .inr (.inl t_bytes_27))), (q_t_part, .inl (cI, 700, .inl t_part_27)), (q_t_around, .inl (cI, 700, .inl t_around_27)), (q_t_many, .inl (cI, 700, .inl t_many_27)), (q_t_given, .inl (cI, 2100, .inl t_given))] := hD
    refine lv_istore_n (lv' := [(3, .int r27), (0, .ref q_t), (1, .int v1), (2, .int v2)]) hx hb dX9_more_30 rfl hl (by decide) rfl (fun ls hl => ?_)
    refine lv_iconst (v := 0) hx hb dX9_more_31 (by decide) ?_
    refine lv_istore (lv' := [(4, .int 0), (3, .int r27), (0, .ref q_t), (1, .int v1), (2, .int v2)]) hx hb dX9_more_32 hl (by decide) rfl (fun ls hl => ?_)
    exact L34 _ _ _ _ _ _ _ _ _ _ _ _ _ _ _ _ hm (lv_sub hl [2, 3, 4, 1, 0] rfl) hP hD hS
  unfold M_MO_more at hm
  refine lv_aload_n hx hb dX9_more_0 rfl (lv_at hl 0 rfl) ?_
  refine lv_bipush (v := 6) hx hb dX9_more_1 (by decide) ?_
  refine lv_iconst (v := 0) hx hb dX9_more_3 (by decide) ?_
  refine lv_aload_n hx hb dX9_more_4 rfl (lv_at hl 0 rfl) ?_
  refine va_get (D := (dC, dI)) (ci := 8) (v := .ref q_t_part) (C := RX9) (T := TX9) (N := 47) hx hb hts hn0 hown hK hP 0 rfl rfl 22 (by decide) (htw _ aw_735) (fun _ h9 => h9) rfl dX9_more_5 ?_
  refine lv_iload_n hx hb dX9_more_8 rfl (lv_at hl 1 rfl) ?_
  obtain ⟨h9, hm⟩ := chk_inv hm
  refine va_iald (D := (dC, dI)) hx hb hK hP 4 0 rfl rfl (in_of (n := 700) (by decide) h9) dX9_more_9 ?_
  refine lv_aload_n hx hb dX9_more_10 rfl (lv_at hl 0 rfl) ?_
  refine va_get (D := (dC, dI)) (ci := 8) (v := .ref q_t_around) (C := RX9) (T := TX9) (N := 47) hx hb hts hn0 hown hK hP 0 rfl rfl 23 (by decide) (htw _ aw_736) (fun _ h9 => h9) rfl dX9_more_11 ?_
  refine lv_iload_n hx hb dX9_more_14 rfl (lv_at hl 1 rfl) ?_
  obtain ⟨h15, hm⟩ := chk_inv hm
  refine va_iald (D := (dC, dI)) hx hb hK hP 5 0 rfl rfl (in_of (n := 700) (by decide) h15) dX9_more_15 ?_
  refine lv_iload_n hx hb dX9_more_16 rfl (lv_at hl 2 rfl) ?_
  refine lv_iconst (v := (-1)) hx hb dX9_more_17 (by decide) ?_
  refine lv_icmp_ne hx hb dX9_more_18 rfl (fun h18 => ?_) (fun h18 => ?_)
  · replace hm := ifn h18 hm
    refine lv_iconst (v := 0) hx hb dX9_more_25 (by decide) ?_
    exact L26 _ _ _ _ _ _ _ _ _ _ _ _ _ _ _ _ _ _ hm (lv_sub hl [0, 1, 2] rfl) hP hD hS
  · replace hm := ifp h18 hm
    refine lv_iconst (v := 1) hx hb dX9_more_21 (by decide) ?_
    refine lv_goto hx hb dX9_more_22 rfl ?_
    exact L26 _ _ _ _ _ _ _ _ _ _ _ _ _ _ _ _ _ _ hm (lv_sub hl [0, 1, 2] rfl) hP hD hS
def M_MO_newBytes (t_values : Int32) (t_kind : Nat → Int32) (t_number : Nat → Int32) (t_bytes : Nat → Int64) (t_part : Nat → Int32) (t_around : Nat → Int32) (t_many : Nat → Int32) (x1 : Int32) (x2 : Int64) : Option (Int32 × Int32 × (Nat → Int32) × (Nat → Int32) × (Nat → Int64) × (Nat → Int32) × (Nat → Int32) × (Nat → Int32)) :=
  c8 (M_MO_newValue t_values t_kind t_number t_bytes t_part t_around t_many (3 : Int32) x1 (0 : Int32) (0 : Int32)) (fun r5 t_values_5 t_kind_5 t_number_5 t_bytes_5 t_part_5 t_around_5 t_many_5 =>
    chk ((0 : Int32) ≤ r5 ∧ r5 < 700) (some (r5, t_values_5, t_kind_5, t_number_5, vp_updL t_bytes_5 r5.toNatClampNeg x2, t_part_5, t_around_5, t_many_5)))
set_option maxHeartbeats 4000000 in
set_option maxRecDepth 100000 in
theorem c_MO_newBytes (l : Launch) (dC : Nat → ClassId) (dI : Nat → Nat → Nat) (cI cL : ClassId) (sz : Nat) (q_t q_t_text q_t_tags q_t_subs q_t_numbers q_t_chars q_t_firsts q_t_seconds q_t_depths q_t_lambdas q_t_owners q_t_kind q_t_number q_t_bytes q_t_part q_t_around q_t_many q_t_given q_t_holds q_t_outer q_t_frame q_t_first q_t_second q_t_told q_t_what q_t_where q_t_inside : Nat) (t_threw t_size t_at t_error t_found t_version t_terms t_latestVersion t_values t_environments t_frames t_state t_term t_environment t_value t_budget t_steps t_costs t_made t_tells t_waiting : Int32) (t_kind t_number : Nat → Int32) (t_bytes : Nat → Int64) (t_part t_around t_many : Nat → Int32) (x1 : Int32) (x2 : Int64) (r0 u_t_values : Int32) (u_t_kind u_t_number : Nat → Int32) (u_t_bytes : Nat → Int64) (u_t_part u_t_around u_t_many : Nat → Int32) (hm : M_MO_newBytes t_values t_kind t_number t_bytes t_part t_around t_many x1 x2 = some (r0, u_t_values, u_t_kind, u_t_number, u_t_bytes, u_t_part, u_t_around, u_t_many)) : Met l yX9_newBytes wsX9_newBytes ({ frames := 1, cells := 0, slots := 0, locals := 24 }) (frPc (dC, dI) vwCl [(cI, .int), (cL, .long)] [(q_t, .inr (8, [.int t_threw, .ref q_t_text, .int t_size, .int t_at, .int t_error, .int t_found, .ref q_t_tags, .ref q_t_subs, .ref q_t_numbers, .ref q_t_chars, .ref q_t_firsts, .ref q_t_seconds, .ref q_t_depths, .ref q_t_lambdas, .ref q_t_owners, .int t_version, .int t_terms, .int t_latestVersion, .int t_values, .ref q_t_kind, .ref q_t_number, .ref q_t_bytes, .ref q_t_part, .ref q_t_around, .ref q_t_many, .ref q_t_given, .int t_environments, .ref q_t_holds, .ref q_t_outer, .int t_frames, .ref q_t_frame, .ref q_t_first, .ref q_t_second, .int t_state, .int t_term, .int t_environment, .int t_value, .int t_budget, .int t_steps, .int t_costs, .int t_made, .int t_tells, .ref q_t_told, .int t_waiting, .ref q_t_what, .ref q_t_where, .ref q_t_inside])), (q_t_kind, .inl (cI, 700, .inl t_kind)), (q_t_number, .inl (cI, 700, .inl t_number)), (q_t_bytes, .inl (cL, 700, .inr (.inl t_bytes))), (q_t_part, .inl (cI, 700, .inl t_part)), (q_t_around, .inl (cI, 700, .inl t_around)), (q_t_many, .inl (cI, 700, .inl t_many))] sz [.ref q_t, .int x1, .long x2]) (va_Qi (fun (r : Int32) (_ : Unit) => r = r0) (frB (dC, dI) vwCl [(cI, .int), (cL, .long)] (va_A [(q_t, .inr (8, [.int t_threw, .ref q_t_text, .int t_size, .int t_at, .int t_error, .int t_found, .ref q_t_tags, .ref q_t_subs, .ref q_t_numbers, .ref q_t_chars, .ref q_t_firsts, .ref q_t_seconds, .ref q_t_depths, .ref q_t_lambdas, .ref q_t_owners, .int t_version, .int t_terms, .int t_latestVersion, .int t_values, .ref q_t_kind, .ref q_t_number, .ref q_t_bytes, .ref q_t_part, .ref q_t_around, .ref q_t_many, .ref q_t_given, .int t_environments, .ref q_t_holds, .ref q_t_outer, .int t_frames, .ref q_t_frame, .ref q_t_first, .ref q_t_second, .int t_state, .int t_term, .int t_environment, .int t_value, .int t_budget, .int t_steps, .int t_costs, .int t_made, .int t_tells, .ref q_t_told, .int t_waiting, .ref q_t_what, .ref q_t_where, .ref q_t_inside])), (q_t_kind, .inl (cI, 700, .inl t_kind)), (q_t_number, .inl (cI, 700, .inl t_number)), (q_t_bytes, .inl (cL, 700, .inr (.inl t_bytes))), (q_t_part, .inl (cI, 700, .inl t_part)), (q_t_around, .inl (cI, 700, .inl t_around)), (q_t_many, .inl (cI, 700, .inl t_many))] sz) [(q_t, .inr (8, [.int t_threw, .ref q_t_text, .int t_size, .int t_at, .int t_error, .int t_found, .ref q_t_tags, .ref q_t_subs, .ref q_t_numbers, .ref q_t_chars, .ref q_t_firsts, .ref q_t_seconds, .ref q_t_depths, .ref q_t_lambdas, .ref q_t_owners, .int t_version, .int t_terms, .int t_latestVersion, .int u_t_values, .ref q_t_kind, .ref q_t_number, .ref q_t_bytes, .ref q_t_part, .ref q_t_around, .ref q_t_many, .ref q_t_given, .int t_environments, .ref q_t_holds, .ref q_t_outer, .int t_frames, .ref q_t_frame, .ref q_t_first, .ref q_t_second, .int t_state, .int t_term, .int t_environment, .int t_value, .int t_budget, .int t_steps, .int t_costs, .int t_made, .int t_tells, .ref q_t_told, .int t_waiting, .ref q_t_what, .ref q_t_where, .ref q_t_inside])), (q_t_kind, .inl (cI, 700, .inl u_t_kind)), (q_t_number, .inl (cI, 700, .inl u_t_number)), (q_t_bytes, .inl (cL, 700, .inr (.inl u_t_bytes))), (q_t_part, .inl (cI, 700, .inl u_t_part)), (q_t_around, .inl (cI, 700, .inl u_t_around)), (q_t_many, .inl (cI, 700, .inl u_t_many))]) (va_A [(q_t, .inr (8, [.int t_threw, .ref q_t_text, .int t_size, .int t_at, .int t_error, .int t_found, .ref q_t_tags, .ref q_t_subs, .ref q_t_numbers, .ref q_t_chars, .ref q_t_firsts, .ref q_t_seconds, .ref q_t_depths, .ref q_t_lambdas, .ref q_t_owners, .int t_version, .int t_terms, .int t_latestVersion, .int t_values, .ref q_t_kind, .ref q_t_number, .ref q_t_bytes, .ref q_t_part, .ref q_t_around, .ref q_t_many, .ref q_t_given, .int t_environments, .ref q_t_holds, .ref q_t_outer, .int t_frames, .ref q_t_frame, .ref q_t_first, .ref q_t_second, .int t_state, .int t_term, .int t_environment, .int t_value, .int t_budget, .int t_steps, .int t_costs, .int t_made, .int t_tells, .ref q_t_told, .int t_waiting, .ref q_t_what, .ref q_t_where, .ref q_t_inside])), (q_t_kind, .inl (cI, 700, .inl t_kind)), (q_t_number, .inl (cI, 700, .inl t_number)), (q_t_bytes, .inl (cL, 700, .inr (.inl t_bytes))), (q_t_part, .inl (cI, 700, .inl t_part)), (q_t_around, .inl (cI, 700, .inl t_around)), (q_t_many, .inl (cI, 700, .inl t_many))] sz)) 0 0 (va_A [(q_t, .inr (8, [.int t_threw, .ref q_t_text, .int t_size, .int t_at, .int t_error, .int t_found, .ref q_t_tags, .ref q_t_subs, .ref q_t_numbers, .ref q_t_chars, .ref q_t_firsts, .ref q_t_seconds, .ref q_t_depths, .ref q_t_lambdas, .ref q_t_owners, .int t_version, .int t_terms, .int t_latestVersion, .int t_values, .ref q_t_kind, .ref q_t_number, .ref q_t_bytes, .ref q_t_part, .ref q_t_around, .ref q_t_many, .ref q_t_given, .int t_environments, .ref q_t_holds, .ref q_t_outer, .int t_frames, .ref q_t_frame, .ref q_t_first, .ref q_t_second, .int t_state, .int t_term, .int t_environment, .int t_value, .int t_budget, .int t_steps, .int t_costs, .int t_made, .int t_tells, .ref q_t_told, .int t_waiting, .ref q_t_what, .ref q_t_where, .ref q_t_inside])), (q_t_kind, .inl (cI, 700, .inl t_kind)), (q_t_number, .inl (cI, 700, .inl t_number)), (q_t_bytes, .inl (cL, 700, .inr (.inl t_bytes))), (q_t_part, .inl (cI, 700, .inl t_part)), (q_t_around, .inl (cI, 700, .inl t_around)), (q_t_many, .inl (cI, 700, .inl t_many))] sz) := by
  refine Met.ofW (cc := cX9_newBytes) (maxL := 5) (ret := (some .int)) (by decide) rfl ?_
  intro p e s m args below meth c s₁ B hml hv
  obtain ⟨rfl, hsz, hP, hK, hD0, hZ⟩ := hv
  have hx := B.exec
  have hb := B.bytes
  have hr := B.returns
  have hts := atoms_spec (ws := wsX9_newBytes) B.pre
  have hown : s.vm.findClass RX9 = some m.cls := findClass_of_methodNamed B.named
  have hlocks := B.notSynchronized
  subst hsz
  have hD := hD0.self (sz := s.heap.size)
  generalize hAe : va_A [(q_t, .inr (8, [.int t_threw, .ref q_t_text, .int t_size, .int t_at, .int t_error, .int t_found, .ref q_t_tags, .ref q_t_subs, .ref q_t_numbers, .ref q_t_chars, .ref q_t_firsts, .ref q_t_seconds, .ref q_t_depths, .ref q_t_lambdas, .ref q_t_owners, .int t_version, .int t_terms, .int t_latestVersion, .int t_values, .ref q_t_kind, .ref q_t_number, .ref q_t_bytes, .ref q_t_part, .ref q_t_around, .ref q_t_many, .ref q_t_given, .int t_environments, .ref q_t_holds, .ref q_t_outer, .int t_frames, .ref q_t_frame, .ref q_t_first, .ref q_t_second, .int t_state, .int t_term, .int t_environment, .int t_value, .int t_budget, .int t_steps, .int t_costs, .int t_made, .int t_tells, .ref q_t_told, .int t_waiting, .ref q_t_what, .ref q_t_where, .ref q_t_inside])), (q_t_kind, .inl (cI, 700, .inl t_kind)), (q_t_number, .inl (cI, 700, .inl t_number)), (q_t_bytes, .inl (cL, 700, .inr (.inl t_bytes))), (q_t_part, .inl (cI, 700, .inl t_part)), (q_t_around, .inl (cI, 700, .inl t_around)), (q_t_many, .inl (cI, 700, .inl t_many))] s.heap.size = A at hD hZ ⊢
  have hA : ∀ q : Nat, s.heap.size ≤ q → A q := fun q h => by rw [← hAe]; exact Or.inr h
  have hS : va_S A s.heap s.heap [] := va_S.rf
  have hP : va_P (dC, dI) vwCl [(q_t, .inr (8, [.int t_threw, .ref q_t_text, .int t_size, .int t_at, .int t_error, .int t_found, .ref q_t_tags, .ref q_t_subs, .ref q_t_numbers, .ref q_t_chars, .ref q_t_firsts, .ref q_t_seconds, .ref q_t_depths, .ref q_t_lambdas, .ref q_t_owners, .int t_version, .int t_terms, .int t_latestVersion, .int t_values, .ref q_t_kind, .ref q_t_number, .ref q_t_bytes, .ref q_t_part, .ref q_t_around, .ref q_t_many, .ref q_t_given, .int t_environments, .ref q_t_holds, .ref q_t_outer, .int t_frames, .ref q_t_frame, .ref q_t_first, .ref q_t_second, .int t_state, .int t_term, .int t_environment, .int t_value, .int t_budget, .int t_steps, .int t_costs, .int t_made, .int t_tells, .ref q_t_told, .int t_waiting, .ref q_t_what, .ref q_t_where, .ref q_t_inside])), (q_t_kind, .inl (cI, 700, .inl t_kind)), (q_t_number, .inl (cI, 700, .inl t_number)), (q_t_bytes, .inl (cL, 700, .inr (.inl t_bytes))), (q_t_part, .inl (cI, 700, .inl t_part)), (q_t_around, .inl (cI, 700, .inl t_around)), (q_t_many, .inl (cI, 700, .inl t_many))] s.heap := hP
  have hl := lv_entry ([.ref q_t, .int x1, .long x2]) (n := 5) (Nat.le_of_ble_eq_true rfl)
  rw [lg_entry_eq]
  generalize (lg_sl ([.ref q_t, .int x1, .long x2]) ++ List.replicate (5 - (lg_sl ([.ref q_t, .int x1, .long x2])).length) Slot.unset).toArray = ls at hl ⊢
  have hl : lv_has ls 5 [(0, .ref q_t), (1, .int x1), (2, .long x2)] := hl
  refine wq hP hS (fun Q hQ H locs hP hS => ?_)
  have htw : ∀ w ∈ AW, w.before _ s = true := fun w h => hts w (List.mem_cons_of_mem _ h)
  have hn0 : ∀ w ∈ wsX90, w ∈ wsX9_newBytes := fun w h => List.mem_cons_of_mem _ (inX9 w h)
  unfold M_MO_newBytes at hm
  refine lv_aload_n hx hb dX9_newBytes_0 rfl (lv_at hl 0 rfl) ?_
  refine lv_iconst (v := 3) hx hb dX9_newBytes_1 (by decide) ?_
  refine lv_iload_n hx hb dX9_newBytes_2 rfl (lv_at hl 1 rfl) ?_
  refine lv_iconst (v := 0) hx hb dX9_newBytes_3 (by decide) ?_
  refine lv_iconst (v := 0) hx hb dX9_newBytes_4 (by decide) ?_
  obtain ⟨r5, t_values_5, t_kind_5, t_number_5, t_bytes_5, t_part_5, t_around_5, t_many_5, e5, hm⟩ := c8_inv hm
  refine fr_i (wr := []) (w2 := [(q_t, .inr (8, [.int t_threw, .ref q_t_text, .int t_size, .int t_at, .int t_error, .int t_found, .ref q_t_tags, .ref q_t_subs, .ref q_t_numbers, .ref q_t_chars, .ref q_t_firsts, .ref q_t_seconds, .ref q_t_depths, .ref q_t_lambdas, .ref q_t_owners, .int t_version, .int t_terms, .int t_latestVersion, .int t_values_5, .ref q_t_kind, .ref q_t_number, .ref q_t_bytes, .ref q_t_part, .ref q_t_around, .ref q_t_many, .ref q_t_given, .int t_environments, .ref q_t_holds, .ref q_t_outer, .int t_frames, .ref q_t_frame, .ref q_t_first, .ref q_t_second, .int t_state, .int t_term, .int t_environment, .int t_value, .int t_budget, .int t_steps, .int t_costs, .int t_made, .int t_tells, .ref q_t_told, .int t_waiting, .ref q_t_what, .ref q_t_where, .ref q_t_inside])), (q_t_kind, .inl (cI, 700, .inl t_kind_5)), (q_t_number, .inl (cI, 700, .inl t_number_5)), (q_t_bytes, .inl (cL, 700, .inr (.inl t_bytes_5))), (q_t_part, .inl (cI, 700, .inl t_part_5)), (q_t_around, .inl (cI, 700, .inl t_around_5)), (q_t_many, .inl (cI, 700, .inl t_many_5))]) (va_runV (As := [.int 3, .int x1, .int 0, .int 0]) (rest := []) ⟨hx, hb, hml, hown, hts⟩ (c_MO_newValue l dC dI cI cL H.size q_t q_t_text q_t_tags q_t_subs q_t_numbers q_t_chars q_t_firsts q_t_seconds q_t_depths q_t_lambdas q_t_owners q_t_kind q_t_number q_t_bytes q_t_part q_t_around q_t_many q_t_given q_t_holds q_t_outer q_t_frame q_t_first q_t_second q_t_told q_t_what q_t_where q_t_inside t_threw t_size t_at t_error t_found t_version t_terms t_latestVersion t_values t_environments t_frames t_state t_term t_environment t_value t_budget t_steps t_costs t_made t_tells t_waiting t_kind t_number t_bytes t_part t_around t_many (3 : Int32) x1 (0 : Int32) (0 : Int32) r5 t_values_5 t_kind_5 t_number_5 t_bytes_5 t_part_5 t_around_5 t_many_5 e5) (kV 4 hts aw_958 rfl rfl aw_9 aw_955 aw_957 as_49 (by decide +kernel) ⟨Nat.le_of_ble_eq_true rfl, Nat.le_of_ble_eq_true rfl⟩) (fr_preV hK hP hD hS hA hZ [0, 1, 2, 3, 4, 5, 6] rfl rfl (ci := 8) (q0 := 0) rfl rfl) rfl rfl hl.1 rfl (lv_room (Nat.le_of_ble_eq_true rfl)) dX9_newBytes_5 ⟨Nat.le_of_ble_eq_true rfl, Nat.le_of_ble_eq_true rfl⟩) hP hD hS hA [0, 1, 2, 3, 4, 5, 6] [] [0, 1, 2, 3, 4, 5, 6] rfl rfl rfl (by decide) rfl rfl (fun H locs hP hD hS => ?_)
  have hP : va_P (dC, dI) vwCl [(q_t, .inr (8, [.int t_threw, .ref q_t_text, .int t_size, .int t_at, .int t_error, .int t_found, .ref q_t_tags, .ref q_t_subs, .ref q_t_numbers, .ref q_t_chars, .ref q_t_firsts, .ref q_t_seconds, .ref q_t_depths, .ref q_t_lambdas, .ref q_t_owners, .int t_version, .int t_terms, .int t_latestVersion, .int t_values_5, .ref q_t_kind, .ref q_t_number, .ref q_t_bytes, .ref q_t_part, .ref q_t_around, .ref q_t_many, .ref q_t_given, .int t_environments, .ref q_t_holds, .ref q_t_outer, .int t_frames, .ref q_t_frame, .ref q_t_first, .ref q_t_second, .int t_state, .int t_term, .int t_environment, .int t_value, .int t_budget, .int t_steps, .int t_costs, .int t_made, .int t_tells, .ref q_t_told, .int t_waiting, .ref q_t_what, .ref q_t_where, .ref q_t_inside])), (q_t_kind, .inl (cI, 700, .inl t_kind_5)), (q_t_number, .inl (cI, 700, .inl t_number_5)), (q_t_bytes, .inl (cL, 700, .inr (.inl t_bytes_5))), (q_t_part, .inl (cI, 700, .inl t_part_5)), (q_t_around, .inl (cI, 700, .inl t_around_5)), (q_t_many, .inl (cI, 700, .inl t_many_5))] H := hP
  have hD : va_D A [(q_t, .inr (8, [.int t_threw, .ref q_t_text, .int t_size, .int t_at, .int t_error, .int t_found, .ref q_t_tags, .ref q_t_subs, .ref q_t_numbers, .ref q_t_chars, .ref q_t_firsts, .ref q_t_seconds, .ref q_t_depths, .ref q_t_lambdas, .ref q_t_owners, .int t_version, .int t_terms, .int t_latestVersion, .int t_values_5, .ref q_t_kind, .ref q_t_number, .ref q_t_bytes, .ref q_t_part, .ref q_t_around, .ref q_t_many, .ref q_t_given, .int t_environments, .ref q_t_holds, .ref q_t_outer, .int t_frames, .ref q_t_frame, .ref q_t_first, .ref q_t_second, .int t_state, .int t_term, .int t_environment, .int t_value, .int t_budget, .int t_steps, .int t_costs, .int t_made, .int t_tells, .ref q_t_told, .int t_waiting, .ref q_t_what, .ref q_t_where, .ref q_t_inside])), (q_t_kind, .inl (cI, 700, .inl t_kind_5)), (q_t_number, .inl (cI, 700, .inl t_number_5)), (q_t_bytes, .inl (cL, 700, .inr (.inl t_bytes_5))), (q_t_part, .inl (cI, 700, .inl t_part_5)), (q_t_around, .inl (cI, 700, .inl t_around_5)), (q_t_many, .inl (cI, 700, .inl t_many_5))] := hD
  refine lv_istore (lv' := [(4, .int r5), (0, .ref q_t), (1, .int x1), (2, .long x2)]) hx hb dX9_newBytes_8 hl (by decide) rfl (fun ls hl => ?_)
  refine lv_aload_n hx hb dX9_newBytes_10 rfl (lv_at hl 1 rfl) ?_
  refine va_get (D := (dC, dI)) (ci := 8) (v := .ref q_t_bytes) (C := RX9) (T := TX9) (N := 47) hx hb hts hn0 hown hK hP 0 rfl rfl 21 (by decide) (htw _ aw_734) (fun _ h9 => h9) rfl dX9_newBytes_11 ?_
  refine lv_iload hx hb dX9_newBytes_14 (lv_at hl 0 rfl) ?_
  refine lv_lload_n hx hb dX9_newBytes_16 rfl (lv_at hl 3 rfl) ?_
  obtain ⟨h17, hm⟩ := chk_inv hm
  refine va_last (D := (dC, dI)) hx hb hK hP hD hS 3 1 rfl rfl (in_of (n := 700) (by decide) h17) dX9_newBytes_17 (fun H locs hP hD hS => ?_)
  have hP : va_P (dC, dI) vwCl [(q_t, .inr (8, [.int t_threw, .ref q_t_text, .int t_size, .int t_at, .int t_error, .int t_found, .ref q_t_tags, .ref q_t_subs, .ref q_t_numbers, .ref q_t_chars, .ref q_t_firsts, .ref q_t_seconds, .ref q_t_depths, .ref q_t_lambdas, .ref q_t_owners, .int t_version, .int t_terms, .int t_latestVersion, .int t_values_5, .ref q_t_kind, .ref q_t_number, .ref q_t_bytes, .ref q_t_part, .ref q_t_around, .ref q_t_many, .ref q_t_given, .int t_environments, .ref q_t_holds, .ref q_t_outer, .int t_frames, .ref q_t_frame, .ref q_t_first, .ref q_t_second, .int t_state, .int t_term, .int t_environment, .int t_value, .int t_budget, .int t_steps, .int t_costs, .int t_made, .int t_tells, .ref q_t_told, .int t_waiting, .ref q_t_what, .ref q_t_where, .ref q_t_inside])), (q_t_kind, .inl (cI, 700, .inl t_kind_5)), (q_t_number, .inl (cI, 700, .inl t_number_5)), (q_t_bytes, .inl (cL, 700, .inr (.inl (vp_updL t_bytes_5 r5.toNatClampNeg x2)))), (q_t_part, .inl (cI, 700, .inl t_part_5)), (q_t_around, .inl (cI, 700, .inl t_around_5)), (q_t_many, .inl (cI, 700, .inl t_many_5))] H := hP
  have hD : va_D A [(q_t, .inr (8, [.int t_threw, .ref q_t_text, .int t_size, .int t_at, .int t_error, .int t_found, .ref q_t_tags, .ref q_t_subs, .ref q_t_numbers, .ref q_t_chars, .ref q_t_firsts, .ref q_t_seconds, .ref q_t_depths, .ref q_t_lambdas, .ref q_t_owners, .int t_version, .int t_terms, .int t_latestVersion, .int t_values_5, .ref q_t_kind, .ref q_t_number, .ref q_t_bytes, .ref q_t_part, .ref q_t_around, .ref q_t_many, .ref q_t_given, .int t_environments, .ref q_t_holds, .ref q_t_outer, .int t_frames, .ref q_t_frame, .ref q_t_first, .ref q_t_second, .int t_state, .int t_term, .int t_environment, .int t_value, .int t_budget, .int t_steps, .int t_costs, .int t_made, .int t_tells, .ref q_t_told, .int t_waiting, .ref q_t_what, .ref q_t_where, .ref q_t_inside])), (q_t_kind, .inl (cI, 700, .inl t_kind_5)), (q_t_number, .inl (cI, 700, .inl t_number_5)), (q_t_bytes, .inl (cL, 700, .inr (.inl (vp_updL t_bytes_5 r5.toNatClampNeg x2)))), (q_t_part, .inl (cI, 700, .inl t_part_5)), (q_t_around, .inl (cI, 700, .inl t_around_5)), (q_t_many, .inl (cI, 700, .inl t_many_5))] := hD
  refine lv_iload hx hb dX9_newBytes_18 (lv_at hl 0 rfl) ?_
  obtain ⟨rfl, rfl, rfl, rfl, rfl, rfl, rfl, rfl⟩ := ij8 hm
  subst hQ
  exact W.iret hx hb hr (fun t ht hW => ⟨⟨_, (), rfl, rfl, by rw [ht]; exact hP, va_K.moved hW.alike hK, hD⟩, hS.F ht⟩) hS.2.2 dX9_newBytes_20
def M_MO_result_235 (t_given : Nat → Int32) (t_values : Int32) (t_kind : Nat → Int32) (t_number : Nat → Int32) (t_bytes : Nat → Int64) (t_part : Nat → Int32) (t_around : Nat → Int32) (t_many : Nat → Int32) (z1 : Int32) (z2 : Int32) : Option (Int32 × Int32 × (Nat → Int32) × (Nat → Int32) × (Nat → Int64) × (Nat → Int32) × (Nat → Int32) × (Nat → Int32)) :=
  c8 (M_MO_newValue t_values t_kind t_number t_bytes t_part t_around t_many z1 z2 (0 : Int32) (0 : Int32)) (fun r237 t_values_237 t_kind_237 t_number_237 t_bytes_237 t_part_237 t_around_237 t_many_237 =>
    some (r237, t_values_237, t_kind_237, t_number_237, t_bytes_237, t_part_237, t_around_237, t_many_237))
def M_MO_result_221 (t_given : Nat → Int32) (t_values : Int32) (t_kind : Nat → Int32) (t_number : Nat → Int32) (t_bytes : Nat → Int64) (t_part : Nat → Int32) (t_around : Nat → Int32) (t_many : Nat → Int32) (z0 : Int32) : Option (Int32 × Int32 × (Nat → Int32) × (Nat → Int32) × (Nat → Int64) × (Nat → Int32) × (Nat → Int32) × (Nat → Int32)) :=
  (if z0 = 0 then
    M_MO_result_235 t_given t_values t_kind t_number t_bytes t_part t_around t_many 1 0
  else
    M_MO_result_235 t_given t_values t_kind t_number t_bytes t_part t_around t_many 1 1)
def M_MO_result_220 (t_given : Nat → Int32) (t_values : Int32) (t_kind : Nat → Int32) (t_number : Nat → Int32) (t_bytes : Nat → Int64) (t_part : Nat → Int32) (t_around : Nat → Int32) (t_many : Nat → Int32) : Option (Int32 × Int32 × (Nat → Int32) × (Nat → Int32) × (Nat → Int64) × (Nat → Int32) × (Nat → Int32) × (Nat → Int32)) :=
  M_MO_result_221 t_given t_values t_kind t_number t_bytes t_part t_around t_many 0
def M_MO_result_148 (t_given : Nat → Int32) (t_values : Int32) (t_kind : Nat → Int32) (t_number : Nat → Int32) (t_bytes : Nat → Int64) (t_part : Nat → Int32) (t_around : Nat → Int32) (t_many : Nat → Int32) (v3 : Int32) (v4 : Int32) (v5 : Int32) (v6 : Int64) (v8 : Int64) : Option (Int32 × Int32 × (Nat → Int32) × (Nat → Int32) × (Nat → Int64) × (Nat → Int32) × (Nat → Int32) × (Nat → Int32)) :=
  (if v3 = 4 then
    (if (lg_cmp v6 v8) = 0 then
      M_MO_result_221 t_given t_values t_kind t_number t_bytes t_part t_around t_many 1
    else
      M_MO_result_221 t_given t_values t_kind t_number t_bytes t_part t_around t_many 0)
  else
    (if v3 = 5 then
      (if 0 ≤ (lg_cmp v6 v8) then
        M_MO_result_221 t_given t_values t_kind t_number t_bytes t_part t_around t_many 0
      else
        M_MO_result_221 t_given t_values t_kind t_number t_bytes t_part t_around t_many 1)
    else
      (if (lg_cmp v6 v8) = 0 then
        chk ((0 : Int32) ≤ v4 ∧ v4 < 700) (chk ((0 : Int32) ≤ v5 ∧ v5 < 700) ((if (lg_cmp (t_bytes v4.toNatClampNeg) (t_bytes v5.toNatClampNeg)) = 0 then
          M_MO_result_221 t_given t_values t_kind t_number t_bytes t_part t_around t_many 1
        else
          M_MO_result_220 t_given t_values t_kind t_number t_bytes t_part t_around t_many)))
      else
        M_MO_result_220 t_given t_values t_kind t_number t_bytes t_part t_around t_many)))
def M_MO_result_321 (t_given : Nat → Int32) (t_values : Int32) (t_kind : Nat → Int32) (t_number : Nat → Int32) (t_bytes : Nat → Int64) (t_part : Nat → Int32) (t_around : Nat → Int32) (t_many : Nat → Int32) (z0 : Int64) : Option (Int32 × Int32 × (Nat → Int32) × (Nat → Int32) × (Nat → Int64) × (Nat → Int32) × (Nat → Int32) × (Nat → Int32)) :=
  c8 (M_MO_newValue t_values t_kind t_number t_bytes t_part t_around t_many (0 : Int32) z0.toInt32 (0 : Int32) (0 : Int32)) (fun r330 t_values_330 t_kind_330 t_number_330 t_bytes_330 t_part_330 t_around_330 t_many_330 =>
    some (r330, t_values_330, t_kind_330, t_number_330, t_bytes_330, t_part_330, t_around_330, t_many_330))
def M_MO_result_127 (t_given : Nat → Int32) (t_values : Int32) (t_kind : Nat → Int32) (t_number : Nat → Int32) (t_bytes : Nat → Int64) (t_part : Nat → Int32) (t_around : Nat → Int32) (t_many : Nat → Int32) (z1 : Int32) (z2 : Int64) (z3 : Int64) : Option (Int32 × Int32 × (Nat → Int32) × (Nat → Int32) × (Nat → Int64) × (Nat → Int32) × (Nat → Int32) × (Nat → Int32)) :=
  c8 (M_MO_newBytes t_values t_kind t_number t_bytes t_part t_around t_many z1 (z2 ||| z3)) (fun r128 t_values_128 t_kind_128 t_number_128 t_bytes_128 t_part_128 t_around_128 t_many_128 =>
    some (r128, t_values_128, t_kind_128, t_number_128, t_bytes_128, t_part_128, t_around_128, t_many_128))
def M_MO_result (t_values : Int32) (t_kind : Nat → Int32) (t_number : Nat → Int32) (t_bytes : Nat → Int64) (t_part : Nat → Int32) (t_around : Nat → Int32) (t_many : Nat → Int32) (t_given : Nat → Int32) (x1 : Int32) (x2 : Int32) : Option (Int32 × Int32 × (Nat → Int32) × (Nat → Int32) × (Nat → Int64) × (Nat → Int32) × (Nat → Int32) × (Nat → Int32)) :=
  chk ((0 : Int32) ≤ x1 ∧ x1 < 700) (c1 (M_MO_argument t_many t_given x1 x2 (0 : Int32)) (fun r11 =>
    c1 (M_MO_argument t_many t_given x1 x2 (1 : Int32)) (fun r20 =>
      chk ((0 : Int32) ≤ r11 ∧ r11 < 700) (chk ((0 : Int32) ≤ r20 ∧ r20 < 700) ((if (t_part x1.toNatClampNeg) = 6 then
        (if (lg_cmp ((t_number r11.toNatClampNeg).toInt64) 1) = 0 then
          some (r20, t_values, t_kind, t_number, t_bytes, t_part, t_around, t_many)
        else
          c1 (M_MO_argument t_many t_given x1 x2 (2 : Int32)) (fun r67 =>
            some (r67, t_values, t_kind, t_number, t_bytes, t_part, t_around, t_many)))
      else
        (if (t_part x1.toNatClampNeg) = 10 then
          some (r20, t_values, t_kind, t_number, t_bytes, t_part, t_around, t_many)
        else
          (if (t_part x1.toNatClampNeg) = 7 then
            chk ((0 : Int32) ≤ r11 ∧ r11 < 700) ((if 0 ≤ (lg_cmp ((t_number r11.toNatClampNeg).toInt64) 7) then
              M_MO_result_127 t_given t_values t_kind t_number t_bytes t_part t_around t_many ((((t_number r11.toNatClampNeg).toInt64) + ((t_number r20.toNatClampNeg).toInt64)).toInt32) (t_bytes r11.toNatClampNeg) 0
            else
              chk ((0 : Int32) ≤ r20 ∧ r20 < 700) (M_MO_result_127 t_given t_values t_kind t_number t_bytes t_part t_around t_many ((((t_number r11.toNatClampNeg).toInt64) + ((t_number r20.toNatClampNeg).toInt64)).toInt32) (t_bytes r11.toNatClampNeg) ((t_bytes r20.toNatClampNeg) <<< ((8 * (((t_number r11.toNatClampNeg).toInt64).toInt32)).toInt64 &&& 63)))))
          else
            (if (t_part x1.toNatClampNeg) = 4 then
              M_MO_result_148 t_given t_values t_kind t_number t_bytes t_part t_around t_many (t_part x1.toNatClampNeg) r11 r20 ((t_number r11.toNatClampNeg).toInt64) ((t_number r20.toNatClampNeg).toInt64)
            else
              (if (t_part x1.toNatClampNeg) = 5 then
                M_MO_result_148 t_given t_values t_kind t_number t_bytes t_part t_around t_many (t_part x1.toNatClampNeg) r11 r20 ((t_number r11.toNatClampNeg).toInt64) ((t_number r20.toNatClampNeg).toInt64)
              else
                (if (t_part x1.toNatClampNeg) = 11 then
                  M_MO_result_148 t_given t_values t_kind t_number t_bytes t_part t_around t_many (t_part x1.toNatClampNeg) r11 r20 ((t_number r11.toNatClampNeg).toInt64) ((t_number r20.toNatClampNeg).toInt64)
                else
                  (if (t_part x1.toNatClampNeg) = 0 then
                    M_MO_result_321 t_given t_values t_kind t_number t_bytes t_part t_around t_many (((t_number r11.toNatClampNeg).toInt64) + ((t_number r20.toNatClampNeg).toInt64))
                  else
                    (if (t_part x1.toNatClampNeg) = 1 then
                      M_MO_result_321 t_given t_values t_kind t_number t_bytes t_part t_around t_many (((t_number r11.toNatClampNeg).toInt64) - ((t_number r20.toNatClampNeg).toInt64))
                    else
                      (if (t_part x1.toNatClampNeg) = 2 then
                        M_MO_result_321 t_given t_values t_kind t_number t_bytes t_part t_around t_many (((t_number r11.toNatClampNeg).toInt64) * ((t_number r20.toNatClampNeg).toInt64))
                      else
                        (if (t_part x1.toNatClampNeg) = 3 then
                          chk (¬ ((t_number r20.toNatClampNeg).toInt64) = 0) (M_MO_result_321 t_given t_values t_kind t_number t_bytes t_part t_around t_many (((t_number r11.toNatClampNeg).toInt64) / ((t_number r20.toNatClampNeg).toInt64)))
                        else
                          (if (t_part x1.toNatClampNeg) = 8 then
                            M_MO_result_321 t_given t_values t_kind t_number t_bytes t_part t_around t_many ((t_number r11.toNatClampNeg).toInt64)
                          else
                            chk ((0 : Int32) ≤ r11 ∧ r11 < 700) (M_MO_result_321 t_given t_values t_kind t_number t_bytes t_part t_around t_many (((t_bytes r11.toNatClampNeg) >>> ((8 * (((t_number r20.toNatClampNeg).toInt64).toInt32)).toInt64 &&& 63)) &&& 255))))))))))))))))))
set_option maxHeartbeats 4000000 in
set_option maxRecDepth 100000 in
theorem c_MO_result (l : Launch) (dC : Nat → ClassId) (dI : Nat → Nat → Nat) (cI cL : ClassId) (sz : Nat) (q_t q_t_text q_t_tags q_t_subs q_t_numbers q_t_chars q_t_firsts q_t_seconds q_t_depths q_t_lambdas q_t_owners q_t_kind q_t_number q_t_bytes q_t_part q_t_around q_t_many q_t_given q_t_holds q_t_outer q_t_frame q_t_first q_t_second q_t_told q_t_what q_t_where q_t_inside : Nat) (t_threw t_size t_at t_error t_found t_version t_terms t_latestVersion t_values t_environments t_frames t_state t_term t_environment t_value t_budget t_steps t_costs t_made t_tells t_waiting : Int32) (t_kind t_number : Nat → Int32) (t_bytes : Nat → Int64) (t_part t_around t_many t_given : Nat → Int32) (x1 x2 r0 u_t_values : Int32) (u_t_kind u_t_number : Nat → Int32) (u_t_bytes : Nat → Int64) (u_t_part u_t_around u_t_many : Nat → Int32) (hm : M_MO_result t_values t_kind t_number t_bytes t_part t_around t_many t_given x1 x2 = some (r0, u_t_values, u_t_kind, u_t_number, u_t_bytes, u_t_part, u_t_around, u_t_many)) : Met l yX9_result wsX9_result ({ frames := 2, cells := 0, slots := 0, locals := 48 }) (frPc (dC, dI) vwCl [(cI, .int), (cL, .long)] [(q_t, .inr (8, [.int t_threw, .ref q_t_text, .int t_size, .int t_at, .int t_error, .int t_found, .ref q_t_tags, .ref q_t_subs, .ref q_t_numbers, .ref q_t_chars, .ref q_t_firsts, .ref q_t_seconds, .ref q_t_depths, .ref q_t_lambdas, .ref q_t_owners, .int t_version, .int t_terms, .int t_latestVersion, .int t_values, .ref q_t_kind, .ref q_t_number, .ref q_t_bytes, .ref q_t_part, .ref q_t_around, .ref q_t_many, .ref q_t_given, .int t_environments, .ref q_t_holds, .ref q_t_outer, .int t_frames, .ref q_t_frame, .ref q_t_first, .ref q_t_second, .int t_state, .int t_term, .int t_environment, .int t_value, .int t_budget, .int t_steps, .int t_costs, .int t_made, .int t_tells, .ref q_t_told, .int t_waiting, .ref q_t_what, .ref q_t_where, .ref q_t_inside])), (q_t_kind, .inl (cI, 700, .inl t_kind)), (q_t_number, .inl (cI, 700, .inl t_number)), (q_t_bytes, .inl (cL, 700, .inr (.inl t_bytes))), (q_t_part, .inl (cI, 700, .inl t_part)), (q_t_around, .inl (cI, 700, .inl t_around)), (q_t_many, .inl (cI, 700, .inl t_many)), (q_t_given, .inl (cI, 2100, .inl t_given))] sz [.ref q_t, .int x1, .int x2]) (va_Qi (fun (r : Int32) (_ : Unit) => r = r0) (frB (dC, dI) vwCl [(cI, .int), (cL, .long)] (va_A [(q_t, .inr (8, [.int t_threw, .ref q_t_text, .int t_size, .int t_at, .int t_error, .int t_found, .ref q_t_tags, .ref q_t_subs, .ref q_t_numbers, .ref q_t_chars, .ref q_t_firsts, .ref q_t_seconds, .ref q_t_depths, .ref q_t_lambdas, .ref q_t_owners, .int t_version, .int t_terms, .int t_latestVersion, .int t_values, .ref q_t_kind, .ref q_t_number, .ref q_t_bytes, .ref q_t_part, .ref q_t_around, .ref q_t_many, .ref q_t_given, .int t_environments, .ref q_t_holds, .ref q_t_outer, .int t_frames, .ref q_t_frame, .ref q_t_first, .ref q_t_second, .int t_state, .int t_term, .int t_environment, .int t_value, .int t_budget, .int t_steps, .int t_costs, .int t_made, .int t_tells, .ref q_t_told, .int t_waiting, .ref q_t_what, .ref q_t_where, .ref q_t_inside])), (q_t_kind, .inl (cI, 700, .inl t_kind)), (q_t_number, .inl (cI, 700, .inl t_number)), (q_t_bytes, .inl (cL, 700, .inr (.inl t_bytes))), (q_t_part, .inl (cI, 700, .inl t_part)), (q_t_around, .inl (cI, 700, .inl t_around)), (q_t_many, .inl (cI, 700, .inl t_many)), (q_t_given, .inl (cI, 2100, .inl t_given))] sz) [(q_t, .inr (8, [.int t_threw, .ref q_t_text, .int t_size, .int t_at, .int t_error, .int t_found, .ref q_t_tags, .ref q_t_subs, .ref q_t_numbers, .ref q_t_chars, .ref q_t_firsts, .ref q_t_seconds, .ref q_t_depths, .ref q_t_lambdas, .ref q_t_owners, .int t_version, .int t_terms, .int t_latestVersion, .int u_t_values, .ref q_t_kind, .ref q_t_number, .ref q_t_bytes, .ref q_t_part, .ref q_t_around, .ref q_t_many, .ref q_t_given, .int t_environments, .ref q_t_holds, .ref q_t_outer, .int t_frames, .ref q_t_frame, .ref q_t_first, .ref q_t_second, .int t_state, .int t_term, .int t_environment, .int t_value, .int t_budget, .int t_steps, .int t_costs, .int t_made, .int t_tells, .ref q_t_told, .int t_waiting, .ref q_t_what, .ref q_t_where, .ref q_t_inside])), (q_t_kind, .inl (cI, 700, .inl u_t_kind)), (q_t_number, .inl (cI, 700, .inl u_t_number)), (q_t_bytes, .inl (cL, 700, .inr (.inl u_t_bytes))), (q_t_part, .inl (cI, 700, .inl u_t_part)), (q_t_around, .inl (cI, 700, .inl u_t_around)), (q_t_many, .inl (cI, 700, .inl u_t_many)), (q_t_given, .inl (cI, 2100, .inl t_given))]) (va_A [(q_t, .inr (8, [.int t_threw, .ref q_t_text, .int t_size, .int t_at, .int t_error, .int t_found, .ref q_t_tags, .ref q_t_subs, .ref q_t_numbers, .ref q_t_chars, .ref q_t_firsts, .ref q_t_seconds, .ref q_t_depths, .ref q_t_lambdas, .ref q_t_owners, .int t_version, .int t_terms, .int t_latestVersion, .int t_values, .ref q_t_kind, .ref q_t_number, .ref q_t_bytes, .ref q_t_part, .ref q_t_around, .ref q_t_many, .ref q_t_given, .int t_environments, .ref q_t_holds, .ref q_t_outer, .int t_frames, .ref q_t_frame, .ref q_t_first, .ref q_t_second, .int t_state, .int t_term, .int t_environment, .int t_value, .int t_budget, .int t_steps, .int t_costs, .int t_made, .int t_tells, .ref q_t_told, .int t_waiting, .ref q_t_what, .ref q_t_where, .ref q_t_inside])), (q_t_kind, .inl (cI, 700, .inl t_kind)), (q_t_number, .inl (cI, 700, .inl t_number)), (q_t_bytes, .inl (cL, 700, .inr (.inl t_bytes))), (q_t_part, .inl (cI, 700, .inl t_part)), (q_t_around, .inl (cI, 700, .inl t_around)), (q_t_many, .inl (cI, 700, .inl t_many)), (q_t_given, .inl (cI, 2100, .inl t_given))] sz)) 0 0 (va_A [(q_t, .inr (8, [.int t_threw, .ref q_t_text, .int t_size, .int t_at, .int t_error, .int t_found, .ref q_t_tags, .ref q_t_subs, .ref q_t_numbers, .ref q_t_chars, .ref q_t_firsts, .ref q_t_seconds, .ref q_t_depths, .ref q_t_lambdas, .ref q_t_owners, .int t_version, .int t_terms, .int t_latestVersion, .int t_values, .ref q_t_kind, .ref q_t_number, .ref q_t_bytes, .ref q_t_part, .ref q_t_around, .ref q_t_many, .ref q_t_given, .int t_environments, .ref q_t_holds, .ref q_t_outer, .int t_frames, .ref q_t_frame, .ref q_t_first, .ref q_t_second, .int t_state, .int t_term, .int t_environment, .int t_value, .int t_budget, .int t_steps, .int t_costs, .int t_made, .int t_tells, .ref q_t_told, .int t_waiting, .ref q_t_what, .ref q_t_where, .ref q_t_inside])), (q_t_kind, .inl (cI, 700, .inl t_kind)), (q_t_number, .inl (cI, 700, .inl t_number)), (q_t_bytes, .inl (cL, 700, .inr (.inl t_bytes))), (q_t_part, .inl (cI, 700, .inl t_part)), (q_t_around, .inl (cI, 700, .inl t_around)), (q_t_many, .inl (cI, 700, .inl t_many)), (q_t_given, .inl (cI, 2100, .inl t_given))] sz) := by
  refine Met.ofW (cc := cX9_result) (maxL := 12) (ret := (some .int)) (by decide) rfl ?_
  intro p e s m args below meth c s₁ B hml hv
  obtain ⟨rfl, hsz, hP, hK, hD0, hZ⟩ := hv
  have hx := B.exec
  have hb := B.bytes
  have hr := B.returns
  have hts := atoms_spec (ws := wsX9_result) B.pre
  have hown : s.vm.findClass RX9 = some m.cls := findClass_of_methodNamed B.named
  have hlocks := B.notSynchronized
  subst hsz
  have hD := hD0.self (sz := s.heap.size)
  generalize hAe : va_A [(q_t, .inr (8, [.int t_threw, .ref q_t_text, .int t_size, .int t_at, .int t_error, .int t_found, .ref q_t_tags, .ref q_t_subs, .ref q_t_numbers, .ref q_t_chars, .ref q_t_firsts, .ref q_t_seconds, .ref q_t_depths, .ref q_t_lambdas, .ref q_t_owners, .int t_version, .int t_terms, .int t_latestVersion, .int t_values, .ref q_t_kind, .ref q_t_number, .ref q_t_bytes, .ref q_t_part, .ref q_t_around, .ref q_t_many, .ref q_t_given, .int t_environments, .ref q_t_holds, .ref q_t_outer, .int t_frames, .ref q_t_frame, .ref q_t_first, .ref q_t_second, .int t_state, .int t_term, .int t_environment, .int t_value, .int t_budget, .int t_steps, .int t_costs, .int t_made, .int t_tells, .ref q_t_told, .int t_waiting, .ref q_t_what, .ref q_t_where, .ref q_t_inside])), (q_t_kind, .inl (cI, 700, .inl t_kind)), (q_t_number, .inl (cI, 700, .inl t_number)), (q_t_bytes, .inl (cL, 700, .inr (.inl t_bytes))), (q_t_part, .inl (cI, 700, .inl t_part)), (q_t_around, .inl (cI, 700, .inl t_around)), (q_t_many, .inl (cI, 700, .inl t_many)), (q_t_given, .inl (cI, 2100, .inl t_given))] s.heap.size = A at hD hZ ⊢
  have hA : ∀ q : Nat, s.heap.size ≤ q → A q := fun q h => by rw [← hAe]; exact Or.inr h
  have hS : va_S A s.heap s.heap [] := va_S.rf
  have hP : va_P (dC, dI) vwCl [(q_t, .inr (8, [.int t_threw, .ref q_t_text, .int t_size, .int t_at, .int t_error, .int t_found, .ref q_t_tags, .ref q_t_subs, .ref q_t_numbers, .ref q_t_chars, .ref q_t_firsts, .ref q_t_seconds, .ref q_t_depths, .ref q_t_lambdas, .ref q_t_owners, .int t_version, .int t_terms, .int t_latestVersion, .int t_values, .ref q_t_kind, .ref q_t_number, .ref q_t_bytes, .ref q_t_part, .ref q_t_around, .ref q_t_many, .ref q_t_given, .int t_environments, .ref q_t_holds, .ref q_t_outer, .int t_frames, .ref q_t_frame, .ref q_t_first, .ref q_t_second, .int t_state, .int t_term, .int t_environment, .int t_value, .int t_budget, .int t_steps, .int t_costs, .int t_made, .int t_tells, .ref q_t_told, .int t_waiting, .ref q_t_what, .ref q_t_where, .ref q_t_inside])), (q_t_kind, .inl (cI, 700, .inl t_kind)), (q_t_number, .inl (cI, 700, .inl t_number)), (q_t_bytes, .inl (cL, 700, .inr (.inl t_bytes))), (q_t_part, .inl (cI, 700, .inl t_part)), (q_t_around, .inl (cI, 700, .inl t_around)), (q_t_many, .inl (cI, 700, .inl t_many)), (q_t_given, .inl (cI, 2100, .inl t_given))] s.heap := hP
  have hl := lv_entry ([.ref q_t, .int x1, .int x2]) (n := 12) (Nat.le_of_ble_eq_true rfl)
  rw [lg_entry_eq]
  generalize (lg_sl ([.ref q_t, .int x1, .int x2]) ++ List.replicate (12 - (lg_sl ([.ref q_t, .int x1, .int x2])).length) Slot.unset).toArray = ls at hl ⊢
  have hl : lv_has ls 12 [(0, .ref q_t), (1, .int x1), (2, .int x2)] := hl
  refine wq hP hS (fun Q hQ H locs hP hS => ?_)
  have htw : ∀ w ∈ AW, w.before _ s = true := fun w h => hts w (List.mem_cons_of_mem _ h)
  have hn0 : ∀ w ∈ wsX90, w ∈ wsX9_result := fun w h => List.mem_cons_of_mem _ (inX9 w h)
  have L235 : ∀ (t_values : Int32) (t_kind t_number : Nat → Int32) (t_bytes : Nat → Int64) (t_part t_around t_many : Nat → Int32) (z1 z2 : Int32) (ls : Array Slot) (H : Heap) (locs : List Loc), M_MO_result_235 t_given t_values t_kind t_number t_bytes t_part t_around t_many z1 z2 = some (r0, u_t_values, u_t_kind, u_t_number, u_t_bytes, u_t_part, u_t_around, u_t_many) → lv_has ls 12 [] → va_P (dC, dI) vwCl [(q_t, .inr (8, [.int t_threw, .ref q_t_text, .int t_size, .int t_at, .int t_error, .int t_found, .ref q_t_tags, .ref q_t_subs, .ref q_t_numbers, .ref q_t_chars, .ref q_t_firsts, .ref q_t_seconds, .ref q_t_depths, .ref q_t_lambdas, .ref q_t_owners, .int t_version, .int t_terms, .int t_latestVersion, .int t_values, .ref q_t_kind, .ref q_t_number, .ref q_t_bytes, .ref q_t_part, .ref q_t_around, .ref q_t_many, .ref q_t_given, .int t_environments, .ref q_t_holds, .ref q_t_outer, .int t_frames, .ref q_t_frame, .ref q_t_first, .ref q_t_second, .int t_state, .int t_term, .int t_environment, .int t_value, .int t_budget, .int t_steps, .int t_costs, .int t_made, .int t_tells, .ref q_t_told, .int t_waiting, .ref q_t_what, .ref q_t_where, .ref q_t_inside])), (q_t_kind, .inl (cI, 700, .inl t_kind)), (q_t_number, .inl (cI, 700, .inl t_number)), (q_t_bytes, .inl (cL, 700, .inr (.inl t_bytes))), (q_t_part, .inl (cI, 700, .inl t_part)), (q_t_around, .inl (cI, 700, .inl t_around)), (q_t_many, .inl (cI, 700, .inl t_many)), (q_t_given, .inl (cI, 2100, .inl t_given))] H → va_D A [(q_t, .inr (8, [.int t_threw, .ref q_t_text, .int t_size, .int t_at, .int t_error, .int t_found, .ref q_t_tags, .ref q_t_subs, .ref q_t_numbers, .ref q_t_chars, .ref q_t_firsts, .ref q_t_seconds, .ref q_t_depths, .ref q_t_lambdas, .ref q_t_owners, .int t_version, .int t_terms, .int t_latestVersion, .int t_values, .ref q_t_kind, .ref q_t_number, .ref q_t_bytes, .ref q_t_part, .ref q_t_around, .ref q_t_many, .ref q_t_given, .int t_environments, .ref q_t_holds, .ref q_t_outer, .int t_frames, .ref q_t_frame, .ref q_t_first, .ref q_t_second, .int t_state, .int t_term, .int t_environment, .int t_value, .int t_budget, .int t_steps, .int t_costs, .int t_made, .int t_tells, .ref q_t_told, .int t_waiting, .ref q_t_what, .ref q_t_where, .ref q_t_inside])), (q_t_kind, .inl (cI, 700, .inl t_kind)), (q_t_number, .inl (cI, 700, .inl t_number)), (q_t_bytes, .inl (cL, 700, .inr (.inl t_bytes))), (q_t_part, .inl (cI, 700, .inl t_part)), (q_t_around, .inl (cI, 700, .inl t_around)), (q_t_many, .inl (cI, 700, .inl t_many)), (q_t_given, .inl (cI, 2100, .inl t_given))] → va_S A s.heap H locs → W p l e ({ frames := 2, cells := 0, slots := 0, locals := 48 }) s m [.ref q_t, .int x1, .int x2].toArray below meth c H locs 0 0 Q (F0 m 235 ls [.int z2, .int z1, .ref q_t]) := by
    intro t_values t_kind t_number t_bytes t_part t_around t_many z1 z2 ls H locs hm hl hP hD hS
    unfold M_MO_result_235 at hm
    refine lv_iconst (v := 0) hx hb dX9_result_235 (by decide) ?_
    refine lv_iconst (v := 0) hx hb dX9_result_236 (by decide) ?_
    obtain ⟨r237, t_values_237, t_kind_237, t_number_237, t_bytes_237, t_part_237, t_around_237, t_many_237, e237, hm⟩ := c8_inv hm
    refine fr_i (wr := [(q_t_given, .inl (cI, 2100, .inl t_given))]) (w2 := [(q_t, .inr (8, [.int t_threw, .ref q_t_text, .int t_size, .int t_at, .int t_error, .int t_found, .ref q_t_tags, .ref q_t_subs, .ref q_t_numbers, .ref q_t_chars, .ref q_t_firsts, .ref q_t_seconds, .ref q_t_depths, .ref q_t_lambdas, .ref q_t_owners, .int t_version, .int t_terms, .int t_latestVersion, .int t_values_237, .ref q_t_kind, .ref q_t_number, .ref q_t_bytes, .ref q_t_part, .ref q_t_around, .ref q_t_many, .ref q_t_given, .int t_environments, .ref q_t_holds, .ref q_t_outer, .int t_frames, .ref q_t_frame, .ref q_t_first, .ref q_t_second, .int t_state, .int t_term, .int t_environment, .int t_value, .int t_budget, .int t_steps, .int t_costs, .int t_made, .int t_tells, .ref q_t_told, .int t_waiting, .ref q_t_what, .ref q_t_where, .ref q_t_inside])), (q_t_kind, .inl (cI, 700, .inl t_kind_237)), (q_t_number, .inl (cI, 700, .inl t_number_237)), (q_t_bytes, .inl (cL, 700, .inr (.inl t_bytes_237))), (q_t_part, .inl (cI, 700, .inl t_part_237)), (q_t_around, .inl (cI, 700, .inl t_around_237)), (q_t_many, .inl (cI, 700, .inl t_many_237)), (q_t_given, .inl (cI, 2100, .inl t_given))]) (va_runV (As := [.int z1, .int z2, .int 0, .int 0]) (rest := []) ⟨hx, hb, hml, hown, hts⟩ (c_MO_newValue l dC dI cI cL H.size q_t q_t_text q_t_tags q_t_subs q_t_numbers q_t_chars q_t_firsts q_t_seconds q_t_depths q_t_lambdas q_t_owners q_t_kind q_t_number q_t_bytes q_t_part q_t_around q_t_many q_t_given q_t_holds q_t_outer q_t_frame q_t_first q_t_second q_t_told q_t_what q_t_where q_t_inside t_threw t_size t_at t_error t_found t_version t_terms t_latestVersion t_values t_environments t_frames t_state t_term t_environment t_value t_budget t_steps t_costs t_made t_tells t_waiting t_kind t_number t_bytes t_part t_around t_many z1 z2 (0 : Int32) (0 : Int32) r237 t_values_237 t_kind_237 t_number_237 t_bytes_237 t_part_237 t_around_237 t_many_237 e237) (kV 4 hts aw_958 rfl rfl aw_9 aw_955 aw_957 as_49 (by decide +kernel) ⟨Nat.le_of_ble_eq_true rfl, Nat.le_of_ble_eq_true rfl⟩) (fr_preV hK hP hD hS hA hZ [0, 1, 2, 3, 4, 5, 6] rfl rfl (ci := 8) (q0 := 0) rfl rfl) rfl rfl hl.1 rfl (lv_room (Nat.le_of_ble_eq_true rfl)) dX9_result_237 ⟨Nat.le_of_ble_eq_true rfl, Nat.le_of_ble_eq_true rfl⟩) hP hD hS hA [0, 1, 2, 3, 4, 5, 6] [7] [1, 2, 3, 4, 5, 6, 7, 0] rfl rfl rfl (by decide) rfl rfl (fun H locs hP hD hS => ?_)
    have hP : va_P (dC, dI) vwCl [(q_t, .inr (8, [.int t_threw, .ref q_t_text, .int t_size, .int t_at, .int t_error, .int t_found, .ref q_t_tags, .ref q_t_subs, .ref q_t_numbers, .ref q_t_chars, .ref q_t_firsts, .ref q_t_seconds, .ref q_t_depths, .ref q_t_lambdas, .ref q_t_owners, .int t_version, .int t_terms, .int t_latestVersion, .int t_values_237, .ref q_t_kind, .ref q_t_number, .ref q_t_bytes, .ref q_t_part, .ref q_t_around, .ref q_t_many, .ref q_t_given, .int t_environments, .ref q_t_holds, .ref q_t_outer, .int t_frames, .ref q_t_frame, .ref q_t_first, .ref q_t_second, .int t_state, .int t_term, .int t_environment, .int t_value, .int t_budget, .int t_steps, .int t_costs, .int t_made, .int t_tells, .ref q_t_told, .int t_waiting, .ref q_t_what, .ref q_t_where, .ref q_t_inside])), (q_t_kind, .inl (cI, 700, .inl t_kind_237)), (q_t_number, .inl (cI, 700, .inl t_number_237)), (q_t_bytes, .inl (cL, 700, .inr (.inl t_bytes_237))), (q_t_part, .inl (cI, 700, .inl t_part_237)), (q_t_around, .inl (cI, 700, .inl t_around_237)), (q_t_many, .inl (cI, 700, .inl t_many_237)), (q_t_given, .inl (cI, 2100, .inl t_given))] H := hP
    have hD : va_D A [(q_t, .inr (8, [.int t_threw, .ref q_t_text, .int t_size, .int t_at, .int t_error, .int t_found, .ref q_t_tags, .ref q_t_subs, .ref q_t_numbers, .ref q_t_chars, .ref q_t_firsts, .ref q_t_seconds, .ref q_t_depths, .ref q_t_lambdas, .ref q_t_owners, .int t_version, .int t_terms, .int t_latestVersion, .int t_values_237, .ref q_t_kind, .ref q_t_number, .ref q_t_bytes, .ref q_t_part, .ref q_t_around, .ref q_t_many, .ref q_t_given, .int t_environments, .ref q_t_holds, .ref q_t_outer, .int t_frames, .ref q_t_frame, .ref q_t_first, .ref q_t_second, .int t_state, .int t_term, .int t_environment, .int t_value, .int t_budget, .int t_steps, .int t_costs, .int t_made, .int t_tells, .ref q_t_told, .int t_waiting, .ref q_t_what, .ref q_t_where, .ref q_t_inside])), (q_t_kind, .inl (cI, 700, .inl t_kind_237)), (q_t_number, .inl (cI, 700, .inl t_number_237)), (q_t_bytes, .inl (cL, 700, .inr (.inl t_bytes_237))), (q_t_part, .inl (cI, 700, .inl t_part_237)), (q_t_around, .inl (cI, 700, .inl t_around_237)), (q_t_many, .inl (cI, 700, .inl t_many_237)), (q_t_given, .inl (cI, 2100, .inl t_given))] := hD
    try clear L127
    try clear L148
    try clear L220
    try clear L221
    try clear L235
    try clear L321
    obtain ⟨rfl, rfl, rfl, rfl, rfl, rfl, rfl, rfl⟩ := ij8 hm
    subst hQ
    exact W.iret hx hb hr (fun t ht hW => ⟨⟨_, (), rfl, rfl, by rw [ht]; exact hP, va_K.moved hW.alike hK, hD⟩, hS.F ht⟩) hS.2.2 dX9_result_240
  have L221 : ∀ (t_values : Int32) (t_kind t_number : Nat → Int32) (t_bytes : Nat → Int64) (t_part t_around t_many : Nat → Int32) (z0 : Int32) (ls : Array Slot) (H : Heap) (locs : List Loc), M_MO_result_221 t_given t_values t_kind t_number t_bytes t_part t_around t_many z0 = some (r0, u_t_values, u_t_kind, u_t_number, u_t_bytes, u_t_part, u_t_around, u_t_many) → lv_has ls 12 [(0, .ref q_t)] → va_P (dC, dI) vwCl [(q_t, .inr (8, [.int t_threw, .ref q_t_text, .int t_size, .int t_at, .int t_error, .int t_found, .ref q_t_tags, .ref q_t_subs, .ref q_t_numbers, .ref q_t_chars, .ref q_t_firsts, .ref q_t_seconds, .ref q_t_depths, .ref q_t_lambdas, .ref q_t_owners, .int t_version, .int t_terms, .int t_latestVersion, .int t_values, .ref q_t_kind, .ref q_t_number, .ref q_t_bytes, .ref q_t_part, .ref q_t_around, .ref q_t_many, .ref q_t_given, .int t_environments, .ref q_t_holds, .ref q_t_outer, .int t_frames, .ref q_t_frame, .ref q_t_first, .ref q_t_second, .int t_state, .int t_term, .int t_environment, .int t_value, .int t_budget, .int t_steps, .int t_costs, .int t_made, .int t_tells, .ref q_t_told, .int t_waiting, .ref q_t_what, .ref q_t_where, .ref q_t_inside])), (q_t_kind, .inl (cI, 700, .inl t_kind)), (q_t_number, .inl (cI, 700, .inl t_number)), (q_t_bytes, .inl (cL, 700, .inr (.inl t_bytes))), (q_t_part, .inl (cI, 700, .inl t_part)), (q_t_around, .inl (cI, 700, .inl t_around)), (q_t_many, .inl (cI, 700, .inl t_many)), (q_t_given, .inl (cI, 2100, .inl t_given))] H → va_D A [(q_t, .inr (8, [.int t_threw, .ref q_t_text, .int t_size, .int t_at, .int t_error, .int t_found, .ref q_t_tags, .ref q_t_subs, .ref q_t_numbers, .ref q_t_chars, .ref q_t_firsts, .ref q_t_seconds, .ref q_t_depths, .ref q_t_lambdas, .ref q_t_owners, .int t_version, .int t_terms, .int t_latestVersion, .int t_values, .ref q_t_kind, .ref q_t_number, .ref q_t_bytes, .ref q_t_part, .ref q_t_around, .ref q_t_many, .ref q_t_given, .int t_environments, .ref q_t_holds, .ref q_t_outer, .int t_frames, .ref q_t_frame, .ref q_t_first, .ref q_t_second, .int t_state, .int t_term, .int t_environment, .int t_value, .int t_budget, .int t_steps, .int t_costs, .int t_made, .int t_tells, .ref q_t_told, .int t_waiting, .ref q_t_what, .ref q_t_where, .ref q_t_inside])), (q_t_kind, .inl (cI, 700, .inl t_kind)), (q_t_number, .inl (cI, 700, .inl t_number)), (q_t_bytes, .inl (cL, 700, .inr (.inl t_bytes))), (q_t_part, .inl (cI, 700, .inl t_part)), (q_t_around, .inl (cI, 700, .inl t_around)), (q_t_many, .inl (cI, 700, .inl t_many)), (q_t_given, .inl (cI, 2100, .inl t_given))] → va_S A s.heap H locs → W p l e ({ frames := 2, cells := 0, slots := 0, locals := 48 }) s m [.ref q_t, .int x1, .int x2].toArray below meth c H locs 0 0 Q (F0 m 221 ls [.int z0]) := by
    intro t_values t_kind t_number t_bytes t_part t_around t_many z0 ls H locs hm hl hP hD hS
    unfold M_MO_result_221 at hm
    refine lv_istore (lv' := [(10, .int z0), (0, .ref q_t)]) hx hb dX9_result_221 hl (by decide) rfl (fun ls hl => ?_)
    refine lv_aload_n hx hb dX9_result_223 rfl (lv_at hl 1 rfl) ?_
    refine lv_iconst (v := 1) hx hb dX9_result_224 (by decide) ?_
    refine lv_iload hx hb dX9_result_225 (lv_at hl 0 rfl) ?_
    refine lv_if_eq hx hb dX9_result_227 rfl (fun h227 => ?_) (fun h227 => ?_)
    · replace hm := ifp h227 hm
      refine lv_iconst (v := 0) hx hb dX9_result_234 (by decide) ?_
      exact L235 _ _ _ _ _ _ _ _ _ _ _ _ hm (lv_sub hl [] rfl) hP hD hS
    · replace hm := ifn h227 hm
      refine lv_iconst (v := 1) hx hb dX9_result_230 (by decide) ?_
      refine lv_goto hx hb dX9_result_231 rfl ?_
      exact L235 _ _ _ _ _ _ _ _ _ _ _ _ hm (lv_sub hl [] rfl) hP hD hS
  have L220 : ∀ (t_values : Int32) (t_kind t_number : Nat → Int32) (t_bytes : Nat → Int64) (t_part t_around t_many : Nat → Int32) (ls : Array Slot) (H : Heap) (locs : List Loc), M_MO_result_220 t_given t_values t_kind t_number t_bytes t_part t_around t_many = some (r0, u_t_values, u_t_kind, u_t_number, u_t_bytes, u_t_part, u_t_around, u_t_many) → lv_has ls 12 [(0, .ref q_t)] → va_P (dC, dI) vwCl [(q_t, .inr (8, [.int t_threw, .ref q_t_text, .int t_size, .int t_at, .int t_error, .int t_found, .ref q_t_tags, .ref q_t_subs, .ref q_t_numbers, .ref q_t_chars, .ref q_t_firsts, .ref q_t_seconds, .ref q_t_depths, .ref q_t_lambdas, .ref q_t_owners, .int t_version, .int t_terms, .int t_latestVersion, .int t_values, .ref q_t_kind, .ref q_t_number, .ref q_t_bytes, .ref q_t_part, .ref q_t_around, .ref q_t_many, .ref q_t_given, .int t_environments, .ref q_t_holds, .ref q_t_outer, .int t_frames, .ref q_t_frame, .ref q_t_first, .ref q_t_second, .int t_state, .int t_term, .int t_environment, .int t_value, .int t_budget, .int t_steps, .int t_costs, .int t_made, .int t_tells, .ref q_t_told, .int t_waiting, .ref q_t_what, .ref q_t_where, .ref q_t_inside])), (q_t_kind, .inl (cI, 700, .inl t_kind)), (q_t_number, .inl (cI, 700, .inl t_number)), (q_t_bytes, .inl (cL, 700, .inr (.inl t_bytes))), (q_t_part, .inl (cI, 700, .inl t_part)), (q_t_around, .inl (cI, 700, .inl t_around)), (q_t_many, .inl (cI, 700, .inl t_many)), (q_t_given, .inl (cI, 2100, .inl t_given))] H → va_D A [(q_t, .inr (8, [.int t_threw, .ref q_t_text, .int t_size, .int t_at, .int t_error, .int t_found, .ref q_t_tags, .ref q_t_subs, .ref q_t_numbers, .ref q_t_chars, .ref q_t_firsts, .ref q_t_seconds, .ref q_t_depths, .ref q_t_lambdas, .ref q_t_owners, .int t_version, .int t_terms, .int t_latestVersion, .int t_values, .ref q_t_kind, .ref q_t_number, .ref q_t_bytes, .ref q_t_part, .ref q_t_around, .ref q_t_many, .ref q_t_given, .int t_environments, .ref q_t_holds, .ref q_t_outer, .int t_frames, .ref q_t_frame, .ref q_t_first, .ref q_t_second, .int t_state, .int t_term, .int t_environment, .int t_value, .int t_budget, .int t_steps, .int t_costs, .int t_made, .int t_tells, .ref q_t_told, .int t_waiting, .ref q_t_what, .ref q_t_where, .ref q_t_inside])), (q_t_kind, .inl (cI, 700, .inl t_kind)), (q_t_number, .inl (cI, 700, .inl t_number)), (q_t_bytes, .inl (cL, 700, .inr (.inl t_bytes))), (q_t_part, .inl (cI, 700, .inl t_part)), (q_t_around, .inl (cI, 700, .inl t_around)), (q_t_many, .inl (cI, 700, .inl t_many)), (q_t_given, .inl (cI, 2100, .inl t_given))] → va_S A s.heap H locs → W p l e ({ frames := 2, cells := 0, slots := 0, locals := 48 }) s m [.ref q_t, .int x1, .int x2].toArray below meth c H locs 0 0 Q (F0 m 220 ls []) := by
    intro t_values t_kind t_number t_bytes t_part t_around t_many ls H locs hm hl hP hD hS
    unfold M_MO_result_220 at hm
    refine lv_iconst (v := 0) hx hb dX9_result_220 (by decide) ?_
    exact L221 _ _ _ _ _ _ _ _ _ _ _ hm (lv_sub hl [0] rfl) hP hD hS
  have L148 : ∀ (t_values : Int32) (t_kind t_number : Nat → Int32) (t_bytes : Nat → Int64) (t_part t_around t_many : Nat → Int32) (v3 v4 v5 : Int32) (v6 v8 : Int64) (ls : Array Slot) (H : Heap) (locs : List Loc), M_MO_result_148 t_given t_values t_kind t_number t_bytes t_part t_around t_many v3 v4 v5 v6 v8 = some (r0, u_t_values, u_t_kind, u_t_number, u_t_bytes, u_t_part, u_t_around, u_t_many) → lv_has ls 12 [(0, .ref q_t), (3, .int v3), (4, .int v4), (5, .int v5), (6, .long v6), (8, .long v8)] → va_P (dC, dI) vwCl [(q_t, .inr (8, [.int t_threw, .ref q_t_text, .int t_size, .int t_at, .int t_error, .int t_found, .ref q_t_tags, .ref q_t_subs, .ref q_t_numbers, .ref q_t_chars, .ref q_t_firsts, .ref q_t_seconds, .ref q_t_depths, .ref q_t_lambdas, .ref q_t_owners, .int t_version, .int t_terms, .int t_latestVersion, .int t_values, .ref q_t_kind, .ref q_t_number, .ref q_t_bytes, .ref q_t_part, .ref q_t_around, .ref q_t_many, .ref q_t_given, .int t_environments, .ref q_t_holds, .ref q_t_outer, .int t_frames, .ref q_t_frame, .ref q_t_first, .ref q_t_second, .int t_state, .int t_term, .int t_environment, .int t_value, .int t_budget, .int t_steps, .int t_costs, .int t_made, .int t_tells, .ref q_t_told, .int t_waiting, .ref q_t_what, .ref q_t_where, .ref q_t_inside])), (q_t_kind, .inl (cI, 700, .inl t_kind)), (q_t_number, .inl (cI, 700, .inl t_number)), (q_t_bytes, .inl (cL, 700, .inr (.inl t_bytes))), (q_t_part, .inl (cI, 700, .inl t_part)), (q_t_around, .inl (cI, 700, .inl t_around)), (q_t_many, .inl (cI, 700, .inl t_many)), (q_t_given, .inl (cI, 2100, .inl t_given))] H → va_D A [(q_t, .inr (8, [.int t_threw, .ref q_t_text, .int t_size, .int t_at, .int t_error, .int t_found, .ref q_t_tags, .ref q_t_subs, .ref q_t_numbers, .ref q_t_chars, .ref q_t_firsts, .ref q_t_seconds, .ref q_t_depths, .ref q_t_lambdas, .ref q_t_owners, .int t_version, .int t_terms, .int t_latestVersion, .int t_values, .ref q_t_kind, .ref q_t_number, .ref q_t_bytes, .ref q_t_part, .ref q_t_around, .ref q_t_many, .ref q_t_given, .int t_environments, .ref q_t_holds, .ref q_t_outer, .int t_frames, .ref q_t_frame, .ref q_t_first, .ref q_t_second, .int t_state, .int t_term, .int t_environment, .int t_value, .int t_budget, .int t_steps, .int t_costs, .int t_made, .int t_tells, .ref q_t_told, .int t_waiting, .ref q_t_what, .ref q_t_where, .ref q_t_inside])), (q_t_kind, .inl (cI, 700, .inl t_kind)), (q_t_number, .inl (cI, 700, .inl t_number)), (q_t_bytes, .inl (cL, 700, .inr (.inl t_bytes))), (q_t_part, .inl (cI, 700, .inl t_part)), (q_t_around, .inl (cI, 700, .inl t_around)), (q_t_many, .inl (cI, 700, .inl t_many)), (q_t_given, .inl (cI, 2100, .inl t_given))] → va_S A s.heap H locs → W p l e ({ frames := 2, cells := 0, slots := 0, locals := 48 }) s m [.ref q_t, .int x1, .int x2].toArray below meth c H locs 0 0 Q (F0 m 148 ls []) := by
    intro t_values t_kind t_number t_bytes t_part t_around t_many v3 v4 v5 v6 v8 ls H locs hm hl hP hD hS
    unfold M_MO_result_148 at hm
    refine lv_iload_n hx hb dX9_result_148 rfl (lv_at hl 1 rfl) ?_
    refine lv_iconst (v := 4) hx hb dX9_result_149 (by decide) ?_
    refine lv_icmp_ne hx hb dX9_result_150 rfl (fun h150 => ?_) (fun h150 => ?_)
    · replace hm := ifn h150 hm
      refine lv_iload_n hx hb dX9_result_169 rfl (lv_at hl 1 rfl) ?_
      refine lv_iconst (v := 5) hx hb dX9_result_170 (by decide) ?_
      refine lv_icmp_ne hx hb dX9_result_171 rfl (fun h171 => ?_) (fun h171 => ?_)
      · replace hm := ifn h171 hm
        refine lv_lload hx hb dX9_result_190 (lv_at hl 4 rfl) ?_
        refine lv_lload hx hb dX9_result_192 (lv_at hl 5 rfl) ?_
        refine W.lcmp hx hb dX9_result_194 ?_
        refine lv_if_ne hx hb dX9_result_195 rfl (fun h195 => ?_) (fun h195 => ?_)
        · replace hm := ifn h195 hm
          exact L220 _ _ _ _ _ _ _ _ _ _ hm (lv_sub hl [0] rfl) hP hD hS
        · replace hm := ifp h195 hm
          refine lv_aload_n hx hb dX9_result_198 rfl (lv_at hl 0 rfl) ?_
          refine va_get (D := (dC, dI)) (ci := 8) (v := .ref q_t_bytes) (C := RX9) (T := TX9) (N := 47) hx hb hts hn0 hown hK hP 0 rfl rfl 21 (by decide) (htw _ aw_734) (fun _ h9 => h9) rfl dX9_result_199 ?_
          refine lv_iload hx hb dX9_result_202 (lv_at hl 2 rfl) ?_
          obtain ⟨h204, hm⟩ := chk_inv hm
          refine va_lald (D := (dC, dI)) hx hb hK hP 3 1 rfl rfl (in_of (n := 700) (by decide) h204) dX9_result_204 ?_
          refine lv_aload_n hx hb dX9_result_205 rfl (lv_at hl 0 rfl) ?_
          refine va_get (D := (dC, dI)) (ci := 8) (v := .ref q_t_bytes) (C := RX9) (T := TX9) (N := 47) hx hb hts hn0 hown hK hP 0 rfl rfl 21 (by decide) (htw _ aw_734) (fun _ h9 => h9) rfl dX9_result_206 ?_
          refine lv_iload hx hb dX9_result_209 (lv_at hl 3 rfl) ?_
          obtain ⟨h211, hm⟩ := chk_inv hm
          refine va_lald (D := (dC, dI)) hx hb hK hP 3 1 rfl rfl (in_of (n := 700) (by decide) h211) dX9_result_211 ?_
          refine W.lcmp hx hb dX9_result_212 ?_
          refine lv_if_ne hx hb dX9_result_213 rfl (fun h213 => ?_) (fun h213 => ?_)
          · replace hm := ifn h213 hm
            exact L220 _ _ _ _ _ _ _ _ _ _ hm (lv_sub hl [0] rfl) hP hD hS
          · replace hm := ifp h213 hm
            refine lv_iconst (v := 1) hx hb dX9_result_216 (by decide) ?_
            refine lv_goto hx hb dX9_result_217 rfl ?_
            exact L221 _ _ _ _ _ _ _ _ _ _ _ hm (lv_sub hl [0] rfl) hP hD hS
      · replace hm := ifp h171 hm
        refine lv_lload hx hb dX9_result_174 (lv_at hl 4 rfl) ?_
        refine lv_lload hx hb dX9_result_176 (lv_at hl 5 rfl) ?_
        refine W.lcmp hx hb dX9_result_178 ?_
        refine lv_if_ge hx hb dX9_result_179 rfl (fun h179 => ?_) (fun h179 => ?_)
        · replace hm := ifp h179 hm
          refine lv_iconst (v := 0) hx hb dX9_result_186 (by decide) ?_
          refine lv_goto hx hb dX9_result_187 rfl ?_
          exact L221 _ _ _ _ _ _ _ _ _ _ _ hm (lv_sub hl [0] rfl) hP hD hS
        · replace hm := ifn h179 hm
          refine lv_iconst (v := 1) hx hb dX9_result_182 (by decide) ?_
          refine lv_goto hx hb dX9_result_183 rfl ?_
          exact L221 _ _ _ _ _ _ _ _ _ _ _ hm (lv_sub hl [0] rfl) hP hD hS
    · replace hm := ifp h150 hm
      refine lv_lload hx hb dX9_result_153 (lv_at hl 4 rfl) ?_
      refine lv_lload hx hb dX9_result_155 (lv_at hl 5 rfl) ?_
      refine W.lcmp hx hb dX9_result_157 ?_
      refine lv_if_ne hx hb dX9_result_158 rfl (fun h158 => ?_) (fun h158 => ?_)
      · replace hm := ifn h158 hm
        refine lv_iconst (v := 0) hx hb dX9_result_165 (by decide) ?_
        refine lv_goto hx hb dX9_result_166 rfl ?_
        exact L221 _ _ _ _ _ _ _ _ _ _ _ hm (lv_sub hl [0] rfl) hP hD hS
      · replace hm := ifp h158 hm
        refine lv_iconst (v := 1) hx hb dX9_result_161 (by decide) ?_
        refine lv_goto hx hb dX9_result_162 rfl ?_
        exact L221 _ _ _ _ _ _ _ _ _ _ _ hm (lv_sub hl [0] rfl) hP hD hS
  have L321 : ∀ (t_values : Int32) (t_kind t_number : Nat → Int32) (t_bytes : Nat → Int64) (t_part t_around t_many : Nat → Int32) (z0 : Int64) (ls : Array Slot) (H : Heap) (locs : List Loc), M_MO_result_321 t_given t_values t_kind t_number t_bytes t_part t_around t_many z0 = some (r0, u_t_values, u_t_kind, u_t_number, u_t_bytes, u_t_part, u_t_around, u_t_many) → lv_has ls 12 [(0, .ref q_t)] → va_P (dC, dI) vwCl [(q_t, .inr (8, [.int t_threw, .ref q_t_text, .int t_size, .int t_at, .int t_error, .int t_found, .ref q_t_tags, .ref q_t_subs, .ref q_t_numbers, .ref q_t_chars, .ref q_t_firsts, .ref q_t_seconds, .ref q_t_depths, .ref q_t_lambdas, .ref q_t_owners, .int t_version, .int t_terms, .int t_latestVersion, .int t_values, .ref q_t_kind, .ref q_t_number, .ref q_t_bytes, .ref q_t_part, .ref q_t_around, .ref q_t_many, .ref q_t_given, .int t_environments, .ref q_t_holds, .ref q_t_outer, .int t_frames, .ref q_t_frame, .ref q_t_first, .ref q_t_second, .int t_state, .int t_term, .int t_environment, .int t_value, .int t_budget, .int t_steps, .int t_costs, .int t_made, .int t_tells, .ref q_t_told, .int t_waiting, .ref q_t_what, .ref q_t_where, .ref q_t_inside])), (q_t_kind, .inl (cI, 700, .inl t_kind)), (q_t_number, .inl (cI, 700, .inl t_number)), (q_t_bytes, .inl (cL, 700, .inr (.inl t_bytes))), (q_t_part, .inl (cI, 700, .inl t_part)), (q_t_around, .inl (cI, 700, .inl t_around)), (q_t_many, .inl (cI, 700, .inl t_many)), (q_t_given, .inl (cI, 2100, .inl t_given))] H → va_D A [(q_t, .inr (8, [.int t_threw, .ref q_t_text, .int t_size, .int t_at, .int t_error, .int t_found, .ref q_t_tags, .ref q_t_subs, .ref q_t_numbers, .ref q_t_chars, .ref q_t_firsts, .ref q_t_seconds, .ref q_t_depths, .ref q_t_lambdas, .ref q_t_owners, .int t_version, .int t_terms, .int t_latestVersion, .int t_values, .ref q_t_kind, .ref q_t_number, .ref q_t_bytes, .ref q_t_part, .ref q_t_around, .ref q_t_many, .ref q_t_given, .int t_environments, .ref q_t_holds, .ref q_t_outer, .int t_frames, .ref q_t_frame, .ref q_t_first, .ref q_t_second, .int t_state, .int t_term, .int t_environment, .int t_value, .int t_budget, .int t_steps, .int t_costs, .int t_made, .int t_tells, .ref q_t_told, .int t_waiting, .ref q_t_what, .ref q_t_where, .ref q_t_inside])), (q_t_kind, .inl (cI, 700, .inl t_kind)), (q_t_number, .inl (cI, 700, .inl t_number)), (q_t_bytes, .inl (cL, 700, .inr (.inl t_bytes))), (q_t_part, .inl (cI, 700, .inl t_part)), (q_t_around, .inl (cI, 700, .inl t_around)), (q_t_many, .inl (cI, 700, .inl t_many)), (q_t_given, .inl (cI, 2100, .inl t_given))] → va_S A s.heap H locs → W p l e ({ frames := 2, cells := 0, slots := 0, locals := 48 }) s m [.ref q_t, .int x1, .int x2].toArray below meth c H locs 0 0 Q (F0 m 321 ls [.long z0]) := by
    intro t_values t_kind t_number t_bytes t_part t_around t_many z0 ls H locs hm hl hP hD hS
    unfold M_MO_result_321 at hm
    refine lv_lstore (lv' := [(10, .long z0), (0, .ref q_t)]) hx hb dX9_result_321 hl (by decide) rfl (fun ls hl => ?_)
    refine lv_aload_n hx hb dX9_result_323 rfl (lv_at hl 1 rfl) ?_
    refine lv_iconst (v := 0) hx hb dX9_result_324 (by decide) ?_
    refine lv_lload hx hb dX9_result_325 (lv_at hl 0 rfl) ?_
    refine lv_l2i (v := z0.toInt32) hx hb dX9_result_327 rfl ?_
    refine lv_iconst (v := 0) hx hb dX9_result_328 (by decide) ?_
    refine lv_iconst (v := 0) hx hb dX9_result_329 (by decide) ?_
    obtain ⟨r330, t_values_330, t_kind_330, t_number_330, t_bytes_330, t_part_330, t_around_330, t_many_330, e330, hm⟩ := c8_inv hm
    refine fr_i (wr := [(q_t_given, .inl (cI, 2100, .inl t_given))]) (w2 := [(q_t, .inr (8, [.int t_threw, .ref q_t_text, .int t_size, .int t_at, .int t_error, .int t_found, .ref q_t_tags, .ref q_t_subs, .ref q_t_numbers, .ref q_t_chars, .ref q_t_firsts, .ref q_t_seconds, .ref q_t_depths, .ref q_t_lambdas, .ref q_t_owners, .int t_version, .int t_terms, .int t_latestVersion, .int t_values_330, .ref q_t_kind, .ref q_t_number, .ref q_t_bytes, .ref q_t_part, .ref q_t_around, .ref q_t_many, .ref q_t_given, .int t_environments, .ref q_t_holds, .ref q_t_outer, .int t_frames, .ref q_t_frame, .ref q_t_first, .ref q_t_second, .int t_state, .int t_term, .int t_environment, .int t_value, .int t_budget, .int t_steps, .int t_costs, .int t_made, .int t_tells, .ref q_t_told, .int t_waiting, .ref q_t_what, .ref q_t_where, .ref q_t_inside])), (q_t_kind, .inl (cI, 700, .inl t_kind_330)), (q_t_number, .inl (cI, 700, .inl t_number_330)), (q_t_bytes, .inl (cL, 700, .inr (.inl t_bytes_330))), (q_t_part, .inl (cI, 700, .inl t_part_330)), (q_t_around, .inl (cI, 700, .inl t_around_330)), (q_t_many, .inl (cI, 700, .inl t_many_330)), (q_t_given, .inl (cI, 2100, .inl t_given))]) (va_runV (As := [.int 0, .int z0.toInt32, .int 0, .int 0]) (rest := []) ⟨hx, hb, hml, hown, hts⟩ (c_MO_newValue l dC dI cI cL H.size q_t q_t_text q_t_tags q_t_subs q_t_numbers q_t_chars q_t_firsts q_t_seconds q_t_depths q_t_lambdas q_t_owners q_t_kind q_t_number q_t_bytes q_t_part q_t_around q_t_many q_t_given q_t_holds q_t_outer q_t_frame q_t_first q_t_second q_t_told q_t_what q_t_where q_t_inside t_threw t_size t_at t_error t_found t_version t_terms t_latestVersion t_values t_environments t_frames t_state t_term t_environment t_value t_budget t_steps t_costs t_made t_tells t_waiting t_kind t_number t_bytes t_part t_around t_many (0 : Int32) z0.toInt32 (0 : Int32) (0 : Int32) r330 t_values_330 t_kind_330 t_number_330 t_bytes_330 t_part_330 t_around_330 t_many_330 e330) (kV 4 hts aw_958 rfl rfl aw_9 aw_955 aw_957 as_49 (by decide +kernel) ⟨Nat.le_of_ble_eq_true rfl, Nat.le_of_ble_eq_true rfl⟩) (fr_preV hK hP hD hS hA hZ [0, 1, 2, 3, 4, 5, 6] rfl rfl (ci := 8) (q0 := 0) rfl rfl) rfl rfl hl.1 rfl (lv_room (Nat.le_of_ble_eq_true rfl)) dX9_result_330 ⟨Nat.le_of_ble_eq_true rfl, Nat.le_of_ble_eq_true rfl⟩) hP hD hS hA [0, 1, 2, 3, 4, 5, 6] [7] [1, 2, 3, 4, 5, 6, 7, 0] rfl rfl rfl (by decide) rfl rfl (fun H locs hP hD hS => ?_)
    have hP : va_P (dC, dI) vwCl [(q_t, .inr (8, [.int t_threw, .ref q_t_text, .int t_size, .int t_at, .int t_error, .int t_found, .ref q_t_tags, .ref q_t_subs, .ref q_t_numbers, .ref q_t_chars, .ref q_t_firsts, .ref q_t_seconds, .ref q_t_depths, .ref q_t_lambdas, .ref q_t_owners, .int t_version, .int t_terms, .int t_latestVersion, .int t_values_330, .ref q_t_kind, .ref q_t_number, .ref q_t_bytes, .ref q_t_part, .ref q_t_around, .ref q_t_many, .ref q_t_given, .int t_environments, .ref q_t_holds, .ref q_t_outer, .int t_frames, .ref q_t_frame, .ref q_t_first, .ref q_t_second, .int t_state, .int t_term, .int t_environment, .int t_value, .int t_budget, .int t_steps, .int t_costs, .int t_made, .int t_tells, .ref q_t_told, .int t_waiting, .ref q_t_what, .ref q_t_where, .ref q_t_inside])), (q_t_kind, .inl (cI, 700, .inl t_kind_330)), (q_t_number, .inl (cI, 700, .inl t_number_330)), (q_t_bytes, .inl (cL, 700, .inr (.inl t_bytes_330))), (q_t_part, .inl (cI, 700, .inl t_part_330)), (q_t_around, .inl (cI, 700, .inl t_around_330)), (q_t_many, .inl (cI, 700, .inl t_many_330)), (q_t_given, .inl (cI, 2100, .inl t_given))] H := hP
    have hD : va_D A [(q_t, .inr (8, [.int t_threw, .ref q_t_text, .int t_size, .int t_at, .int t_error, .int t_found, .ref q_t_tags, .ref q_t_subs, .ref q_t_numbers, .ref q_t_chars, .ref q_t_firsts, .ref q_t_seconds, .ref q_t_depths, .ref q_t_lambdas, .ref q_t_owners, .int t_version, .int t_terms, .int t_latestVersion, .int t_values_330, .ref q_t_kind, .ref q_t_number, .ref q_t_bytes, .ref q_t_part, .ref q_t_around, .ref q_t_many, .ref q_t_given, .int t_environments, .ref q_t_holds, .ref q_t_outer, .int t_frames, .ref q_t_frame, .ref q_t_first, .ref q_t_second, .int t_state, .int t_term, .int t_environment, .int t_value, .int t_budget, .int t_steps, .int t_costs, .int t_made, .int t_tells, .ref q_t_told, .int t_waiting, .ref q_t_what, .ref q_t_where, .ref q_t_inside])), (q_t_kind, .inl (cI, 700, .inl t_kind_330)), (q_t_number, .inl (cI, 700, .inl t_number_330)), (q_t_bytes, .inl (cL, 700, .inr (.inl t_bytes_330))), (q_t_part, .inl (cI, 700, .inl t_part_330)), (q_t_around, .inl (cI, 700, .inl t_around_330)), (q_t_many, .inl (cI, 700, .inl t_many_330)), (q_t_given, .inl (cI, 2100, .inl t_given))] := hD
    try clear L127
    try clear L148
    try clear L220
    try clear L221
    try clear L235
    try clear L321
    obtain ⟨rfl, rfl, rfl, rfl, rfl, rfl, rfl, rfl⟩ := ij8 hm
    subst hQ
    exact W.iret hx hb hr (fun t ht hW => ⟨⟨_, (), rfl, rfl, by rw [ht]; exact hP, va_K.moved hW.alike hK, hD⟩, hS.F ht⟩) hS.2.2 dX9_result_333
  have L127 : ∀ (t_values : Int32) (t_kind t_number : Nat → Int32) (t_bytes : Nat → Int64) (t_part t_around t_many : Nat → Int32) (z1 : Int32) (z2 z3 : Int64) (ls : Array Slot) (H : Heap) (locs : List Loc), M_MO_result_127 t_given t_values t_kind t_number t_bytes t_part t_around t_many z1 z2 z3 = some (r0, u_t_values, u_t_kind, u_t_number, u_t_bytes, u_t_part, u_t_around, u_t_many) → lv_has ls 12 [] → va_P (dC, dI) vwCl [(q_t, .inr (8, [.int t_threw, .ref q_t_text, .int t_size, .int t_at, .int t_error, .int t_found, .ref q_t_tags, .ref q_t_subs, .ref q_t_numbers, .ref q_t_chars, .ref q_t_firsts, .ref q_t_seconds, .ref q_t_depths, .ref q_t_lambdas, .ref q_t_owners, .int t_version, .int t_terms, .int t_latestVersion, .int t_values, .ref q_t_kind, .ref q_t_number, .ref q_t_bytes, .ref q_t_part, .ref q_t_around, .ref q_t_many, .ref q_t_given, .int t_environments, .ref q_t_holds, .ref q_t_outer, .int t_frames, .ref q_t_frame, .ref q_t_first, .ref q_t_second, .int t_state, .int t_term, .int t_environment, .int t_value, .int t_budget, .int t_steps, .int t_costs, .int t_made, .int t_tells, .ref q_t_told, .int t_waiting, .ref q_t_what, .ref q_t_where, .ref q_t_inside])), (q_t_kind, .inl (cI, 700, .inl t_kind)), (q_t_number, .inl (cI, 700, .inl t_number)), (q_t_bytes, .inl (cL, 700, .inr (.inl t_bytes))), (q_t_part, .inl (cI, 700, .inl t_part)), (q_t_around, .inl (cI, 700, .inl t_around)), (q_t_many, .inl (cI, 700, .inl t_many)), (q_t_given, .inl (cI, 2100, .inl t_given))] H → va_D A [(q_t, .inr (8, [.int t_threw, .ref q_t_text, .int t_size, .int t_at, .int t_error, .int t_found, .ref q_t_tags, .ref q_t_subs, .ref q_t_numbers, .ref q_t_chars, .ref q_t_firsts, .ref q_t_seconds, .ref q_t_depths, .ref q_t_lambdas, .ref q_t_owners, .int t_version, .int t_terms, .int t_latestVersion, .int t_values, .ref q_t_kind, .ref q_t_number, .ref q_t_bytes, .ref q_t_part, .ref q_t_around, .ref q_t_many, .ref q_t_given, .int t_environments, .ref q_t_holds, .ref q_t_outer, .int t_frames, .ref q_t_frame, .ref q_t_first, .ref q_t_second, .int t_state, .int t_term, .int t_environment, .int t_value, .int t_budget, .int t_steps, .int t_costs, .int t_made, .int t_tells, .ref q_t_told, .int t_waiting, .ref q_t_what, .ref q_t_where, .ref q_t_inside])), (q_t_kind, .inl (cI, 700, .inl t_kind)), (q_t_number, .inl (cI, 700, .inl t_number)), (q_t_bytes, .inl (cL, 700, .inr (.inl t_bytes))), (q_t_part, .inl (cI, 700, .inl t_part)), (q_t_around, .inl (cI, 700, .inl t_around)), (q_t_many, .inl (cI, 700, .inl t_many)), (q_t_given, .inl (cI, 2100, .inl t_given))] → va_S A s.heap H locs → W p l e ({ frames := 2, cells := 0, slots := 0, locals := 48 }) s m [.ref q_t, .int x1, .int x2].toArray below meth c H locs 0 0 Q (F0 m 127 ls [.long z3, .long z2, .int z1, .ref q_t]) := by
    intro t_values t_kind t_number t_bytes t_part t_around t_many z1 z2 z3 ls H locs hm hl hP hD hS
    unfold M_MO_result_127 at hm
    refine lv_lor hx hb dX9_result_127 ?_
    obtain ⟨r128, t_values_128, t_kind_128, t_number_128, t_bytes_128, t_part_128, t_around_128, t_many_128, e128, hm⟩ := c8_inv hm
    refine fr_i (wr := [(q_t_given, .inl (cI, 2100, .inl t_given))]) (w2 := [(q_t, .inr (8, [.int t_threw, .ref q_t_text, .int t_size, .int t_at, .int t_error, .int t_found, .ref q_t_tags, .ref q_t_subs, .ref q_t_numbers, .ref q_t_chars, .ref q_t_firsts, .ref q_t_seconds, .ref q_t_depths, .ref q_t_lambdas, .ref q_t_owners, .int t_version, .int t_terms, .int t_latestVersion, .int t_values_128, .ref q_t_kind, .ref q_t_number, .ref q_t_bytes, .ref q_t_part, .ref q_t_around, .ref q_t_many, .ref q_t_given, .int t_environments, .ref q_t_holds, .ref q_t_outer, .int t_frames, .ref q_t_frame, .ref q_t_first, .ref q_t_second, .int t_state, .int t_term, .int t_environment, .int t_value, .int t_budget, .int t_steps, .int t_costs, .int t_made, .int t_tells, .ref q_t_told, .int t_waiting, .ref q_t_what, .ref q_t_where, .ref q_t_inside])), (q_t_kind, .inl (cI, 700, .inl t_kind_128)), (q_t_number, .inl (cI, 700, .inl t_number_128)), (q_t_bytes, .inl (cL, 700, .inr (.inl t_bytes_128))), (q_t_part, .inl (cI, 700, .inl t_part_128)), (q_t_around, .inl (cI, 700, .inl t_around_128)), (q_t_many, .inl (cI, 700, .inl t_many_128)), (q_t_given, .inl (cI, 2100, .inl t_given))]) (va_runV (As := [.int z1, .long (z2 ||| z3)]) (rest := []) ⟨hx, hb, hml, hown, hts⟩ (c_MO_newBytes l dC dI cI cL H.size q_t q_t_text q_t_tags q_t_subs q_t_numbers q_t_chars q_t_firsts q_t_seconds q_t_depths q_t_lambdas q_t_owners q_t_kind q_t_number q_t_bytes q_t_part q_t_around q_t_many q_t_given q_t_holds q_t_outer q_t_frame q_t_first q_t_second q_t_told q_t_what q_t_where q_t_inside t_threw t_size t_at t_error t_found t_version t_terms t_latestVersion t_values t_environments t_frames t_state t_term t_environment t_value t_budget t_steps t_costs t_made t_tells t_waiting t_kind t_number t_bytes t_part t_around t_many z1 (z2 ||| z3) r128 t_values_128 t_kind_128 t_number_128 t_bytes_128 t_part_128 t_around_128 t_many_128 e128) (kV 2 hts aw_962 rfl rfl aw_9 aw_959 aw_961 as_50 (by decide +kernel) ⟨Nat.le_of_ble_eq_true rfl, Nat.le_of_ble_eq_true rfl⟩) (fr_preV hK hP hD hS hA hZ [0, 1, 2, 3, 4, 5, 6] rfl rfl (ci := 8) (q0 := 0) rfl rfl) rfl rfl hl.1 rfl (lv_room (Nat.le_of_ble_eq_true rfl)) dX9_result_128 ⟨Nat.le_of_ble_eq_true rfl, Nat.le_of_ble_eq_true rfl⟩) hP hD hS hA [0, 1, 2, 3, 4, 5, 6] [7] [1, 2, 3, 4, 5, 6, 7, 0] rfl rfl rfl (by decide) rfl rfl (fun H locs hP hD hS => ?_)
    have hP : va_P (dC, dI) vwCl [(q_t, .inr (8, [.int t_threw, .ref q_t_text, .int t_size, .int t_at, .int t_error, .int t_found, .ref q_t_tags, .ref q_t_subs, .ref q_t_numbers, .ref q_t_chars, .ref q_t_firsts, .ref q_t_seconds, .ref q_t_depths, .ref q_t_lambdas, .ref q_t_owners, .int t_version, .int t_terms, .int t_latestVersion, .int t_values_128, .ref q_t_kind, .ref q_t_number, .ref q_t_bytes, .ref q_t_part, .ref q_t_around, .ref q_t_many, .ref q_t_given, .int t_environments, .ref q_t_holds, .ref q_t_outer, .int t_frames, .ref q_t_frame, .ref q_t_first, .ref q_t_second, .int t_state, .int t_term, .int t_environment, .int t_value, .int t_budget, .int t_steps, .int t_costs, .int t_made, .int t_tells, .ref q_t_told, .int t_waiting, .ref q_t_what, .ref q_t_where, .ref q_t_inside])), (q_t_kind, .inl (cI, 700, .inl t_kind_128)), (q_t_number, .inl (cI, 700, .inl t_number_128)), (q_t_bytes, .inl (cL, 700, .inr (.inl t_bytes_128))), (q_t_part, .inl (cI, 700, .inl t_part_128)), (q_t_around, .inl (cI, 700, .inl t_around_128)), (q_t_many, .inl (cI, 700, .inl t_many_128)), (q_t_given, .inl (cI, 2100, .inl t_given))] H := hP
    have hD : va_D A [(q_t, .inr (8, [.int t_threw, .ref q_t_text, .int t_size, .int t_at, .int t_error, .int t_found, .ref q_t_tags, .ref q_t_subs, .ref q_t_numbers, .ref q_t_chars, .ref q_t_firsts, .ref q_t_seconds, .ref q_t_depths, .ref q_t_lambdas, .ref q_t_owners, .int t_version, .int t_terms, .int t_latestVersion, .int t_values_128, .ref q_t_kind, .ref q_t_number, .ref q_t_bytes, .ref q_t_part, .ref q_t_around, .ref q_t_many, .ref q_t_given, .int t_environments, .ref q_t_holds, .ref q_t_outer, .int t_frames, .ref q_t_frame, .ref q_t_first, .ref q_t_second, .int t_state, .int t_term, .int t_environment, .int t_value, .int t_budget, .int t_steps, .int t_costs, .int t_made, .int t_tells, .ref q_t_told, .int t_waiting, .ref q_t_what, .ref q_t_where, .ref q_t_inside])), (q_t_kind, .inl (cI, 700, .inl t_kind_128)), (q_t_number, .inl (cI, 700, .inl t_number_128)), (q_t_bytes, .inl (cL, 700, .inr (.inl t_bytes_128))), (q_t_part, .inl (cI, 700, .inl t_part_128)), (q_t_around, .inl (cI, 700, .inl t_around_128)), (q_t_many, .inl (cI, 700, .inl t_many_128)), (q_t_given, .inl (cI, 2100, .inl t_given))] := hD
    try clear L127
    try clear L148
    try clear L220
    try clear L221
    try clear L235
    try clear L321
    obtain ⟨rfl, rfl, rfl, rfl, rfl, rfl, rfl, rfl⟩ := ij8 hm
    subst hQ
    exact W.iret hx hb hr (fun t ht hW => ⟨⟨_, (), rfl, rfl, by rw [ht]; exact hP, va_K.moved hW.alike hK, hD⟩, hS.F ht⟩) hS.2.2 dX9_result_131
  unfold M_MO_result at hm
  refine lv_aload_n hx hb dX9_result_0 rfl (lv_at hl 0 rfl) ?_
  refine va_get (D := (dC, dI)) (ci := 8) (v := .ref q_t_part) (C := RX9) (T := TX9) (N := 47) hx hb hts hn0 hown hK hP 0 rfl rfl 22 (by decide) (htw _ aw_735) (fun _ h9 => h9) rfl dX9_result_1 ?_
  refine lv_iload_n hx hb dX9_result_4 rfl (lv_at hl 1 rfl) ?_
  obtain ⟨h5, hm⟩ := chk_inv hm
  refine va_iald (D := (dC, dI)) hx hb hK hP 4 0 rfl rfl (in_of (n := 700) (by decide) h5) dX9_result_5 ?_
  refine lv_istore_n (lv' := [(3, .int (t_part x1.toNatClampNeg)), (0, .ref q_t), (1, .int x1), (2, .int x2)]) hx hb dX9_result_6 rfl hl (by decide) rfl (fun ls hl => ?_)
  refine lv_aload_n hx hb dX9_result_7 rfl (lv_at hl 1 rfl) ?_
  refine lv_iload_n hx hb dX9_result_8 rfl (lv_at hl 2 rfl) ?_
  refine lv_iload_n hx hb dX9_result_9 rfl (lv_at hl 3 rfl) ?_
  refine lv_iconst (v := 0) hx hb dX9_result_10 (by decide) ?_
  obtain ⟨r11, e11, hm⟩ := c1_inv hm
  refine fr_i (wr := [(q_t_kind, .inl (cI, 700, .inl t_kind)), (q_t_number, .inl (cI, 700, .inl t_number)), (q_t_bytes, .inl (cL, 700, .inr (.inl t_bytes))), (q_t_part, .inl (cI, 700, .inl t_part)), (q_t_around, .inl (cI, 700, .inl t_around))]) (w2 := [(q_t, .inr (8, [.int t_threw, .ref q_t_text, .int t_size, .int t_at, .int t_error, .int t_found, .ref q_t_tags, .ref q_t_subs, .ref q_t_numbers, .ref q_t_chars, .ref q_t_firsts, .ref q_t_seconds, .ref q_t_depths, .ref q_t_lambdas, .ref q_t_owners, .int t_version, .int t_terms, .int t_latestVersion, .int t_values, .ref q_t_kind, .ref q_t_number, .ref q_t_bytes, .ref q_t_part, .ref q_t_around, .ref q_t_many, .ref q_t_given, .int t_environments, .ref q_t_holds, .ref q_t_outer, .int t_frames, .ref q_t_frame, .ref q_t_first, .ref q_t_second, .int t_state, .int t_term, .int t_environment, .int t_value, .int t_budget, .int t_steps, .int t_costs, .int t_made, .int t_tells, .ref q_t_told, .int t_waiting, .ref q_t_what, .ref q_t_where, .ref q_t_inside])), (q_t_kind, .inl (cI, 700, .inl t_kind)), (q_t_number, .inl (cI, 700, .inl t_number)), (q_t_bytes, .inl (cL, 700, .inr (.inl t_bytes))), (q_t_part, .inl (cI, 700, .inl t_part)), (q_t_around, .inl (cI, 700, .inl t_around)), (q_t_many, .inl (cI, 700, .inl t_many)), (q_t_given, .inl (cI, 2100, .inl t_given))]) (va_runV (As := [.int x1, .int x2, .int 0]) (rest := []) ⟨hx, hb, hml, hown, hts⟩ (c_MO_argument l dC dI cI cL H.size q_t q_t_text q_t_tags q_t_subs q_t_numbers q_t_chars q_t_firsts q_t_seconds q_t_depths q_t_lambdas q_t_owners q_t_kind q_t_number q_t_bytes q_t_part q_t_around q_t_many q_t_given q_t_holds q_t_outer q_t_frame q_t_first q_t_second q_t_told q_t_what q_t_where q_t_inside t_threw t_size t_at t_error t_found t_version t_terms t_latestVersion t_values t_environments t_frames t_state t_term t_environment t_value t_budget t_steps t_costs t_made t_tells t_waiting t_many t_given x1 x2 (0 : Int32) r11 e11) (kV 3 hts aw_938 rfl rfl aw_9 aw_935 aw_937 as_44 (by decide +kernel) ⟨Nat.le_of_ble_eq_true rfl, Nat.le_of_ble_eq_true rfl⟩) (fr_preV hK hP hD hS hA hZ [0, 6, 7] rfl rfl (ci := 8) (q0 := 0) rfl rfl) rfl rfl hl.1 rfl (lv_room (Nat.le_of_ble_eq_true rfl)) dX9_result_11 ⟨Nat.le_of_ble_eq_true rfl, Nat.le_of_ble_eq_true rfl⟩) hP hD hS hA [0, 6, 7] [1, 2, 3, 4, 5] [5, 0, 1, 2, 3, 4, 6, 7] rfl rfl rfl (by decide) rfl rfl (fun H locs hP hD hS => ?_)
  have hP : va_P (dC, dI) vwCl [(q_t, .inr (8, [.int t_threw, .ref q_t_text, .int t_size, .int t_at, .int t_error, .int t_found, .ref q_t_tags, .ref q_t_subs, .ref q_t_numbers, .ref q_t_chars, .ref q_t_firsts, .ref q_t_seconds, .ref q_t_depths, .ref q_t_lambdas, .ref q_t_owners, .int t_version, .int t_terms, .int t_latestVersion, .int t_values, .ref q_t_kind, .ref q_t_number, .ref q_t_bytes, .ref q_t_part, .ref q_t_around, .ref q_t_many, .ref q_t_given, .int t_environments, .ref q_t_holds, .ref q_t_outer, .int t_frames, .ref q_t_frame, .ref q_t_first, .ref q_t_second, .int t_state, .int t_term, .int t_environment, .int t_value, .int t_budget, .int t_steps, .int t_costs, .int t_made, .int t_tells, .ref q_t_told, .int t_waiting, .ref q_t_what, .ref q_t_where, .ref q_t_inside])), (q_t_kind, .inl (cI, 700, .inl t_kind)), (q_t_number, .inl (cI, 700, .inl t_number)), (q_t_bytes, .inl (cL, 700, .inr (.inl t_bytes))), (q_t_part, .inl (cI, 700, .inl t_part)), (q_t_around, .inl (cI, 700, .inl t_around)), (q_t_many, .inl (cI, 700, .inl t_many)), (q_t_given, .inl (cI, 2100, .inl t_given))] H := hP
  have hD : va_D A [(q_t, .inr (8, [.int t_threw, .ref q_t_text, .int t_size, .int t_at, .int t_error, .int t_found, .ref q_t_tags, .ref q_t_subs, .ref q_t_numbers, .ref q_t_chars, .ref q_t_firsts, .ref q_t_seconds, .ref q_t_depths, .ref q_t_lambdas, .ref q_t_owners, .int t_version, .int t_terms, .int t_latestVersion, .int t_values, .ref q_t_kind, .ref q_t_number, .ref q_t_bytes, .ref q_t_part, .ref q_t_around, .ref q_t_many, .ref q_t_given, .int t_environments, .ref q_t_holds, .ref q_t_outer, .int t_frames, .ref q_t_frame, .ref q_t_first, .ref q_t_second, .int t_state, .int t_term, .int t_environment, .int t_value, .int t_budget, .int t_steps, .int t_costs, .int t_made, .int t_tells, .ref q_t_told, .int t_waiting, .ref q_t_what, .ref q_t_where, .ref q_t_inside])), (q_t_kind, .inl (cI, 700, .inl t_kind)), (q_t_number, .inl (cI, 700, .inl t_number)), (q_t_bytes, .inl (cL, 700, .inr (.inl t_bytes))), (q_t_part, .inl (cI, 700, .inl t_part)), (q_t_around, .inl (cI, 700, .inl t_around)), (q_t_many, .inl (cI, 700, .inl t_many)), (q_t_given, .inl (cI, 2100, .inl t_given))] := hD
  refine lv_istore (lv' := [(4, .int r11), (3, .int (t_part x1.toNatClampNeg)), (0, .ref q_t), (1, .int x1), (2, .int x2)]) hx hb dX9_result_14 hl (by decide) rfl (fun ls hl => ?_)
  refine lv_aload_n hx hb dX9_result_16 rfl (lv_at hl 2 rfl) ?_
  refine lv_iload_n hx hb dX9_result_17 rfl (lv_at hl 3 rfl) ?_
  refine lv_iload_n hx hb dX9_result_18 rfl (lv_at hl 4 rfl) ?_
  refine lv_iconst (v := 1) hx hb dX9_result_19 (by decide) ?_
  obtain ⟨r20, e20, hm⟩ := c1_inv hm
  refine fr_i (wr := [(q_t_kind, .inl (cI, 700, .inl t_kind)), (q_t_number, .inl (cI, 700, .inl t_number)), (q_t_bytes, .inl (cL, 700, .inr (.inl t_bytes))), (q_t_part, .inl (cI, 700, .inl t_part)), (q_t_around, .inl (cI, 700, .inl t_around))]) (w2 := [(q_t, .inr (8, [.int t_threw, .ref q_t_text, .int t_size, .int t_at, .int t_error, .int t_found, .ref q_t_tags, .ref q_t_subs, .ref q_t_numbers, .ref q_t_chars, .ref q_t_firsts, .ref q_t_seconds, .ref q_t_depths, .ref q_t_lambdas, .ref q_t_owners, .int t_version, .int t_terms, .int t_latestVersion, .int t_values, .ref q_t_kind, .ref q_t_number, .ref q_t_bytes, .ref q_t_part, .ref q_t_around, .ref q_t_many, .ref q_t_given, .int t_environments, .ref q_t_holds, .ref q_t_outer, .int t_frames, .ref q_t_frame, .ref q_t_first, .ref q_t_second, .int t_state, .int t_term, .int t_environment, .int t_value, .int t_budget, .int t_steps, .int t_costs, .int t_made, .int t_tells, .ref q_t_told, .int t_waiting, .ref q_t_what, .ref q_t_where, .ref q_t_inside])), (q_t_kind, .inl (cI, 700, .inl t_kind)), (q_t_number, .inl (cI, 700, .inl t_number)), (q_t_bytes, .inl (cL, 700, .inr (.inl t_bytes))), (q_t_part, .inl (cI, 700, .inl t_part)), (q_t_around, .inl (cI, 700, .inl t_around)), (q_t_many, .inl (cI, 700, .inl t_many)), (q_t_given, .inl (cI, 2100, .inl t_given))]) (va_runV (As := [.int x1, .int x2, .int 1]) (rest := []) ⟨hx, hb, hml, hown, hts⟩ (c_MO_argument l dC dI cI cL H.size q_t q_t_text q_t_tags q_t_subs q_t_numbers q_t_chars q_t_firsts q_t_seconds q_t_depths q_t_lambdas q_t_owners q_t_kind q_t_number q_t_bytes q_t_part q_t_around q_t_many q_t_given q_t_holds q_t_outer q_t_frame q_t_first q_t_second q_t_told q_t_what q_t_where q_t_inside t_threw t_size t_at t_error t_found t_version t_terms t_latestVersion t_values t_environments t_frames t_state t_term t_environment t_value t_budget t_steps t_costs t_made t_tells t_waiting t_many t_given x1 x2 (1 : Int32) r20 e20) (kV 3 hts aw_938 rfl rfl aw_9 aw_935 aw_937 as_44 (by decide +kernel) ⟨Nat.le_of_ble_eq_true rfl, Nat.le_of_ble_eq_true rfl⟩) (fr_preV hK hP hD hS hA hZ [0, 6, 7] rfl rfl (ci := 8) (q0 := 0) rfl rfl) rfl rfl hl.1 rfl (lv_room (Nat.le_of_ble_eq_true rfl)) dX9_result_20 ⟨Nat.le_of_ble_eq_true rfl, Nat.le_of_ble_eq_true rfl⟩) hP hD hS hA [0, 6, 7] [1, 2, 3, 4, 5] [5, 0, 1, 2, 3, 4, 6, 7] rfl rfl rfl (by decide) rfl rfl (fun H locs hP hD hS => ?_)
  have hP : va_P (dC, dI) vwCl [(q_t, .inr (8, [.int t_threw, .ref q_t_text, .int t_size, .int t_at, .int t_error, .int t_found, .ref q_t_tags, .ref q_t_subs, .ref q_t_numbers, .ref q_t_chars, .ref q_t_firsts, .ref q_t_seconds, .ref q_t_depths, .ref q_t_lambdas, .ref q_t_owners, .int t_version, .int t_terms, .int t_latestVersion, .int t_values, .ref q_t_kind, .ref q_t_number, .ref q_t_bytes, .ref q_t_part, .ref q_t_around, .ref q_t_many, .ref q_t_given, .int t_environments, .ref q_t_holds, .ref q_t_outer, .int t_frames, .ref q_t_frame, .ref q_t_first, .ref q_t_second, .int t_state, .int t_term, .int t_environment, .int t_value, .int t_budget, .int t_steps, .int t_costs, .int t_made, .int t_tells, .ref q_t_told, .int t_waiting, .ref q_t_what, .ref q_t_where, .ref q_t_inside])), (q_t_kind, .inl (cI, 700, .inl t_kind)), (q_t_number, .inl (cI, 700, .inl t_number)), (q_t_bytes, .inl (cL, 700, .inr (.inl t_bytes))), (q_t_part, .inl (cI, 700, .inl t_part)), (q_t_around, .inl (cI, 700, .inl t_around)), (q_t_many, .inl (cI, 700, .inl t_many)), (q_t_given, .inl (cI, 2100, .inl t_given))] H := hP
  have hD : va_D A [(q_t, .inr (8, [.int t_threw, .ref q_t_text, .int t_size, .int t_at, .int t_error, .int t_found, .ref q_t_tags, .ref q_t_subs, .ref q_t_numbers, .ref q_t_chars, .ref q_t_firsts, .ref q_t_seconds, .ref q_t_depths, .ref q_t_lambdas, .ref q_t_owners, .int t_version, .int t_terms, .int t_latestVersion, .int t_values, .ref q_t_kind, .ref q_t_number, .ref q_t_bytes, .ref q_t_part, .ref q_t_around, .ref q_t_many, .ref q_t_given, .int t_environments, .ref q_t_holds, .ref q_t_outer, .int t_frames, .ref q_t_frame, .ref q_t_first, .ref q_t_second, .int t_state, .int t_term, .int t_environment, .int t_value, .int t_budget, .int t_steps, .int t_costs, .int t_made, .int t_tells, .ref q_t_told, .int t_waiting, .ref q_t_what, .ref q_t_where, .ref q_t_inside])), (q_t_kind, .inl (cI, 700, .inl t_kind)), (q_t_number, .inl (cI, 700, .inl t_number)), (q_t_bytes, .inl (cL, 700, .inr (.inl t_bytes))), (q_t_part, .inl (cI, 700, .inl t_part)), (q_t_around, .inl (cI, 700, .inl t_around)), (q_t_many, .inl (cI, 700, .inl t_many)), (q_t_given, .inl (cI, 2100, .inl t_given))] := hD
  refine lv_istore (lv' := [(5, .int r20), (4, .int r11), (3, .int (t_part x1.toNatClampNeg)), (0, .ref q_t), (1, .int x1), (2, .int x2)]) hx hb dX9_result_23 hl (by decide) rfl (fun ls hl => ?_)
  refine lv_aload_n hx hb dX9_result_25 rfl (lv_at hl 3 rfl) ?_
  refine va_get (D := (dC, dI)) (ci := 8) (v := .ref q_t_number) (C := RX9) (T := TX9) (N := 47) hx hb hts hn0 hown hK hP 0 rfl rfl 20 (by decide) (htw _ aw_733) (fun _ h9 => h9) rfl dX9_result_26 ?_
  refine lv_iload hx hb dX9_result_29 (lv_at hl 1 rfl) ?_
  obtain ⟨h31, hm⟩ := chk_inv hm
  refine va_iald (D := (dC, dI)) hx hb hK hP 2 0 rfl rfl (in_of (n := 700) (by decide) h31) dX9_result_31 ?_
  refine lv_i2l (v := (t_number r11.toNatClampNeg).toInt64) hx hb dX9_result_32 rfl ?_
  refine lv_lstore (lv' := [(6, .long ((t_number r11.toNatClampNeg).toInt64)), (5, .int r20), (4, .int r11), (3, .int (t_part x1.toNatClampNeg)), (0, .ref q_t), (1, .int x1), (2, .int x2)]) hx hb dX9_result_33 hl (by decide) rfl (fun ls hl => ?_)
  refine lv_aload_n hx hb dX9_result_35 rfl (lv_at hl 4 rfl) ?_
  refine va_get (D := (dC, dI)) (ci := 8) (v := .ref q_t_number) (C := RX9) (T := TX9) (N := 47) hx hb hts hn0 hown hK hP 0 rfl rfl 20 (by decide) (htw _ aw_733) (fun _ h9 => h9) rfl dX9_result_36 ?_
  refine lv_iload hx hb dX9_result_39 (lv_at hl 1 rfl) ?_
  obtain ⟨h41, hm⟩ := chk_inv hm
  refine va_iald (D := (dC, dI)) hx hb hK hP 2 0 rfl rfl (in_of (n := 700) (by decide) h41) dX9_result_41 ?_
  refine lv_i2l (v := (t_number r20.toNatClampNeg).toInt64) hx hb dX9_result_42 rfl ?_
  refine lv_lstore (lv' := [(8, .long ((t_number r20.toNatClampNeg).toInt64)), (6, .long ((t_number r11.toNatClampNeg).toInt64)), (5, .int r20), (4, .int r11), (3, .int (t_part x1.toNatClampNeg)), (0, .ref q_t), (1, .int x1), (2, .int x2)]) hx hb dX9_result_43 hl (by decide) rfl (fun ls hl => ?_)
  refine lv_iload_n hx hb dX9_result_45 rfl (lv_at hl 4 rfl) ?_
  refine lv_bipush (v := 6) hx hb dX9_result_46 (by decide) ?_
  refine lv_icmp_ne hx hb dX9_result_48 rfl (fun h48 => ?_) (fun h48 => ?_)
  · replace hm := ifn h48 hm
    refine lv_iload_n hx hb dX9_result_71 rfl (lv_at hl 4 rfl) ?_
    refine lv_bipush (v := 10) hx hb dX9_result_72 (by decide) ?_
    refine lv_icmp_ne hx hb dX9_result_74 rfl (fun h74 => ?_) (fun h74 => ?_)
    · replace hm := ifn h74 hm
      refine lv_iload_n hx hb dX9_result_80 rfl (lv_at hl 4 rfl) ?_
      refine lv_bipush (v := 7) hx hb dX9_result_81 (by decide) ?_
      refine lv_icmp_ne hx hb dX9_result_83 rfl (fun h83 => ?_) (fun h83 => ?_)
      · replace hm := ifn h83 hm
        refine lv_iload_n hx hb dX9_result_132 rfl (lv_at hl 4 rfl) ?_
        refine lv_iconst (v := 4) hx hb dX9_result_133 (by decide) ?_
        refine lv_icmp_eq hx hb dX9_result_134 rfl (fun h134 => ?_) (fun h134 => ?_)
        · replace hm := ifp h134 hm
          exact L148 _ _ _ _ _ _ _ _ _ _ _ _ _ _ _ hm (lv_sub hl [5, 4, 3, 2, 1, 0] rfl) hP hD hS
        · replace hm := ifn h134 hm
          refine lv_iload_n hx hb dX9_result_137 rfl (lv_at hl 4 rfl) ?_
          refine lv_iconst (v := 5) hx hb dX9_result_138 (by decide) ?_
          refine lv_icmp_eq hx hb dX9_result_139 rfl (fun h139 => ?_) (fun h139 => ?_)
          · replace hm := ifp h139 hm
            exact L148 _ _ _ _ _ _ _ _ _ _ _ _ _ _ _ hm (lv_sub hl [5, 4, 3, 2, 1, 0] rfl) hP hD hS
          · replace hm := ifn h139 hm
            refine lv_iload_n hx hb dX9_result_142 rfl (lv_at hl 4 rfl) ?_
            refine lv_bipush (v := 11) hx hb dX9_result_143 (by decide) ?_
            refine lv_icmp_ne hx hb dX9_result_145 rfl (fun h145 => ?_) (fun h145 => ?_)
            · replace hm := ifn h145 hm
              refine lv_iload_n hx hb dX9_result_241 rfl (lv_at hl 4 rfl) ?_
              refine lv_if_ne hx hb dX9_result_242 rfl (fun h242 => ?_) (fun h242 => ?_)
              · replace hm := ifn h242 hm
                refine lv_iload_n hx hb dX9_result_253 rfl (lv_at hl 4 rfl) ?_
                refine lv_iconst (v := 1) hx hb dX9_result_254 (by decide) ?_
                refine lv_icmp_ne hx hb dX9_result_255 rfl (fun h255 => ?_) (fun h255 => ?_)
                · replace hm := ifn h255 hm
                  refine lv_iload_n hx hb dX9_result_266 rfl (lv_at hl 4 rfl) ?_
                  refine lv_iconst (v := 2) hx hb dX9_result_267 (by decide) ?_
                  refine lv_icmp_ne hx hb dX9_result_268 rfl (fun h268 => ?_) (fun h268 => ?_)
                  · replace hm := ifn h268 hm
                    refine lv_iload_n hx hb dX9_result_279 rfl (lv_at hl 4 rfl) ?_
                    refine lv_iconst (v := 3) hx hb dX9_result_280 (by decide) ?_
                    refine lv_icmp_ne hx hb dX9_result_281 rfl (fun h281 => ?_) (fun h281 => ?_)
                    · replace hm := ifn h281 hm
                      refine lv_iload_n hx hb dX9_result_292 rfl (lv_at hl 4 rfl) ?_
                      refine lv_bipush (v := 8) hx hb dX9_result_293 (by decide) ?_
                      refine lv_icmp_ne hx hb dX9_result_295 rfl (fun h295 => ?_) (fun h295 => ?_)
                      · replace hm := ifn h295 hm
                        refine lv_aload_n hx hb dX9_result_303 rfl (lv_at hl 5 rfl) ?_
                        refine va_get (D := (dC, dI)) (ci := 8) (v := .ref q_t_bytes) (C := RX9) (T := TX9) (N := 47) hx hb hts hn0 hown hK hP 0 rfl rfl 21 (by decide) (htw _ aw_734) (fun _ h9 => h9) rfl dX9_result_304 ?_
                        refine lv_iload hx hb dX9_result_307 (lv_at hl 3 rfl) ?_
                        obtain ⟨h309, hm⟩ := chk_inv hm
                        refine va_lald (D := (dC, dI)) hx hb hK hP 3 1 rfl rfl (in_of (n := 700) (by decide) h309) dX9_result_309 ?_
                        refine lv_bipush (v := 8) hx hb dX9_result_310 (by decide) ?_
                        refine lv_lload hx hb dX9_result_312 (lv_at hl 0 rfl) ?_
                        refine lv_l2i (v := ((t_number r20.toNatClampNeg).toInt64).toInt32) hx hb dX9_result_314 rfl ?_
                        refine lv_imul hx hb dX9_result_315 ?_
                        refine lv_lshr (v := (t_bytes r11.toNatClampNeg) >>> ((8 * (((t_number r20.toNatClampNeg).toInt64).toInt32)).toInt64 &&& 63)) hx hb dX9_result_316 rfl ?_
                        refine lv_ldc2 (v := 255) hx hb hown (htw _ aw_995) dX9_result_317 ?_
                        refine lv_land hx hb dX9_result_320 ?_
                        exact L321 _ _ _ _ _ _ _ _ _ _ _ hm (lv_sub hl [5] rfl) hP hD hS
                      · replace hm := ifp h295 hm
                        refine lv_lload hx hb dX9_result_298 (lv_at hl 1 rfl) ?_
                        refine lv_goto hx hb dX9_result_300 rfl ?_
                        exact L321 _ _ _ _ _ _ _ _ _ _ _ hm (lv_sub hl [5] rfl) hP hD hS
                    · replace hm := ifp h281 hm
                      refine lv_lload hx hb dX9_result_284 (lv_at hl 1 rfl) ?_
                      refine lv_lload hx hb dX9_result_286 (lv_at hl 0 rfl) ?_
                      obtain ⟨h288, hm⟩ := chk_inv hm
                      refine lv_ldiv hx hb dX9_result_288 h288 ?_
                      refine lv_goto hx hb dX9_result_289 rfl ?_
                      exact L321 _ _ _ _ _ _ _ _ _ _ _ hm (lv_sub hl [5] rfl) hP hD hS
                  · replace hm := ifp h268 hm
                    refine lv_lload hx hb dX9_result_271 (lv_at hl 1 rfl) ?_
                    refine lv_lload hx hb dX9_result_273 (lv_at hl 0 rfl) ?_
                    refine lv_lmul hx hb dX9_result_275 ?_
                    refine lv_goto hx hb dX9_result_276 rfl ?_
                    exact L321 _ _ _ _ _ _ _ _ _ _ _ hm (lv_sub hl [5] rfl) hP hD hS
                · replace hm := ifp h255 hm
                  refine lv_lload hx hb dX9_result_258 (lv_at hl 1 rfl) ?_
                  refine lv_lload hx hb dX9_result_260 (lv_at hl 0 rfl) ?_
                  refine lv_lsub hx hb dX9_result_262 ?_
                  refine lv_goto hx hb dX9_result_263 rfl ?_
                  exact L321 _ _ _ _ _ _ _ _ _ _ _ hm (lv_sub hl [5] rfl) hP hD hS
              · replace hm := ifp h242 hm
                refine lv_lload hx hb dX9_result_245 (lv_at hl 1 rfl) ?_
                refine lv_lload hx hb dX9_result_247 (lv_at hl 0 rfl) ?_
                refine lv_ladd hx hb dX9_result_249 ?_
                refine lv_goto hx hb dX9_result_250 rfl ?_
                exact L321 _ _ _ _ _ _ _ _ _ _ _ hm (lv_sub hl [5] rfl) hP hD hS
            · replace hm := ifp h145 hm
              exact L148 _ _ _ _ _ _ _ _ _ _ _ _ _ _ _ hm (lv_sub hl [5, 4, 3, 2, 1, 0] rfl) hP hD hS
      · replace hm := ifp h83 hm
        refine lv_aload_n hx hb dX9_result_86 rfl (lv_at hl 5 rfl) ?_
        refine lv_lload hx hb dX9_result_87 (lv_at hl 1 rfl) ?_
        refine lv_lload hx hb dX9_result_89 (lv_at hl 0 rfl) ?_
        refine lv_ladd hx hb dX9_result_91 ?_
        refine lv_l2i (v := (((t_number r11.toNatClampNeg).toInt64) + ((t_number r20.toNatClampNeg).toInt64)).toInt32) hx hb dX9_result_92 rfl ?_
        refine lv_aload_n hx hb dX9_result_93 rfl (lv_at hl 5 rfl) ?_
        refine va_get (D := (dC, dI)) (ci := 8) (v := .ref q_t_bytes) (C := RX9) (T := TX9) (N := 47) hx hb hts hn0 hown hK hP 0 rfl rfl 21 (by decide) (htw _ aw_734) (fun _ h9 => h9) rfl dX9_result_94 ?_
        refine lv_iload hx hb dX9_result_97 (lv_at hl 3 rfl) ?_
        obtain ⟨h99, hm⟩ := chk_inv hm
        refine va_lald (D := (dC, dI)) hx hb hK hP 3 1 rfl rfl (in_of (n := 700) (by decide) h99) dX9_result_99 ?_
        refine lv_lload hx hb dX9_result_100 (lv_at hl 1 rfl) ?_
        refine lv_ldc2 (v := 7) hx hb hown (htw _ aw_1027) dX9_result_102 ?_
        refine W.lcmp hx hb dX9_result_105 ?_
        refine lv_if_ge hx hb dX9_result_106 rfl (fun h106 => ?_) (fun h106 => ?_)
        · replace hm := ifp h106 hm
          refine lv_lconst (v := 0) hx hb dX9_result_126 (by decide) ?_
          exact L127 _ _ _ _ _ _ _ _ _ _ _ _ _ hm (lv_sub hl [] rfl) hP hD hS
        · replace hm := ifn h106 hm
          refine lv_aload_n hx hb dX9_result_109 rfl (lv_at hl 5 rfl) ?_
          refine va_get (D := (dC, dI)) (ci := 8) (v := .ref q_t_bytes) (C := RX9) (T := TX9) (N := 47) hx hb hts hn0 hown hK hP 0 rfl rfl 21 (by decide) (htw _ aw_734) (fun _ h9 => h9) rfl dX9_result_110 ?_
          refine lv_iload hx hb dX9_result_113 (lv_at hl 2 rfl) ?_
          obtain ⟨h115, hm⟩ := chk_inv hm
          refine va_lald (D := (dC, dI)) hx hb hK hP 3 1 rfl rfl (in_of (n := 700) (by decide) h115) dX9_result_115 ?_
          refine lv_bipush (v := 8) hx hb dX9_result_116 (by decide) ?_
          refine lv_lload hx hb dX9_result_118 (lv_at hl 1 rfl) ?_
          refine lv_l2i (v := ((t_number r11.toNatClampNeg).toInt64).toInt32) hx hb dX9_result_120 rfl ?_
          refine lv_imul hx hb dX9_result_121 ?_
          refine lv_lshl (v := (t_bytes r20.toNatClampNeg) <<< ((8 * (((t_number r11.toNatClampNeg).toInt64).toInt32)).toInt64 &&& 63)) hx hb dX9_result_122 rfl ?_
          refine lv_goto hx hb dX9_result_123 rfl ?_
          exact L127 _ _ _ _ _ _ _ _ _ _ _ _ _ hm (lv_sub hl [] rfl) hP hD hS
    · replace hm := ifp h74 hm
      refine lv_iload hx hb dX9_result_77 (lv_at hl 2 rfl) ?_
      try clear L127
      try clear L148
      try clear L220
      try clear L221
      try clear L235
      try clear L321
      obtain ⟨rfl, rfl, rfl, rfl, rfl, rfl, rfl, rfl⟩ := ij8 hm
      subst hQ
      exact W.iret hx hb hr (fun t ht hW => ⟨⟨_, (), rfl, rfl, by rw [ht]; exact hP, va_K.moved hW.alike hK, hD⟩, hS.F ht⟩) hS.2.2 dX9_result_79
  · replace hm := ifp h48 hm
    refine lv_lload hx hb dX9_result_51 (lv_at hl 1 rfl) ?_
    refine lv_lconst (v := 1) hx hb dX9_result_53 (by decide) ?_
    refine W.lcmp hx hb dX9_result_54 ?_
    refine lv_if_ne hx hb dX9_result_55 rfl (fun h55 => ?_) (fun h55 => ?_)
    · replace hm := ifn h55 hm
      refine lv_aload_n hx hb dX9_result_63 rfl (lv_at hl 5 rfl) ?_
      refine lv_iload_n hx hb dX9_result_64 rfl (lv_at hl 6 rfl) ?_
      refine lv_iload_n hx hb dX9_result_65 rfl (lv_at hl 7 rfl) ?_
      refine lv_iconst (v := 2) hx hb dX9_result_66 (by decide) ?_
      obtain ⟨r67, e67, hm⟩ := c1_inv hm
      refine fr_i (wr := [(q_t_kind, .inl (cI, 700, .inl t_kind)), (q_t_number, .inl (cI, 700, .inl t_number)), (q_t_bytes, .inl (cL, 700, .inr (.inl t_bytes))), (q_t_part, .inl (cI, 700, .inl t_part)), (q_t_around, .inl (cI, 700, .inl t_around))]) (w2 := [(q_t, .inr (8, [.int t_threw, .ref q_t_text, .int t_size, .int t_at, .int t_error, .int t_found, .ref q_t_tags, .ref q_t_subs, .ref q_t_numbers, .ref q_t_chars, .ref q_t_firsts, .ref q_t_seconds, .ref q_t_depths, .ref q_t_lambdas, .ref q_t_owners, .int t_version, .int t_terms, .int t_latestVersion, .int t_values, .ref q_t_kind, .ref q_t_number, .ref q_t_bytes, .ref q_t_part, .ref q_t_around, .ref q_t_many, .ref q_t_given, .int t_environments, .ref q_t_holds, .ref q_t_outer, .int t_frames, .ref q_t_frame, .ref q_t_first, .ref q_t_second, .int t_state, .int t_term, .int t_environment, .int t_value, .int t_budget, .int t_steps, .int t_costs, .int t_made, .int t_tells, .ref q_t_told, .int t_waiting, .ref q_t_what, .ref q_t_where, .ref q_t_inside])), (q_t_kind, .inl (cI, 700, .inl t_kind)), (q_t_number, .inl (cI, 700, .inl t_number)), (q_t_bytes, .inl (cL, 700, .inr (.inl t_bytes))), (q_t_part, .inl (cI, 700, .inl t_part)), (q_t_around, .inl (cI, 700, .inl t_around)), (q_t_many, .inl (cI, 700, .inl t_many)), (q_t_given, .inl (cI, 2100, .inl t_given))]) (va_runV (As := [.int x1, .int x2, .int 2]) (rest := []) ⟨hx, hb, hml, hown, hts⟩ (c_MO_argument l dC dI cI cL H.size q_t q_t_text q_t_tags q_t_subs q_t_numbers q_t_chars q_t_firsts q_t_seconds q_t_depths q_t_lambdas q_t_owners q_t_kind q_t_number q_t_bytes q_t_part q_t_around q_t_many q_t_given q_t_holds q_t_outer q_t_frame q_t_first q_t_second q_t_told q_t_what q_t_where q_t_inside t_threw t_size t_at t_error t_found t_version t_terms t_latestVersion t_values t_environments t_frames t_state t_term t_environment t_value t_budget t_steps t_costs t_made t_tells t_waiting t_many t_given x1 x2 (2 : Int32) r67 e67) (kV 3 hts aw_938 rfl rfl aw_9 aw_935 aw_937 as_44 (by decide +kernel) ⟨Nat.le_of_ble_eq_true rfl, Nat.le_of_ble_eq_true rfl⟩) (fr_preV hK hP hD hS hA hZ [0, 6, 7] rfl rfl (ci := 8) (q0 := 0) rfl rfl) rfl rfl hl.1 rfl (lv_room (Nat.le_of_ble_eq_true rfl)) dX9_result_67 ⟨Nat.le_of_ble_eq_true rfl, Nat.le_of_ble_eq_true rfl⟩) hP hD hS hA [0, 6, 7] [1, 2, 3, 4, 5] [5, 0, 1, 2, 3, 4, 6, 7] rfl rfl rfl (by decide) rfl rfl (fun H locs hP hD hS => ?_)
      have hP : va_P (dC, dI) vwCl [(q_t, .inr (8, [.int t_threw, .ref q_t_text, .int t_size, .int t_at, .int t_error, .int t_found, .ref q_t_tags, .ref q_t_subs, .ref q_t_numbers, .ref q_t_chars, .ref q_t_firsts, .ref q_t_seconds, .ref q_t_depths, .ref q_t_lambdas, .ref q_t_owners, .int t_version, .int t_terms, .int t_latestVersion, .int t_values, .ref q_t_kind, .ref q_t_number, .ref q_t_bytes, .ref q_t_part, .ref q_t_around, .ref q_t_many, .ref q_t_given, .int t_environments, .ref q_t_holds, .ref q_t_outer, .int t_frames, .ref q_t_frame, .ref q_t_first, .ref q_t_second, .int t_state, .int t_term, .int t_environment, .int t_value, .int t_budget, .int t_steps, .int t_costs, .int t_made, .int t_tells, .ref q_t_told, .int t_waiting, .ref q_t_what, .ref q_t_where, .ref q_t_inside])), (q_t_kind, .inl (cI, 700, .inl t_kind)), (q_t_number, .inl (cI, 700, .inl t_number)), (q_t_bytes, .inl (cL, 700, .inr (.inl t_bytes))), (q_t_part, .inl (cI, 700, .inl t_part)), (q_t_around, .inl (cI, 700, .inl t_around)), (q_t_many, .inl (cI, 700, .inl t_many)), (q_t_given, .inl (cI, 2100, .inl t_given))] H := hP
      have hD : va_D A [(q_t, .inr (8, [.int t_threw, .ref q_t_text, .int t_size, .int t_at, .int t_error, .int t_found, .ref q_t_tags, .ref q_t_subs, .ref q_t_numbers, .ref q_t_chars, .ref q_t_firsts, .ref q_t_seconds, .ref q_t_depths, .ref q_t_lambdas, .ref q_t_owners, .int t_version, .int t_terms, .int t_latestVersion, .int t_values, .ref q_t_kind, .ref q_t_number, .ref q_t_bytes, .ref q_t_part, .ref q_t_around, .ref q_t_many, .ref q_t_given, .int t_environments, .ref q_t_holds, .ref q_t_outer, .int t_frames, .ref q_t_frame, .ref q_t_first, .ref q_t_second, .int t_state, .int t_term, .int t_environment, .int t_value, .int t_budget, .int t_steps, .int t_costs, .int t_made, .int t_tells, .ref q_t_told, .int t_waiting, .ref q_t_what, .ref q_t_where, .ref q_t_inside])), (q_t_kind, .inl (cI, 700, .inl t_kind)), (q_t_number, .inl (cI, 700, .inl t_number)), (q_t_bytes, .inl (cL, 700, .inr (.inl t_bytes))), (q_t_part, .inl (cI, 700, .inl t_part)), (q_t_around, .inl (cI, 700, .inl t_around)), (q_t_many, .inl (cI, 700, .inl t_many)), (q_t_given, .inl (cI, 2100, .inl t_given))] := hD
      try clear L127
      try clear L148
      try clear L220
      try clear L221
      try clear L235
      try clear L321
      obtain ⟨rfl, rfl, rfl, rfl, rfl, rfl, rfl, rfl⟩ := ij8 hm
      subst hQ
      exact W.iret hx hb hr (fun t ht hW => ⟨⟨_, (), rfl, rfl, by rw [ht]; exact hP, va_K.moved hW.alike hK, hD⟩, hS.F ht⟩) hS.2.2 dX9_result_70
    · replace hm := ifp h55 hm
      refine lv_iload hx hb dX9_result_58 (lv_at hl 2 rfl) ?_
      refine lv_goto hx hb dX9_result_60 rfl ?_
      try clear L127
      try clear L148
      try clear L220
      try clear L221
      try clear L235
      try clear L321
      obtain ⟨rfl, rfl, rfl, rfl, rfl, rfl, rfl, rfl⟩ := ij8 hm
      subst hQ
      exact W.iret hx hb hr (fun t ht hW => ⟨⟨_, (), rfl, rfl, by rw [ht]; exact hP, va_K.moved hW.alike hK, hD⟩, hS.F ht⟩) hS.2.2 dX9_result_70
def M_MO_returns (t_state : Int32) (t_value : Int32) (x1 : Int32) : Option (Int32 × Int32) :=
  some (2, x1)
set_option maxHeartbeats 4000000 in
set_option maxRecDepth 100000 in
theorem c_MO_returns (l : Launch) (dC : Nat → ClassId) (dI : Nat → Nat → Nat) (cI cL : ClassId) (sz : Nat) (q_t q_t_text q_t_tags q_t_subs q_t_numbers q_t_chars q_t_firsts q_t_seconds q_t_depths q_t_lambdas q_t_owners q_t_kind q_t_number q_t_bytes q_t_part q_t_around q_t_many q_t_given q_t_holds q_t_outer q_t_frame q_t_first q_t_second q_t_told q_t_what q_t_where q_t_inside : Nat) (t_threw t_size t_at t_error t_found t_version t_terms t_latestVersion t_values t_environments t_frames t_state t_term t_environment t_value t_budget t_steps t_costs t_made t_tells t_waiting x1 u_t_state u_t_value : Int32) (hm : M_MO_returns t_state t_value x1 = some (u_t_state, u_t_value)) : Met l yX9_returns wsX9_returns ({ frames := 0, cells := 0, slots := 0, locals := 0 }) (frPc (dC, dI) vwCl [(cI, .int), (cL, .long)] [(q_t, .inr (8, [.int t_threw, .ref q_t_text, .int t_size, .int t_at, .int t_error, .int t_found, .ref q_t_tags, .ref q_t_subs, .ref q_t_numbers, .ref q_t_chars, .ref q_t_firsts, .ref q_t_seconds, .ref q_t_depths, .ref q_t_lambdas, .ref q_t_owners, .int t_version, .int t_terms, .int t_latestVersion, .int t_values, .ref q_t_kind, .ref q_t_number, .ref q_t_bytes, .ref q_t_part, .ref q_t_around, .ref q_t_many, .ref q_t_given, .int t_environments, .ref q_t_holds, .ref q_t_outer, .int t_frames, .ref q_t_frame, .ref q_t_first, .ref q_t_second, .int t_state, .int t_term, .int t_environment, .int t_value, .int t_budget, .int t_steps, .int t_costs, .int t_made, .int t_tells, .ref q_t_told, .int t_waiting, .ref q_t_what, .ref q_t_where, .ref q_t_inside]))] sz [.ref q_t, .int x1]) (va_Qv (fun (_ : Unit) => True) (frB (dC, dI) vwCl [(cI, .int), (cL, .long)] (va_A [(q_t, .inr (8, [.int t_threw, .ref q_t_text, .int t_size, .int t_at, .int t_error, .int t_found, .ref q_t_tags, .ref q_t_subs, .ref q_t_numbers, .ref q_t_chars, .ref q_t_firsts, .ref q_t_seconds, .ref q_t_depths, .ref q_t_lambdas, .ref q_t_owners, .int t_version, .int t_terms, .int t_latestVersion, .int t_values, .ref q_t_kind, .ref q_t_number, .ref q_t_bytes, .ref q_t_part, .ref q_t_around, .ref q_t_many, .ref q_t_given, .int t_environments, .ref q_t_holds, .ref q_t_outer, .int t_frames, .ref q_t_frame, .ref q_t_first, .ref q_t_second, .int t_state, .int t_term, .int t_environment, .int t_value, .int t_budget, .int t_steps, .int t_costs, .int t_made, .int t_tells, .ref q_t_told, .int t_waiting, .ref q_t_what, .ref q_t_where, .ref q_t_inside]))] sz) [(q_t, .inr (8, [.int t_threw, .ref q_t_text, .int t_size, .int t_at, .int t_error, .int t_found, .ref q_t_tags, .ref q_t_subs, .ref q_t_numbers, .ref q_t_chars, .ref q_t_firsts, .ref q_t_seconds, .ref q_t_depths, .ref q_t_lambdas, .ref q_t_owners, .int t_version, .int t_terms, .int t_latestVersion, .int t_values, .ref q_t_kind, .ref q_t_number, .ref q_t_bytes, .ref q_t_part, .ref q_t_around, .ref q_t_many, .ref q_t_given, .int t_environments, .ref q_t_holds, .ref q_t_outer, .int t_frames, .ref q_t_frame, .ref q_t_first, .ref q_t_second, .int u_t_state, .int t_term, .int t_environment, .int u_t_value, .int t_budget, .int t_steps, .int t_costs, .int t_made, .int t_tells, .ref q_t_told, .int t_waiting, .ref q_t_what, .ref q_t_where, .ref q_t_inside]))]) (va_A [(q_t, .inr (8, [.int t_threw, .ref q_t_text, .int t_size, .int t_at, .int t_error, .int t_found, .ref q_t_tags, .ref q_t_subs, .ref q_t_numbers, .ref q_t_chars, .ref q_t_firsts, .ref q_t_seconds, .ref q_t_depths, .ref q_t_lambdas, .ref q_t_owners, .int t_version, .int t_terms, .int t_latestVersion, .int t_values, .ref q_t_kind, .ref q_t_number, .ref q_t_bytes, .ref q_t_part, .ref q_t_around, .ref q_t_many, .ref q_t_given, .int t_environments, .ref q_t_holds, .ref q_t_outer, .int t_frames, .ref q_t_frame, .ref q_t_first, .ref q_t_second, .int t_state, .int t_term, .int t_environment, .int t_value, .int t_budget, .int t_steps, .int t_costs, .int t_made, .int t_tells, .ref q_t_told, .int t_waiting, .ref q_t_what, .ref q_t_where, .ref q_t_inside]))] sz)) 0 0 (va_A [(q_t, .inr (8, [.int t_threw, .ref q_t_text, .int t_size, .int t_at, .int t_error, .int t_found, .ref q_t_tags, .ref q_t_subs, .ref q_t_numbers, .ref q_t_chars, .ref q_t_firsts, .ref q_t_seconds, .ref q_t_depths, .ref q_t_lambdas, .ref q_t_owners, .int t_version, .int t_terms, .int t_latestVersion, .int t_values, .ref q_t_kind, .ref q_t_number, .ref q_t_bytes, .ref q_t_part, .ref q_t_around, .ref q_t_many, .ref q_t_given, .int t_environments, .ref q_t_holds, .ref q_t_outer, .int t_frames, .ref q_t_frame, .ref q_t_first, .ref q_t_second, .int t_state, .int t_term, .int t_environment, .int t_value, .int t_budget, .int t_steps, .int t_costs, .int t_made, .int t_tells, .ref q_t_told, .int t_waiting, .ref q_t_what, .ref q_t_where, .ref q_t_inside]))] sz) := by
  refine Met.ofW (cc := cX9_returns) (maxL := 2) (ret := none) (by decide) rfl ?_
  intro p e s m args below meth c s₁ B hml hv
  obtain ⟨rfl, hsz, hP, hK, hD0, hZ⟩ := hv
  have hx := B.exec
  have hb := B.bytes
  have hr := B.returns
  have hts := atoms_spec (ws := wsX9_returns) B.pre
  have hown : s.vm.findClass RX9 = some m.cls := findClass_of_methodNamed B.named
  have hlocks := B.notSynchronized
  subst hsz
  have hD := hD0.self (sz := s.heap.size)
  generalize hAe : va_A [(q_t, .inr (8, [.int t_threw, .ref q_t_text, .int t_size, .int t_at, .int t_error, .int t_found, .ref q_t_tags, .ref q_t_subs, .ref q_t_numbers, .ref q_t_chars, .ref q_t_firsts, .ref q_t_seconds, .ref q_t_depths, .ref q_t_lambdas, .ref q_t_owners, .int t_version, .int t_terms, .int t_latestVersion, .int t_values, .ref q_t_kind, .ref q_t_number, .ref q_t_bytes, .ref q_t_part, .ref q_t_around, .ref q_t_many, .ref q_t_given, .int t_environments, .ref q_t_holds, .ref q_t_outer, .int t_frames, .ref q_t_frame, .ref q_t_first, .ref q_t_second, .int t_state, .int t_term, .int t_environment, .int t_value, .int t_budget, .int t_steps, .int t_costs, .int t_made, .int t_tells, .ref q_t_told, .int t_waiting, .ref q_t_what, .ref q_t_where, .ref q_t_inside]))] s.heap.size = A at hD hZ ⊢
  have hA : ∀ q : Nat, s.heap.size ≤ q → A q := fun q h => by rw [← hAe]; exact Or.inr h
  have hS : va_S A s.heap s.heap [] := va_S.rf
  have hP : va_P (dC, dI) vwCl [(q_t, .inr (8, [.int t_threw, .ref q_t_text, .int t_size, .int t_at, .int t_error, .int t_found, .ref q_t_tags, .ref q_t_subs, .ref q_t_numbers, .ref q_t_chars, .ref q_t_firsts, .ref q_t_seconds, .ref q_t_depths, .ref q_t_lambdas, .ref q_t_owners, .int t_version, .int t_terms, .int t_latestVersion, .int t_values, .ref q_t_kind, .ref q_t_number, .ref q_t_bytes, .ref q_t_part, .ref q_t_around, .ref q_t_many, .ref q_t_given, .int t_environments, .ref q_t_holds, .ref q_t_outer, .int t_frames, .ref q_t_frame, .ref q_t_first, .ref q_t_second, .int t_state, .int t_term, .int t_environment, .int t_value, .int t_budget, .int t_steps, .int t_costs, .int t_made, .int t_tells, .ref q_t_told, .int t_waiting, .ref q_t_what, .ref q_t_where, .ref q_t_inside]))] s.heap := hP
  have hl := lv_entry ([.ref q_t, .int x1]) (n := 2) (Nat.le_of_ble_eq_true rfl)
  rw [lg_entry_eq]
  generalize (lg_sl ([.ref q_t, .int x1]) ++ List.replicate (2 - (lg_sl ([.ref q_t, .int x1])).length) Slot.unset).toArray = ls at hl ⊢
  have hl : lv_has ls 2 [(0, .ref q_t), (1, .int x1)] := hl
  refine wq hP hS (fun Q hQ H locs hP hS => ?_)
  have htw : ∀ w ∈ AW, w.before _ s = true := fun w h => hts w (List.mem_cons_of_mem _ h)
  have hn0 : ∀ w ∈ wsX90, w ∈ wsX9_returns := fun w h => List.mem_cons_of_mem _ (inX9 w h)
  unfold M_MO_returns at hm
  refine lv_aload_n hx hb dX9_returns_0 rfl (lv_at hl 0 rfl) ?_
  refine lv_iload_n hx hb dX9_returns_1 rfl (lv_at hl 1 rfl) ?_
  refine va_put (D := (dC, dI)) (ci := 8) (v := .int x1) (ty := .int) (C := RX9) (T := TX9) (N := 47) hx hb hts hn0 tyX9 tyX9_ok nmX9 hown hK hP hD hS 0 rfl rfl 36 (by decide) (htw _ aw_749) (fun _ h9 => h9) rfl (by decide +kernel) rfl rfl (Nat.le_of_ble_eq_true rfl) dX9_returns_2 (fun H locs hP hD hS => ?_)
  have hP : va_P (dC, dI) vwCl [(q_t, .inr (8, [.int t_threw, .ref q_t_text, .int t_size, .int t_at, .int t_error, .int t_found, .ref q_t_tags, .ref q_t_subs, .ref q_t_numbers, .ref q_t_chars, .ref q_t_firsts, .ref q_t_seconds, .ref q_t_depths, .ref q_t_lambdas, .ref q_t_owners, .int t_version, .int t_terms, .int t_latestVersion, .int t_values, .ref q_t_kind, .ref q_t_number, .ref q_t_bytes, .ref q_t_part, .ref q_t_around, .ref q_t_many, .ref q_t_given, .int t_environments, .ref q_t_holds, .ref q_t_outer, .int t_frames, .ref q_t_frame, .ref q_t_first, .ref q_t_second, .int t_state, .int t_term, .int t_environment, .int x1, .int t_budget, .int t_steps, .int t_costs, .int t_made, .int t_tells, .ref q_t_told, .int t_waiting, .ref q_t_what, .ref q_t_where, .ref q_t_inside]))] H := hP
  have hD : va_D A [(q_t, .inr (8, [.int t_threw, .ref q_t_text, .int t_size, .int t_at, .int t_error, .int t_found, .ref q_t_tags, .ref q_t_subs, .ref q_t_numbers, .ref q_t_chars, .ref q_t_firsts, .ref q_t_seconds, .ref q_t_depths, .ref q_t_lambdas, .ref q_t_owners, .int t_version, .int t_terms, .int t_latestVersion, .int t_values, .ref q_t_kind, .ref q_t_number, .ref q_t_bytes, .ref q_t_part, .ref q_t_around, .ref q_t_many, .ref q_t_given, .int t_environments, .ref q_t_holds, .ref q_t_outer, .int t_frames, .ref q_t_frame, .ref q_t_first, .ref q_t_second, .int t_state, .int t_term, .int t_environment, .int x1, .int t_budget, .int t_steps, .int t_costs, .int t_made, .int t_tells, .ref q_t_told, .int t_waiting, .ref q_t_what, .ref q_t_where, .ref q_t_inside]))] := hD
  refine lv_aload_n hx hb dX9_returns_5 rfl (lv_at hl 0 rfl) ?_
  refine lv_iconst (v := 2) hx hb dX9_returns_6 (by decide) ?_
  refine va_put (D := (dC, dI)) (ci := 8) (v := .int 2) (ty := .int) (C := RX9) (T := TX9) (N := 47) hx hb hts hn0 tyX9 tyX9_ok nmX9 hown hK hP hD hS 0 rfl rfl 33 (by decide) (htw _ aw_746) (fun _ h9 => h9) rfl (by decide +kernel) rfl rfl (Nat.le_of_ble_eq_true rfl) dX9_returns_7 (fun H locs hP hD hS => ?_)
  have hP : va_P (dC, dI) vwCl [(q_t, .inr (8, [.int t_threw, .ref q_t_text, .int t_size, .int t_at, .int t_error, .int t_found, .ref q_t_tags, .ref q_t_subs, .ref q_t_numbers, .ref q_t_chars, .ref q_t_firsts, .ref q_t_seconds, .ref q_t_depths, .ref q_t_lambdas, .ref q_t_owners, .int t_version, .int t_terms, .int t_latestVersion, .int t_values, .ref q_t_kind, .ref q_t_number, .ref q_t_bytes, .ref q_t_part, .ref q_t_around, .ref q_t_many, .ref q_t_given, .int t_environments, .ref q_t_holds, .ref q_t_outer, .int t_frames, .ref q_t_frame, .ref q_t_first, .ref q_t_second, .int 2, .int t_term, .int t_environment, .int x1, .int t_budget, .int t_steps, .int t_costs, .int t_made, .int t_tells, .ref q_t_told, .int t_waiting, .ref q_t_what, .ref q_t_where, .ref q_t_inside]))] H := hP
  have hD : va_D A [(q_t, .inr (8, [.int t_threw, .ref q_t_text, .int t_size, .int t_at, .int t_error, .int t_found, .ref q_t_tags, .ref q_t_subs, .ref q_t_numbers, .ref q_t_chars, .ref q_t_firsts, .ref q_t_seconds, .ref q_t_depths, .ref q_t_lambdas, .ref q_t_owners, .int t_version, .int t_terms, .int t_latestVersion, .int t_values, .ref q_t_kind, .ref q_t_number, .ref q_t_bytes, .ref q_t_part, .ref q_t_around, .ref q_t_many, .ref q_t_given, .int t_environments, .ref q_t_holds, .ref q_t_outer, .int t_frames, .ref q_t_frame, .ref q_t_first, .ref q_t_second, .int 2, .int t_term, .int t_environment, .int x1, .int t_budget, .int t_steps, .int t_costs, .int t_made, .int t_tells, .ref q_t_told, .int t_waiting, .ref q_t_what, .ref q_t_where, .ref q_t_inside]))] := hD
  obtain ⟨rfl, rfl⟩ := ij2 hm
  subst hQ
  exact W.vret hx hb hr (fun t ht hW => ⟨⟨(), rfl, trivial, by rw [ht]; exact hP, va_K.moved hW.alike hK, hD⟩, hS.F ht⟩) hS.2.2 dX9_returns_10
