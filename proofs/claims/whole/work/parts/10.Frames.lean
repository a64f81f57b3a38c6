set_option maxHeartbeats 4000000 in
set_option maxRecDepth 100000 in
theorem c_Frames_init (l : Launch) (dC : Nat → ClassId) (dI : Nat → Nat → Nat) (cI cL : ClassId) (sz q_t : Nat) : Met l yX1_init wsX1_init ({ frames := 1, cells := 3, slots := 600, locals := 12 }) (frPc (dC, dI) vwCl [(cI, .int), (cL, .long)] [(q_t, .inr (1, [.null, .null, .null, .int 0]))] sz [.ref q_t]) (va_Qv (fun (_ : Nat × Nat × Nat) => True) (frBn (S := Nat × Nat × Nat) (dC, dI) vwCl [(cI, .int), (cL, .long)] (va_A [(q_t, .inr (1, [.null, .null, .null, .int 0]))] sz) (fun u => [(q_t, .inr (1, [.ref u.1, .ref u.2.1, .ref u.2.2, .int 0])), (u.1, .inl (cI, 200, .inl (fun _ => 0))), (u.2.1, .inl (cI, 200, .inl (fun _ => 0))), (u.2.2, .inl (cI, 200, .inl (fun _ => 0)))])) (va_A [(q_t, .inr (1, [.null, .null, .null, .int 0]))] sz)) 3 600 (va_A [(q_t, .inr (1, [.null, .null, .null, .int 0]))] sz) := by
  refine Met.ofW (cc := cX1_init) (maxL := 1) (ret := none) (by decide) rfl ?_
  intro p e s m args below meth c s₁ B hml hv
  obtain ⟨rfl, hsz, hP, hK, hD0, hZ⟩ := hv
  have hx := B.exec
  have hb := B.bytes
  have hr := B.returns
  have hts := atoms_spec (ws := wsX1_init) B.pre
  have hown : s.vm.findClass RX1 = some m.cls := findClass_of_methodNamed B.named
  have hlocks := B.notSynchronized
  have hin : meth.name = "<init>" := (name_of_methodNamed B.named B.method).1
  subst hsz
  have hD := hD0.self (sz := s.heap.size)
  generalize hAe : va_A [(q_t, .inr (1, [.null, .null, .null, .int 0]))] s.heap.size = A at hD hZ ⊢
  have hA : ∀ q : Nat, s.heap.size ≤ q → A q := fun q h => by rw [← hAe]; exact Or.inr h
  have hS : va_S A s.heap s.heap [] := va_S.rf
  have hP : va_P (dC, dI) vwCl [(q_t, .inr (1, [.null, .null, .null, .int 0]))] s.heap := hP
  have hl := lv_entry ([.ref q_t]) (n := 1) (Nat.le_of_ble_eq_true rfl)
  rw [lg_entry_eq]
  generalize (lg_sl ([.ref q_t]) ++ List.replicate (1 - (lg_sl ([.ref q_t])).length) Slot.unset).toArray = ls at hl ⊢
  have hl : lv_has ls 1 [(0, .ref q_t)] := hl
  refine wq hP hS (fun Q hQ H locs hP hS => ?_)
  have htw : ∀ w ∈ AW, w.before _ s = true := fun w h => hts w (List.mem_cons_of_mem _ h)
  have hn0 : ∀ w ∈ wsX10, w ∈ wsX1_init := fun w h => List.mem_cons_of_mem _ (inX1 w h)
  refine lv_aload_n hx hb dX1_init_0 rfl (lv_at hl 0 rfl) ?_
  refine W.objInit hx hb hown (htw _ aw_99) (htw _ aw_23) (htw _ aw_24) rfl (by rw [hml]; exact hl.1) rfl dX1_init_1 (Nat.le_of_ble_eq_true rfl) (Nat.le_of_ble_eq_true rfl) ?_
  refine W.eq (g2 := F0 m 4 ls []) rfl ?_
  refine lv_aload_n hx hb dX1_init_4 rfl (lv_at hl 0 rfl) ?_
  refine lv_sipush (v := 200) hx hb dX1_init_5 (by decide) ?_
  refine fr_newi (n := 200) (N' := 200) hx hb (htw _ aw_47) hK (t0 := 0) rfl hP hD hS hA (by decide) (by decide) (by decide) (Nat.le_of_ble_eq_true rfl) (Nat.le_of_ble_eq_true rfl) dX1_init_8 (fun q8 H hP hD hS => ?_)
  refine W.widen (k := 1) (n := 200) (by omega) (by omega) ?_
  have hP : va_P (dC, dI) vwCl [(q_t, .inr (1, [.null, .null, .null, .int 0])), (q8, .inl (cI, 200, .inl (fun _ => 0)))] H := hP
  have hD : va_D A [(q_t, .inr (1, [.null, .null, .null, .int 0])), (q8, .inl (cI, 200, .inl (fun _ => 0)))] := hD
  refine va_putF (D := (dC, dI)) (ci := 1) (v := .ref q8) (ty := (.array .int)) (C := RX1) (T := TX1) (N := 4) hx hb hts hn0 tyX1 tyX1_ok nmX1 hown hK hP hD hS 0 rfl rfl 0 (by decide) (htw _ aw_100) (fun _ h9 => h9) rfl hin rfl (by decide +kernel) rfl rfl (Nat.le_of_ble_eq_true rfl) dX1_init_10 (fun H locs hP hD hS => ?_)
  have hP : va_P (dC, dI) vwCl [(q_t, .inr (1, [.ref q8, .null, .null, .int 0])), (q8, .inl (cI, 200, .inl (fun _ => 0)))] H := hP
  have hD : va_D A [(q_t, .inr (1, [.ref q8, .null, .null, .int 0])), (q8, .inl (cI, 200, .inl (fun _ => 0)))] := hD
  refine lv_aload_n hx hb dX1_init_13 rfl (lv_at hl 0 rfl) ?_
  refine lv_sipush (v := 200) hx hb dX1_init_14 (by decide) ?_
  refine fr_newi (n := 200) (N' := 200) hx hb (htw _ aw_47) hK (t0 := 0) rfl hP hD hS hA (by decide) (by decide) (by decide) (Nat.le_of_ble_eq_true rfl) (Nat.le_of_ble_eq_true rfl) dX1_init_17 (fun q17 H hP hD hS => ?_)
  refine W.widen (k := 2) (n := 400) (by omega) (by omega) ?_
  have hP : va_P (dC, dI) vwCl [(q_t, .inr (1, [.ref q8, .null, .null, .int 0])), (q8, .inl (cI, 200, .inl (fun _ => 0))), (q17, .inl (cI, 200, .inl (fun _ => 0)))] H := hP
  have hD : va_D A [(q_t, .inr (1, [.ref q8, .null, .null, .int 0])), (q8, .inl (cI, 200, .inl (fun _ => 0))), (q17, .inl (cI, 200, .inl (fun _ => 0)))] := hD
  refine va_putF (D := (dC, dI)) (ci := 1) (v := .ref q17) (ty := (.array .int)) (C := RX1) (T := TX1) (N := 4) hx hb hts hn0 tyX1 tyX1_ok nmX1 hown hK hP hD hS 0 rfl rfl 1 (by decide) (htw _ aw_101) (fun _ h9 => h9) rfl hin rfl (by decide +kernel) rfl rfl (Nat.le_of_ble_eq_true rfl) dX1_init_19 (fun H locs hP hD hS => ?_)
  have hP : va_P (dC, dI) vwCl [(q_t, .inr (1, [.ref q8, .ref q17, .null, .int 0])), (q8, .inl (cI, 200, .inl (fun _ => 0))), (q17, .inl (cI, 200, .inl (fun _ => 0)))] H := hP
  have hD : va_D A [(q_t, .inr (1, [.ref q8, .ref q17, .null, .int 0])), (q8, .inl (cI, 200, .inl (fun _ => 0))), (q17, .inl (cI, 200, .inl (fun _ => 0)))] := hD
  refine lv_aload_n hx hb dX1_init_22 rfl (lv_at hl 0 rfl) ?_
  refine lv_sipush (v := 200) hx hb dX1_init_23 (by decide) ?_
  refine fr_newi (n := 200) (N' := 200) hx hb (htw _ aw_47) hK (t0 := 0) rfl hP hD hS hA (by decide) (by decide) (by decide) (Nat.le_of_ble_eq_true rfl) (Nat.le_of_ble_eq_true rfl) dX1_init_26 (fun q26 H hP hD hS => ?_)
  refine W.widen (k := 3) (n := 600) (by omega) (by omega) ?_
  have hP : va_P (dC, dI) vwCl [(q_t, .inr (1, [.ref q8, .ref q17, .null, .int 0])), (q8, .inl (cI, 200, .inl (fun _ => 0))), (q17, .inl (cI, 200, .inl (fun _ => 0))), (q26, .inl (cI, 200, .inl (fun _ => 0)))] H := hP
  have hD : va_D A [(q_t, .inr (1, [.ref q8, .ref q17, .null, .int 0])), (q8, .inl (cI, 200, .inl (fun _ => 0))), (q17, .inl (cI, 200, .inl (fun _ => 0))), (q26, .inl (cI, 200, .inl (fun _ => 0)))] := hD
  refine va_putF (D := (dC, dI)) (ci := 1) (v := .ref q26) (ty := (.array .int)) (C := RX1) (T := TX1) (N := 4) hx hb hts hn0 tyX1 tyX1_ok nmX1 hown hK hP hD hS 0 rfl rfl 2 (by decide) (htw _ aw_102) (fun _ h9 => h9) rfl hin rfl (by decide +kernel) rfl rfl (Nat.le_of_ble_eq_true rfl) dX1_init_28 (fun H locs hP hD hS => ?_)
  have hP : va_P (dC, dI) vwCl [(q_t, .inr (1, [.ref q8, .ref q17, .ref q26, .int 0])), (q8, .inl (cI, 200, .inl (fun _ => 0))), (q17, .inl (cI, 200, .inl (fun _ => 0))), (q26, .inl (cI, 200, .inl (fun _ => 0)))] H := hP
  have hD : va_D A [(q_t, .inr (1, [.ref q8, .ref q17, .ref q26, .int 0])), (q8, .inl (cI, 200, .inl (fun _ => 0))), (q17, .inl (cI, 200, .inl (fun _ => 0))), (q26, .inl (cI, 200, .inl (fun _ => 0)))] := hD
  refine lv_aload_n hx hb dX1_init_31 rfl (lv_at hl 0 rfl) ?_
  refine lv_iconst (v := 0) hx hb dX1_init_32 (by decide) ?_
  refine va_put (D := (dC, dI)) (ci := 1) (v := .int 0) (ty := .int) (C := RX1) (T := TX1) (N := 4) hx hb hts hn0 tyX1 tyX1_ok nmX1 hown hK hP hD hS 0 rfl rfl 3 (by decide) (htw _ aw_103) (fun _ h9 => h9) rfl (by decide +kernel) rfl rfl (Nat.le_of_ble_eq_true rfl) dX1_init_33 (fun H locs hP hD hS => ?_)
  have hP : va_P (dC, dI) vwCl [(q_t, .inr (1, [.ref q8, .ref q17, .ref q26, .int 0])), (q8, .inl (cI, 200, .inl (fun _ => 0))), (q17, .inl (cI, 200, .inl (fun _ => 0))), (q26, .inl (cI, 200, .inl (fun _ => 0)))] H := hP
  have hD : va_D A [(q_t, .inr (1, [.ref q8, .ref q17, .ref q26, .int 0])), (q8, .inl (cI, 200, .inl (fun _ => 0))), (q17, .inl (cI, 200, .inl (fun _ => 0))), (q26, .inl (cI, 200, .inl (fun _ => 0)))] := hD
  subst hQ
  exact W.vret hx hb hr (fun t ht hW => ⟨⟨(q8, q17, q26), rfl, trivial, by rw [ht]; exact hP, va_K.moved hW.alike hK, hD⟩, hS.F ht⟩) hS.2.2 dX1_init_36
def M_Frames_add (t_count : Int32) (t_kind : Nat → Int32) (t_part : Nat → Int32) (t_environment : Nat → Int32) (x1 : Int32) (x2 : Int32) (x3 : Int32) : Option (Int32 × (Nat → Int32) × (Nat → Int32) × (Nat → Int32)) :=
  (if 200 ≤ t_count then
    some (t_count, t_kind, t_part, t_environment)
  else
    chk ((0 : Int32) ≤ t_count ∧ t_count < 200) (chk ((0 : Int32) ≤ t_count ∧ t_count < 200) (chk ((0 : Int32) ≤ t_count ∧ t_count < 200) (some (t_count + 1, upd t_kind t_count.toNatClampNeg x1, upd t_part t_count.toNatClampNeg x2, upd t_environment t_count.toNatClampNeg x3)))))
set_option maxHeartbeats 4000000 in
set_option maxRecDepth 100000 in
theorem c_Frames_add (l : Launch) (dC : Nat → ClassId) (dI : Nat → Nat → Nat) (cI cL : ClassId) (sz : Nat) (q_t q_t_kind q_t_part q_t_environment : Nat) (t_count : Int32) (t_kind t_part t_environment : Nat → Int32) (x1 x2 x3 u_t_count : Int32) (u_t_kind u_t_part u_t_environment : Nat → Int32) (hm : M_Frames_add t_count t_kind t_part t_environment x1 x2 x3 = some (u_t_count, u_t_kind, u_t_part, u_t_environment)) : Met l yX1_add wsX1_add ({ frames := 0, cells := 0, slots := 0, locals := 0 }) (frPc (dC, dI) vwCl [(cI, .int), (cL, .long)] [(q_t, .inr (1, [.ref q_t_kind, .ref q_t_part, .ref q_t_environment, .int t_count])), (q_t_kind, .inl (cI, 200, .inl t_kind)), (q_t_part, .inl (cI, 200, .inl t_part)), (q_t_environment, .inl (cI, 200, .inl t_environment))] sz [.ref q_t, .int x1, .int x2, .int x3]) (va_Qv (fun (_ : Unit) => True) (frB (dC, dI) vwCl [(cI, .int), (cL, .long)] (va_A [(q_t, .inr (1, [.ref q_t_kind, .ref q_t_part, .ref q_t_environment, .int t_count])), (q_t_kind, .inl (cI, 200, .inl t_kind)), (q_t_part, .inl (cI, 200, .inl t_part)), (q_t_environment, .inl (cI, 200, .inl t_environment))] sz) [(q_t, .inr (1, [.ref q_t_kind, .ref q_t_part, .ref q_t_environment, .int u_t_count])), (q_t_kind, .inl (cI, 200, .inl u_t_kind)), (q_t_part, .inl (cI, 200, .inl u_t_part)), (q_t_environment, .inl (cI, 200, .inl u_t_environment))]) (va_A [(q_t, .inr (1, [.ref q_t_kind, .ref q_t_part, .ref q_t_environment, .int t_count])), (q_t_kind, .inl (cI, 200, .inl t_kind)), (q_t_part, .inl (cI, 200, .inl t_part)), (q_t_environment, .inl (cI, 200, .inl t_environment))] sz)) 0 0 (va_A [(q_t, .inr (1, [.ref q_t_kind, .ref q_t_part, .ref q_t_environment, .int t_count])), (q_t_kind, .inl (cI, 200, .inl t_kind)), (q_t_part, .inl (cI, 200, .inl t_part)), (q_t_environment, .inl (cI, 200, .inl t_environment))] sz) := by
  refine Met.ofW (cc := cX1_add) (maxL := 4) (ret := none) (by decide) rfl ?_
  intro p e s m args below meth c s₁ B hml hv
  obtain ⟨rfl, hsz, hP, hK, hD0, hZ⟩ := hv
  have hx := B.exec
  have hb := B.bytes
  have hr := B.returns
  have hts := atoms_spec (ws := wsX1_add) B.pre
  have hown : s.vm.findClass RX1 = some m.cls := findClass_of_methodNamed B.named
  have hlocks := B.notSynchronized
  subst hsz
  have hD := hD0.self (sz := s.heap.size)
  generalize hAe : va_A [(q_t, .inr (1, [.ref q_t_kind, .ref q_t_part, .ref q_t_environment, .int t_count])), (q_t_kind, .inl (cI, 200, .inl t_kind)), (q_t_part, .inl (cI, 200, .inl t_part)), (q_t_environment, .inl (cI, 200, .inl t_environment))] s.heap.size = A at hD hZ ⊢
  have hA : ∀ q : Nat, s.heap.size ≤ q → A q := fun q h => by rw [← hAe]; exact Or.inr h
  have hS : va_S A s.heap s.heap [] := va_S.rf
  have hP : va_P (dC, dI) vwCl [(q_t, .inr (1, [.ref q_t_kind, .ref q_t_part, .ref q_t_environment, .int t_count])), (q_t_kind, .inl (cI, 200, .inl t_kind)), (q_t_part, .inl (cI, 200, .inl t_part)), (q_t_environment, .inl (cI, 200, .inl t_environment))] s.heap := hP
  have hl := lv_entry ([.ref q_t, .int x1, .int x2, .int x3]) (n := 4) (Nat.le_of_ble_eq_true rfl)
  rw [lg_entry_eq]
  generalize (lg_sl ([.ref q_t, .int x1, .int x2, .int x3]) ++ List.replicate (4 - (lg_sl ([.ref q_t, .int x1, .int x2, .int x3])).length) Slot.unset).toArray = ls at hl ⊢
  have hl : lv_has ls 4 [(0, .ref q_t), (1, .int x1), (2, .int x2), (3, .int x3)] := hl
  refine wq hP hS (fun Q hQ H locs hP hS => ?_)
  have htw : ∀ w ∈ AW, w.before _ s = true := fun w h => hts w (List.mem_cons_of_mem _ h)
  have hn0 : ∀ w ∈ wsX10, w ∈ wsX1_add := fun w h => List.mem_cons_of_mem _ (inX1 w h)
  rw [M_Frames_add] at hm
  refine lv_aload_n hx hb dX1_add_0 rfl (lv_at hl 0 rfl) ?_
  refine va_get (D := (dC, dI)) (ci := 1) (v := .int t_count) (C := RX1) (T := TX1) (N := 4) hx hb hts hn0 hown hK hP 0 rfl rfl 3 (by decide) (htw _ aw_103) (fun _ h9 => h9) rfl dX1_add_1 ?_
  refine lv_sipush (v := 200) hx hb dX1_add_4 (by decide) ?_
  refine lv_icmp_ge hx hb dX1_add_7 rfl (fun h7 => ?_) (fun h7 => ?_)
  · rw [if_pos h7] at hm
    obtain ⟨rfl, rfl, rfl, rfl⟩ := ij4 hm
    subst hQ
    exact W.vret hx hb hr (fun t ht hW => ⟨⟨(), rfl, trivial, by rw [ht]; exact hP, va_K.moved hW.alike hK, hD⟩, hS.F ht⟩) hS.2.2 dX1_add_50
  · rw [if_neg h7] at hm
    refine lv_aload_n hx hb dX1_add_10 rfl (lv_at hl 0 rfl) ?_
    refine va_get (D := (dC, dI)) (ci := 1) (v := .ref q_t_kind) (C := RX1) (T := TX1) (N := 4) hx hb hts hn0 hown hK hP 0 rfl rfl 0 (by decide) (htw _ aw_100) (fun _ h9 => h9) rfl dX1_add_11 ?_
    refine lv_aload_n hx hb dX1_add_14 rfl (lv_at hl 0 rfl) ?_
    refine va_get (D := (dC, dI)) (ci := 1) (v := .int t_count) (C := RX1) (T := TX1) (N := 4) hx hb hts hn0 hown hK hP 0 rfl rfl 3 (by decide) (htw _ aw_103) (fun _ h9 => h9) rfl dX1_add_15 ?_
    refine lv_iload_n hx hb dX1_add_18 rfl (lv_at hl 1 rfl) ?_
    obtain ⟨h19, hm⟩ := chk_inv hm
    refine va_iast (D := (dC, dI)) hx hb hK hP hD hS 1 0 rfl rfl (in_of (n := 200) (by decide) h19) dX1_add_19 (fun H locs hP hD hS => ?_)
    have hP : va_P (dC, dI) vwCl [(q_t, .inr (1, [.ref q_t_kind, .ref q_t_part, .ref q_t_environment, .int t_count])), (q_t_kind, .inl (cI, 200, .inl (upd t_kind t_count.toNatClampNeg x1))), (q_t_part, .inl (cI, 200, .inl t_part)), (q_t_environment, .inl (cI, 200, .inl t_environment))] H := hP
    have hD : va_D A [(q_t, .inr (1, [.ref q_t_kind, .ref q_t_part, .ref q_t_environment, .int t_count])), (q_t_kind, .inl (cI, 200, .inl (upd t_kind t_count.toNatClampNeg x1))), (q_t_part, .inl (cI, 200, .inl t_part)), (q_t_environment, .inl (cI, 200, .inl t_environment))] := hD
    refine lv_aload_n hx hb dX1_add_20 rfl (lv_at hl 0 rfl) ?_
    refine va_get (D := (dC, dI)) (ci := 1) (v := .ref q_t_part) (C := RX1) (T := TX1) (N := 4) hx hb hts hn0 hown hK hP 0 rfl rfl 1 (by decide) (htw _ aw_101) (fun _ h9 => h9) rfl dX1_add_21 ?_
    refine lv_aload_n hx hb dX1_add_24 rfl (lv_at hl 0 rfl) ?_
    refine va_get (D := (dC, dI)) (ci := 1) (v := .int t_count) (C := RX1) (T := TX1) (N := 4) hx hb hts hn0 hown hK hP 0 rfl rfl 3 (by decide) (htw _ aw_103) (fun _ h9 => h9) rfl dX1_add_25 ?_
    refine lv_iload_n hx hb dX1_add_28 rfl (lv_at hl 2 rfl) ?_
    obtain ⟨h29, hm⟩ := chk_inv hm
    refine va_iast (D := (dC, dI)) hx hb hK hP hD hS 2 0 rfl rfl (in_of (n := 200) (by decide) h29) dX1_add_29 (fun H locs hP hD hS => ?_)
    have hP : va_P (dC, dI) vwCl [(q_t, .inr (1, [.ref q_t_kind, .ref q_t_part, .ref q_t_environment, .int t_count])), (q_t_kind, .inl (cI, 200, .inl (upd t_kind t_count.toNatClampNeg x1))), (q_t_part, .inl (cI, 200, .inl (upd t_part t_count.toNatClampNeg x2))), (q_t_environment, .inl (cI, 200, .inl t_environment))] H := hP
    have hD : va_D A [(q_t, .inr (1, [.ref q_t_kind, .ref q_t_part, .ref q_t_environment, .int t_count])), (q_t_kind, .inl (cI, 200, .inl (upd t_kind t_count.toNatClampNeg x1))), (q_t_part, .inl (cI, 200, .inl (upd t_part t_count.toNatClampNeg x2))), (q_t_environment, .inl (cI, 200, .inl t_environment))] := hD
    refine lv_aload_n hx hb dX1_add_30 rfl (lv_at hl 0 rfl) ?_
    refine va_get (D := (dC, dI)) (ci := 1) (v := .ref q_t_environment) (C := RX1) (T := TX1) (N := 4) hx hb hts hn0 hown hK hP 0 rfl rfl 2 (by decide) (htw _ aw_102) (fun _ h9 => h9) rfl dX1_add_31 ?_
    refine lv_aload_n hx hb dX1_add_34 rfl (lv_at hl 0 rfl) ?_
    refine va_get (D := (dC, dI)) (ci := 1) (v := .int t_count) (C := RX1) (T := TX1) (N := 4) hx hb hts hn0 hown hK hP 0 rfl rfl 3 (by decide) (htw _ aw_103) (fun _ h9 => h9) rfl dX1_add_35 ?_
    refine lv_iload_n hx hb dX1_add_38 rfl (lv_at hl 3 rfl) ?_
    obtain ⟨h39, hm⟩ := chk_inv hm
    refine va_iast (D := (dC, dI)) hx hb hK hP hD hS 3 0 rfl rfl (in_of (n := 200) (by decide) h39) dX1_add_39 (fun H locs hP hD hS => ?_)
    have hP : va_P (dC, dI) vwCl [(q_t, .inr (1, [.ref q_t_kind, .ref q_t_part, .ref q_t_environment, .int t_count])), (q_t_kind, .inl (cI, 200, .inl (upd t_kind t_count.toNatClampNeg x1))), (q_t_part, .inl (cI, 200, .inl (upd t_part t_count.toNatClampNeg x2))), (q_t_environment, .inl (cI, 200, .inl (upd t_environment t_count.toNatClampNeg x3)))] H := hP
    have hD : va_D A [(q_t, .inr (1, [.ref q_t_kind, .ref q_t_part, .ref q_t_environment, .int t_count])), (q_t_kind, .inl (cI, 200, .inl (upd t_kind t_count.toNatClampNeg x1))), (q_t_part, .inl (cI, 200, .inl (upd t_part t_count.toNatClampNeg x2))), (q_t_environment, .inl (cI, 200, .inl (upd t_environment t_count.toNatClampNeg x3)))] := hD
    refine lv_aload_n hx hb dX1_add_40 rfl (lv_at hl 0 rfl) ?_
    refine lv_dup hx hb dX1_add_41 rfl ?_
    refine va_get (D := (dC, dI)) (ci := 1) (v := .int t_count) (C := RX1) (T := TX1) (N := 4) hx hb hts hn0 hown hK hP 0 rfl rfl 3 (by decide) (htw _ aw_103) (fun _ h9 => h9) rfl dX1_add_42 ?_
    refine lv_iconst (v := 1) hx hb dX1_add_45 (by decide) ?_
    refine lv_iadd hx hb dX1_add_46 ?_
    refine va_put (D := (dC, dI)) (ci := 1) (v := .int (t_count + 1)) (ty := .int) (C := RX1) (T := TX1) (N := 4) hx hb hts hn0 tyX1 tyX1_ok nmX1 hown hK hP hD hS 0 rfl rfl 3 (by decide) (htw _ aw_103) (fun _ h9 => h9) rfl (by decide +kernel) rfl rfl (Nat.le_of_ble_eq_true rfl) dX1_add_47 (fun H locs hP hD hS => ?_)
    have hP : va_P (dC, dI) vwCl [(q_t, .inr (1, [.ref q_t_kind, .ref q_t_part, .ref q_t_environment, .int (t_count + 1)])), (q_t_kind, .inl (cI, 200, .inl (upd t_kind t_count.toNatClampNeg x1))), (q_t_part, .inl (cI, 200, .inl (upd t_part t_count.toNatClampNeg x2))), (q_t_environment, .inl (cI, 200, .inl (upd t_environment t_count.toNatClampNeg x3)))] H := hP
    have hD : va_D A [(q_t, .inr (1, [.ref q_t_kind, .ref q_t_part, .ref q_t_environment, .int (t_count + 1)])), (q_t_kind, .inl (cI, 200, .inl (upd t_kind t_count.toNatClampNeg x1))), (q_t_part, .inl (cI, 200, .inl (upd t_part t_count.toNatClampNeg x2))), (q_t_environment, .inl (cI, 200, .inl (upd t_environment t_count.toNatClampNeg x3)))] := hD
    obtain ⟨rfl, rfl, rfl, rfl⟩ := ij4 hm
    subst hQ
    exact W.vret hx hb hr (fun t ht hW => ⟨⟨(), rfl, trivial, by rw [ht]; exact hP, va_K.moved hW.alike hK, hD⟩, hS.F ht⟩) hS.2.2 dX1_add_50
def M_Frames_drop (t_count : Int32) : Option (Int32) :=
  (if t_count ≤ 0 then
    some t_count
  else
    some (t_count - 1))
set_option maxHeartbeats 4000000 in
set_option maxRecDepth 100000 in
theorem c_Frames_drop (l : Launch) (dC : Nat → ClassId) (dI : Nat → Nat → Nat) (cI cL : ClassId) (sz : Nat) (q_t q_t_kind q_t_part q_t_environment : Nat) (t_count u_t_count : Int32) (hm : M_Frames_drop t_count = some u_t_count) : Met l yX1_drop wsX1_drop ({ frames := 0, cells := 0, slots := 0, locals := 0 }) (frPc (dC, dI) vwCl [(cI, .int), (cL, .long)] [(q_t, .inr (1, [.ref q_t_kind, .ref q_t_part, .ref q_t_environment, .int t_count]))] sz [.ref q_t]) (va_Qv (fun (_ : Unit) => True) (frB (dC, dI) vwCl [(cI, .int), (cL, .long)] (va_A [(q_t, .inr (1, [.ref q_t_kind, .ref q_t_part, .ref q_t_environment, .int t_count]))] sz) [(q_t, .inr (1, [.ref q_t_kind, .ref q_t_part, .ref q_t_environment, .int u_t_count]))]) (va_A [(q_t, .inr (1, [.ref q_t_kind, .ref q_t_part, .ref q_t_environment, .int t_count]))] sz)) 0 0 (va_A [(q_t, .inr (1, [.ref q_t_kind, .ref q_t_part, .ref q_t_environment, .int t_count]))] sz) := by
  refine Met.ofW (cc := cX1_drop) (maxL := 1) (ret := none) (by decide) rfl ?_
  intro p e s m args below meth c s₁ B hml hv
  obtain ⟨rfl, hsz, hP, hK, hD0, hZ⟩ := hv
  have hx := B.exec
  have hb := B.bytes
  have hr := B.returns
  have hts := atoms_spec (ws := wsX1_drop) B.pre
  have hown : s.vm.findClass RX1 = some m.cls := findClass_of_methodNamed B.named
  have hlocks := B.notSynchronized
  subst hsz
  have hD := hD0.self (sz := s.heap.size)
  generalize hAe : va_A [(q_t, .inr (1, [.ref q_t_kind, .ref q_t_part, .ref q_t_environment, .int t_count]))] s.heap.size = A at hD hZ ⊢
  have hA : ∀ q : Nat, s.heap.size ≤ q → A q := fun q h => by rw [← hAe]; exact Or.inr h
  have hS : va_S A s.heap s.heap [] := va_S.rf
  have hP : va_P (dC, dI) vwCl [(q_t, .inr (1, [.ref q_t_kind, .ref q_t_part, .ref q_t_environment, .int t_count]))] s.heap := hP
  have hl := lv_entry ([.ref q_t]) (n := 1) (Nat.le_of_ble_eq_true rfl)
  rw [lg_entry_eq]
  generalize (lg_sl ([.ref q_t]) ++ List.replicate (1 - (lg_sl ([.ref q_t])).length) Slot.unset).toArray = ls at hl ⊢
  have hl : lv_has ls 1 [(0, .ref q_t)] := hl
  refine wq hP hS (fun Q hQ H locs hP hS => ?_)
  have htw : ∀ w ∈ AW, w.before _ s = true := fun w h => hts w (List.mem_cons_of_mem _ h)
  have hn0 : ∀ w ∈ wsX10, w ∈ wsX1_drop := fun w h => List.mem_cons_of_mem _ (inX1 w h)
  rw [M_Frames_drop] at hm
  refine lv_aload_n hx hb dX1_drop_0 rfl (lv_at hl 0 rfl) ?_
  refine va_get (D := (dC, dI)) (ci := 1) (v := .int t_count) (C := RX1) (T := TX1) (N := 4) hx hb hts hn0 hown hK hP 0 rfl rfl 3 (by decide) (htw _ aw_103) (fun _ h9 => h9) rfl dX1_drop_1 ?_
  refine lv_if_le hx hb dX1_drop_4 rfl (fun h4 => ?_) (fun h4 => ?_)
  · rw [if_pos h4] at hm
    obtain rfl := Option.some.inj hm
    subst hQ
    exact W.vret hx hb hr (fun t ht hW => ⟨⟨(), rfl, trivial, by rw [ht]; exact hP, va_K.moved hW.alike hK, hD⟩, hS.F ht⟩) hS.2.2 dX1_drop_17
  · rw [if_neg h4] at hm
    refine lv_aload_n hx hb dX1_drop_7 rfl (lv_at hl 0 rfl) ?_
    refine lv_dup hx hb dX1_drop_8 rfl ?_
    refine va_get (D := (dC, dI)) (ci := 1) (v := .int t_count) (C := RX1) (T := TX1) (N := 4) hx hb hts hn0 hown hK hP 0 rfl rfl 3 (by decide) (htw _ aw_103) (fun _ h9 => h9) rfl dX1_drop_9 ?_
    refine lv_iconst (v := 1) hx hb dX1_drop_12 (by decide) ?_
    refine lv_isub hx hb dX1_drop_13 ?_
    refine va_put (D := (dC, dI)) (ci := 1) (v := .int (t_count - 1)) (ty := .int) (C := RX1) (T := TX1) (N := 4) hx hb hts hn0 tyX1 tyX1_ok nmX1 hown hK hP hD hS 0 rfl rfl 3 (by decide) (htw _ aw_103) (fun _ h9 => h9) rfl (by decide +kernel) rfl rfl (Nat.le_of_ble_eq_true rfl) dX1_drop_14 (fun H locs hP hD hS => ?_)
    have hP : va_P (dC, dI) vwCl [(q_t, .inr (1, [.ref q_t_kind, .ref q_t_part, .ref q_t_environment, .int (t_count - 1)]))] H := hP
    have hD : va_D A [(q_t, .inr (1, [.ref q_t_kind, .ref q_t_part, .ref q_t_environment, .int (t_count - 1)]))] := hD
    obtain rfl := Option.some.inj hm
    subst hQ
    exact W.vret hx hb hr (fun t ht hW => ⟨⟨(), rfl, trivial, by rw [ht]; exact hP, va_K.moved hW.alike hK, hD⟩, hS.F ht⟩) hS.2.2 dX1_drop_17
def M_Frames_hasRoom (t_count : Int32) : Option (Int32) :=
  (if 200 ≤ t_count then
    some 0
  else
    some 1)
set_option maxHeartbeats 4000000 in
set_option maxRecDepth 100000 in
theorem c_Frames_hasRoom (l : Launch) (dC : Nat → ClassId) (dI : Nat → Nat → Nat) (cI cL : ClassId) (sz : Nat) (q_t q_t_kind q_t_part q_t_environment : Nat) (t_count r0 : Int32) (hm : M_Frames_hasRoom t_count = some r0) : Met l yX1_hasRoom wsX1_hasRoom ({ frames := 0, cells := 0, slots := 0, locals := 0 }) (frPc (dC, dI) vwCl [(cI, .int), (cL, .long)] [(q_t, .inr (1, [.ref q_t_kind, .ref q_t_part, .ref q_t_environment, .int t_count]))] sz [.ref q_t]) (va_Qi (fun (r : Int32) (_ : Unit) => r = r0) (frB (dC, dI) vwCl [(cI, .int), (cL, .long)] (va_A [(q_t, .inr (1, [.ref q_t_kind, .ref q_t_part, .ref q_t_environment, .int t_count]))] sz) [(q_t, .inr (1, [.ref q_t_kind, .ref q_t_part, .ref q_t_environment, .int t_count]))]) (va_A [(q_t, .inr (1, [.ref q_t_kind, .ref q_t_part, .ref q_t_environment, .int t_count]))] sz)) 0 0 (va_A [(q_t, .inr (1, [.ref q_t_kind, .ref q_t_part, .ref q_t_environment, .int t_count]))] sz) := by
  refine Met.ofW (cc := cX1_hasRoom) (maxL := 1) (ret := (some .boolean)) (by decide) rfl ?_
  intro p e s m args below meth c s₁ B hml hv
  obtain ⟨rfl, hsz, hP, hK, hD0, hZ⟩ := hv
  have hx := B.exec
  have hb := B.bytes
  have hr := B.returns
  have hts := atoms_spec (ws := wsX1_hasRoom) B.pre
  have hown : s.vm.findClass RX1 = some m.cls := findClass_of_methodNamed B.named
  have hlocks := B.notSynchronized
  subst hsz
  have hD := hD0.self (sz := s.heap.size)
  generalize hAe : va_A [(q_t, .inr (1, [.ref q_t_kind, .ref q_t_part, .ref q_t_environment, .int t_count]))] s.heap.size = A at hD hZ ⊢
  have hA : ∀ q : Nat, s.heap.size ≤ q → A q := fun q h => by rw [← hAe]; exact Or.inr h
  have hS : va_S A s.heap s.heap [] := va_S.rf
  have hP : va_P (dC, dI) vwCl [(q_t, .inr (1, [.ref q_t_kind, .ref q_t_part, .ref q_t_environment, .int t_count]))] s.heap := hP
  have hl := lv_entry ([.ref q_t]) (n := 1) (Nat.le_of_ble_eq_true rfl)
  rw [lg_entry_eq]
  generalize (lg_sl ([.ref q_t]) ++ List.replicate (1 - (lg_sl ([.ref q_t])).length) Slot.unset).toArray = ls at hl ⊢
  have hl : lv_has ls 1 [(0, .ref q_t)] := hl
  refine wq hP hS (fun Q hQ H locs hP hS => ?_)
  have htw : ∀ w ∈ AW, w.before _ s = true := fun w h => hts w (List.mem_cons_of_mem _ h)
  have hn0 : ∀ w ∈ wsX10, w ∈ wsX1_hasRoom := fun w h => List.mem_cons_of_mem _ (inX1 w h)
  rw [M_Frames_hasRoom] at hm
  refine lv_aload_n hx hb dX1_hasRoom_0 rfl (lv_at hl 0 rfl) ?_
  refine va_get (D := (dC, dI)) (ci := 1) (v := .int t_count) (C := RX1) (T := TX1) (N := 4) hx hb hts hn0 hown hK hP 0 rfl rfl 3 (by decide) (htw _ aw_103) (fun _ h9 => h9) rfl dX1_hasRoom_1 ?_
  refine lv_sipush (v := 200) hx hb dX1_hasRoom_4 (by decide) ?_
  refine lv_icmp_ge hx hb dX1_hasRoom_7 rfl (fun h7 => ?_) (fun h7 => ?_)
  · rw [if_pos h7] at hm
    refine lv_iconst (v := 0) hx hb dX1_hasRoom_14 (by decide) ?_
    obtain rfl := Option.some.inj hm
    subst hQ
    exact W.zret hx hb hr (by decide) (fun t ht hW => ⟨⟨_, (), rfl, rfl, by rw [ht]; exact hP, va_K.moved hW.alike hK, hD⟩, hS.F ht⟩) hS.2.2 dX1_hasRoom_15
  · rw [if_neg h7] at hm
    refine lv_iconst (v := 1) hx hb dX1_hasRoom_10 (by decide) ?_
    refine lv_goto hx hb dX1_hasRoom_11 rfl ?_
    obtain rfl := Option.some.inj hm
    subst hQ
    exact W.zret hx hb hr (by decide) (fun t ht hW => ⟨⟨_, (), rfl, rfl, by rw [ht]; exact hP, va_K.moved hW.alike hK, hD⟩, hS.F ht⟩) hS.2.2 dX1_hasRoom_15
def M_Frames_latestEnvironment (t_count : Int32) (t_environment : Nat → Int32) : Option (Int32) :=
  some (at_ 200 t_environment (t_count - 1))
set_option maxHeartbeats 4000000 in
set_option maxRecDepth 100000 in
theorem c_Frames_latestEnvironment (l : Launch) (dC : Nat → ClassId) (dI : Nat → Nat → Nat) (cI cL : ClassId) (sz : Nat) (q_t q_t_kind q_t_part q_t_environment : Nat) (t_count : Int32) (t_environment : Nat → Int32) (r0 : Int32) (hm : M_Frames_latestEnvironment t_count t_environment = some r0) : Met l yX1_latestEnvironment wsX1_latestEnvironment ({ frames := 1, cells := 0, slots := 0, locals := 21 }) (frPc (dC, dI) vwCl [(cI, .int), (cL, .long)] [(q_t, .inr (1, [.ref q_t_kind, .ref q_t_part, .ref q_t_environment, .int t_count])), (q_t_environment, .inl (cI, 200, .inl t_environment))] sz [.ref q_t]) (va_Qi (fun (r : Int32) (_ : Unit) => r = r0) (frB (dC, dI) vwCl [(cI, .int), (cL, .long)] (va_A [(q_t, .inr (1, [.ref q_t_kind, .ref q_t_part, .ref q_t_environment, .int t_count])), (q_t_environment, .inl (cI, 200, .inl t_environment))] sz) [(q_t, .inr (1, [.ref q_t_kind, .ref q_t_part, .ref q_t_environment, .int t_count])), (q_t_environment, .inl (cI, 200, .inl t_environment))]) (va_A [(q_t, .inr (1, [.ref q_t_kind, .ref q_t_part, .ref q_t_environment, .int t_count])), (q_t_environment, .inl (cI, 200, .inl t_environment))] sz)) 0 0 (va_A [(q_t, .inr (1, [.ref q_t_kind, .ref q_t_part, .ref q_t_environment, .int t_count])), (q_t_environment, .inl (cI, 200, .inl t_environment))] sz) := by
  refine Met.ofW (cc := cX1_latestEnvironment) (maxL := 1) (ret := (some .int)) (by decide) rfl ?_
  intro p e s m args below meth c s₁ B hml hv
  obtain ⟨rfl, hsz, hP, hK, hD0, hZ⟩ := hv
  have hx := B.exec
  have hb := B.bytes
  have hr := B.returns
  have hts := atoms_spec (ws := wsX1_latestEnvironment) B.pre
  have hown : s.vm.findClass RX1 = some m.cls := findClass_of_methodNamed B.named
  have hlocks := B.notSynchronized
  subst hsz
  have hD := hD0.self (sz := s.heap.size)
  generalize hAe : va_A [(q_t, .inr (1, [.ref q_t_kind, .ref q_t_part, .ref q_t_environment, .int t_count])), (q_t_environment, .inl (cI, 200, .inl t_environment))] s.heap.size = A at hD hZ ⊢
  have hA : ∀ q : Nat, s.heap.size ≤ q → A q := fun q h => by rw [← hAe]; exact Or.inr h
  have hS : va_S A s.heap s.heap [] := va_S.rf
  have hP : va_P (dC, dI) vwCl [(q_t, .inr (1, [.ref q_t_kind, .ref q_t_part, .ref q_t_environment, .int t_count])), (q_t_environment, .inl (cI, 200, .inl t_environment))] s.heap := hP
  have hl := lv_entry ([.ref q_t]) (n := 1) (Nat.le_of_ble_eq_true rfl)
  rw [lg_entry_eq]
  generalize (lg_sl ([.ref q_t]) ++ List.replicate (1 - (lg_sl ([.ref q_t])).length) Slot.unset).toArray = ls at hl ⊢
  have hl : lv_has ls 1 [(0, .ref q_t)] := hl
  refine wq hP hS (fun Q hQ H locs hP hS => ?_)
  have htw : ∀ w ∈ AW, w.before _ s = true := fun w h => hts w (List.mem_cons_of_mem _ h)
  have hn0 : ∀ w ∈ wsX10, w ∈ wsX1_latestEnvironment := fun w h => List.mem_cons_of_mem _ (inX1 w h)
  rw [M_Frames_latestEnvironment] at hm
  refine lv_aload_n hx hb dX1_latestEnvironment_0 rfl (lv_at hl 0 rfl) ?_
  refine va_get (D := (dC, dI)) (ci := 1) (v := .ref q_t_environment) (C := RX1) (T := TX1) (N := 4) hx hb hts hn0 hown hK hP 0 rfl rfl 2 (by decide) (htw _ aw_102) (fun _ h9 => h9) rfl dX1_latestEnvironment_1 ?_
  refine lv_aload_n hx hb dX1_latestEnvironment_4 rfl (lv_at hl 0 rfl) ?_
  refine va_get (D := (dC, dI)) (ci := 1) (v := .int t_count) (C := RX1) (T := TX1) (N := 4) hx hb hts hn0 hown hK hP 0 rfl rfl 3 (by decide) (htw _ aw_103) (fun _ h9 => h9) rfl dX1_latestEnvironment_5 ?_
  refine lv_iconst (v := 1) hx hb dX1_latestEnvironment_8 (by decide) ?_
  refine lv_isub hx hb dX1_latestEnvironment_9 ?_
  refine fr_i (wr := [(q_t, .inr (1, [.ref q_t_kind, .ref q_t_part, .ref q_t_environment, .int t_count]))]) (w2 := [(q_t, .inr (1, [.ref q_t_kind, .ref q_t_part, .ref q_t_environment, .int t_count])), (q_t_environment, .inl (cI, 200, .inl t_environment))]) (va_runSN (As := [.ref q_t_environment, .int (t_count - 1)]) (rest := []) ⟨hx, hb, hml, hown, hts⟩ (c_TM_at l dC dI cI cL H.size q_t_environment 200 t_environment (t_count - 1) (by decide)) (kSN 2 hts aw_346 rfl rfl aw_1 (nx_57 hZ.1) aw_345 (by decide +kernel) ⟨Nat.le_of_ble_eq_true rfl, Nat.le_of_ble_eq_true rfl⟩) (fr_preS hK hP hD hS hA hZ [1] rfl rfl) rfl rfl hl.1 rfl (lv_room (Nat.le_of_ble_eq_true rfl)) dX1_latestEnvironment_10 ⟨Nat.le_of_ble_eq_true rfl, Nat.le_of_ble_eq_true rfl⟩) hP hD hS hA [1] [0] [0, 1] rfl rfl rfl (by decide) rfl rfl (fun H locs hP hD hS => ?_)
  have hP : va_P (dC, dI) vwCl [(q_t, .inr (1, [.ref q_t_kind, .ref q_t_part, .ref q_t_environment, .int t_count])), (q_t_environment, .inl (cI, 200, .inl t_environment))] H := hP
  have hD : va_D A [(q_t, .inr (1, [.ref q_t_kind, .ref q_t_part, .ref q_t_environment, .int t_count])), (q_t_environment, .inl (cI, 200, .inl t_environment))] := hD
  obtain rfl := Option.some.inj hm
  subst hQ
  exact W.iret hx hb hr (fun t ht hW => ⟨⟨_, (), rfl, rfl, by rw [ht]; exact hP, va_K.moved hW.alike hK, hD⟩, hS.F ht⟩) hS.2.2 dX1_latestEnvironment_13
def M_Frames_latestKind (t_count : Int32) (t_kind : Nat → Int32) : Option (Int32) :=
  some (at_ 200 t_kind (t_count - 1))
set_option maxHeartbeats 4000000 in
set_option maxRecDepth 100000 in
theorem c_Frames_latestKind (l : Launch) (dC : Nat → ClassId) (dI : Nat → Nat → Nat) (cI cL : ClassId) (sz : Nat) (q_t q_t_kind q_t_part q_t_environment : Nat) (t_count : Int32) (t_kind : Nat → Int32) (r0 : Int32) (hm : M_Frames_latestKind t_count t_kind = some r0) : Met l yX1_latestKind wsX1_latestKind ({ frames := 1, cells := 0, slots := 0, locals := 21 }) (frPc (dC, dI) vwCl [(cI, .int), (cL, .long)] [(q_t, .inr (1, [.ref q_t_kind, .ref q_t_part, .ref q_t_environment, .int t_count])), (q_t_kind, .inl (cI, 200, .inl t_kind))] sz [.ref q_t]) (va_Qi (fun (r : Int32) (_ : Unit) => r = r0) (frB (dC, dI) vwCl [(cI, .int), (cL, .long)] (va_A [(q_t, .inr (1, [.ref q_t_kind, .ref q_t_part, .ref q_t_environment, .int t_count])), (q_t_kind, .inl (cI, 200, .inl t_kind))] sz) [(q_t, .inr (1, [.ref q_t_kind, .ref q_t_part, .ref q_t_environment, .int t_count])), (q_t_kind, .inl (cI, 200, .inl t_kind))]) (va_A [(q_t, .inr (1, [.ref q_t_kind, .ref q_t_part, .ref q_t_environment, .int t_count])), (q_t_kind, .inl (cI, 200, .inl t_kind))] sz)) 0 0 (va_A [(q_t, .inr (1, [.ref q_t_kind, .ref q_t_part, .ref q_t_environment, .int t_count])), (q_t_kind, .inl (cI, 200, .inl t_kind))] sz) := by
  refine Met.ofW (cc := cX1_latestKind) (maxL := 1) (ret := (some .int)) (by decide) rfl ?_
  intro p e s m args below meth c s₁ B hml hv
  obtain ⟨rfl, hsz, hP, hK, hD0, hZ⟩ := hv
  have hx := B.exec
  have hb := B.bytes
  have hr := B.returns
  have hts := atoms_spec (ws := wsX1_latestKind) B.pre
  have hown : s.vm.findClass RX1 = some m.cls := findClass_of_methodNamed B.named
  have hlocks := B.notSynchronized
  subst hsz
  have hD := hD0.self (sz := s.heap.size)
  generalize hAe : va_A [(q_t, .inr (1, [.ref q_t_kind, .ref q_t_part, .ref q_t_environment, .int t_count])), (q_t_kind, .inl (cI, 200, .inl t_kind))] s.heap.size = A at hD hZ ⊢
  have hA : ∀ q : Nat, s.heap.size ≤ q → A q := fun q h => by rw [← hAe]; exact Or.inr h
  have hS : va_S A s.heap s.heap [] := va_S.rf
  have hP : va_P (dC, dI) vwCl [(q_t, .inr (1, [.ref q_t_kind, .ref q_t_part, .ref q_t_environment, .int t_count])), (q_t_kind, .inl (cI, 200, .inl t_kind))] s.heap := hP
  have hl := lv_entry ([.ref q_t]) (n := 1) (Nat.le_of_ble_eq_true rfl)
  rw [lg_entry_eq]
  generalize (lg_sl ([.ref q_t]) ++ List.replicate (1 - (lg_sl ([.ref q_t])).length) Slot.unset).toArray = ls at hl ⊢
  have hl : lv_has ls 1 [(0, .ref q_t)] := hl
  refine wq hP hS (fun Q hQ H locs hP hS => ?_)
  have htw : ∀ w ∈ AW, w.before _ s = true := fun w h => hts w (List.mem_cons_of_mem _ h)
  have hn0 : ∀ w ∈ wsX10, w ∈ wsX1_latestKind := fun w h => List.mem_cons_of_mem _ (inX1 w h)
  rw [M_Frames_latestKind] at hm
  refine lv_aload_n hx hb dX1_latestKind_0 rfl (lv_at hl 0 rfl) ?_
  refine va_get (D := (dC, dI)) (ci := 1) (v := .ref q_t_kind) (C := RX1) (T := TX1) (N := 4) hx hb hts hn0 hown hK hP 0 rfl rfl 0 (by decide) (htw _ aw_100) (fun _ h9 => h9) rfl dX1_latestKind_1 ?_
  refine lv_aload_n hx hb dX1_latestKind_4 rfl (lv_at hl 0 rfl) ?_
  refine va_get (D := (dC, dI)) (ci := 1) (v := .int t_count) (C := RX1) (T := TX1) (N := 4) hx hb hts hn0 hown hK hP 0 rfl rfl 3 (by decide) (htw _ aw_103) (fun _ h9 => h9) rfl dX1_latestKind_5 ?_
  refine lv_iconst (v := 1) hx hb dX1_latestKind_8 (by decide) ?_
  refine lv_isub hx hb dX1_latestKind_9 ?_
  refine fr_i (wr := [(q_t, .inr (1, [.ref q_t_kind, .ref q_t_part, .ref q_t_environment, .int t_count]))]) (w2 := [(q_t, .inr (1, [.ref q_t_kind, .ref q_t_part, .ref q_t_environment, .int t_count])), (q_t_kind, .inl (cI, 200, .inl t_kind))]) (va_runSN (As := [.ref q_t_kind, .int (t_count - 1)]) (rest := []) ⟨hx, hb, hml, hown, hts⟩ (c_TM_at l dC dI cI cL H.size q_t_kind 200 t_kind (t_count - 1) (by decide)) (kSN 2 hts aw_346 rfl rfl aw_1 (nx_57 hZ.1) aw_345 (by decide +kernel) ⟨Nat.le_of_ble_eq_true rfl, Nat.le_of_ble_eq_true rfl⟩) (fr_preS hK hP hD hS hA hZ [1] rfl rfl) rfl rfl hl.1 rfl (lv_room (Nat.le_of_ble_eq_true rfl)) dX1_latestKind_10 ⟨Nat.le_of_ble_eq_true rfl, Nat.le_of_ble_eq_true rfl⟩) hP hD hS hA [1] [0] [0, 1] rfl rfl rfl (by decide) rfl rfl (fun H locs hP hD hS => ?_)
  have hP : va_P (dC, dI) vwCl [(q_t, .inr (1, [.ref q_t_kind, .ref q_t_part, .ref q_t_environment, .int t_count])), (q_t_kind, .inl (cI, 200, .inl t_kind))] H := hP
  have hD : va_D A [(q_t, .inr (1, [.ref q_t_kind, .ref q_t_part, .ref q_t_environment, .int t_count])), (q_t_kind, .inl (cI, 200, .inl t_kind))] := hD
  obtain rfl := Option.some.inj hm
  subst hQ
  exact W.iret hx hb hr (fun t ht hW => ⟨⟨_, (), rfl, rfl, by rw [ht]; exact hP, va_K.moved hW.alike hK, hD⟩, hS.F ht⟩) hS.2.2 dX1_latestKind_13
def M_Frames_latestPart (t_count : Int32) (t_part : Nat → Int32) : Option (Int32) :=
  some (at_ 200 t_part (t_count - 1))
set_option maxHeartbeats 4000000 in
set_option maxRecDepth 100000 in
theorem c_Frames_latestPart (l : Launch) (dC : Nat → ClassId) (dI : Nat → Nat → Nat) (cI cL : ClassId) (sz : Nat) (q_t q_t_kind q_t_part q_t_environment : Nat) (t_count : Int32) (t_part : Nat → Int32) (r0 : Int32) (hm : M_Frames_latestPart t_count t_part = some r0) : Met l yX1_latestPart wsX1_latestPart ({ frames := 1, cells := 0, slots := 0, locals := 21 }) (frPc (dC, dI) vwCl [(cI, .int), (cL, .long)] [(q_t, .inr (1, [.ref q_t_kind, .ref q_t_part, .ref q_t_environment, .int t_count])), (q_t_part, .inl (cI, 200, .inl t_part))] sz [.ref q_t]) (va_Qi (fun (r : Int32) (_ : Unit) => r = r0) (frB (dC, dI) vwCl [(cI, .int), (cL, .long)] (va_A [(q_t, .inr (1, [.ref q_t_kind, .ref q_t_part, .ref q_t_environment, .int t_count])), (q_t_part, .inl (cI, 200, .inl t_part))] sz) [(q_t, .inr (1, [.ref q_t_kind, .ref q_t_part, .ref q_t_environment, .int t_count])), (q_t_part, .inl (cI, 200, .inl t_part))]) (va_A [(q_t, .inr (1, [.ref q_t_kind, .ref q_t_part, .ref q_t_environment, .int t_count])), (q_t_part, .inl (cI, 200, .inl t_part))] sz)) 0 0 (va_A [(q_t, .inr (1, [.ref q_t_kind, .ref q_t_part, .ref q_t_environment, .int t_count])), (q_t_part, .inl (cI, 200, .inl t_part))] sz) := by
  refine Met.ofW (cc := cX1_latestPart) (maxL := 1) (ret := (some .int)) (by decide) rfl ?_
  intro p e s m args below meth c s₁ B hml hv
  obtain ⟨rfl, hsz, hP, hK, hD0, hZ⟩ := hv
  have hx := B.exec
  have hb := B.bytes
  have hr := B.returns
  have hts := atoms_spec (ws := wsX1_latestPart) B.pre
  have hown : s.vm.findClass RX1 = some m.cls := findClass_of_methodNamed B.named
  have hlocks := B.notSynchronized
  subst hsz
  have hD := hD0.self (sz := s.heap.size)
  generalize hAe : va_A [(q_t, .inr (1, [.ref q_t_kind, .ref q_t_part, .ref q_t_environment, .int t_count])), (q_t_part, .inl (cI, 200, .inl t_part))] s.heap.size = A at hD hZ ⊢
  have hA : ∀ q : Nat, s.heap.size ≤ q → A q := fun q h => by rw [← hAe]; exact Or.inr h
  have hS : va_S A s.heap s.heap [] := va_S.rf
  have hP : va_P (dC, dI) vwCl [(q_t, .inr (1, [.ref q_t_kind, .ref q_t_part, .ref q_t_environment, .int t_count])), (q_t_part, .inl (cI, 200, .inl t_part))] s.heap := hP
  have hl := lv_entry ([.ref q_t]) (n := 1) (Nat.le_of_ble_eq_true rfl)
  rw [lg_entry_eq]
  generalize (lg_sl ([.ref q_t]) ++ List.replicate (1 - (lg_sl ([.ref q_t])).length) Slot.unset).toArray = ls at hl ⊢
  have hl : lv_has ls 1 [(0, .ref q_t)] := hl
  refine wq hP hS (fun Q hQ H locs hP hS => ?_)
  have htw : ∀ w ∈ AW, w.before _ s = true := fun w h => hts w (List.mem_cons_of_mem _ h)
  have hn0 : ∀ w ∈ wsX10, w ∈ wsX1_latestPart := fun w h => List.mem_cons_of_mem _ (inX1 w h)
  rw [M_Frames_latestPart] at hm
  refine lv_aload_n hx hb dX1_latestPart_0 rfl (lv_at hl 0 rfl) ?_
  refine va_get (D := (dC, dI)) (ci := 1) (v := .ref q_t_part) (C := RX1) (T := TX1) (N := 4) hx hb hts hn0 hown hK hP 0 rfl rfl 1 (by decide) (htw _ aw_101) (fun _ h9 => h9) rfl dX1_latestPart_1 ?_
  refine lv_aload_n hx hb dX1_latestPart_4 rfl (lv_at hl 0 rfl) ?_
  refine va_get (D := (dC, dI)) (ci := 1) (v := .int t_count) (C := RX1) (T := TX1) (N := 4) hx hb hts hn0 hown hK hP 0 rfl rfl 3 (by decide) (htw _ aw_103) (fun _ h9 => h9) rfl dX1_latestPart_5 ?_
  refine lv_iconst (v := 1) hx hb dX1_latestPart_8 (by decide) ?_
  refine lv_isub hx hb dX1_latestPart_9 ?_
  refine fr_i (wr := [(q_t, .inr (1, [.ref q_t_kind, .ref q_t_part, .ref q_t_environment, .int t_count]))]) (w2 := [(q_t, .inr (1, [.ref q_t_kind, .ref q_t_part, .ref q_t_environment, .int t_count])), (q_t_part, .inl (cI, 200, .inl t_part))]) (va_runSN (As := [.ref q_t_part, .int (t_count - 1)]) (rest := []) ⟨hx, hb, hml, hown, hts⟩ (c_TM_at l dC dI cI cL H.size q_t_part 200 t_part (t_count - 1) (by decide)) (kSN 2 hts aw_346 rfl rfl aw_1 (nx_57 hZ.1) aw_345 (by decide +kernel) ⟨Nat.le_of_ble_eq_true rfl, Nat.le_of_ble_eq_true rfl⟩) (fr_preS hK hP hD hS hA hZ [1] rfl rfl) rfl rfl hl.1 rfl (lv_room (Nat.le_of_ble_eq_true rfl)) dX1_latestPart_10 ⟨Nat.le_of_ble_eq_true rfl, Nat.le_of_ble_eq_true rfl⟩) hP hD hS hA [1] [0] [0, 1] rfl rfl rfl (by decide) rfl rfl (fun H locs hP hD hS => ?_)
  have hP : va_P (dC, dI) vwCl [(q_t, .inr (1, [.ref q_t_kind, .ref q_t_part, .ref q_t_environment, .int t_count])), (q_t_part, .inl (cI, 200, .inl t_part))] H := hP
  have hD : va_D A [(q_t, .inr (1, [.ref q_t_kind, .ref q_t_part, .ref q_t_environment, .int t_count])), (q_t_part, .inl (cI, 200, .inl t_part))] := hD
  obtain rfl := Option.some.inj hm
  subst hQ
  exact W.iret hx hb hr (fun t ht hW => ⟨⟨_, (), rfl, rfl, by rw [ht]; exact hP, va_K.moved hW.alike hK, hD⟩, hS.F ht⟩) hS.2.2 dX1_latestPart_13
