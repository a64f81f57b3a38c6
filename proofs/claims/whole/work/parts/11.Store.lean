set_option maxHeartbeats 4000000 in
set_option maxRecDepth 100000 in
theorem c_Store_init (l : Launch) (dC : Nat → ClassId) (dI : Nat → Nat → Nat) (cI cL : ClassId) (sz q_t : Nat) : Met l yX4_init wsX4_init ({ frames := 1, cells := 5, slots := 3000, locals := 12 }) (frPc (dC, dI) vwCl [(cI, .int), (cL, .long)] [(q_t, .inr (3, [.null, .null, .null, .null, .null, .int 0]))] sz [.ref q_t]) (va_Qv (fun (_ : Nat × Nat × Nat × Nat × Nat) => True) (frBn (S := Nat × Nat × Nat × Nat × Nat) (dC, dI) vwCl [(cI, .int), (cL, .long)] (va_A [(q_t, .inr (3, [.null, .null, .null, .null, .null, .int 0]))] sz) (fun u => [(q_t, .inr (3, [.ref u.1, .ref u.2.1, .ref u.2.2.1, .ref u.2.2.2.1, .ref u.2.2.2.2, .int 0])), (u.1, .inl (cI, 600, .inl (fun _ => 0))), (u.2.1, .inl (cL, 600, .inr (.inl (fun _ => 0)))), (u.2.2.1, .inl (cI, 600, .inl (fun _ => 0))), (u.2.2.2.1, .inl (cI, 600, .inl (fun _ => 0))), (u.2.2.2.2, .inl (cI, 600, .inl (fun _ => 0)))])) (va_A [(q_t, .inr (3, [.null, .null, .null, .null, .null, .int 0]))] sz)) 5 3000 (va_A [(q_t, .inr (3, [.null, .null, .null, .null, .null, .int 0]))] sz) := by
  refine Met.ofW (cc := cX4_init) (maxL := 1) (ret := none) (by decide) rfl ?_
  intro p e s m args below meth c s₁ B hml hv
  obtain ⟨rfl, hsz, hP, hK, hD0, hZ⟩ := hv
  have hx := B.exec
  have hb := B.bytes
  have hr := B.returns
  have hts := atoms_spec (ws := wsX4_init) B.pre
  have hown : s.vm.findClass RX4 = some m.cls := findClass_of_methodNamed B.named
  have hlocks := B.notSynchronized
  have hin : meth.name = "<init>" := (name_of_methodNamed B.named B.method).1
  subst hsz
  have hD := hD0.self (sz := s.heap.size)
  generalize hAe : va_A [(q_t, .inr (3, [.null, .null, .null, .null, .null, .int 0]))] s.heap.size = A at hD hZ ⊢
  have hA : ∀ q : Nat, s.heap.size ≤ q → A q := fun q h => by rw [← hAe]; exact Or.inr h
  have hS : va_S A s.heap s.heap [] := va_S.rf
  have hP : va_P (dC, dI) vwCl [(q_t, .inr (3, [.null, .null, .null, .null, .null, .int 0]))] s.heap := hP
  have hl := lv_entry ([.ref q_t]) (n := 1) (Nat.le_of_ble_eq_true rfl)
  rw [lg_entry_eq]
  generalize (lg_sl ([.ref q_t]) ++ List.replicate (1 - (lg_sl ([.ref q_t])).length) Slot.unset).toArray = ls at hl ⊢
  have hl : lv_has ls 1 [(0, .ref q_t)] := hl
  refine wq hP hS (fun Q hQ H locs hP hS => ?_)
  have htw : ∀ w ∈ AW, w.before _ s = true := fun w h => hts w (List.mem_cons_of_mem _ h)
  have hn0 : ∀ w ∈ wsX40, w ∈ wsX4_init := fun w h => List.mem_cons_of_mem _ (inX4 w h)
  refine lv_aload_n hx hb dX4_init_0 rfl (lv_at hl 0 rfl) ?_
  refine W.objInit hx hb hown (htw _ aw_59) (htw _ aw_23) (htw _ aw_24) rfl (by rw [hml]; exact hl.1) rfl dX4_init_1 (Nat.le_of_ble_eq_true rfl) (Nat.le_of_ble_eq_true rfl) ?_
  refine W.eq (g2 := F0 m 4 ls []) rfl ?_
  refine lv_aload_n hx hb dX4_init_4 rfl (lv_at hl 0 rfl) ?_
  refine lv_sipush (v := 600) hx hb dX4_init_5 (by decide) ?_
  refine fr_newi (n := 600) (N' := 600) hx hb (htw _ aw_47) hK (t0 := 0) rfl hP hD hS hA (by decide) (by decide) (by decide) (Nat.le_of_ble_eq_true rfl) (Nat.le_of_ble_eq_true rfl) dX4_init_8 (fun q8 H hP hD hS => ?_)
  refine W.widen (k := 1) (n := 600) (by omega) (by omega) ?_
  have hP : va_P (dC, dI) vwCl [(q_t, .inr (3, [.null, .null, .null, .null, .null, .int 0])), (q8, .inl (cI, 600, .inl (fun _ => 0)))] H := hP
  have hD : va_D A [(q_t, .inr (3, [.null, .null, .null, .null, .null, .int 0])), (q8, .inl (cI, 600, .inl (fun _ => 0)))] := hD
  refine va_putF (D := (dC, dI)) (ci := 3) (v := .ref q8) (ty := (.array .int)) (C := RX4) (T := TX4) (N := 6) hx hb hts hn0 tyX4 tyX4_ok nmX4 hown hK hP hD hS 0 rfl rfl 0 (by decide) (htw _ aw_60) (fun _ h9 => h9) rfl hin rfl (by decide +kernel) rfl rfl (Nat.le_of_ble_eq_true rfl) dX4_init_10 (fun H locs hP hD hS => ?_)
  have hP : va_P (dC, dI) vwCl [(q_t, .inr (3, [.ref q8, .null, .null, .null, .null, .int 0])), (q8, .inl (cI, 600, .inl (fun _ => 0)))] H := hP
  have hD : va_D A [(q_t, .inr (3, [.ref q8, .null, .null, .null, .null, .int 0])), (q8, .inl (cI, 600, .inl (fun _ => 0)))] := hD
  refine lv_aload_n hx hb dX4_init_13 rfl (lv_at hl 0 rfl) ?_
  refine lv_sipush (v := 600) hx hb dX4_init_14 (by decide) ?_
  refine fr_newl (n := 600) (N' := 600) hx hb (htw _ aw_93) hK (t0 := 1) rfl hP hD hS hA (by decide) (by decide) (by decide) (Nat.le_of_ble_eq_true rfl) (Nat.le_of_ble_eq_true rfl) dX4_init_17 (fun q17 H hP hD hS => ?_)
  refine W.widen (k := 2) (n := 1200) (by omega) (by omega) ?_
  have hP : va_P (dC, dI) vwCl [(q_t, .inr (3, [.ref q8, .null, .null, .null, .null, .int 0])), (q8, .inl (cI, 600, .inl (fun _ => 0))), (q17, .inl (cL, 600, .inr (.inl (fun _ => 0))))] H := hP
  have hD : va_D A [(q_t, .inr (3, [.ref q8, .null, .null, .null, .null, .int 0])), (q8, .inl (cI, 600, .inl (fun _ => 0))), (q17, .inl (cL, 600, .inr (.inl (fun _ => 0))))] := hD
  refine va_putF (D := (dC, dI)) (ci := 3) (v := .ref q17) (ty := (.array .long)) (C := RX4) (T := TX4) (N := 6) hx hb hts hn0 tyX4 tyX4_ok nmX4 hown hK hP hD hS 0 rfl rfl 1 (by decide) (htw _ aw_64) (fun _ h9 => h9) rfl hin rfl (by decide +kernel) rfl rfl (Nat.le_of_ble_eq_true rfl) dX4_init_19 (fun H locs hP hD hS => ?_)
  have hP : va_P (dC, dI) vwCl [(q_t, .inr (3, [.ref q8, .ref q17, .null, .null, .null, .int 0])), (q8, .inl (cI, 600, .inl (fun _ => 0))), (q17, .inl (cL, 600, .inr (.inl (fun _ => 0))))] H := hP
  have hD : va_D A [(q_t, .inr (3, [.ref q8, .ref q17, .null, .null, .null, .int 0])), (q8, .inl (cI, 600, .inl (fun _ => 0))), (q17, .inl (cL, 600, .inr (.inl (fun _ => 0))))] := hD
  refine lv_aload_n hx hb dX4_init_22 rfl (lv_at hl 0 rfl) ?_
  refine lv_sipush (v := 600) hx hb dX4_init_23 (by decide) ?_
  refine fr_newi (n := 600) (N' := 600) hx hb (htw _ aw_47) hK (t0 := 0) rfl hP hD hS hA (by decide) (by decide) (by decide) (Nat.le_of_ble_eq_true rfl) (Nat.le_of_ble_eq_true rfl) dX4_init_26 (fun q26 H hP hD hS => ?_)
  refine W.widen (k := 3) (n := 1800) (by omega) (by omega) ?_
  have hP : va_P (dC, dI) vwCl [(q_t, .inr (3, [.ref q8, .ref q17, .null, .null, .null, .int 0])), (q8, .inl (cI, 600, .inl (fun _ => 0))), (q17, .inl (cL, 600, .inr (.inl (fun _ => 0)))), (q26, .inl (cI, 600, .inl (fun _ => 0)))] H := hP
  have hD : va_D A [(q_t, .inr (3, [.ref q8, .ref q17, .null, .null, .null, .int 0])), (q8, .inl (cI, 600, .inl (fun _ => 0))), (q17, .inl (cL, 600, .inr (.inl (fun _ => 0)))), (q26, .inl (cI, 600, .inl (fun _ => 0)))] := hD
  refine va_putF (D := (dC, dI)) (ci := 3) (v := .ref q26) (ty := (.array .int)) (C := RX4) (T := TX4) (N := 6) hx hb hts hn0 tyX4 tyX4_ok nmX4 hown hK hP hD hS 0 rfl rfl 2 (by decide) (htw _ aw_67) (fun _ h9 => h9) rfl hin rfl (by decide +kernel) rfl rfl (Nat.le_of_ble_eq_true rfl) dX4_init_28 (fun H locs hP hD hS => ?_)
  have hP : va_P (dC, dI) vwCl [(q_t, .inr (3, [.ref q8, .ref q17, .ref q26, .null, .null, .int 0])), (q8, .inl (cI, 600, .inl (fun _ => 0))), (q17, .inl (cL, 600, .inr (.inl (fun _ => 0)))), (q26, .inl (cI, 600, .inl (fun _ => 0)))] H := hP
  have hD : va_D A [(q_t, .inr (3, [.ref q8, .ref q17, .ref q26, .null, .null, .int 0])), (q8, .inl (cI, 600, .inl (fun _ => 0))), (q17, .inl (cL, 600, .inr (.inl (fun _ => 0)))), (q26, .inl (cI, 600, .inl (fun _ => 0)))] := hD
  refine lv_aload_n hx hb dX4_init_31 rfl (lv_at hl 0 rfl) ?_
  refine lv_sipush (v := 600) hx hb dX4_init_32 (by decide) ?_
  refine fr_newi (n := 600) (N' := 600) hx hb (htw _ aw_47) hK (t0 := 0) rfl hP hD hS hA (by decide) (by decide) (by decide) (Nat.le_of_ble_eq_true rfl) (Nat.le_of_ble_eq_true rfl) dX4_init_35 (fun q35 H hP hD hS => ?_)
  refine W.widen (k := 4) (n := 2400) (by omega) (by omega) ?_
  have hP : va_P (dC, dI) vwCl [(q_t, .inr (3, [.ref q8, .ref q17, .ref q26, .null, .null, .int 0])), (q8, .inl (cI, 600, .inl (fun _ => 0))), (q17, .inl (cL, 600, .inr (.inl (fun _ => 0)))), (q26, .inl (cI, 600, .inl (fun _ => 0))), (q35, .inl (cI, 600, .inl (fun _ => 0)))] H := hP
  have hD : va_D A [(q_t, .inr (3, [.ref q8, .ref q17, .ref q26, .null, .null, .int 0])), (q8, .inl (cI, 600, .inl (fun _ => 0))), (q17, .inl (cL, 600, .inr (.inl (fun _ => 0)))), (q26, .inl (cI, 600, .inl (fun _ => 0))), (q35, .inl (cI, 600, .inl (fun _ => 0)))] := hD
  refine va_putF (D := (dC, dI)) (ci := 3) (v := .ref q35) (ty := (.array .int)) (C := RX4) (T := TX4) (N := 6) hx hb hts hn0 tyX4 tyX4_ok nmX4 hown hK hP hD hS 0 rfl rfl 3 (by decide) (htw _ aw_71) (fun _ h9 => h9) rfl hin rfl (by decide +kernel) rfl rfl (Nat.le_of_ble_eq_true rfl) dX4_init_37 (fun H locs hP hD hS => ?_)
  have hP : va_P (dC, dI) vwCl [(q_t, .inr (3, [.ref q8, .ref q17, .ref q26, .ref q35, .null, .int 0])), (q8, .inl (cI, 600, .inl (fun _ => 0))), (q17, .inl (cL, 600, .inr (.inl (fun _ => 0)))), (q26, .inl (cI, 600, .inl (fun _ => 0))), (q35, .inl (cI, 600, .inl (fun _ => 0)))] H := hP
  have hD : va_D A [(q_t, .inr (3, [.ref q8, .ref q17, .ref q26, .ref q35, .null, .int 0])), (q8, .inl (cI, 600, .inl (fun _ => 0))), (q17, .inl (cL, 600, .inr (.inl (fun _ => 0)))), (q26, .inl (cI, 600, .inl (fun _ => 0))), (q35, .inl (cI, 600, .inl (fun _ => 0)))] := hD
  refine lv_aload_n hx hb dX4_init_40 rfl (lv_at hl 0 rfl) ?_
  refine lv_sipush (v := 600) hx hb dX4_init_41 (by decide) ?_
  refine fr_newi (n := 600) (N' := 600) hx hb (htw _ aw_47) hK (t0 := 0) rfl hP hD hS hA (by decide) (by decide) (by decide) (Nat.le_of_ble_eq_true rfl) (Nat.le_of_ble_eq_true rfl) dX4_init_44 (fun q44 H hP hD hS => ?_)
  refine W.widen (k := 5) (n := 3000) (by omega) (by omega) ?_
  have hP : va_P (dC, dI) vwCl [(q_t, .inr (3, [.ref q8, .ref q17, .ref q26, .ref q35, .null, .int 0])), (q8, .inl (cI, 600, .inl (fun _ => 0))), (q17, .inl (cL, 600, .inr (.inl (fun _ => 0)))), (q26, .inl (cI, 600, .inl (fun _ => 0))), (q35, .inl (cI, 600, .inl (fun _ => 0))), (q44, .inl (cI, 600, .inl (fun _ => 0)))] H := hP
  have hD : va_D A [(q_t, .inr (3, [.ref q8, .ref q17, .ref q26, .ref q35, .null, .int 0])), (q8, .inl (cI, 600, .inl (fun _ => 0))), (q17, .inl (cL, 600, .inr (.inl (fun _ => 0)))), (q26, .inl (cI, 600, .inl (fun _ => 0))), (q35, .inl (cI, 600, .inl (fun _ => 0))), (q44, .inl (cI, 600, .inl (fun _ => 0)))] := hD
  refine va_putF (D := (dC, dI)) (ci := 3) (v := .ref q44) (ty := (.array .int)) (C := RX4) (T := TX4) (N := 6) hx hb hts hn0 tyX4 tyX4_ok nmX4 hown hK hP hD hS 0 rfl rfl 4 (by decide) (htw _ aw_75) (fun _ h9 => h9) rfl hin rfl (by decide +kernel) rfl rfl (Nat.le_of_ble_eq_true rfl) dX4_init_46 (fun H locs hP hD hS => ?_)
  have hP : va_P (dC, dI) vwCl [(q_t, .inr (3, [.ref q8, .ref q17, .ref q26, .ref q35, .ref q44, .int 0])), (q8, .inl (cI, 600, .inl (fun _ => 0))), (q17, .inl (cL, 600, .inr (.inl (fun _ => 0)))), (q26, .inl (cI, 600, .inl (fun _ => 0))), (q35, .inl (cI, 600, .inl (fun _ => 0))), (q44, .inl (cI, 600, .inl (fun _ => 0)))] H := hP
  have hD : va_D A [(q_t, .inr (3, [.ref q8, .ref q17, .ref q26, .ref q35, .ref q44, .int 0])), (q8, .inl (cI, 600, .inl (fun _ => 0))), (q17, .inl (cL, 600, .inr (.inl (fun _ => 0)))), (q26, .inl (cI, 600, .inl (fun _ => 0))), (q35, .inl (cI, 600, .inl (fun _ => 0))), (q44, .inl (cI, 600, .inl (fun _ => 0)))] := hD
  refine lv_aload_n hx hb dX4_init_49 rfl (lv_at hl 0 rfl) ?_
  refine lv_iconst (v := 0) hx hb dX4_init_50 (by decide) ?_
  refine va_put (D := (dC, dI)) (ci := 3) (v := .int 0) (ty := .int) (C := RX4) (T := TX4) (N := 6) hx hb hts hn0 tyX4 tyX4_ok nmX4 hown hK hP hD hS 0 rfl rfl 5 (by decide) (htw _ aw_77) (fun _ h9 => h9) rfl (by decide +kernel) rfl rfl (Nat.le_of_ble_eq_true rfl) dX4_init_51 (fun H locs hP hD hS => ?_)
  have hP : va_P (dC, dI) vwCl [(q_t, .inr (3, [.ref q8, .ref q17, .ref q26, .ref q35, .ref q44, .int 0])), (q8, .inl (cI, 600, .inl (fun _ => 0))), (q17, .inl (cL, 600, .inr (.inl (fun _ => 0)))), (q26, .inl (cI, 600, .inl (fun _ => 0))), (q35, .inl (cI, 600, .inl (fun _ => 0))), (q44, .inl (cI, 600, .inl (fun _ => 0)))] H := hP
  have hD : va_D A [(q_t, .inr (3, [.ref q8, .ref q17, .ref q26, .ref q35, .ref q44, .int 0])), (q8, .inl (cI, 600, .inl (fun _ => 0))), (q17, .inl (cL, 600, .inr (.inl (fun _ => 0)))), (q26, .inl (cI, 600, .inl (fun _ => 0))), (q35, .inl (cI, 600, .inl (fun _ => 0))), (q44, .inl (cI, 600, .inl (fun _ => 0)))] := hD
  subst hQ
  exact W.vret hx hb hr (fun t ht hW => ⟨⟨(q8, q17, q26, q35, q44), rfl, trivial, by rw [ht]; exact hP, va_K.moved hW.alike hK, hD⟩, hS.F ht⟩) hS.2.2 dX4_init_54
def M_Store_add (t_count : Int32) (t_kind : Nat → Int32) (t_content : Nat → Int64) (t_left : Nat → Int32) (t_right : Nat → Int32) (t_given : Nat → Int32) (x1 : Int32) (x2 : Int64) (x4 : Int32) (x5 : Int32) : Option (Int32 × Int32 × (Nat → Int32) × (Nat → Int64) × (Nat → Int32) × (Nat → Int32) × (Nat → Int32)) :=
  (if t_count < 600 then
    chk ((0 : Int32) ≤ t_count ∧ t_count < 600) (chk ((0 : Int32) ≤ t_count ∧ t_count < 600) (chk ((0 : Int32) ≤ t_count ∧ t_count < 600) (chk ((0 : Int32) ≤ t_count ∧ t_count < 600) (chk ((0 : Int32) ≤ t_count ∧ t_count < 600) (some ((t_count + 1) - 1, t_count + 1, upd t_kind t_count.toNatClampNeg x1, vp_updL t_content t_count.toNatClampNeg x2, upd t_left t_count.toNatClampNeg x4, upd t_right t_count.toNatClampNeg x5, upd t_given t_count.toNatClampNeg 0))))))
  else
    some ((-1), t_count, t_kind, t_content, t_left, t_right, t_given))
set_option maxHeartbeats 4000000 in
set_option maxRecDepth 100000 in
theorem c_Store_add (l : Launch) (dC : Nat → ClassId) (dI : Nat → Nat → Nat) (cI cL : ClassId) (sz : Nat) (q_t q_t_kind q_t_content q_t_left q_t_right q_t_given : Nat) (t_count : Int32) (t_kind : Nat → Int32) (t_content : Nat → Int64) (t_left t_right t_given : Nat → Int32) (x1 : Int32) (x2 : Int64) (x4 x5 r0 u_t_count : Int32) (u_t_kind : Nat → Int32) (u_t_content : Nat → Int64) (u_t_left u_t_right u_t_given : Nat → Int32) (hm : M_Store_add t_count t_kind t_content t_left t_right t_given x1 x2 x4 x5 = some (r0, u_t_count, u_t_kind, u_t_content, u_t_left, u_t_right, u_t_given)) : Met l yX4_add wsX4_add ({ frames := 0, cells := 0, slots := 0, locals := 0 }) (frPc (dC, dI) vwCl [(cI, .int), (cL, .long)] [(q_t, .inr (3, [.ref q_t_kind, .ref q_t_content, .ref q_t_left, .ref q_t_right, .ref q_t_given, .int t_count])), (q_t_kind, .inl (cI, 600, .inl t_kind)), (q_t_content, .inl (cL, 600, .inr (.inl t_content))), (q_t_left, .inl (cI, 600, .inl t_left)), (q_t_right, .inl (cI, 600, .inl t_right)), (q_t_given, .inl (cI, 600, .inl t_given))] sz [.ref q_t, .int x1, .long x2, .int x4, .int x5]) (va_Qi (fun (r : Int32) (_ : Unit) => r = r0) (frB (dC, dI) vwCl [(cI, .int), (cL, .long)] (va_A [(q_t, .inr (3, [.ref q_t_kind, .ref q_t_content, .ref q_t_left, .ref q_t_right, .ref q_t_given, .int t_count])), (q_t_kind, .inl (cI, 600, .inl t_kind)), (q_t_content, .inl (cL, 600, .inr (.inl t_content))), (q_t_left, .inl (cI, 600, .inl t_left)), (q_t_right, .inl (cI, 600, .inl t_right)), (q_t_given, .inl (cI, 600, .inl t_given))] sz) [(q_t, .inr (3, [.ref q_t_kind, .ref q_t_content, .ref q_t_left, .ref q_t_right, .ref q_t_given, .int u_t_count])), (q_t_kind, .inl (cI, 600, .inl u_t_kind)), (q_t_content, .inl (cL, 600, .inr (.inl u_t_content))), (q_t_left, .inl (cI, 600, .inl u_t_left)), (q_t_right, .inl (cI, 600, .inl u_t_right)), (q_t_given, .inl (cI, 600, .inl u_t_given))]) (va_A [(q_t, .inr (3, [.ref q_t_kind, .ref q_t_content, .ref q_t_left, .ref q_t_right, .ref q_t_given, .int t_count])), (q_t_kind, .inl (cI, 600, .inl t_kind)), (q_t_content, .inl (cL, 600, .inr (.inl t_content))), (q_t_left, .inl (cI, 600, .inl t_left)), (q_t_right, .inl (cI, 600, .inl t_right)), (q_t_given, .inl (cI, 600, .inl t_given))] sz)) 0 0 (va_A [(q_t, .inr (3, [.ref q_t_kind, .ref q_t_content, .ref q_t_left, .ref q_t_right, .ref q_t_given, .int t_count])), (q_t_kind, .inl (cI, 600, .inl t_kind)), (q_t_content, .inl (cL, 600, .inr (.inl t_content))), (q_t_left, .inl (cI, 600, .inl t_left)), (q_t_right, .inl (cI, 600, .inl t_right)), (q_t_given, .inl (cI, 600, .inl t_given))] sz) := by
  refine Met.ofW (cc := cX4_add) (maxL := 6) (ret := (some .int)) (by decide) rfl ?_
  intro p e s m args below meth c s₁ B hml hv
  obtain ⟨rfl, hsz, hP, hK, hD0, hZ⟩ := hv
  have hx := B.exec
  have hb := B.bytes
  have hr := B.returns
  have hts := atoms_spec (ws := wsX4_add) B.pre
  have hown : s.vm.findClass RX4 = some m.cls := findClass_of_methodNamed B.named
  have hlocks := B.notSynchronized
  subst hsz
  have hD := hD0.self (sz := s.heap.size)
  generalize hAe : va_A [(q_t, .inr (3, [.ref q_t_kind, .ref q_t_content, .ref q_t_left, .ref q_t_right, .ref q_t_given, .int t_count])), (q_t_kind, .inl (cI, 600, .inl t_kind)), (q_t_content, .inl (cL, 600, .inr (.inl t_content))), (q_t_left, .inl (cI, 600, .inl t_left)), (q_t_right, .inl (cI, 600, .inl t_right)), (q_t_given, .inl (cI, 600, .inl t_given))] s.heap.size = A at hD hZ ⊢
  have hA : ∀ q : Nat, s.heap.size ≤ q → A q := fun q h => by rw [← hAe]; exact Or.inr h
  have hS : va_S A s.heap s.heap [] := va_S.rf
  have hP : va_P (dC, dI) vwCl [(q_t, .inr (3, [.ref q_t_kind, .ref q_t_content, .ref q_t_left, .ref q_t_right, .ref q_t_given, .int t_count])), (q_t_kind, .inl (cI, 600, .inl t_kind)), (q_t_content, .inl (cL, 600, .inr (.inl t_content))), (q_t_left, .inl (cI, 600, .inl t_left)), (q_t_right, .inl (cI, 600, .inl t_right)), (q_t_given, .inl (cI, 600, .inl t_given))] s.heap := hP
  have hl := lv_entry ([.ref q_t, .int x1, .long x2, .int x4, .int x5]) (n := 6) (Nat.le_of_ble_eq_true rfl)
  rw [lg_entry_eq]
  generalize (lg_sl ([.ref q_t, .int x1, .long x2, .int x4, .int x5]) ++ List.replicate (6 - (lg_sl ([.ref q_t, .int x1, .long x2, .int x4, .int x5])).length) Slot.unset).toArray = ls at hl ⊢
  have hl : lv_has ls 6 [(0, .ref q_t), (1, .int x1), (2, .long x2), (4, .int x4), (5, .int x5)] := hl
  refine wq hP hS (fun Q hQ H locs hP hS => ?_)
  have htw : ∀ w ∈ AW, w.before _ s = true := fun w h => hts w (List.mem_cons_of_mem _ h)
  have hn0 : ∀ w ∈ wsX40, w ∈ wsX4_add := fun w h => List.mem_cons_of_mem _ (inX4 w h)
  rw [M_Store_add] at hm
  refine lv_aload_n hx hb dX4_add_0 rfl (lv_at hl 0 rfl) ?_
  refine va_get (D := (dC, dI)) (ci := 3) (v := .int t_count) (C := RX4) (T := TX4) (N := 6) hx hb hts hn0 hown hK hP 0 rfl rfl 5 (by decide) (htw _ aw_77) (fun _ h9 => h9) rfl dX4_add_1 ?_
  refine lv_sipush (v := 600) hx hb dX4_add_4 (by decide) ?_
  refine lv_icmp_lt hx hb dX4_add_7 rfl (fun h7 => ?_) (fun h7 => ?_)
  · rw [if_pos h7] at hm
    refine lv_aload_n hx hb dX4_add_12 rfl (lv_at hl 0 rfl) ?_
    refine va_get (D := (dC, dI)) (ci := 3) (v := .ref q_t_kind) (C := RX4) (T := TX4) (N := 6) hx hb hts hn0 hown hK hP 0 rfl rfl 0 (by decide) (htw _ aw_60) (fun _ h9 => h9) rfl dX4_add_13 ?_
    refine lv_aload_n hx hb dX4_add_16 rfl (lv_at hl 0 rfl) ?_
    refine va_get (D := (dC, dI)) (ci := 3) (v := .int t_count) (C := RX4) (T := TX4) (N := 6) hx hb hts hn0 hown hK hP 0 rfl rfl 5 (by decide) (htw _ aw_77) (fun _ h9 => h9) rfl dX4_add_17 ?_
    refine lv_iload_n hx hb dX4_add_20 rfl (lv_at hl 1 rfl) ?_
    obtain ⟨h21, hm⟩ := chk_inv hm
    refine va_iast (D := (dC, dI)) hx hb hK hP hD hS 1 0 rfl rfl (in_of (n := 600) (by decide) h21) dX4_add_21 (fun H locs hP hD hS => ?_)
    have hP : va_P (dC, dI) vwCl [(q_t, .inr (3, [.ref q_t_kind, .ref q_t_content, .ref q_t_left, .ref q_t_right, .ref q_t_given, .int t_count])), (q_t_kind, .inl (cI, 600, .inl (upd t_kind t_count.toNatClampNeg x1))), (q_t_content, .inl (cL, 600, .inr (.inl t_content))), (q_t_left, .inl (cI, 600, .inl t_left)), (q_t_right, .inl (cI, 600, .inl t_right)), (q_t_given, .inl (cI, 600, .inl t_given))] H := hP
    have hD : va_D A [(q_t, .inr (3, [.ref q_t_kind, .ref q_t_content, .ref q_t_left, .ref q_t_right, .ref q_t_given, .int t_count])), (q_t_kind, .inl (cI, 600, .inl (upd t_kind t_count.toNatClampNeg x1))), (q_t_content, .inl (cL, 600, .inr (.inl t_content))), (q_t_left, .inl (cI, 600, .inl t_left)), (q_t_right, .inl (cI, 600, .inl t_right)), (q_t_given, .inl (cI, 600, .inl t_given))] := hD
    refine lv_aload_n hx hb dX4_add_22 rfl (lv_at hl 0 rfl) ?_
    refine va_get (D := (dC, dI)) (ci := 3) (v := .ref q_t_content) (C := RX4) (T := TX4) (N := 6) hx hb hts hn0 hown hK hP 0 rfl rfl 1 (by decide) (htw _ aw_64) (fun _ h9 => h9) rfl dX4_add_23 ?_
    refine lv_aload_n hx hb dX4_add_26 rfl (lv_at hl 0 rfl) ?_
    refine va_get (D := (dC, dI)) (ci := 3) (v := .int t_count) (C := RX4) (T := TX4) (N := 6) hx hb hts hn0 hown hK hP 0 rfl rfl 5 (by decide) (htw _ aw_77) (fun _ h9 => h9) rfl dX4_add_27 ?_
    refine lv_lload_n hx hb dX4_add_30 rfl (lv_at hl 2 rfl) ?_
    obtain ⟨h31, hm⟩ := chk_inv hm
    refine va_last (D := (dC, dI)) hx hb hK hP hD hS 2 1 rfl rfl (in_of (n := 600) (by decide) h31) dX4_add_31 (fun H locs hP hD hS => ?_)
    have hP : va_P (dC, dI) vwCl [(q_t, .inr (3, [.ref q_t_kind, .ref q_t_content, .ref q_t_left, .ref q_t_right, .ref q_t_given, .int t_count])), (q_t_kind, .inl (cI, 600, .inl (upd t_kind t_count.toNatClampNeg x1))), (q_t_content, .inl (cL, 600, .inr (.inl (vp_updL t_content t_count.toNatClampNeg x2)))), (q_t_left, .inl (cI, 600, .inl t_left)), (q_t_right, .inl (cI, 600, .inl t_right)), (q_t_given, .inl (cI, 600, .inl t_given))] H := hP
    have hD : va_D A [(q_t, .inr (3, [.ref q_t_kind, .ref q_t_content, .ref q_t_left, .ref q_t_right, .ref q_t_given, .int t_count])), (q_t_kind, .inl (cI, 600, .inl (upd t_kind t_count.toNatClampNeg x1))), (q_t_content, .inl (cL, 600, .inr (.inl (vp_updL t_content t_count.toNatClampNeg x2)))), (q_t_left, .inl (cI, 600, .inl t_left)), (q_t_right, .inl (cI, 600, .inl t_right)), (q_t_given, .inl (cI, 600, .inl t_given))] := hD
    refine lv_aload_n hx hb dX4_add_32 rfl (lv_at hl 0 rfl) ?_
    refine va_get (D := (dC, dI)) (ci := 3) (v := .ref q_t_left) (C := RX4) (T := TX4) (N := 6) hx hb hts hn0 hown hK hP 0 rfl rfl 2 (by decide) (htw _ aw_67) (fun _ h9 => h9) rfl dX4_add_33 ?_
    refine lv_aload_n hx hb dX4_add_36 rfl (lv_at hl 0 rfl) ?_
    refine va_get (D := (dC, dI)) (ci := 3) (v := .int t_count) (C := RX4) (T := TX4) (N := 6) hx hb hts hn0 hown hK hP 0 rfl rfl 5 (by decide) (htw _ aw_77) (fun _ h9 => h9) rfl dX4_add_37 ?_
    refine lv_iload hx hb dX4_add_40 (lv_at hl 3 rfl) ?_
    obtain ⟨h42, hm⟩ := chk_inv hm
    refine va_iast (D := (dC, dI)) hx hb hK hP hD hS 3 0 rfl rfl (in_of (n := 600) (by decide) h42) dX4_add_42 (fun H locs hP hD hS => ?_)
    have hP : va_P (dC, dI) vwCl [(q_t, .inr (3, [.ref q_t_kind, .ref q_t_content, .ref q_t_left, .ref q_t_right, .ref q_t_given, .int t_count])), (q_t_kind, .inl (cI, 600, .inl (upd t_kind t_count.toNatClampNeg x1))), (q_t_content, .inl (cL, 600, .inr (.inl (vp_updL t_content t_count.toNatClampNeg x2)))), (q_t_left, .inl (cI, 600, .inl (upd t_left t_count.toNatClampNeg x4))), (q_t_right, .inl (cI, 600, .inl t_right)), (q_t_given, .inl (cI, 600, .inl t_given))] H := hP
    have hD : va_D A [(q_t, .inr (3, [.ref q_t_kind, .ref q_t_content, .ref q_t_left, .ref q_t_right, .ref q_t_given, .int t_count])), (q_t_kind, .inl (cI, 600, .inl (upd t_kind t_count.toNatClampNeg x1))), (q_t_content, .inl (cL, 600, .inr (.inl (vp_updL t_content t_count.toNatClampNeg x2)))), (q_t_left, .inl (cI, 600, .inl (upd t_left t_count.toNatClampNeg x4))), (q_t_right, .inl (cI, 600, .inl t_right)), (q_t_given, .inl (cI, 600, .inl t_given))] := hD
    refine lv_aload_n hx hb dX4_add_43 rfl (lv_at hl 0 rfl) ?_
    refine va_get (D := (dC, dI)) (ci := 3) (v := .ref q_t_right) (C := RX4) (T := TX4) (N := 6) hx hb hts hn0 hown hK hP 0 rfl rfl 3 (by decide) (htw _ aw_71) (fun _ h9 => h9) rfl dX4_add_44 ?_
    refine lv_aload_n hx hb dX4_add_47 rfl (lv_at hl 0 rfl) ?_
    refine va_get (D := (dC, dI)) (ci := 3) (v := .int t_count) (C := RX4) (T := TX4) (N := 6) hx hb hts hn0 hown hK hP 0 rfl rfl 5 (by decide) (htw _ aw_77) (fun _ h9 => h9) rfl dX4_add_48 ?_
    refine lv_iload hx hb dX4_add_51 (lv_at hl 4 rfl) ?_
    obtain ⟨h53, hm⟩ := chk_inv hm
    refine va_iast (D := (dC, dI)) hx hb hK hP hD hS 4 0 rfl rfl (in_of (n := 600) (by decide) h53) dX4_add_53 (fun H locs hP hD hS => ?_)
    have hP : va_P (dC, dI) vwCl [(q_t, .inr (3, [.ref q_t_kind, .ref q_t_content, .ref q_t_left, .ref q_t_right, .ref q_t_given, .int t_count])), (q_t_kind, .inl (cI, 600, .inl (upd t_kind t_count.toNatClampNeg x1))), (q_t_content, .inl (cL, 600, .inr (.inl (vp_updL t_content t_count.toNatClampNeg x2)))), (q_t_left, .inl (cI, 600, .inl (upd t_left t_count.toNatClampNeg x4))), (q_t_right, .inl (cI, 600, .inl (upd t_right t_count.toNatClampNeg x5))), (q_t_given, .inl (cI, 600, .inl t_given))] H := hP
    have hD : va_D A [(q_t, .inr (3, [.ref q_t_kind, .ref q_t_content, .ref q_t_left, .ref q_t_right, .ref q_t_given, .int t_count])), (q_t_kind, .inl (cI, 600, .inl (upd t_kind t_count.toNatClampNeg x1))), (q_t_content, .inl (cL, 600, .inr (.inl (vp_updL t_content t_count.toNatClampNeg x2)))), (q_t_left, .inl (cI, 600, .inl (upd t_left t_count.toNatClampNeg x4))), (q_t_right, .inl (cI, 600, .inl (upd t_right t_count.toNatClampNeg x5))), (q_t_given, .inl (cI, 600, .inl t_given))] := hD
    refine lv_aload_n hx hb dX4_add_54 rfl (lv_at hl 0 rfl) ?_
    refine va_get (D := (dC, dI)) (ci := 3) (v := .ref q_t_given) (C := RX4) (T := TX4) (N := 6) hx hb hts hn0 hown hK hP 0 rfl rfl 4 (by decide) (htw _ aw_75) (fun _ h9 => h9) rfl dX4_add_55 ?_
    refine lv_aload_n hx hb dX4_add_58 rfl (lv_at hl 0 rfl) ?_
    refine va_get (D := (dC, dI)) (ci := 3) (v := .int t_count) (C := RX4) (T := TX4) (N := 6) hx hb hts hn0 hown hK hP 0 rfl rfl 5 (by decide) (htw _ aw_77) (fun _ h9 => h9) rfl dX4_add_59 ?_
    refine lv_iconst (v := 0) hx hb dX4_add_62 (by decide) ?_
    obtain ⟨h63, hm⟩ := chk_inv hm
    refine va_iast (D := (dC, dI)) hx hb hK hP hD hS 5 0 rfl rfl (in_of (n := 600) (by decide) h63) dX4_add_63 (fun H locs hP hD hS => ?_)
    have hP : va_P (dC, dI) vwCl [(q_t, .inr (3, [.ref q_t_kind, .ref q_t_content, .ref q_t_left, .ref q_t_right, .ref q_t_given, .int t_count])), (q_t_kind, .inl (cI, 600, .inl (upd t_kind t_count.toNatClampNeg x1))), (q_t_content, .inl (cL, 600, .inr (.inl (vp_updL t_content t_count.toNatClampNeg x2)))), (q_t_left, .inl (cI, 600, .inl (upd t_left t_count.toNatClampNeg x4))), (q_t_right, .inl (cI, 600, .inl (upd t_right t_count.toNatClampNeg x5))), (q_t_given, .inl (cI, 600, .inl (upd t_given t_count.toNatClampNeg 0)))] H := hP
    have hD : va_D A [(q_t, .inr (3, [.ref q_t_kind, .ref q_t_content, .ref q_t_left, .ref q_t_right, .ref q_t_given, .int t_count])), (q_t_kind, .inl (cI, 600, .inl (upd t_kind t_count.toNatClampNeg x1))), (q_t_content, .inl (cL, 600, .inr (.inl (vp_updL t_content t_count.toNatClampNeg x2)))), (q_t_left, .inl (cI, 600, .inl (upd t_left t_count.toNatClampNeg x4))), (q_t_right, .inl (cI, 600, .inl (upd t_right t_count.toNatClampNeg x5))), (q_t_given, .inl (cI, 600, .inl (upd t_given t_count.toNatClampNeg 0)))] := hD
    refine lv_aload_n hx hb dX4_add_64 rfl (lv_at hl 0 rfl) ?_
    refine lv_dup hx hb dX4_add_65 rfl ?_
    refine va_get (D := (dC, dI)) (ci := 3) (v := .int t_count) (C := RX4) (T := TX4) (N := 6) hx hb hts hn0 hown hK hP 0 rfl rfl 5 (by decide) (htw _ aw_77) (fun _ h9 => h9) rfl dX4_add_66 ?_
    refine lv_iconst (v := 1) hx hb dX4_add_69 (by decide) ?_
    refine lv_iadd hx hb dX4_add_70 ?_
    refine va_put (D := (dC, dI)) (ci := 3) (v := .int (t_count + 1)) (ty := .int) (C := RX4) (T := TX4) (N := 6) hx hb hts hn0 tyX4 tyX4_ok nmX4 hown hK hP hD hS 0 rfl rfl 5 (by decide) (htw _ aw_77) (fun _ h9 => h9) rfl (by decide +kernel) rfl rfl (Nat.le_of_ble_eq_true rfl) dX4_add_71 (fun H locs hP hD hS => ?_)
    have hP : va_P (dC, dI) vwCl [(q_t, .inr (3, [.ref q_t_kind, .ref q_t_content, .ref q_t_left, .ref q_t_right, .ref q_t_given, .int (t_count + 1)])), (q_t_kind, .inl (cI, 600, .inl (upd t_kind t_count.toNatClampNeg x1))), (q_t_content, .inl (cL, 600, .inr (.inl (vp_updL t_content t_count.toNatClampNeg x2)))), (q_t_left, .inl (cI, 600, .inl (upd t_left t_count.toNatClampNeg x4))), (q_t_right, .inl (cI, 600, .inl (upd t_right t_count.toNatClampNeg x5))), (q_t_given, .inl (cI, 600, .inl (upd t_given t_count.toNatClampNeg 0)))] H := hP
    have hD : va_D A [(q_t, .inr (3, [.ref q_t_kind, .ref q_t_content, .ref q_t_left, .ref q_t_right, .ref q_t_given, .int (t_count + 1)])), (q_t_kind, .inl (cI, 600, .inl (upd t_kind t_count.toNatClampNeg x1))), (q_t_content, .inl (cL, 600, .inr (.inl (vp_updL t_content t_count.toNatClampNeg x2)))), (q_t_left, .inl (cI, 600, .inl (upd t_left t_count.toNatClampNeg x4))), (q_t_right, .inl (cI, 600, .inl (upd t_right t_count.toNatClampNeg x5))), (q_t_given, .inl (cI, 600, .inl (upd t_given t_count.toNatClampNeg 0)))] := hD
    refine lv_aload_n hx hb dX4_add_74 rfl (lv_at hl 0 rfl) ?_
    refine va_get (D := (dC, dI)) (ci := 3) (v := .int (t_count + 1)) (C := RX4) (T := TX4) (N := 6) hx hb hts hn0 hown hK hP 0 rfl rfl 5 (by decide) (htw _ aw_77) (fun _ h9 => h9) rfl dX4_add_75 ?_
    refine lv_iconst (v := 1) hx hb dX4_add_78 (by decide) ?_
    refine lv_isub hx hb dX4_add_79 ?_
    obtain ⟨rfl, rfl, rfl, rfl, rfl, rfl, rfl⟩ := ij7 hm
    subst hQ
    exact W.iret hx hb hr (fun t ht hW => ⟨⟨_, (), rfl, rfl, by rw [ht]; exact hP, va_K.moved hW.alike hK, hD⟩, hS.F ht⟩) hS.2.2 dX4_add_80
  · rw [if_neg h7] at hm
    refine lv_iconst (v := (-1)) hx hb dX4_add_10 (by decide) ?_
    obtain ⟨rfl, rfl, rfl, rfl, rfl, rfl, rfl⟩ := ij7 hm
    subst hQ
    exact W.iret hx hb hr (fun t ht hW => ⟨⟨_, (), rfl, rfl, by rw [ht]; exact hP, va_K.moved hW.alike hK, hD⟩, hS.F ht⟩) hS.2.2 dX4_add_11
def M_Store_addGrown (t_count : Int32) (t_kind : Nat → Int32) (t_content : Nat → Int64) (t_left : Nat → Int32) (t_right : Nat → Int32) (t_given : Nat → Int32) (x1 : Int32) (x2 : Int32) : Option (Int32 × Int32 × (Nat → Int32) × (Nat → Int64) × (Nat → Int32) × (Nat → Int32) × (Nat → Int32)) :=
  c7 (M_Store_add t_count t_kind t_content t_left t_right t_given (6 : Int32) (atL 600 t_content x1) x2 x1) (fun r13 t_count_13 t_kind_13 t_content_13 t_left_13 t_right_13 t_given_13 =>
    (if r13 = (-1) then
      some (r13, t_count_13, t_kind_13, t_content_13, t_left_13, t_right_13, t_given_13)
    else
      chk ((0 : Int32) ≤ r13 ∧ r13 < 600) (some (r13, t_count_13, t_kind_13, t_content_13, t_left_13, t_right_13, upd t_given_13 r13.toNatClampNeg ((at_ 600 t_given_13 x1) + 1)))))
set_option maxHeartbeats 4000000 in
set_option maxRecDepth 100000 in
theorem c_Store_addGrown (l : Launch) (dC : Nat → ClassId) (dI : Nat → Nat → Nat) (cI cL : ClassId) (sz : Nat) (q_t q_t_kind q_t_content q_t_left q_t_right q_t_given : Nat) (t_count : Int32) (t_kind : Nat → Int32) (t_content : Nat → Int64) (t_left t_right t_given : Nat → Int32) (x1 x2 r0 u_t_count : Int32) (u_t_kind : Nat → Int32) (u_t_content : Nat → Int64) (u_t_left u_t_right u_t_given : Nat → Int32) (hm : M_Store_addGrown t_count t_kind t_content t_left t_right t_given x1 x2 = some (r0, u_t_count, u_t_kind, u_t_content, u_t_left, u_t_right, u_t_given)) : Met l yX4_addGrown wsX4_addGrown ({ frames := 1, cells := 0, slots := 0, locals := 25 }) (frPc (dC, dI) vwCl [(cI, .int), (cL, .long)] [(q_t, .inr (3, [.ref q_t_kind, .ref q_t_content, .ref q_t_left, .ref q_t_right, .ref q_t_given, .int t_count])), (q_t_kind, .inl (cI, 600, .inl t_kind)), (q_t_content, .inl (cL, 600, .inr (.inl t_content))), (q_t_left, .inl (cI, 600, .inl t_left)), (q_t_right, .inl (cI, 600, .inl t_right)), (q_t_given, .inl (cI, 600, .inl t_given))] sz [.ref q_t, .int x1, .int x2]) (va_Qi (fun (r : Int32) (_ : Unit) => r = r0) (frB (dC, dI) vwCl [(cI, .int), (cL, .long)] (va_A [(q_t, .inr (3, [.ref q_t_kind, .ref q_t_content, .ref q_t_left, .ref q_t_right, .ref q_t_given, .int t_count])), (q_t_kind, .inl (cI, 600, .inl t_kind)), (q_t_content, .inl (cL, 600, .inr (.inl t_content))), (q_t_left, .inl (cI, 600, .inl t_left)), (q_t_right, .inl (cI, 600, .inl t_right)), (q_t_given, .inl (cI, 600, .inl t_given))] sz) [(q_t, .inr (3, [.ref q_t_kind, .ref q_t_content, .ref q_t_left, .ref q_t_right, .ref q_t_given, .int u_t_count])), (q_t_kind, .inl (cI, 600, .inl u_t_kind)), (q_t_content, .inl (cL, 600, .inr (.inl u_t_content))), (q_t_left, .inl (cI, 600, .inl u_t_left)), (q_t_right, .inl (cI, 600, .inl u_t_right)), (q_t_given, .inl (cI, 600, .inl u_t_given))]) (va_A [(q_t, .inr (3, [.ref q_t_kind, .ref q_t_content, .ref q_t_left, .ref q_t_right, .ref q_t_given, .int t_count])), (q_t_kind, .inl (cI, 600, .inl t_kind)), (q_t_content, .inl (cL, 600, .inr (.inl t_content))), (q_t_left, .inl (cI, 600, .inl t_left)), (q_t_right, .inl (cI, 600, .inl t_right)), (q_t_given, .inl (cI, 600, .inl t_given))] sz)) 0 0 (va_A [(q_t, .inr (3, [.ref q_t_kind, .ref q_t_content, .ref q_t_left, .ref q_t_right, .ref q_t_given, .int t_count])), (q_t_kind, .inl (cI, 600, .inl t_kind)), (q_t_content, .inl (cL, 600, .inr (.inl t_content))), (q_t_left, .inl (cI, 600, .inl t_left)), (q_t_right, .inl (cI, 600, .inl t_right)), (q_t_given, .inl (cI, 600, .inl t_given))] sz) := by
  refine Met.ofW (cc := cX4_addGrown) (maxL := 4) (ret := (some .int)) (by decide) rfl ?_
  intro p e s m args below meth c s₁ B hml hv
  obtain ⟨rfl, hsz, hP, hK, hD0, hZ⟩ := hv
  have hx := B.exec
  have hb := B.bytes
  have hr := B.returns
  have hts := atoms_spec (ws := wsX4_addGrown) B.pre
  have hown : s.vm.findClass RX4 = some m.cls := findClass_of_methodNamed B.named
  have hlocks := B.notSynchronized
  subst hsz
  have hD := hD0.self (sz := s.heap.size)
  generalize hAe : va_A [(q_t, .inr (3, [.ref q_t_kind, .ref q_t_content, .ref q_t_left, .ref q_t_right, .ref q_t_given, .int t_count])), (q_t_kind, .inl (cI, 600, .inl t_kind)), (q_t_content, .inl (cL, 600, .inr (.inl t_content))), (q_t_left, .inl (cI, 600, .inl t_left)), (q_t_right, .inl (cI, 600, .inl t_right)), (q_t_given, .inl (cI, 600, .inl t_given))] s.heap.size = A at hD hZ ⊢
  have hA : ∀ q : Nat, s.heap.size ≤ q → A q := fun q h => by rw [← hAe]; exact Or.inr h
  have hS : va_S A s.heap s.heap [] := va_S.rf
  have hP : va_P (dC, dI) vwCl [(q_t, .inr (3, [.ref q_t_kind, .ref q_t_content, .ref q_t_left, .ref q_t_right, .ref q_t_given, .int t_count])), (q_t_kind, .inl (cI, 600, .inl t_kind)), (q_t_content, .inl (cL, 600, .inr (.inl t_content))), (q_t_left, .inl (cI, 600, .inl t_left)), (q_t_right, .inl (cI, 600, .inl t_right)), (q_t_given, .inl (cI, 600, .inl t_given))] s.heap := hP
  have hl := lv_entry ([.ref q_t, .int x1, .int x2]) (n := 4) (Nat.le_of_ble_eq_true rfl)
  rw [lg_entry_eq]
  generalize (lg_sl ([.ref q_t, .int x1, .int x2]) ++ List.replicate (4 - (lg_sl ([.ref q_t, .int x1, .int x2])).length) Slot.unset).toArray = ls at hl ⊢
  have hl : lv_has ls 4 [(0, .ref q_t), (1, .int x1), (2, .int x2)] := hl
  refine wq hP hS (fun Q hQ H locs hP hS => ?_)
  have htw : ∀ w ∈ AW, w.before _ s = true := fun w h => hts w (List.mem_cons_of_mem _ h)
  have hn0 : ∀ w ∈ wsX40, w ∈ wsX4_addGrown := fun w h => List.mem_cons_of_mem _ (inX4 w h)
  rw [M_Store_addGrown] at hm
  refine lv_aload_n hx hb dX4_addGrown_0 rfl (lv_at hl 0 rfl) ?_
  refine lv_bipush (v := 6) hx hb dX4_addGrown_1 (by decide) ?_
  refine lv_aload_n hx hb dX4_addGrown_3 rfl (lv_at hl 0 rfl) ?_
  refine va_get (D := (dC, dI)) (ci := 3) (v := .ref q_t_content) (C := RX4) (T := TX4) (N := 6) hx hb hts hn0 hown hK hP 0 rfl rfl 1 (by decide) (htw _ aw_64) (fun _ h9 => h9) rfl dX4_addGrown_4 ?_
  refine lv_iload_n hx hb dX4_addGrown_7 rfl (lv_at hl 1 rfl) ?_
  refine fr_l (wr := [(q_t, .inr (3, [.ref q_t_kind, .ref q_t_content, .ref q_t_left, .ref q_t_right, .ref q_t_given, .int t_count])), (q_t_kind, .inl (cI, 600, .inl t_kind)), (q_t_left, .inl (cI, 600, .inl t_left)), (q_t_right, .inl (cI, 600, .inl t_right)), (q_t_given, .inl (cI, 600, .inl t_given))]) (w2 := [(q_t, .inr (3, [.ref q_t_kind, .ref q_t_content, .ref q_t_left, .ref q_t_right, .ref q_t_given, .int t_count])), (q_t_kind, .inl (cI, 600, .inl t_kind)), (q_t_content, .inl (cL, 600, .inr (.inl t_content))), (q_t_left, .inl (cI, 600, .inl t_left)), (q_t_right, .inl (cI, 600, .inl t_right)), (q_t_given, .inl (cI, 600, .inl t_given))]) (va_runSN (As := [.ref q_t_content, .int x1]) (rest := [.int 6, .ref q_t]) ⟨hx, hb, hml, hown, hts⟩ (c_TM_longAt l dC dI cI cL H.size q_t_content 600 t_content x1 (by decide)) (kSN 2 hts aw_502 rfl rfl aw_1 (nx_58 hZ.1) aw_501 (by decide +kernel) ⟨Nat.le_of_ble_eq_true rfl, Nat.le_of_ble_eq_true rfl⟩) (fr_preS hK hP hD hS hA hZ [2] rfl rfl) rfl rfl hl.1 rfl (lv_room (Nat.le_of_ble_eq_true rfl)) dX4_addGrown_8 ⟨Nat.le_of_ble_eq_true rfl, Nat.le_of_ble_eq_true rfl⟩) hP hD hS hA [2] [0, 1, 3, 4, 5] [0, 1, 5, 2, 3, 4] rfl rfl rfl (by decide) rfl rfl (fun H locs hP hD hS => ?_)
  have hP : va_P (dC, dI) vwCl [(q_t, .inr (3, [.ref q_t_kind, .ref q_t_content, .ref q_t_left, .ref q_t_right, .ref q_t_given, .int t_count])), (q_t_kind, .inl (cI, 600, .inl t_kind)), (q_t_content, .inl (cL, 600, .inr (.inl t_content))), (q_t_left, .inl (cI, 600, .inl t_left)), (q_t_right, .inl (cI, 600, .inl t_right)), (q_t_given, .inl (cI, 600, .inl t_given))] H := hP
  have hD : va_D A [(q_t, .inr (3, [.ref q_t_kind, .ref q_t_content, .ref q_t_left, .ref q_t_right, .ref q_t_given, .int t_count])), (q_t_kind, .inl (cI, 600, .inl t_kind)), (q_t_content, .inl (cL, 600, .inr (.inl t_content))), (q_t_left, .inl (cI, 600, .inl t_left)), (q_t_right, .inl (cI, 600, .inl t_right)), (q_t_given, .inl (cI, 600, .inl t_given))] := hD
  refine lv_iload_n hx hb dX4_addGrown_11 rfl (lv_at hl 2 rfl) ?_
  refine lv_iload_n hx hb dX4_addGrown_12 rfl (lv_at hl 1 rfl) ?_
  obtain ⟨r13, t_count_13, t_kind_13, t_content_13, t_left_13, t_right_13, t_given_13, e13, hm⟩ := c7_inv hm
  refine fr_i (wr := []) (w2 := [(q_t, .inr (3, [.ref q_t_kind, .ref q_t_content, .ref q_t_left, .ref q_t_right, .ref q_t_given, .int t_count_13])), (q_t_kind, .inl (cI, 600, .inl t_kind_13)), (q_t_content, .inl (cL, 600, .inr (.inl t_content_13))), (q_t_left, .inl (cI, 600, .inl t_left_13)), (q_t_right, .inl (cI, 600, .inl t_right_13)), (q_t_given, .inl (cI, 600, .inl t_given_13))]) (va_runV (As := [.int 6, .long (atL 600 t_content x1), .int x2, .int x1]) (rest := []) ⟨hx, hb, hml, hown, hts⟩ (c_Store_add l dC dI cI cL H.size q_t q_t_kind q_t_content q_t_left q_t_right q_t_given t_count t_kind t_content t_left t_right t_given (6 : Int32) (atL 600 t_content x1) x2 x1 r13 t_count_13 t_kind_13 t_content_13 t_left_13 t_right_13 t_given_13 e13) (kV 4 hts aw_570 rfl rfl aw_4 aw_624 aw_568 aw_569 (by decide +kernel) ⟨Nat.le_of_ble_eq_true rfl, Nat.le_of_ble_eq_true rfl⟩) (fr_preV hK hP hD hS hA hZ [0, 1, 2, 3, 4, 5] rfl rfl (ci := 3) (q0 := 0) rfl rfl) rfl rfl hl.1 rfl (lv_room (Nat.le_of_ble_eq_true rfl)) dX4_addGrown_13 ⟨Nat.le_of_ble_eq_true rfl, Nat.le_of_ble_eq_true rfl⟩) hP hD hS hA [0, 1, 2, 3, 4, 5] [] [0, 1, 2, 3, 4, 5] rfl rfl rfl (by decide) rfl rfl (fun H locs hP hD hS => ?_)
  have hP : va_P (dC, dI) vwCl [(q_t, .inr (3, [.ref q_t_kind, .ref q_t_content, .ref q_t_left, .ref q_t_right, .ref q_t_given, .int t_count_13])), (q_t_kind, .inl (cI, 600, .inl t_kind_13)), (q_t_content, .inl (cL, 600, .inr (.inl t_content_13))), (q_t_left, .inl (cI, 600, .inl t_left_13)), (q_t_right, .inl (cI, 600, .inl t_right_13)), (q_t_given, .inl (cI, 600, .inl t_given_13))] H := hP
  have hD : va_D A [(q_t, .inr (3, [.ref q_t_kind, .ref q_t_content, .ref q_t_left, .ref q_t_right, .ref q_t_given, .int t_count_13])), (q_t_kind, .inl (cI, 600, .inl t_kind_13)), (q_t_content, .inl (cL, 600, .inr (.inl t_content_13))), (q_t_left, .inl (cI, 600, .inl t_left_13)), (q_t_right, .inl (cI, 600, .inl t_right_13)), (q_t_given, .inl (cI, 600, .inl t_given_13))] := hD
  refine lv_istore_n (lv' := [(3, .int r13), (0, .ref q_t), (1, .int x1), (2, .int x2)]) hx hb dX4_addGrown_16 rfl hl (by decide) rfl (fun ls hl => ?_)
  refine lv_iload_n hx hb dX4_addGrown_17 rfl (lv_at hl 0 rfl) ?_
  refine lv_iconst (v := (-1)) hx hb dX4_addGrown_18 (by decide) ?_
  refine lv_icmp_eq hx hb dX4_addGrown_19 rfl (fun h19 => ?_) (fun h19 => ?_)
  · rw [if_pos h19] at hm
    refine lv_iload_n hx hb dX4_addGrown_38 rfl (lv_at hl 0 rfl) ?_
    obtain ⟨rfl, rfl, rfl, rfl, rfl, rfl, rfl⟩ := ij7 hm
    subst hQ
    exact W.iret hx hb hr (fun t ht hW => ⟨⟨_, (), rfl, rfl, by rw [ht]; exact hP, va_K.moved hW.alike hK, hD⟩, hS.F ht⟩) hS.2.2 dX4_addGrown_39
  · rw [if_neg h19] at hm
    refine lv_aload_n hx hb dX4_addGrown_22 rfl (lv_at hl 1 rfl) ?_
    refine va_get (D := (dC, dI)) (ci := 3) (v := .ref q_t_given) (C := RX4) (T := TX4) (N := 6) hx hb hts hn0 hown hK hP 0 rfl rfl 4 (by decide) (htw _ aw_75) (fun _ h9 => h9) rfl dX4_addGrown_23 ?_
    refine lv_iload_n hx hb dX4_addGrown_26 rfl (lv_at hl 0 rfl) ?_
    refine lv_aload_n hx hb dX4_addGrown_27 rfl (lv_at hl 1 rfl) ?_
    refine va_get (D := (dC, dI)) (ci := 3) (v := .ref q_t_given) (C := RX4) (T := TX4) (N := 6) hx hb hts hn0 hown hK hP 0 rfl rfl 4 (by decide) (htw _ aw_75) (fun _ h9 => h9) rfl dX4_addGrown_28 ?_
    refine lv_iload_n hx hb dX4_addGrown_31 rfl (lv_at hl 2 rfl) ?_
    refine fr_i (wr := [(q_t, .inr (3, [.ref q_t_kind, .ref q_t_content, .ref q_t_left, .ref q_t_right, .ref q_t_given, .int t_count_13])), (q_t_kind, .inl (cI, 600, .inl t_kind_13)), (q_t_content, .inl (cL, 600, .inr (.inl t_content_13))), (q_t_left, .inl (cI, 600, .inl t_left_13)), (q_t_right, .inl (cI, 600, .inl t_right_13))]) (w2 := [(q_t, .inr (3, [.ref q_t_kind, .ref q_t_content, .ref q_t_left, .ref q_t_right, .ref q_t_given, .int t_count_13])), (q_t_kind, .inl (cI, 600, .inl t_kind_13)), (q_t_content, .inl (cL, 600, .inr (.inl t_content_13))), (q_t_left, .inl (cI, 600, .inl t_left_13)), (q_t_right, .inl (cI, 600, .inl t_right_13)), (q_t_given, .inl (cI, 600, .inl t_given_13))]) (va_runSN (As := [.ref q_t_given, .int x1]) (rest := [.int r13, .ref q_t_given]) ⟨hx, hb, hml, hown, hts⟩ (c_TM_at l dC dI cI cL H.size q_t_given 600 t_given_13 x1 (by decide)) (kSN 2 hts aw_346 rfl rfl aw_1 (nx_59 hZ.1) aw_345 (by decide +kernel) ⟨Nat.le_of_ble_eq_true rfl, Nat.le_of_ble_eq_true rfl⟩) (fr_preS hK hP hD hS hA hZ [5] rfl rfl) rfl rfl hl.1 rfl (lv_room (Nat.le_of_ble_eq_true rfl)) dX4_addGrown_32 ⟨Nat.le_of_ble_eq_true rfl, Nat.le_of_ble_eq_true rfl⟩) hP hD hS hA [5] [0, 1, 2, 3, 4] [0, 1, 2, 3, 4, 5] rfl rfl rfl (by decide) rfl rfl (fun H locs hP hD hS => ?_)
    have hP : va_P (dC, dI) vwCl [(q_t, .inr (3, [.ref q_t_kind, .ref q_t_content, .ref q_t_left, .ref q_t_right, .ref q_t_given, .int t_count_13])), (q_t_kind, .inl (cI, 600, .inl t_kind_13)), (q_t_content, .inl (cL, 600, .inr (.inl t_content_13))), (q_t_left, .inl (cI, 600, .inl t_left_13)), (q_t_right, .inl (cI, 600, .inl t_right_13)), (q_t_given, .inl (cI, 600, .inl t_given_13))] H := hP
    have hD : va_D A [(q_t, .inr (3, [.ref q_t_kind, .ref q_t_content, .ref q_t_left, .ref q_t_right, .ref q_t_given, .int t_count_13])), (q_t_kind, .inl (cI, 600, .inl t_kind_13)), (q_t_content, .inl (cL, 600, .inr (.inl t_content_13))), (q_t_left, .inl (cI, 600, .inl t_left_13)), (q_t_right, .inl (cI, 600, .inl t_right_13)), (q_t_given, .inl (cI, 600, .inl t_given_13))] := hD
    refine lv_iconst (v := 1) hx hb dX4_addGrown_35 (by decide) ?_
    refine lv_iadd hx hb dX4_addGrown_36 ?_
    obtain ⟨h37, hm⟩ := chk_inv hm
    refine va_iast (D := (dC, dI)) hx hb hK hP hD hS 5 0 rfl rfl (in_of (n := 600) (by decide) h37) dX4_addGrown_37 (fun H locs hP hD hS => ?_)
    have hP : va_P (dC, dI) vwCl [(q_t, .inr (3, [.ref q_t_kind, .ref q_t_content, .ref q_t_left, .ref q_t_right, .ref q_t_given, .int t_count_13])), (q_t_kind, .inl (cI, 600, .inl t_kind_13)), (q_t_content, .inl (cL, 600, .inr (.inl t_content_13))), (q_t_left, .inl (cI, 600, .inl t_left_13)), (q_t_right, .inl (cI, 600, .inl t_right_13)), (q_t_given, .inl (cI, 600, .inl (upd t_given_13 r13.toNatClampNeg ((at_ 600 t_given_13 x1) + 1))))] H := hP
    have hD : va_D A [(q_t, .inr (3, [.ref q_t_kind, .ref q_t_content, .ref q_t_left, .ref q_t_right, .ref q_t_given, .int t_count_13])), (q_t_kind, .inl (cI, 600, .inl t_kind_13)), (q_t_content, .inl (cL, 600, .inr (.inl t_content_13))), (q_t_left, .inl (cI, 600, .inl t_left_13)), (q_t_right, .inl (cI, 600, .inl t_right_13)), (q_t_given, .inl (cI, 600, .inl (upd t_given_13 r13.toNatClampNeg ((at_ 600 t_given_13 x1) + 1))))] := hD
    refine lv_iload_n hx hb dX4_addGrown_38 rfl (lv_at hl 0 rfl) ?_
    obtain ⟨rfl, rfl, rfl, rfl, rfl, rfl, rfl⟩ := ij7 hm
    subst hQ
    exact W.iret hx hb hr (fun t ht hW => ⟨⟨_, (), rfl, rfl, by rw [ht]; exact hP, va_K.moved hW.alike hK, hD⟩, hS.F ht⟩) hS.2.2 dX4_addGrown_39
def M_Store_hasRoom (t_count : Int32) (x1 : Int32) : Option (Int32) :=
  (if 600 < (t_count + x1) then
    some 0
  else
    some 1)
set_option maxHeartbeats 4000000 in
set_option maxRecDepth 100000 in
theorem c_Store_hasRoom (l : Launch) (dC : Nat → ClassId) (dI : Nat → Nat → Nat) (cI cL : ClassId) (sz : Nat) (q_t q_t_kind q_t_content q_t_left q_t_right q_t_given : Nat) (t_count x1 r0 : Int32) (hm : M_Store_hasRoom t_count x1 = some r0) : Met l yX4_hasRoom wsX4_hasRoom ({ frames := 0, cells := 0, slots := 0, locals := 0 }) (frPc (dC, dI) vwCl [(cI, .int), (cL, .long)] [(q_t, .inr (3, [.ref q_t_kind, .ref q_t_content, .ref q_t_left, .ref q_t_right, .ref q_t_given, .int t_count]))] sz [.ref q_t, .int x1]) (va_Qi (fun (r : Int32) (_ : Unit) => r = r0) (frB (dC, dI) vwCl [(cI, .int), (cL, .long)] (va_A [(q_t, .inr (3, [.ref q_t_kind, .ref q_t_content, .ref q_t_left, .ref q_t_right, .ref q_t_given, .int t_count]))] sz) [(q_t, .inr (3, [.ref q_t_kind, .ref q_t_content, .ref q_t_left, .ref q_t_right, .ref q_t_given, .int t_count]))]) (va_A [(q_t, .inr (3, [.ref q_t_kind, .ref q_t_content, .ref q_t_left, .ref q_t_right, .ref q_t_given, .int t_count]))] sz)) 0 0 (va_A [(q_t, .inr (3, [.ref q_t_kind, .ref q_t_content, .ref q_t_left, .ref q_t_right, .ref q_t_given, .int t_count]))] sz) := by
  refine Met.ofW (cc := cX4_hasRoom) (maxL := 2) (ret := (some .boolean)) (by decide) rfl ?_
  intro p e s m args below meth c s₁ B hml hv
  obtain ⟨rfl, hsz, hP, hK, hD0, hZ⟩ := hv
  have hx := B.exec
  have hb := B.bytes
  have hr := B.returns
  have hts := atoms_spec (ws := wsX4_hasRoom) B.pre
  have hown : s.vm.findClass RX4 = some m.cls := findClass_of_methodNamed B.named
  have hlocks := B.notSynchronized
  subst hsz
  have hD := hD0.self (sz := s.heap.size)
  generalize hAe : va_A [(q_t, .inr (3, [.ref q_t_kind, .ref q_t_content, .ref q_t_left, .ref q_t_right, .ref q_t_given, .int t_count]))] s.heap.size = A at hD hZ ⊢
  have hA : ∀ q : Nat, s.heap.size ≤ q → A q := fun q h => by rw [← hAe]; exact Or.inr h
  have hS : va_S A s.heap s.heap [] := va_S.rf
  have hP : va_P (dC, dI) vwCl [(q_t, .inr (3, [.ref q_t_kind, .ref q_t_content, .ref q_t_left, .ref q_t_right, .ref q_t_given, .int t_count]))] s.heap := hP
  have hl := lv_entry ([.ref q_t, .int x1]) (n := 2) (Nat.le_of_ble_eq_true rfl)
  rw [lg_entry_eq]
  generalize (lg_sl ([.ref q_t, .int x1]) ++ List.replicate (2 - (lg_sl ([.ref q_t, .int x1])).length) Slot.unset).toArray = ls at hl ⊢
  have hl : lv_has ls 2 [(0, .ref q_t), (1, .int x1)] := hl
  refine wq hP hS (fun Q hQ H locs hP hS => ?_)
  have htw : ∀ w ∈ AW, w.before _ s = true := fun w h => hts w (List.mem_cons_of_mem _ h)
  have hn0 : ∀ w ∈ wsX40, w ∈ wsX4_hasRoom := fun w h => List.mem_cons_of_mem _ (inX4 w h)
  rw [M_Store_hasRoom] at hm
  refine lv_aload_n hx hb dX4_hasRoom_0 rfl (lv_at hl 0 rfl) ?_
  refine va_get (D := (dC, dI)) (ci := 3) (v := .int t_count) (C := RX4) (T := TX4) (N := 6) hx hb hts hn0 hown hK hP 0 rfl rfl 5 (by decide) (htw _ aw_77) (fun _ h9 => h9) rfl dX4_hasRoom_1 ?_
  refine lv_iload_n hx hb dX4_hasRoom_4 rfl (lv_at hl 1 rfl) ?_
  refine lv_iadd hx hb dX4_hasRoom_5 ?_
  refine lv_sipush (v := 600) hx hb dX4_hasRoom_6 (by decide) ?_
  refine lv_icmp_gt hx hb dX4_hasRoom_9 rfl (fun h9 => ?_) (fun h9 => ?_)
  · rw [if_pos h9] at hm
    refine lv_iconst (v := 0) hx hb dX4_hasRoom_16 (by decide) ?_
    obtain rfl := Option.some.inj hm
    subst hQ
    exact W.zret hx hb hr (by decide) (fun t ht hW => ⟨⟨_, (), rfl, rfl, by rw [ht]; exact hP, va_K.moved hW.alike hK, hD⟩, hS.F ht⟩) hS.2.2 dX4_hasRoom_17
  · rw [if_neg h9] at hm
    refine lv_iconst (v := 1) hx hb dX4_hasRoom_12 (by decide) ?_
    refine lv_goto hx hb dX4_hasRoom_13 rfl ?_
    obtain rfl := Option.some.inj hm
    subst hQ
    exact W.zret hx hb hr (by decide) (fun t ht hW => ⟨⟨_, (), rfl, rfl, by rw [ht]; exact hP, va_K.moved hW.alike hK, hD⟩, hS.F ht⟩) hS.2.2 dX4_hasRoom_17
def M_Store_operationOf (t_content : Nat → Int64) (x1 : Int32) : Option (Int32) :=
  some ((atL 600 t_content x1).toInt32)
set_option maxHeartbeats 4000000 in
set_option maxRecDepth 100000 in
theorem c_Store_operationOf (l : Launch) (dC : Nat → ClassId) (dI : Nat → Nat → Nat) (cI cL : ClassId) (sz : Nat) (q_t q_t_kind q_t_content q_t_left q_t_right q_t_given : Nat) (t_count : Int32) (t_content : Nat → Int64) (x1 r0 : Int32) (hm : M_Store_operationOf t_content x1 = some r0) : Met l yX4_operationOf wsX4_operationOf ({ frames := 1, cells := 0, slots := 0, locals := 21 }) (frPc (dC, dI) vwCl [(cI, .int), (cL, .long)] [(q_t, .inr (3, [.ref q_t_kind, .ref q_t_content, .ref q_t_left, .ref q_t_right, .ref q_t_given, .int t_count])), (q_t_content, .inl (cL, 600, .inr (.inl t_content)))] sz [.ref q_t, .int x1]) (va_Qi (fun (r : Int32) (_ : Unit) => r = r0) (frB (dC, dI) vwCl [(cI, .int), (cL, .long)] (va_A [(q_t, .inr (3, [.ref q_t_kind, .ref q_t_content, .ref q_t_left, .ref q_t_right, .ref q_t_given, .int t_count])), (q_t_content, .inl (cL, 600, .inr (.inl t_content)))] sz) [(q_t, .inr (3, [.ref q_t_kind, .ref q_t_content, .ref q_t_left, .ref q_t_right, .ref q_t_given, .int t_count])), (q_t_content, .inl (cL, 600, .inr (.inl t_content)))]) (va_A [(q_t, .inr (3, [.ref q_t_kind, .ref q_t_content, .ref q_t_left, .ref q_t_right, .ref q_t_given, .int t_count])), (q_t_content, .inl (cL, 600, .inr (.inl t_content)))] sz)) 0 0 (va_A [(q_t, .inr (3, [.ref q_t_kind, .ref q_t_content, .ref q_t_left, .ref q_t_right, .ref q_t_given, .int t_count])), (q_t_content, .inl (cL, 600, .inr (.inl t_content)))] sz) := by
  refine Met.ofW (cc := cX4_operationOf) (maxL := 2) (ret := (some .int)) (by decide) rfl ?_
  intro p e s m args below meth c s₁ B hml hv
  obtain ⟨rfl, hsz, hP, hK, hD0, hZ⟩ := hv
  have hx := B.exec
  have hb := B.bytes
  have hr := B.returns
  have hts := atoms_spec (ws := wsX4_operationOf) B.pre
  have hown : s.vm.findClass RX4 = some m.cls := findClass_of_methodNamed B.named
  have hlocks := B.notSynchronized
  subst hsz
  have hD := hD0.self (sz := s.heap.size)
  generalize hAe : va_A [(q_t, .inr (3, [.ref q_t_kind, .ref q_t_content, .ref q_t_left, .ref q_t_right, .ref q_t_given, .int t_count])), (q_t_content, .inl (cL, 600, .inr (.inl t_content)))] s.heap.size = A at hD hZ ⊢
  have hA : ∀ q : Nat, s.heap.size ≤ q → A q := fun q h => by rw [← hAe]; exact Or.inr h
  have hS : va_S A s.heap s.heap [] := va_S.rf
  have hP : va_P (dC, dI) vwCl [(q_t, .inr (3, [.ref q_t_kind, .ref q_t_content, .ref q_t_left, .ref q_t_right, .ref q_t_given, .int t_count])), (q_t_content, .inl (cL, 600, .inr (.inl t_content)))] s.heap := hP
  have hl := lv_entry ([.ref q_t, .int x1]) (n := 2) (Nat.le_of_ble_eq_true rfl)
  rw [lg_entry_eq]
  generalize (lg_sl ([.ref q_t, .int x1]) ++ List.replicate (2 - (lg_sl ([.ref q_t, .int x1])).length) Slot.unset).toArray = ls at hl ⊢
  have hl : lv_has ls 2 [(0, .ref q_t), (1, .int x1)] := hl
  refine wq hP hS (fun Q hQ H locs hP hS => ?_)
  have htw : ∀ w ∈ AW, w.before _ s = true := fun w h => hts w (List.mem_cons_of_mem _ h)
  have hn0 : ∀ w ∈ wsX40, w ∈ wsX4_operationOf := fun w h => List.mem_cons_of_mem _ (inX4 w h)
  rw [M_Store_operationOf] at hm
  refine lv_aload_n hx hb dX4_operationOf_0 rfl (lv_at hl 0 rfl) ?_
  refine va_get (D := (dC, dI)) (ci := 3) (v := .ref q_t_content) (C := RX4) (T := TX4) (N := 6) hx hb hts hn0 hown hK hP 0 rfl rfl 1 (by decide) (htw _ aw_64) (fun _ h9 => h9) rfl dX4_operationOf_1 ?_
  refine lv_iload_n hx hb dX4_operationOf_4 rfl (lv_at hl 1 rfl) ?_
  refine fr_l (wr := [(q_t, .inr (3, [.ref q_t_kind, .ref q_t_content, .ref q_t_left, .ref q_t_right, .ref q_t_given, .int t_count]))]) (w2 := [(q_t, .inr (3, [.ref q_t_kind, .ref q_t_content, .ref q_t_left, .ref q_t_right, .ref q_t_given, .int t_count])), (q_t_content, .inl (cL, 600, .inr (.inl t_content)))]) (va_runSN (As := [.ref q_t_content, .int x1]) (rest := []) ⟨hx, hb, hml, hown, hts⟩ (c_TM_longAt l dC dI cI cL H.size q_t_content 600 t_content x1 (by decide)) (kSN 2 hts aw_502 rfl rfl aw_1 (nx_58 hZ.1) aw_501 (by decide +kernel) ⟨Nat.le_of_ble_eq_true rfl, Nat.le_of_ble_eq_true rfl⟩) (fr_preS hK hP hD hS hA hZ [1] rfl rfl) rfl rfl hl.1 rfl (lv_room (Nat.le_of_ble_eq_true rfl)) dX4_operationOf_5 ⟨Nat.le_of_ble_eq_true rfl, Nat.le_of_ble_eq_true rfl⟩) hP hD hS hA [1] [0] [0, 1] rfl rfl rfl (by decide) rfl rfl (fun H locs hP hD hS => ?_)
  have hP : va_P (dC, dI) vwCl [(q_t, .inr (3, [.ref q_t_kind, .ref q_t_content, .ref q_t_left, .ref q_t_right, .ref q_t_given, .int t_count])), (q_t_content, .inl (cL, 600, .inr (.inl t_content)))] H := hP
  have hD : va_D A [(q_t, .inr (3, [.ref q_t_kind, .ref q_t_content, .ref q_t_left, .ref q_t_right, .ref q_t_given, .int t_count])), (q_t_content, .inl (cL, 600, .inr (.inl t_content)))] := hD
  refine lv_l2i (v := (atL 600 t_content x1).toInt32) hx hb dX4_operationOf_8 rfl ?_
  obtain rfl := Option.some.inj hm
  subst hQ
  exact W.iret hx hb hr (fun t ht hW => ⟨⟨_, (), rfl, rfl, by rw [ht]; exact hP, va_K.moved hW.alike hK, hD⟩, hS.F ht⟩) hS.2.2 dX4_operationOf_9
def M_Store_valueAt_31 (t_left : Nat → Int32) (t_right : Nat → Int32) (v3 : Int32) : Option (Int32) :=
  some (at_ 600 t_left v3)
def M_Store_valueAt_5 (t_left : Nat → Int32) (t_right : Nat → Int32) : Nat → Int32 → Int32 → Int32 → Option (Int32)
  | 0, _, _, _ => none
  | f + 1, v2, v3, v4 =>
    (if v2 ≤ v4 then
      M_Store_valueAt_31 t_left t_right v3
    else
      (if v3 = (-1) then
        M_Store_valueAt_31 t_left t_right v3
      else
        M_Store_valueAt_5 t_left t_right f v2 (at_ 600 t_right v3) (v4 + 1)))
def M_Store_valueAt (t_left : Nat → Int32) (t_right : Nat → Int32) (x1 : Int32) (x2 : Int32) : Option (Int32) :=
  M_Store_valueAt_5 t_left t_right 1000 x2 x1 1
set_option maxHeartbeats 4000000 in
set_option maxRecDepth 100000 in
theorem c_Store_valueAt (l : Launch) (dC : Nat → ClassId) (dI : Nat → Nat → Nat) (cI cL : ClassId) (sz : Nat) (q_t q_t_kind q_t_content q_t_left q_t_right q_t_given : Nat) (t_count : Int32) (t_left t_right : Nat → Int32) (x1 x2 r0 : Int32) (hm : M_Store_valueAt t_left t_right x1 x2 = some r0) : Met l yX4_valueAt wsX4_valueAt ({ frames := 1, cells := 0, slots := 0, locals := 21 }) (frPc (dC, dI) vwCl [(cI, .int), (cL, .long)] [(q_t, .inr (3, [.ref q_t_kind, .ref q_t_content, .ref q_t_left, .ref q_t_right, .ref q_t_given, .int t_count])), (q_t_left, .inl (cI, 600, .inl t_left)), (q_t_right, .inl (cI, 600, .inl t_right))] sz [.ref q_t, .int x1, .int x2]) (va_Qi (fun (r : Int32) (_ : Unit) => r = r0) (frB (dC, dI) vwCl [(cI, .int), (cL, .long)] (va_A [(q_t, .inr (3, [.ref q_t_kind, .ref q_t_content, .ref q_t_left, .ref q_t_right, .ref q_t_given, .int t_count])), (q_t_left, .inl (cI, 600, .inl t_left)), (q_t_right, .inl (cI, 600, .inl t_right))] sz) [(q_t, .inr (3, [.ref q_t_kind, .ref q_t_content, .ref q_t_left, .ref q_t_right, .ref q_t_given, .int t_count])), (q_t_left, .inl (cI, 600, .inl t_left)), (q_t_right, .inl (cI, 600, .inl t_right))]) (va_A [(q_t, .inr (3, [.ref q_t_kind, .ref q_t_content, .ref q_t_left, .ref q_t_right, .ref q_t_given, .int t_count])), (q_t_left, .inl (cI, 600, .inl t_left)), (q_t_right, .inl (cI, 600, .inl t_right))] sz)) 0 0 (va_A [(q_t, .inr (3, [.ref q_t_kind, .ref q_t_content, .ref q_t_left, .ref q_t_right, .ref q_t_given, .int t_count])), (q_t_left, .inl (cI, 600, .inl t_left)), (q_t_right, .inl (cI, 600, .inl t_right))] sz) := by
  refine Met.ofW (cc := cX4_valueAt) (maxL := 5) (ret := (some .int)) (by decide) rfl ?_
  intro p e s m args below meth c s₁ B hml hv
  obtain ⟨rfl, hsz, hP, hK, hD0, hZ⟩ := hv
  have hx := B.exec
  have hb := B.bytes
  have hr := B.returns
  have hts := atoms_spec (ws := wsX4_valueAt) B.pre
  have hown : s.vm.findClass RX4 = some m.cls := findClass_of_methodNamed B.named
  have hlocks := B.notSynchronized
  subst hsz
  have hD := hD0.self (sz := s.heap.size)
  generalize hAe : va_A [(q_t, .inr (3, [.ref q_t_kind, .ref q_t_content, .ref q_t_left, .ref q_t_right, .ref q_t_given, .int t_count])), (q_t_left, .inl (cI, 600, .inl t_left)), (q_t_right, .inl (cI, 600, .inl t_right))] s.heap.size = A at hD hZ ⊢
  have hA : ∀ q : Nat, s.heap.size ≤ q → A q := fun q h => by rw [← hAe]; exact Or.inr h
  have hS : va_S A s.heap s.heap [] := va_S.rf
  have hP : va_P (dC, dI) vwCl [(q_t, .inr (3, [.ref q_t_kind, .ref q_t_content, .ref q_t_left, .ref q_t_right, .ref q_t_given, .int t_count])), (q_t_left, .inl (cI, 600, .inl t_left)), (q_t_right, .inl (cI, 600, .inl t_right))] s.heap := hP
  have hl := lv_entry ([.ref q_t, .int x1, .int x2]) (n := 5) (Nat.le_of_ble_eq_true rfl)
  rw [lg_entry_eq]
  generalize (lg_sl ([.ref q_t, .int x1, .int x2]) ++ List.replicate (5 - (lg_sl ([.ref q_t, .int x1, .int x2])).length) Slot.unset).toArray = ls at hl ⊢
  have hl : lv_has ls 5 [(0, .ref q_t), (1, .int x1), (2, .int x2)] := hl
  refine wq hP hS (fun Q hQ H locs hP hS => ?_)
  have htw : ∀ w ∈ AW, w.before _ s = true := fun w h => hts w (List.mem_cons_of_mem _ h)
  have hn0 : ∀ w ∈ wsX40, w ∈ wsX4_valueAt := fun w h => List.mem_cons_of_mem _ (inX4 w h)
  have L31 : ∀ (v3 : Int32) (ls : Array Slot) (H : Heap) (locs : List Loc), M_Store_valueAt_31 t_left t_right v3 = some r0 → lv_has ls 5 [(0, .ref q_t), (3, .int v3)] → va_P (dC, dI) vwCl [(q_t, .inr (3, [.ref q_t_kind, .ref q_t_content, .ref q_t_left, .ref q_t_right, .ref q_t_given, .int t_count])), (q_t_left, .inl (cI, 600, .inl t_left)), (q_t_right, .inl (cI, 600, .inl t_right))] H → va_D A [(q_t, .inr (3, [.ref q_t_kind, .ref q_t_content, .ref q_t_left, .ref q_t_right, .ref q_t_given, .int t_count])), (q_t_left, .inl (cI, 600, .inl t_left)), (q_t_right, .inl (cI, 600, .inl t_right))] → va_S A s.heap H locs → W p l e ({ frames := 1, cells := 0, slots := 0, locals := 21 }) s m [.ref q_t, .int x1, .int x2].toArray below meth c H locs 0 0 Q (F0 m 31 ls []) := by
    intro v3 ls H locs hm hl hP hD hS
    rw [M_Store_valueAt_31] at hm
    refine lv_aload_n hx hb dX4_valueAt_31 rfl (lv_at hl 0 rfl) ?_
    refine va_get (D := (dC, dI)) (ci := 3) (v := .ref q_t_left) (C := RX4) (T := TX4) (N := 6) hx hb hts hn0 hown hK hP 0 rfl rfl 2 (by decide) (htw _ aw_67) (fun _ h9 => h9) rfl dX4_valueAt_32 ?_
    refine lv_iload_n hx hb dX4_valueAt_35 rfl (lv_at hl 1 rfl) ?_
    refine fr_i (wr := [(q_t, .inr (3, [.ref q_t_kind, .ref q_t_content, .ref q_t_left, .ref q_t_right, .ref q_t_given, .int t_count])), (q_t_right, .inl (cI, 600, .inl t_right))]) (w2 := [(q_t, .inr (3, [.ref q_t_kind, .ref q_t_content, .ref q_t_left, .ref q_t_right, .ref q_t_given, .int t_count])), (q_t_left, .inl (cI, 600, .inl t_left)), (q_t_right, .inl (cI, 600, .inl t_right))]) (va_runSN (As := [.ref q_t_left, .int v3]) (rest := []) ⟨hx, hb, hml, hown, hts⟩ (c_TM_at l dC dI cI cL H.size q_t_left 600 t_left v3 (by decide)) (kSN 2 hts aw_346 rfl rfl aw_1 (nx_59 hZ.1) aw_345 (by decide +kernel) ⟨Nat.le_of_ble_eq_true rfl, Nat.le_of_ble_eq_true rfl⟩) (fr_preS hK hP hD hS hA hZ [1] rfl rfl) rfl rfl hl.1 rfl (lv_room (Nat.le_of_ble_eq_true rfl)) dX4_valueAt_36 ⟨Nat.le_of_ble_eq_true rfl, Nat.le_of_ble_eq_true rfl⟩) hP hD hS hA [1] [0, 2] [0, 2, 1] rfl rfl rfl (by decide) rfl rfl (fun H locs hP hD hS => ?_)
    have hP : va_P (dC, dI) vwCl [(q_t, .inr (3, [.ref q_t_kind, .ref q_t_content, .ref q_t_left, .ref q_t_right, .ref q_t_given, .int t_count])), (q_t_left, .inl (cI, 600, .inl t_left)), (q_t_right, .inl (cI, 600, .inl t_right))] H := hP
    have hD : va_D A [(q_t, .inr (3, [.ref q_t_kind, .ref q_t_content, .ref q_t_left, .ref q_t_right, .ref q_t_given, .int t_count])), (q_t_left, .inl (cI, 600, .inl t_left)), (q_t_right, .inl (cI, 600, .inl t_right))] := hD
    obtain rfl := Option.some.inj hm
    subst hQ
    exact W.iret hx hb hr (fun t ht hW => ⟨⟨_, (), rfl, rfl, by rw [ht]; exact hP, va_K.moved hW.alike hK, hD⟩, hS.F ht⟩) hS.2.2 dX4_valueAt_39
  have L5 : ∀ (f : Nat) (v2 v3 v4 : Int32) (ls : Array Slot) (H : Heap) (locs : List Loc), M_Store_valueAt_5 t_left t_right f v2 v3 v4 = some r0 → lv_has ls 5 [(0, .ref q_t), (2, .int v2), (3, .int v3), (4, .int v4)] → va_P (dC, dI) vwCl [(q_t, .inr (3, [.ref q_t_kind, .ref q_t_content, .ref q_t_left, .ref q_t_right, .ref q_t_given, .int t_count])), (q_t_left, .inl (cI, 600, .inl t_left)), (q_t_right, .inl (cI, 600, .inl t_right))] H → va_D A [(q_t, .inr (3, [.ref q_t_kind, .ref q_t_content, .ref q_t_left, .ref q_t_right, .ref q_t_given, .int t_count])), (q_t_left, .inl (cI, 600, .inl t_left)), (q_t_right, .inl (cI, 600, .inl t_right))] → va_S A s.heap H locs → W p l e ({ frames := 1, cells := 0, slots := 0, locals := 21 }) s m [.ref q_t, .int x1, .int x2].toArray below meth c H locs 0 0 Q (F0 m 5 ls []) := by
    intro f
    induction f with
    | zero => intro v2 v3 v4 ls H locs hm; rw [M_Store_valueAt_5] at hm; cases hm
    | succ f ih5 =>
      intro v2 v3 v4 ls H locs hm hl hP hD hS
      rw [M_Store_valueAt_5] at hm
      refine lv_iload hx hb dX4_valueAt_5 (lv_at hl 3 rfl) ?_
      refine lv_iload_n hx hb dX4_valueAt_7 rfl (lv_at hl 1 rfl) ?_
      refine lv_icmp_ge hx hb dX4_valueAt_8 rfl (fun h8 => ?_) (fun h8 => ?_)
      · rw [if_pos h8] at hm
        exact L31 _ _ _ _ hm (lv_sub hl [0, 2] rfl) hP hD hS
      · rw [if_neg h8] at hm
        refine lv_iload_n hx hb dX4_valueAt_11 rfl (lv_at hl 2 rfl) ?_
        refine lv_iconst (v := (-1)) hx hb dX4_valueAt_12 (by decide) ?_
        refine lv_icmp_eq hx hb dX4_valueAt_13 rfl (fun h13 => ?_) (fun h13 => ?_)
        · rw [if_pos h13] at hm
          exact L31 _ _ _ _ hm (lv_sub hl [0, 2] rfl) hP hD hS
        · rw [if_neg h13] at hm
          refine lv_aload_n hx hb dX4_valueAt_16 rfl (lv_at hl 0 rfl) ?_
          refine va_get (D := (dC, dI)) (ci := 3) (v := .ref q_t_right) (C := RX4) (T := TX4) (N := 6) hx hb hts hn0 hown hK hP 0 rfl rfl 3 (by decide) (htw _ aw_71) (fun _ h9 => h9) rfl dX4_valueAt_17 ?_
          refine lv_iload_n hx hb dX4_valueAt_20 rfl (lv_at hl 2 rfl) ?_
          refine fr_i (wr := [(q_t, .inr (3, [.ref q_t_kind, .ref q_t_content, .ref q_t_left, .ref q_t_right, .ref q_t_given, .int t_count])), (q_t_left, .inl (cI, 600, .inl t_left))]) (w2 := [(q_t, .inr (3, [.ref q_t_kind, .ref q_t_content, .ref q_t_left, .ref q_t_right, .ref q_t_given, .int t_count])), (q_t_left, .inl (cI, 600, .inl t_left)), (q_t_right, .inl (cI, 600, .inl t_right))]) (va_runSN (As := [.ref q_t_right, .int v3]) (rest := []) ⟨hx, hb, hml, hown, hts⟩ (c_TM_at l dC dI cI cL H.size q_t_right 600 t_right v3 (by decide)) (kSN 2 hts aw_346 rfl rfl aw_1 (nx_59 hZ.1) aw_345 (by decide +kernel) ⟨Nat.le_of_ble_eq_true rfl, Nat.le_of_ble_eq_true rfl⟩) (fr_preS hK hP hD hS hA hZ [2] rfl rfl) rfl rfl hl.1 rfl (lv_room (Nat.le_of_ble_eq_true rfl)) dX4_valueAt_21 ⟨Nat.le_of_ble_eq_true rfl, Nat.le_of_ble_eq_true rfl⟩) hP hD hS hA [2] [0, 1] [0, 1, 2] rfl rfl rfl (by decide) rfl rfl (fun H locs hP hD hS => ?_)
          have hP : va_P (dC, dI) vwCl [(q_t, .inr (3, [.ref q_t_kind, .ref q_t_content, .ref q_t_left, .ref q_t_right, .ref q_t_given, .int t_count])), (q_t_left, .inl (cI, 600, .inl t_left)), (q_t_right, .inl (cI, 600, .inl t_right))] H := hP
          have hD : va_D A [(q_t, .inr (3, [.ref q_t_kind, .ref q_t_content, .ref q_t_left, .ref q_t_right, .ref q_t_given, .int t_count])), (q_t_left, .inl (cI, 600, .inl t_left)), (q_t_right, .inl (cI, 600, .inl t_right))] := hD
          refine lv_istore_n (lv' := [(3, .int (at_ 600 t_right v3)), (0, .ref q_t), (2, .int v2), (4, .int v4)]) hx hb dX4_valueAt_24 rfl hl (by decide) rfl (fun ls hl => ?_)
          refine lv_iinc (k := 3) (v := v4 + 1) (lv' := [(4, .int (v4 + 1)), (3, .int (at_ 600 t_right v3)), (0, .ref q_t), (2, .int v2)]) hx hb dX4_valueAt_25 hl rfl rfl (by decide) rfl (fun ls hl => ?_)
          refine lv_goto hx hb dX4_valueAt_28 rfl ?_
          exact ih5 _ _ _ _ _ _ hm (lv_sub hl [2, 3, 1, 0] rfl) hP hD hS
  rw [M_Store_valueAt] at hm
  refine lv_iload_n hx hb dX4_valueAt_0 rfl (lv_at hl 1 rfl) ?_
  refine lv_istore_n (lv' := [(3, .int x1), (0, .ref q_t), (1, .int x1), (2, .int x2)]) hx hb dX4_valueAt_1 rfl hl (by decide) rfl (fun ls hl => ?_)
  refine lv_iconst (v := 1) hx hb dX4_valueAt_2 (by decide) ?_
  refine lv_istore (lv' := [(4, .int 1), (3, .int x1), (0, .ref q_t), (1, .int x1), (2, .int x2)]) hx hb dX4_valueAt_3 hl (by decide) rfl (fun ls hl => ?_)
  exact L5 _ _ _ _ _ _ _ hm (lv_sub hl [2, 4, 1, 0] rfl) hP hD hS
def M_Store_wantsArgument (t_kind : Nat → Int32) (t_content : Nat → Int64) (t_given : Nat → Int32) (x1 : Int32) : Option (Int32) :=
  (if (at_ 600 t_kind x1) = 6 then
    c1 (M_Store_operationOf t_content x1) (fun r26 =>
      (if (at_ 600 t_given x1) < (at_ 12 tb_FORCES r26) then
        some 0
      else
        some 1))
  else
    some 0)
set_option maxHeartbeats 4000000 in
set_option maxRecDepth 100000 in
theorem c_Store_wantsArgument (l : Launch) (dC : Nat → ClassId) (dI : Nat → Nat → Nat) (cI cL : ClassId) (sz : Nat) (q_t q_t_kind q_t_content q_t_left q_t_right q_t_given : Nat) (t_count : Int32) (t_kind : Nat → Int32) (t_content : Nat → Int64) (t_given : Nat → Int32) (x1 r0 : Int32) (hm : M_Store_wantsArgument t_kind t_content t_given x1 = some r0) : Met l yX4_wantsArgument wsX4_wantsArgument ({ frames := 2, cells := 0, slots := 0, locals := 42 }) (frPc (dC, dI) vwCl [(cI, .int), (cL, .long)] [(q_t, .inr (3, [.ref q_t_kind, .ref q_t_content, .ref q_t_left, .ref q_t_right, .ref q_t_given, .int t_count])), (q_t_kind, .inl (cI, 600, .inl t_kind)), (q_t_content, .inl (cL, 600, .inr (.inl t_content))), (q_t_given, .inl (cI, 600, .inl t_given))] sz [.ref q_t, .int x1]) (va_Qi (fun (r : Int32) (_ : Unit) => r = r0) (frB (dC, dI) vwCl [(cI, .int), (cL, .long)] (va_A [(q_t, .inr (3, [.ref q_t_kind, .ref q_t_content, .ref q_t_left, .ref q_t_right, .ref q_t_given, .int t_count])), (q_t_kind, .inl (cI, 600, .inl t_kind)), (q_t_content, .inl (cL, 600, .inr (.inl t_content))), (q_t_given, .inl (cI, 600, .inl t_given))] sz) [(q_t, .inr (3, [.ref q_t_kind, .ref q_t_content, .ref q_t_left, .ref q_t_right, .ref q_t_given, .int t_count])), (q_t_kind, .inl (cI, 600, .inl t_kind)), (q_t_content, .inl (cL, 600, .inr (.inl t_content))), (q_t_given, .inl (cI, 600, .inl t_given))]) (va_A [(q_t, .inr (3, [.ref q_t_kind, .ref q_t_content, .ref q_t_left, .ref q_t_right, .ref q_t_given, .int t_count])), (q_t_kind, .inl (cI, 600, .inl t_kind)), (q_t_content, .inl (cL, 600, .inr (.inl t_content))), (q_t_given, .inl (cI, 600, .inl t_given))] sz)) 0 0 (va_A [(q_t, .inr (3, [.ref q_t_kind, .ref q_t_content, .ref q_t_left, .ref q_t_right, .ref q_t_given, .int t_count])), (q_t_kind, .inl (cI, 600, .inl t_kind)), (q_t_content, .inl (cL, 600, .inr (.inl t_content))), (q_t_given, .inl (cI, 600, .inl t_given))] sz) := by
  refine Met.ofW (cc := cX4_wantsArgument) (maxL := 2) (ret := (some .boolean)) (by decide) rfl ?_
  intro p e s m args below meth c s₁ B hml hv
  obtain ⟨rfl, hsz, hP, hK, hD0, hZ⟩ := hv
  have hx := B.exec
  have hb := B.bytes
  have hr := B.returns
  have hts := atoms_spec (ws := wsX4_wantsArgument) B.pre
  have hown : s.vm.findClass RX4 = some m.cls := findClass_of_methodNamed B.named
  have hlocks := B.notSynchronized
  subst hsz
  have hD := hD0.self (sz := s.heap.size)
  generalize hAe : va_A [(q_t, .inr (3, [.ref q_t_kind, .ref q_t_content, .ref q_t_left, .ref q_t_right, .ref q_t_given, .int t_count])), (q_t_kind, .inl (cI, 600, .inl t_kind)), (q_t_content, .inl (cL, 600, .inr (.inl t_content))), (q_t_given, .inl (cI, 600, .inl t_given))] s.heap.size = A at hD hZ ⊢
  have hA : ∀ q : Nat, s.heap.size ≤ q → A q := fun q h => by rw [← hAe]; exact Or.inr h
  have hS : va_S A s.heap s.heap [] := va_S.rf
  have hP : va_P (dC, dI) vwCl [(q_t, .inr (3, [.ref q_t_kind, .ref q_t_content, .ref q_t_left, .ref q_t_right, .ref q_t_given, .int t_count])), (q_t_kind, .inl (cI, 600, .inl t_kind)), (q_t_content, .inl (cL, 600, .inr (.inl t_content))), (q_t_given, .inl (cI, 600, .inl t_given))] s.heap := hP
  have hl := lv_entry ([.ref q_t, .int x1]) (n := 2) (Nat.le_of_ble_eq_true rfl)
  rw [lg_entry_eq]
  generalize (lg_sl ([.ref q_t, .int x1]) ++ List.replicate (2 - (lg_sl ([.ref q_t, .int x1])).length) Slot.unset).toArray = ls at hl ⊢
  have hl : lv_has ls 2 [(0, .ref q_t), (1, .int x1)] := hl
  refine wq hP hS (fun Q hQ H locs hP hS => ?_)
  have htw : ∀ w ∈ AW, w.before _ s = true := fun w h => hts w (List.mem_cons_of_mem _ h)
  have hn0 : ∀ w ∈ wsX40, w ∈ wsX4_wantsArgument := fun w h => List.mem_cons_of_mem _ (inX4 w h)
  obtain ⟨q_FORCES, hz_q_FORCES, ht_q_FORCES⟩ := hZ.2.1
  rw [M_Store_wantsArgument] at hm
  refine lv_aload_n hx hb dX4_wantsArgument_0 rfl (lv_at hl 0 rfl) ?_
  refine va_get (D := (dC, dI)) (ci := 3) (v := .ref q_t_kind) (C := RX4) (T := TX4) (N := 6) hx hb hts hn0 hown hK hP 0 rfl rfl 0 (by decide) (htw _ aw_60) (fun _ h9 => h9) rfl dX4_wantsArgument_1 ?_
  refine lv_iload_n hx hb dX4_wantsArgument_4 rfl (lv_at hl 1 rfl) ?_
  refine fr_i (wr := [(q_t, .inr (3, [.ref q_t_kind, .ref q_t_content, .ref q_t_left, .ref q_t_right, .ref q_t_given, .int t_count])), (q_t_content, .inl (cL, 600, .inr (.inl t_content))), (q_t_given, .inl (cI, 600, .inl t_given))]) (w2 := [(q_t, .inr (3, [.ref q_t_kind, .ref q_t_content, .ref q_t_left, .ref q_t_right, .ref q_t_given, .int t_count])), (q_t_kind, .inl (cI, 600, .inl t_kind)), (q_t_content, .inl (cL, 600, .inr (.inl t_content))), (q_t_given, .inl (cI, 600, .inl t_given))]) (va_runSN (As := [.ref q_t_kind, .int x1]) (rest := []) ⟨hx, hb, hml, hown, hts⟩ (c_TM_at l dC dI cI cL H.size q_t_kind 600 t_kind x1 (by decide)) (kSN 2 hts aw_346 rfl rfl aw_1 (nx_59 hZ.1) aw_345 (by decide +kernel) ⟨Nat.le_of_ble_eq_true rfl, Nat.le_of_ble_eq_true rfl⟩) (fr_preS hK hP hD hS hA hZ [1] rfl rfl) rfl rfl hl.1 rfl (lv_room (Nat.le_of_ble_eq_true rfl)) dX4_wantsArgument_5 ⟨Nat.le_of_ble_eq_true rfl, Nat.le_of_ble_eq_true rfl⟩) hP hD hS hA [1] [0, 2, 3] [0, 3, 1, 2] rfl rfl rfl (by decide) rfl rfl (fun H locs hP hD hS => ?_)
  have hP : va_P (dC, dI) vwCl [(q_t, .inr (3, [.ref q_t_kind, .ref q_t_content, .ref q_t_left, .ref q_t_right, .ref q_t_given, .int t_count])), (q_t_kind, .inl (cI, 600, .inl t_kind)), (q_t_content, .inl (cL, 600, .inr (.inl t_content))), (q_t_given, .inl (cI, 600, .inl t_given))] H := hP
  have hD : va_D A [(q_t, .inr (3, [.ref q_t_kind, .ref q_t_content, .ref q_t_left, .ref q_t_right, .ref q_t_given, .int t_count])), (q_t_kind, .inl (cI, 600, .inl t_kind)), (q_t_content, .inl (cL, 600, .inr (.inl t_content))), (q_t_given, .inl (cI, 600, .inl t_given))] := hD
  refine lv_bipush (v := 6) hx hb dX4_wantsArgument_8 (by decide) ?_
  refine lv_icmp_ne hx hb dX4_wantsArgument_10 rfl (fun h10 => ?_) (fun h10 => ?_)
  · rw [if_neg h10] at hm
    refine lv_iconst (v := 0) hx hb dX4_wantsArgument_39 (by decide) ?_
    obtain rfl := Option.some.inj hm
    subst hQ
    exact W.zret hx hb hr (by decide) (fun t ht hW => ⟨⟨_, (), rfl, rfl, by rw [ht]; exact hP, va_K.moved hW.alike hK, hD⟩, hS.F ht⟩) hS.2.2 dX4_wantsArgument_40
  · rw [if_pos h10] at hm
    refine lv_aload_n hx hb dX4_wantsArgument_13 rfl (lv_at hl 0 rfl) ?_
    refine va_get (D := (dC, dI)) (ci := 3) (v := .ref q_t_given) (C := RX4) (T := TX4) (N := 6) hx hb hts hn0 hown hK hP 0 rfl rfl 4 (by decide) (htw _ aw_75) (fun _ h9 => h9) rfl dX4_wantsArgument_14 ?_
    refine lv_iload_n hx hb dX4_wantsArgument_17 rfl (lv_at hl 1 rfl) ?_
    refine fr_i (wr := [(q_t, .inr (3, [.ref q_t_kind, .ref q_t_content, .ref q_t_left, .ref q_t_right, .ref q_t_given, .int t_count])), (q_t_kind, .inl (cI, 600, .inl t_kind)), (q_t_content, .inl (cL, 600, .inr (.inl t_content)))]) (w2 := [(q_t, .inr (3, [.ref q_t_kind, .ref q_t_content, .ref q_t_left, .ref q_t_right, .ref q_t_given, .int t_count])), (q_t_kind, .inl (cI, 600, .inl t_kind)), (q_t_content, .inl (cL, 600, .inr (.inl t_content))), (q_t_given, .inl (cI, 600, .inl t_given))]) (va_runSN (As := [.ref q_t_given, .int x1]) (rest := []) ⟨hx, hb, hml, hown, hts⟩ (c_TM_at l dC dI cI cL H.size q_t_given 600 t_given x1 (by decide)) (kSN 2 hts aw_346 rfl rfl aw_1 (nx_59 hZ.1) aw_345 (by decide +kernel) ⟨Nat.le_of_ble_eq_true rfl, Nat.le_of_ble_eq_true rfl⟩) (fr_preS hK hP hD hS hA hZ [3] rfl rfl) rfl rfl hl.1 rfl (lv_room (Nat.le_of_ble_eq_true rfl)) dX4_wantsArgument_18 ⟨Nat.le_of_ble_eq_true rfl, Nat.le_of_ble_eq_true rfl⟩) hP hD hS hA [3] [0, 1, 2] [0, 1, 2, 3] rfl rfl rfl (by decide) rfl rfl (fun H locs hP hD hS => ?_)
    have hP : va_P (dC, dI) vwCl [(q_t, .inr (3, [.ref q_t_kind, .ref q_t_content, .ref q_t_left, .ref q_t_right, .ref q_t_given, .int t_count])), (q_t_kind, .inl (cI, 600, .inl t_kind)), (q_t_content, .inl (cL, 600, .inr (.inl t_content))), (q_t_given, .inl (cI, 600, .inl t_given))] H := hP
    have hD : va_D A [(q_t, .inr (3, [.ref q_t_kind, .ref q_t_content, .ref q_t_left, .ref q_t_right, .ref q_t_given, .int t_count])), (q_t_kind, .inl (cI, 600, .inl t_kind)), (q_t_content, .inl (cL, 600, .inr (.inl t_content))), (q_t_given, .inl (cI, 600, .inl t_given))] := hD
    refine va_getsN (C := "TermMachine") (n := "FORCES") (d := "[I") hx hb hz_q_FORCES hS hown (va_Nw.use rfl (nx_60 hZ.1)) (fun _ h9 => h9) dX4_wantsArgument_21 ?_
    refine lv_aload_n hx hb dX4_wantsArgument_24 rfl (lv_at hl 0 rfl) ?_
    refine lv_iload_n hx hb dX4_wantsArgument_25 rfl (lv_at hl 1 rfl) ?_
    obtain ⟨r26, e26, hm⟩ := c1_inv hm
    refine fr_i (wr := [(q_t_kind, .inl (cI, 600, .inl t_kind)), (q_t_given, .inl (cI, 600, .inl t_given))]) (w2 := [(q_t, .inr (3, [.ref q_t_kind, .ref q_t_content, .ref q_t_left, .ref q_t_right, .ref q_t_given, .int t_count])), (q_t_kind, .inl (cI, 600, .inl t_kind)), (q_t_content, .inl (cL, 600, .inr (.inl t_content))), (q_t_given, .inl (cI, 600, .inl t_given))]) (va_runV (As := [.int x1]) (rest := [.ref q_FORCES, .int (at_ 600 t_given x1)]) ⟨hx, hb, hml, hown, hts⟩ (c_Store_operationOf l dC dI cI cL H.size q_t q_t_kind q_t_content q_t_left q_t_right q_t_given t_count t_content x1 r26 e26) (kV 1 hts aw_499 rfl rfl aw_4 aw_496 aw_497 aw_498 (by decide +kernel) ⟨Nat.le_of_ble_eq_true rfl, Nat.le_of_ble_eq_true rfl⟩) (fr_preV hK hP hD hS hA hZ [0, 2] rfl rfl (ci := 3) (q0 := 0) rfl rfl) rfl rfl hl.1 rfl (lv_room (Nat.le_of_ble_eq_true rfl)) dX4_wantsArgument_26 ⟨Nat.le_of_ble_eq_true rfl, Nat.le_of_ble_eq_true rfl⟩) hP hD hS hA [0, 2] [1, 3] [2, 0, 3, 1] rfl rfl rfl (by decide) rfl rfl (fun H locs hP hD hS => ?_)
    have hP : va_P (dC, dI) vwCl [(q_t, .inr (3, [.ref q_t_kind, .ref q_t_content, .ref q_t_left, .ref q_t_right, .ref q_t_given, .int t_count])), (q_t_kind, .inl (cI, 600, .inl t_kind)), (q_t_content, .inl (cL, 600, .inr (.inl t_content))), (q_t_given, .inl (cI, 600, .inl t_given))] H := hP
    have hD : va_D A [(q_t, .inr (3, [.ref q_t_kind, .ref q_t_content, .ref q_t_left, .ref q_t_right, .ref q_t_given, .int t_count])), (q_t_kind, .inl (cI, 600, .inl t_kind)), (q_t_content, .inl (cL, 600, .inr (.inl t_content))), (q_t_given, .inl (cI, 600, .inl t_given))] := hD
    refine fr_i (wr := [(q_t, .inr (3, [.ref q_t_kind, .ref q_t_content, .ref q_t_left, .ref q_t_right, .ref q_t_given, .int t_count])), (q_t_kind, .inl (cI, 600, .inl t_kind)), (q_t_content, .inl (cL, 600, .inr (.inl t_content))), (q_t_given, .inl (cI, 600, .inl t_given))]) (w2 := [(q_t, .inr (3, [.ref q_t_kind, .ref q_t_content, .ref q_t_left, .ref q_t_right, .ref q_t_given, .int t_count])), (q_t_kind, .inl (cI, 600, .inl t_kind)), (q_t_content, .inl (cL, 600, .inr (.inl t_content))), (q_t_given, .inl (cI, 600, .inl t_given))]) (va_runSN (As := [.ref q_FORCES, .int r26]) (rest := [.int (at_ 600 t_given x1)]) ⟨hx, hb, hml, hown, hts⟩ (c_TM_atT l dC dI cI cL H.size q_FORCES 12 tb_FORCES r26 (by decide)) (kSN 2 hts aw_346 rfl rfl aw_1 (nx_59 hZ.1) aw_345 (by decide +kernel) ⟨Nat.le_of_ble_eq_true rfl, Nat.le_of_ble_eq_true rfl⟩) (fr_preT hK hP hD hS hA hZ ht_q_FORCES) rfl rfl hl.1 rfl (lv_room (Nat.le_of_ble_eq_true rfl)) dX4_wantsArgument_29 ⟨Nat.le_of_ble_eq_true rfl, Nat.le_of_ble_eq_true rfl⟩) hP hD hS hA [] [0, 1, 2, 3] [0, 1, 2, 3] rfl rfl rfl (by decide) rfl rfl (fun H locs hP hD hS => ?_)
    have hP : va_P (dC, dI) vwCl [(q_t, .inr (3, [.ref q_t_kind, .ref q_t_content, .ref q_t_left, .ref q_t_right, .ref q_t_given, .int t_count])), (q_t_kind, .inl (cI, 600, .inl t_kind)), (q_t_content, .inl (cL, 600, .inr (.inl t_content))), (q_t_given, .inl (cI, 600, .inl t_given))] H := hP
    have hD : va_D A [(q_t, .inr (3, [.ref q_t_kind, .ref q_t_content, .ref q_t_left, .ref q_t_right, .ref q_t_given, .int t_count])), (q_t_kind, .inl (cI, 600, .inl t_kind)), (q_t_content, .inl (cL, 600, .inr (.inl t_content))), (q_t_given, .inl (cI, 600, .inl t_given))] := hD
    refine lv_icmp_lt hx hb dX4_wantsArgument_32 rfl (fun h32 => ?_) (fun h32 => ?_)
    · rw [if_pos h32] at hm
      refine lv_iconst (v := 0) hx hb dX4_wantsArgument_39 (by decide) ?_
      obtain rfl := Option.some.inj hm
      subst hQ
      exact W.zret hx hb hr (by decide) (fun t ht hW => ⟨⟨_, (), rfl, rfl, by rw [ht]; exact hP, va_K.moved hW.alike hK, hD⟩, hS.F ht⟩) hS.2.2 dX4_wantsArgument_40
    · rw [if_neg h32] at hm
      refine lv_iconst (v := 1) hx hb dX4_wantsArgument_35 (by decide) ?_
      refine lv_goto hx hb dX4_wantsArgument_36 rfl ?_
      obtain rfl := Option.some.inj hm
      subst hQ
      exact W.zret hx hb hr (by decide) (fun t ht hW => ⟨⟨_, (), rfl, rfl, by rw [ht]; exact hP, va_K.moved hW.alike hK, hD⟩, hS.F ht⟩) hS.2.2 dX4_wantsArgument_40
def M_Store_wantsForce (t_kind : Nat → Int32) (t_content : Nat → Int64) (t_given : Nat → Int32) (x1 : Int32) : Option (Int32) :=
  (if (at_ 600 t_kind x1) = 6 then
    c1 (M_Store_operationOf t_content x1) (fun r26 =>
      (if (at_ 12 tb_FORCES r26) ≤ (at_ 600 t_given x1) then
        some 0
      else
        some 1))
  else
    some 0)
set_option maxHeartbeats 4000000 in
set_option maxRecDepth 100000 in
theorem c_Store_wantsForce (l : Launch) (dC : Nat → ClassId) (dI : Nat → Nat → Nat) (cI cL : ClassId) (sz : Nat) (q_t q_t_kind q_t_content q_t_left q_t_right q_t_given : Nat) (t_count : Int32) (t_kind : Nat → Int32) (t_content : Nat → Int64) (t_given : Nat → Int32) (x1 r0 : Int32) (hm : M_Store_wantsForce t_kind t_content t_given x1 = some r0) : Met l yX4_wantsForce wsX4_wantsForce ({ frames := 2, cells := 0, slots := 0, locals := 42 }) (frPc (dC, dI) vwCl [(cI, .int), (cL, .long)] [(q_t, .inr (3, [.ref q_t_kind, .ref q_t_content, .ref q_t_left, .ref q_t_right, .ref q_t_given, .int t_count])), (q_t_kind, .inl (cI, 600, .inl t_kind)), (q_t_content, .inl (cL, 600, .inr (.inl t_content))), (q_t_given, .inl (cI, 600, .inl t_given))] sz [.ref q_t, .int x1]) (va_Qi (fun (r : Int32) (_ : Unit) => r = r0) (frB (dC, dI) vwCl [(cI, .int), (cL, .long)] (va_A [(q_t, .inr (3, [.ref q_t_kind, .ref q_t_content, .ref q_t_left, .ref q_t_right, .ref q_t_given, .int t_count])), (q_t_kind, .inl (cI, 600, .inl t_kind)), (q_t_content, .inl (cL, 600, .inr (.inl t_content))), (q_t_given, .inl (cI, 600, .inl t_given))] sz) [(q_t, .inr (3, [.ref q_t_kind, .ref q_t_content, .ref q_t_left, .ref q_t_right, .ref q_t_given, .int t_count])), (q_t_kind, .inl (cI, 600, .inl t_kind)), (q_t_content, .inl (cL, 600, .inr (.inl t_content))), (q_t_given, .inl (cI, 600, .inl t_given))]) (va_A [(q_t, .inr (3, [.ref q_t_kind, .ref q_t_content, .ref q_t_left, .ref q_t_right, .ref q_t_given, .int t_count])), (q_t_kind, .inl (cI, 600, .inl t_kind)), (q_t_content, .inl (cL, 600, .inr (.inl t_content))), (q_t_given, .inl (cI, 600, .inl t_given))] sz)) 0 0 (va_A [(q_t, .inr (3, [.ref q_t_kind, .ref q_t_content, .ref q_t_left, .ref q_t_right, .ref q_t_given, .int t_count])), (q_t_kind, .inl (cI, 600, .inl t_kind)), (q_t_content, .inl (cL, 600, .inr (.inl t_content))), (q_t_given, .inl (cI, 600, .inl t_given))] sz) := by
  refine Met.ofW (cc := cX4_wantsForce) (maxL := 2) (ret := (some .boolean)) (by decide) rfl ?_
  intro p e s m args below meth c s₁ B hml hv
  obtain ⟨rfl, hsz, hP, hK, hD0, hZ⟩ := hv
  have hx := B.exec
  have hb := B.bytes
  have hr := B.returns
  have hts := atoms_spec (ws := wsX4_wantsForce) B.pre
  have hown : s.vm.findClass RX4 = some m.cls := findClass_of_methodNamed B.named
  have hlocks := B.notSynchronized
  subst hsz
  have hD := hD0.self (sz := s.heap.size)
  generalize hAe : va_A [(q_t, .inr (3, [.ref q_t_kind, .ref q_t_content, .ref q_t_left, .ref q_t_right, .ref q_t_given, .int t_count])), (q_t_kind, .inl (cI, 600, .inl t_kind)), (q_t_content, .inl (cL, 600, .inr (.inl t_content))), (q_t_given, .inl (cI, 600, .inl t_given))] s.heap.size = A at hD hZ ⊢
  have hA : ∀ q : Nat, s.heap.size ≤ q → A q := fun q h => by rw [← hAe]; exact Or.inr h
  have hS : va_S A s.heap s.heap [] := va_S.rf
  have hP : va_P (dC, dI) vwCl [(q_t, .inr (3, [.ref q_t_kind, .ref q_t_content, .ref q_t_left, .ref q_t_right, .ref q_t_given, .int t_count])), (q_t_kind, .inl (cI, 600, .inl t_kind)), (q_t_content, .inl (cL, 600, .inr (.inl t_content))), (q_t_given, .inl (cI, 600, .inl t_given))] s.heap := hP
  have hl := lv_entry ([.ref q_t, .int x1]) (n := 2) (Nat.le_of_ble_eq_true rfl)
  rw [lg_entry_eq]
  generalize (lg_sl ([.ref q_t, .int x1]) ++ List.replicate (2 - (lg_sl ([.ref q_t, .int x1])).length) Slot.unset).toArray = ls at hl ⊢
  have hl : lv_has ls 2 [(0, .ref q_t), (1, .int x1)] := hl
  refine wq hP hS (fun Q hQ H locs hP hS => ?_)
  have htw : ∀ w ∈ AW, w.before _ s = true := fun w h => hts w (List.mem_cons_of_mem _ h)
  have hn0 : ∀ w ∈ wsX40, w ∈ wsX4_wantsForce := fun w h => List.mem_cons_of_mem _ (inX4 w h)
  obtain ⟨q_FORCES, hz_q_FORCES, ht_q_FORCES⟩ := hZ.2.1
  rw [M_Store_wantsForce] at hm
  refine lv_aload_n hx hb dX4_wantsForce_0 rfl (lv_at hl 0 rfl) ?_
  refine va_get (D := (dC, dI)) (ci := 3) (v := .ref q_t_kind) (C := RX4) (T := TX4) (N := 6) hx hb hts hn0 hown hK hP 0 rfl rfl 0 (by decide) (htw _ aw_60) (fun _ h9 => h9) rfl dX4_wantsForce_1 ?_
  refine lv_iload_n hx hb dX4_wantsForce_4 rfl (lv_at hl 1 rfl) ?_
  refine fr_i (wr := [(q_t, .inr (3, [.ref q_t_kind, .ref q_t_content, .ref q_t_left, .ref q_t_right, .ref q_t_given, .int t_count])), (q_t_content, .inl (cL, 600, .inr (.inl t_content))), (q_t_given, .inl (cI, 600, .inl t_given))]) (w2 := [(q_t, .inr (3, [.ref q_t_kind, .ref q_t_content, .ref q_t_left, .ref q_t_right, .ref q_t_given, .int t_count])), (q_t_kind, .inl (cI, 600, .inl t_kind)), (q_t_content, .inl (cL, 600, .inr (.inl t_content))), (q_t_given, .inl (cI, 600, .inl t_given))]) (va_runSN (As := [.ref q_t_kind, .int x1]) (rest := []) ⟨hx, hb, hml, hown, hts⟩ (c_TM_at l dC dI cI cL H.size q_t_kind 600 t_kind x1 (by decide)) (kSN 2 hts aw_346 rfl rfl aw_1 (nx_59 hZ.1) aw_345 (by decide +kernel) ⟨Nat.le_of_ble_eq_true rfl, Nat.le_of_ble_eq_true rfl⟩) (fr_preS hK hP hD hS hA hZ [1] rfl rfl) rfl rfl hl.1 rfl (lv_room (Nat.le_of_ble_eq_true rfl)) dX4_wantsForce_5 ⟨Nat.le_of_ble_eq_true rfl, Nat.le_of_ble_eq_true rfl⟩) hP hD hS hA [1] [0, 2, 3] [0, 3, 1, 2] rfl rfl rfl (by decide) rfl rfl (fun H locs hP hD hS => ?_)
  have hP : va_P (dC, dI) vwCl [(q_t, .inr (3, [.ref q_t_kind, .ref q_t_content, .ref q_t_left, .ref q_t_right, .ref q_t_given, .int t_count])), (q_t_kind, .inl (cI, 600, .inl t_kind)), (q_t_content, .inl (cL, 600, .inr (.inl t_content))), (q_t_given, .inl (cI, 600, .inl t_given))] H := hP
  have hD : va_D A [(q_t, .inr (3, [.ref q_t_kind, .ref q_t_content, .ref q_t_left, .ref q_t_right, .ref q_t_given, .int t_count])), (q_t_kind, .inl (cI, 600, .inl t_kind)), (q_t_content, .inl (cL, 600, .inr (.inl t_content))), (q_t_given, .inl (cI, 600, .inl t_given))] := hD
  refine lv_bipush (v := 6) hx hb dX4_wantsForce_8 (by decide) ?_
  refine lv_icmp_ne hx hb dX4_wantsForce_10 rfl (fun h10 => ?_) (fun h10 => ?_)
  · rw [if_neg h10] at hm
    refine lv_iconst (v := 0) hx hb dX4_wantsForce_39 (by decide) ?_
    obtain rfl := Option.some.inj hm
    subst hQ
    exact W.zret hx hb hr (by decide) (fun t ht hW => ⟨⟨_, (), rfl, rfl, by rw [ht]; exact hP, va_K.moved hW.alike hK, hD⟩, hS.F ht⟩) hS.2.2 dX4_wantsForce_40
  · rw [if_pos h10] at hm
    refine lv_aload_n hx hb dX4_wantsForce_13 rfl (lv_at hl 0 rfl) ?_
    refine va_get (D := (dC, dI)) (ci := 3) (v := .ref q_t_given) (C := RX4) (T := TX4) (N := 6) hx hb hts hn0 hown hK hP 0 rfl rfl 4 (by decide) (htw _ aw_75) (fun _ h9 => h9) rfl dX4_wantsForce_14 ?_
    refine lv_iload_n hx hb dX4_wantsForce_17 rfl (lv_at hl 1 rfl) ?_
    refine fr_i (wr := [(q_t, .inr (3, [.ref q_t_kind, .ref q_t_content, .ref q_t_left, .ref q_t_right, .ref q_t_given, .int t_count])), (q_t_kind, .inl (cI, 600, .inl t_kind)), (q_t_content, .inl (cL, 600, .inr (.inl t_content)))]) (w2 := [(q_t, .inr (3, [.ref q_t_kind, .ref q_t_content, .ref q_t_left, .ref q_t_right, .ref q_t_given, .int t_count])), (q_t_kind, .inl (cI, 600, .inl t_kind)), (q_t_content, .inl (cL, 600, .inr (.inl t_content))), (q_t_given, .inl (cI, 600, .inl t_given))]) (va_runSN (As := [.ref q_t_given, .int x1]) (rest := []) ⟨hx, hb, hml, hown, hts⟩ (c_TM_at l dC dI cI cL H.size q_t_given 600 t_given x1 (by decide)) (kSN 2 hts aw_346 rfl rfl aw_1 (nx_59 hZ.1) aw_345 (by decide +kernel) ⟨Nat.le_of_ble_eq_true rfl, Nat.le_of_ble_eq_true rfl⟩) (fr_preS hK hP hD hS hA hZ [3] rfl rfl) rfl rfl hl.1 rfl (lv_room (Nat.le_of_ble_eq_true rfl)) dX4_wantsForce_18 ⟨Nat.le_of_ble_eq_true rfl, Nat.le_of_ble_eq_true rfl⟩) hP hD hS hA [3] [0, 1, 2] [0, 1, 2, 3] rfl rfl rfl (by decide) rfl rfl (fun H locs hP hD hS => ?_)
    have hP : va_P (dC, dI) vwCl [(q_t, .inr (3, [.ref q_t_kind, .ref q_t_content, .ref q_t_left, .ref q_t_right, .ref q_t_given, .int t_count])), (q_t_kind, .inl (cI, 600, .inl t_kind)), (q_t_content, .inl (cL, 600, .inr (.inl t_content))), (q_t_given, .inl (cI, 600, .inl t_given))] H := hP
    have hD : va_D A [(q_t, .inr (3, [.ref q_t_kind, .ref q_t_content, .ref q_t_left, .ref q_t_right, .ref q_t_given, .int t_count])), (q_t_kind, .inl (cI, 600, .inl t_kind)), (q_t_content, .inl (cL, 600, .inr (.inl t_content))), (q_t_given, .inl (cI, 600, .inl t_given))] := hD
    refine va_getsN (C := "TermMachine") (n := "FORCES") (d := "[I") hx hb hz_q_FORCES hS hown (va_Nw.use rfl (nx_60 hZ.1)) (fun _ h9 => h9) dX4_wantsForce_21 ?_
    refine lv_aload_n hx hb dX4_wantsForce_24 rfl (lv_at hl 0 rfl) ?_
    refine lv_iload_n hx hb dX4_wantsForce_25 rfl (lv_at hl 1 rfl) ?_
    obtain ⟨r26, e26, hm⟩ := c1_inv hm
    refine fr_i (wr := [(q_t_kind, .inl (cI, 600, .inl t_kind)), (q_t_given, .inl (cI, 600, .inl t_given))]) (w2 := [(q_t, .inr (3, [.ref q_t_kind, .ref q_t_content, .ref q_t_left, .ref q_t_right, .ref q_t_given, .int t_count])), (q_t_kind, .inl (cI, 600, .inl t_kind)), (q_t_content, .inl (cL, 600, .inr (.inl t_content))), (q_t_given, .inl (cI, 600, .inl t_given))]) (va_runV (As := [.int x1]) (rest := [.ref q_FORCES, .int (at_ 600 t_given x1)]) ⟨hx, hb, hml, hown, hts⟩ (c_Store_operationOf l dC dI cI cL H.size q_t q_t_kind q_t_content q_t_left q_t_right q_t_given t_count t_content x1 r26 e26) (kV 1 hts aw_499 rfl rfl aw_4 aw_496 aw_497 aw_498 (by decide +kernel) ⟨Nat.le_of_ble_eq_true rfl, Nat.le_of_ble_eq_true rfl⟩) (fr_preV hK hP hD hS hA hZ [0, 2] rfl rfl (ci := 3) (q0 := 0) rfl rfl) rfl rfl hl.1 rfl (lv_room (Nat.le_of_ble_eq_true rfl)) dX4_wantsForce_26 ⟨Nat.le_of_ble_eq_true rfl, Nat.le_of_ble_eq_true rfl⟩) hP hD hS hA [0, 2] [1, 3] [2, 0, 3, 1] rfl rfl rfl (by decide) rfl rfl (fun H locs hP hD hS => ?_)
    have hP : va_P (dC, dI) vwCl [(q_t, .inr (3, [.ref q_t_kind, .ref q_t_content, .ref q_t_left, .ref q_t_right, .ref q_t_given, .int t_count])), (q_t_kind, .inl (cI, 600, .inl t_kind)), (q_t_content, .inl (cL, 600, .inr (.inl t_content))), (q_t_given, .inl (cI, 600, .inl t_given))] H := hP
    have hD : va_D A [(q_t, .inr (3, [.ref q_t_kind, .ref q_t_content, .ref q_t_left, .ref q_t_right, .ref q_t_given, .int t_count])), (q_t_kind, .inl (cI, 600, .inl t_kind)), (q_t_content, .inl (cL, 600, .inr (.inl t_content))), (q_t_given, .inl (cI, 600, .inl t_given))] := hD
    refine fr_i (wr := [(q_t, .inr (3, [.ref q_t_kind, .ref q_t_content, .ref q_t_left, .ref q_t_right, .ref q_t_given, .int t_count])), (q_t_kind, .inl (cI, 600, .inl t_kind)), (q_t_content, .inl (cL, 600, .inr (.inl t_content))), (q_t_given, .inl (cI, 600, .inl t_given))]) (w2 := [(q_t, .inr (3, [.ref q_t_kind, .ref q_t_content, .ref q_t_left, .ref q_t_right, .ref q_t_given, .int t_count])), (q_t_kind, .inl (cI, 600, .inl t_kind)), (q_t_content, .inl (cL, 600, .inr (.inl t_content))), (q_t_given, .inl (cI, 600, .inl t_given))]) (va_runSN (As := [.ref q_FORCES, .int r26]) (rest := [.int (at_ 600 t_given x1)]) ⟨hx, hb, hml, hown, hts⟩ (c_TM_atT l dC dI cI cL H.size q_FORCES 12 tb_FORCES r26 (by decide)) (kSN 2 hts aw_346 rfl rfl aw_1 (nx_59 hZ.1) aw_345 (by decide +kernel) ⟨Nat.le_of_ble_eq_true rfl, Nat.le_of_ble_eq_true rfl⟩) (fr_preT hK hP hD hS hA hZ ht_q_FORCES) rfl rfl hl.1 rfl (lv_room (Nat.le_of_ble_eq_true rfl)) dX4_wantsForce_29 ⟨Nat.le_of_ble_eq_true rfl, Nat.le_of_ble_eq_true rfl⟩) hP hD hS hA [] [0, 1, 2, 3] [0, 1, 2, 3] rfl rfl rfl (by decide) rfl rfl (fun H locs hP hD hS => ?_)
    have hP : va_P (dC, dI) vwCl [(q_t, .inr (3, [.ref q_t_kind, .ref q_t_content, .ref q_t_left, .ref q_t_right, .ref q_t_given, .int t_count])), (q_t_kind, .inl (cI, 600, .inl t_kind)), (q_t_content, .inl (cL, 600, .inr (.inl t_content))), (q_t_given, .inl (cI, 600, .inl t_given))] H := hP
    have hD : va_D A [(q_t, .inr (3, [.ref q_t_kind, .ref q_t_content, .ref q_t_left, .ref q_t_right, .ref q_t_given, .int t_count])), (q_t_kind, .inl (cI, 600, .inl t_kind)), (q_t_content, .inl (cL, 600, .inr (.inl t_content))), (q_t_given, .inl (cI, 600, .inl t_given))] := hD
    refine lv_icmp_ge hx hb dX4_wantsForce_32 rfl (fun h32 => ?_) (fun h32 => ?_)
    · rw [if_pos h32] at hm
      refine lv_iconst (v := 0) hx hb dX4_wantsForce_39 (by decide) ?_
      obtain rfl := Option.some.inj hm
      subst hQ
      exact W.zret hx hb hr (by decide) (fun t ht hW => ⟨⟨_, (), rfl, rfl, by rw [ht]; exact hP, va_K.moved hW.alike hK, hD⟩, hS.F ht⟩) hS.2.2 dX4_wantsForce_40
    · rw [if_neg h32] at hm
      refine lv_iconst (v := 1) hx hb dX4_wantsForce_35 (by decide) ?_
      refine lv_goto hx hb dX4_wantsForce_36 rfl ?_
      obtain rfl := Option.some.inj hm
      subst hQ
      exact W.zret hx hb hr (by decide) (fun t ht hW => ⟨⟨_, (), rfl, rfl, by rw [ht]; exact hP, va_K.moved hW.alike hK, hD⟩, hS.F ht⟩) hS.2.2 dX4_wantsForce_40
def M_Store_wantsOneArgument (t_kind : Nat → Int32) (t_content : Nat → Int64) (t_given : Nat → Int32) (x1 : Int32) : Option (Int32) :=
  c1 (M_Store_operationOf t_content x1) (fun r2 =>
    c1 (M_Store_wantsArgument t_kind t_content t_given x1) (fun r8 =>
      (if r8 = 0 then
        some 0
      else
        (if ((at_ 600 t_given x1) + 1) = ((at_ 12 tb_FORCES r2) + (at_ 12 tb_ARGUMENTS r2)) then
          some 1
        else
          some 0))))
set_option maxHeartbeats 4000000 in
set_option maxRecDepth 100000 in
theorem c_Store_wantsOneArgument (l : Launch) (dC : Nat → ClassId) (dI : Nat → Nat → Nat) (cI cL : ClassId) (sz : Nat) (q_t q_t_kind q_t_content q_t_left q_t_right q_t_given : Nat) (t_count : Int32) (t_kind : Nat → Int32) (t_content : Nat → Int64) (t_given : Nat → Int32) (x1 r0 : Int32) (hm : M_Store_wantsOneArgument t_kind t_content t_given x1 = some r0) : Met l yX4_wantsOneArgument wsX4_wantsOneArgument ({ frames := 3, cells := 0, slots := 0, locals := 63 }) (frPc (dC, dI) vwCl [(cI, .int), (cL, .long)] [(q_t, .inr (3, [.ref q_t_kind, .ref q_t_content, .ref q_t_left, .ref q_t_right, .ref q_t_given, .int t_count])), (q_t_kind, .inl (cI, 600, .inl t_kind)), (q_t_content, .inl (cL, 600, .inr (.inl t_content))), (q_t_given, .inl (cI, 600, .inl t_given))] sz [.ref q_t, .int x1]) (va_Qi (fun (r : Int32) (_ : Unit) => r = r0) (frB (dC, dI) vwCl [(cI, .int), (cL, .long)] (va_A [(q_t, .inr (3, [.ref q_t_kind, .ref q_t_content, .ref q_t_left, .ref q_t_right, .ref q_t_given, .int t_count])), (q_t_kind, .inl (cI, 600, .inl t_kind)), (q_t_content, .inl (cL, 600, .inr (.inl t_content))), (q_t_given, .inl (cI, 600, .inl t_given))] sz) [(q_t, .inr (3, [.ref q_t_kind, .ref q_t_content, .ref q_t_left, .ref q_t_right, .ref q_t_given, .int t_count])), (q_t_kind, .inl (cI, 600, .inl t_kind)), (q_t_content, .inl (cL, 600, .inr (.inl t_content))), (q_t_given, .inl (cI, 600, .inl t_given))]) (va_A [(q_t, .inr (3, [.ref q_t_kind, .ref q_t_content, .ref q_t_left, .ref q_t_right, .ref q_t_given, .int t_count])), (q_t_kind, .inl (cI, 600, .inl t_kind)), (q_t_content, .inl (cL, 600, .inr (.inl t_content))), (q_t_given, .inl (cI, 600, .inl t_given))] sz)) 0 0 (va_A [(q_t, .inr (3, [.ref q_t_kind, .ref q_t_content, .ref q_t_left, .ref q_t_right, .ref q_t_given, .int t_count])), (q_t_kind, .inl (cI, 600, .inl t_kind)), (q_t_content, .inl (cL, 600, .inr (.inl t_content))), (q_t_given, .inl (cI, 600, .inl t_given))] sz) := by
  refine Met.ofW (cc := cX4_wantsOneArgument) (maxL := 3) (ret := (some .boolean)) (by decide) rfl ?_
  intro p e s m args below meth c s₁ B hml hv
  obtain ⟨rfl, hsz, hP, hK, hD0, hZ⟩ := hv
  have hx := B.exec
  have hb := B.bytes
  have hr := B.returns
  have hts := atoms_spec (ws := wsX4_wantsOneArgument) B.pre
  have hown : s.vm.findClass RX4 = some m.cls := findClass_of_methodNamed B.named
  have hlocks := B.notSynchronized
  subst hsz
  have hD := hD0.self (sz := s.heap.size)
  generalize hAe : va_A [(q_t, .inr (3, [.ref q_t_kind, .ref q_t_content, .ref q_t_left, .ref q_t_right, .ref q_t_given, .int t_count])), (q_t_kind, .inl (cI, 600, .inl t_kind)), (q_t_content, .inl (cL, 600, .inr (.inl t_content))), (q_t_given, .inl (cI, 600, .inl t_given))] s.heap.size = A at hD hZ ⊢
  have hA : ∀ q : Nat, s.heap.size ≤ q → A q := fun q h => by rw [← hAe]; exact Or.inr h
  have hS : va_S A s.heap s.heap [] := va_S.rf
  have hP : va_P (dC, dI) vwCl [(q_t, .inr (3, [.ref q_t_kind, .ref q_t_content, .ref q_t_left, .ref q_t_right, .ref q_t_given, .int t_count])), (q_t_kind, .inl (cI, 600, .inl t_kind)), (q_t_content, .inl (cL, 600, .inr (.inl t_content))), (q_t_given, .inl (cI, 600, .inl t_given))] s.heap := hP
  have hl := lv_entry ([.ref q_t, .int x1]) (n := 3) (Nat.le_of_ble_eq_true rfl)
  rw [lg_entry_eq]
  generalize (lg_sl ([.ref q_t, .int x1]) ++ List.replicate (3 - (lg_sl ([.ref q_t, .int x1])).length) Slot.unset).toArray = ls at hl ⊢
  have hl : lv_has ls 3 [(0, .ref q_t), (1, .int x1)] := hl
  refine wq hP hS (fun Q hQ H locs hP hS => ?_)
  have htw : ∀ w ∈ AW, w.before _ s = true := fun w h => hts w (List.mem_cons_of_mem _ h)
  have hn0 : ∀ w ∈ wsX40, w ∈ wsX4_wantsOneArgument := fun w h => List.mem_cons_of_mem _ (inX4 w h)
  obtain ⟨q_FORCES, hz_q_FORCES, ht_q_FORCES⟩ := hZ.2.1
  obtain ⟨q_ARGUMENTS, hz_q_ARGUMENTS, ht_q_ARGUMENTS⟩ := hZ.2.2.1
  rw [M_Store_wantsOneArgument] at hm
  refine lv_aload_n hx hb dX4_wantsOneArgument_0 rfl (lv_at hl 0 rfl) ?_
  refine lv_iload_n hx hb dX4_wantsOneArgument_1 rfl (lv_at hl 1 rfl) ?_
  obtain ⟨r2, e2, hm⟩ := c1_inv hm
  refine fr_i (wr := [(q_t_kind, .inl (cI, 600, .inl t_kind)), (q_t_given, .inl (cI, 600, .inl t_given))]) (w2 := [(q_t, .inr (3, [.ref q_t_kind, .ref q_t_content, .ref q_t_left, .ref q_t_right, .ref q_t_given, .int t_count])), (q_t_kind, .inl (cI, 600, .inl t_kind)), (q_t_content, .inl (cL, 600, .inr (.inl t_content))), (q_t_given, .inl (cI, 600, .inl t_given))]) (va_runV (As := [.int x1]) (rest := []) ⟨hx, hb, hml, hown, hts⟩ (c_Store_operationOf l dC dI cI cL H.size q_t q_t_kind q_t_content q_t_left q_t_right q_t_given t_count t_content x1 r2 e2) (kV 1 hts aw_499 rfl rfl aw_4 aw_496 aw_497 aw_498 (by decide +kernel) ⟨Nat.le_of_ble_eq_true rfl, Nat.le_of_ble_eq_true rfl⟩) (fr_preV hK hP hD hS hA hZ [0, 2] rfl rfl (ci := 3) (q0 := 0) rfl rfl) rfl rfl hl.1 rfl (lv_room (Nat.le_of_ble_eq_true rfl)) dX4_wantsOneArgument_2 ⟨Nat.le_of_ble_eq_true rfl, Nat.le_of_ble_eq_true rfl⟩) hP hD hS hA [0, 2] [1, 3] [2, 0, 3, 1] rfl rfl rfl (by decide) rfl rfl (fun H locs hP hD hS => ?_)
  have hP : va_P (dC, dI) vwCl [(q_t, .inr (3, [.ref q_t_kind, .ref q_t_content, .ref q_t_left, .ref q_t_right, .ref q_t_given, .int t_count])), (q_t_kind, .inl (cI, 600, .inl t_kind)), (q_t_content, .inl (cL, 600, .inr (.inl t_content))), (q_t_given, .inl (cI, 600, .inl t_given))] H := hP
  have hD : va_D A [(q_t, .inr (3, [.ref q_t_kind, .ref q_t_content, .ref q_t_left, .ref q_t_right, .ref q_t_given, .int t_count])), (q_t_kind, .inl (cI, 600, .inl t_kind)), (q_t_content, .inl (cL, 600, .inr (.inl t_content))), (q_t_given, .inl (cI, 600, .inl t_given))] := hD
  refine lv_istore_n (lv' := [(2, .int r2), (0, .ref q_t), (1, .int x1)]) hx hb dX4_wantsOneArgument_5 rfl hl (by decide) rfl (fun ls hl => ?_)
  refine lv_aload_n hx hb dX4_wantsOneArgument_6 rfl (lv_at hl 1 rfl) ?_
  refine lv_iload_n hx hb dX4_wantsOneArgument_7 rfl (lv_at hl 2 rfl) ?_
  obtain ⟨r8, e8, hm⟩ := c1_inv hm
  refine fr_i (wr := []) (w2 := [(q_t, .inr (3, [.ref q_t_kind, .ref q_t_content, .ref q_t_left, .ref q_t_right, .ref q_t_given, .int t_count])), (q_t_kind, .inl (cI, 600, .inl t_kind)), (q_t_content, .inl (cL, 600, .inr (.inl t_content))), (q_t_given, .inl (cI, 600, .inl t_given))]) (va_runV (As := [.int x1]) (rest := []) ⟨hx, hb, hml, hown, hts⟩ (c_Store_wantsArgument l dC dI cI cL H.size q_t q_t_kind q_t_content q_t_left q_t_right q_t_given t_count t_kind t_content t_given x1 r8 e8) (kV 1 hts aw_506 rfl rfl aw_4 aw_503 aw_504 aw_505 (by decide +kernel) ⟨Nat.le_of_ble_eq_true rfl, Nat.le_of_ble_eq_true rfl⟩) (fr_preV hK hP hD hS hA hZ [0, 1, 2, 3] rfl rfl (ci := 3) (q0 := 0) rfl rfl) rfl rfl hl.1 rfl (lv_room (Nat.le_of_ble_eq_true rfl)) dX4_wantsOneArgument_8 ⟨Nat.le_of_ble_eq_true rfl, Nat.le_of_ble_eq_true rfl⟩) hP hD hS hA [0, 1, 2, 3] [] [0, 1, 2, 3] rfl rfl rfl (by decide) rfl rfl (fun H locs hP hD hS => ?_)
  have hP : va_P (dC, dI) vwCl [(q_t, .inr (3, [.ref q_t_kind, .ref q_t_content, .ref q_t_left, .ref q_t_right, .ref q_t_given, .int t_count])), (q_t_kind, .inl (cI, 600, .inl t_kind)), (q_t_content, .inl (cL, 600, .inr (.inl t_content))), (q_t_given, .inl (cI, 600, .inl t_given))] H := hP
  have hD : va_D A [(q_t, .inr (3, [.ref q_t_kind, .ref q_t_content, .ref q_t_left, .ref q_t_right, .ref q_t_given, .int t_count])), (q_t_kind, .inl (cI, 600, .inl t_kind)), (q_t_content, .inl (cL, 600, .inr (.inl t_content))), (q_t_given, .inl (cI, 600, .inl t_given))] := hD
  refine lv_if_eq hx hb dX4_wantsOneArgument_11 rfl (fun h11 => ?_) (fun h11 => ?_)
  · rw [if_pos h11] at hm
    refine lv_iconst (v := 0) hx hb dX4_wantsOneArgument_46 (by decide) ?_
    obtain rfl := Option.some.inj hm
    subst hQ
    exact W.zret hx hb hr (by decide) (fun t ht hW => ⟨⟨_, (), rfl, rfl, by rw [ht]; exact hP, va_K.moved hW.alike hK, hD⟩, hS.F ht⟩) hS.2.2 dX4_wantsOneArgument_47
  · rw [if_neg h11] at hm
    refine lv_aload_n hx hb dX4_wantsOneArgument_14 rfl (lv_at hl 1 rfl) ?_
    refine va_get (D := (dC, dI)) (ci := 3) (v := .ref q_t_given) (C := RX4) (T := TX4) (N := 6) hx hb hts hn0 hown hK hP 0 rfl rfl 4 (by decide) (htw _ aw_75) (fun _ h9 => h9) rfl dX4_wantsOneArgument_15 ?_
    refine lv_iload_n hx hb dX4_wantsOneArgument_18 rfl (lv_at hl 2 rfl) ?_
    refine fr_i (wr := [(q_t, .inr (3, [.ref q_t_kind, .ref q_t_content, .ref q_t_left, .ref q_t_right, .ref q_t_given, .int t_count])), (q_t_kind, .inl (cI, 600, .inl t_kind)), (q_t_content, .inl (cL, 600, .inr (.inl t_content)))]) (w2 := [(q_t, .inr (3, [.ref q_t_kind, .ref q_t_content, .ref q_t_left, .ref q_t_right, .ref q_t_given, .int t_count])), (q_t_kind, .inl (cI, 600, .inl t_kind)), (q_t_content, .inl (cL, 600, .inr (.inl t_content))), (q_t_given, .inl (cI, 600, .inl t_given))]) (va_runSN (As := [.ref q_t_given, .int x1]) (rest := []) ⟨hx, hb, hml, hown, hts⟩ (c_TM_at l dC dI cI cL H.size q_t_given 600 t_given x1 (by decide)) (kSN 2 hts aw_346 rfl rfl aw_1 (nx_59 hZ.1) aw_345 (by decide +kernel) ⟨Nat.le_of_ble_eq_true rfl, Nat.le_of_ble_eq_true rfl⟩) (fr_preS hK hP hD hS hA hZ [3] rfl rfl) rfl rfl hl.1 rfl (lv_room (Nat.le_of_ble_eq_true rfl)) dX4_wantsOneArgument_19 ⟨Nat.le_of_ble_eq_true rfl, Nat.le_of_ble_eq_true rfl⟩) hP hD hS hA [3] [0, 1, 2] [0, 1, 2, 3] rfl rfl rfl (by decide) rfl rfl (fun H locs hP hD hS => ?_)
    have hP : va_P (dC, dI) vwCl [(q_t, .inr (3, [.ref q_t_kind, .ref q_t_content, .ref q_t_left, .ref q_t_right, .ref q_t_given, .int t_count])), (q_t_kind, .inl (cI, 600, .inl t_kind)), (q_t_content, .inl (cL, 600, .inr (.inl t_content))), (q_t_given, .inl (cI, 600, .inl t_given))] H := hP
    have hD : va_D A [(q_t, .inr (3, [.ref q_t_kind, .ref q_t_content, .ref q_t_left, .ref q_t_right, .ref q_t_given, .int t_count])), (q_t_kind, .inl (cI, 600, .inl t_kind)), (q_t_content, .inl (cL, 600, .inr (.inl t_content))), (q_t_given, .inl (cI, 600, .inl t_given))] := hD
    refine lv_iconst (v := 1) hx hb dX4_wantsOneArgument_22 (by decide) ?_
    refine lv_iadd hx hb dX4_wantsOneArgument_23 ?_
    refine va_getsN (C := "TermMachine") (n := "FORCES") (d := "[I") hx hb hz_q_FORCES hS hown (va_Nw.use rfl (nx_60 hZ.1)) (fun _ h9 => h9) dX4_wantsOneArgument_24 ?_
    refine lv_iload_n hx hb dX4_wantsOneArgument_27 rfl (lv_at hl 0 rfl) ?_
    refine fr_i (wr := [(q_t, .inr (3, [.ref q_t_kind, .ref q_t_content, .ref q_t_left, .ref q_t_right, .ref q_t_given, .int t_count])), (q_t_kind, .inl (cI, 600, .inl t_kind)), (q_t_content, .inl (cL, 600, .inr (.inl t_content))), (q_t_given, .inl (cI, 600, .inl t_given))]) (w2 := [(q_t, .inr (3, [.ref q_t_kind, .ref q_t_content, .ref q_t_left, .ref q_t_right, .ref q_t_given, .int t_count])), (q_t_kind, .inl (cI, 600, .inl t_kind)), (q_t_content, .inl (cL, 600, .inr (.inl t_content))), (q_t_given, .inl (cI, 600, .inl t_given))]) (va_runSN (As := [.ref q_FORCES, .int r2]) (rest := [.int ((at_ 600 t_given x1) + 1)]) ⟨hx, hb, hml, hown, hts⟩ (c_TM_atT l dC dI cI cL H.size q_FORCES 12 tb_FORCES r2 (by decide)) (kSN 2 hts aw_346 rfl rfl aw_1 (nx_59 hZ.1) aw_345 (by decide +kernel) ⟨Nat.le_of_ble_eq_true rfl, Nat.le_of_ble_eq_true rfl⟩) (fr_preT hK hP hD hS hA hZ ht_q_FORCES) rfl rfl hl.1 rfl (lv_room (Nat.le_of_ble_eq_true rfl)) dX4_wantsOneArgument_28 ⟨Nat.le_of_ble_eq_true rfl, Nat.le_of_ble_eq_true rfl⟩) hP hD hS hA [] [0, 1, 2, 3] [0, 1, 2, 3] rfl rfl rfl (by decide) rfl rfl (fun H locs hP hD hS => ?_)
    have hP : va_P (dC, dI) vwCl [(q_t, .inr (3, [.ref q_t_kind, .ref q_t_content, .ref q_t_left, .ref q_t_right, .ref q_t_given, .int t_count])), (q_t_kind, .inl (cI, 600, .inl t_kind)), (q_t_content, .inl (cL, 600, .inr (.inl t_content))), (q_t_given, .inl (cI, 600, .inl t_given))] H := hP
    have hD : va_D A [(q_t, .inr (3, [.ref q_t_kind, .ref q_t_content, .ref q_t_left, .ref q_t_right, .ref q_t_given, .int t_count])), (q_t_kind, .inl (cI, 600, .inl t_kind)), (q_t_content, .inl (cL, 600, .inr (.inl t_content))), (q_t_given, .inl (cI, 600, .inl t_given))] := hD
    refine va_getsN (C := "TermMachine") (n := "ARGUMENTS") (d := "[I") hx hb hz_q_ARGUMENTS hS hown (va_Nw.use rfl (nx_61 hZ.1)) (fun _ h9 => h9) dX4_wantsOneArgument_31 ?_
    refine lv_iload_n hx hb dX4_wantsOneArgument_34 rfl (lv_at hl 0 rfl) ?_
    refine fr_i (wr := [(q_t, .inr (3, [.ref q_t_kind, .ref q_t_content, .ref q_t_left, .ref q_t_right, .ref q_t_given, .int t_count])), (q_t_kind, .inl (cI, 600, .inl t_kind)), (q_t_content, .inl (cL, 600, .inr (.inl t_content))), (q_t_given, .inl (cI, 600, .inl t_given))]) (w2 := [(q_t, .inr (3, [.ref q_t_kind, .ref q_t_content, .ref q_t_left, .ref q_t_right, .ref q_t_given, .int t_count])), (q_t_kind, .inl (cI, 600, .inl t_kind)), (q_t_content, .inl (cL, 600, .inr (.inl t_content))), (q_t_given, .inl (cI, 600, .inl t_given))]) (va_runSN (As := [.ref q_ARGUMENTS, .int r2]) (rest := [.int (at_ 12 tb_FORCES r2), .int ((at_ 600 t_given x1) + 1)]) ⟨hx, hb, hml, hown, hts⟩ (c_TM_atT l dC dI cI cL H.size q_ARGUMENTS 12 tb_ARGUMENTS r2 (by decide)) (kSN 2 hts aw_346 rfl rfl aw_1 (nx_59 hZ.1) aw_345 (by decide +kernel) ⟨Nat.le_of_ble_eq_true rfl, Nat.le_of_ble_eq_true rfl⟩) (fr_preT hK hP hD hS hA hZ ht_q_ARGUMENTS) rfl rfl hl.1 rfl (lv_room (Nat.le_of_ble_eq_true rfl)) dX4_wantsOneArgument_35 ⟨Nat.le_of_ble_eq_true rfl, Nat.le_of_ble_eq_true rfl⟩) hP hD hS hA [] [0, 1, 2, 3] [0, 1, 2, 3] rfl rfl rfl (by decide) rfl rfl (fun H locs hP hD hS => ?_)
    have hP : va_P (dC, dI) vwCl [(q_t, .inr (3, [.ref q_t_kind, .ref q_t_content, .ref q_t_left, .ref q_t_right, .ref q_t_given, .int t_count])), (q_t_kind, .inl (cI, 600, .inl t_kind)), (q_t_content, .inl (cL, 600, .inr (.inl t_content))), (q_t_given, .inl (cI, 600, .inl t_given))] H := hP
    have hD : va_D A [(q_t, .inr (3, [.ref q_t_kind, .ref q_t_content, .ref q_t_left, .ref q_t_right, .ref q_t_given, .int t_count])), (q_t_kind, .inl (cI, 600, .inl t_kind)), (q_t_content, .inl (cL, 600, .inr (.inl t_content))), (q_t_given, .inl (cI, 600, .inl t_given))] := hD
    refine lv_iadd hx hb dX4_wantsOneArgument_38 ?_
    refine lv_icmp_ne hx hb dX4_wantsOneArgument_39 rfl (fun h39 => ?_) (fun h39 => ?_)
    · rw [if_neg h39] at hm
      refine lv_iconst (v := 0) hx hb dX4_wantsOneArgument_46 (by decide) ?_
      obtain rfl := Option.some.inj hm
      subst hQ
      exact W.zret hx hb hr (by decide) (fun t ht hW => ⟨⟨_, (), rfl, rfl, by rw [ht]; exact hP, va_K.moved hW.alike hK, hD⟩, hS.F ht⟩) hS.2.2 dX4_wantsOneArgument_47
    · rw [if_pos h39] at hm
      refine lv_iconst (v := 1) hx hb dX4_wantsOneArgument_42 (by decide) ?_
      refine lv_goto hx hb dX4_wantsOneArgument_43 rfl ?_
      obtain rfl := Option.some.inj hm
      subst hQ
      exact W.zret hx hb hr (by decide) (fun t ht hW => ⟨⟨_, (), rfl, rfl, by rw [ht]; exact hP, va_K.moved hW.alike hK, hD⟩, hS.F ht⟩) hS.2.2 dX4_wantsOneArgument_47
