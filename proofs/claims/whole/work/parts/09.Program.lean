set_option maxHeartbeats 4000000 in
set_option maxRecDepth 100000 in
theorem c_Program_init (l : Launch) (dC : Nat → ClassId) (dI : Nat → Nat → Nat) (cI cL : ClassId) (sz q_t : Nat) : Met l yX3_init wsX3_init ({ frames := 1, cells := 4, slots := 240, locals := 12 }) (frPc (dC, dI) vwCl [(cI, .int), (cL, .long)] [(q_t, .inr (2, [.null, .null, .null, .null, .int 0, .int 0]))] sz [.ref q_t]) (va_Qv (fun (_ : Nat × Nat × Nat × Nat) => True) (frBn (S := Nat × Nat × Nat × Nat) (dC, dI) vwCl [(cI, .int), (cL, .long)] (va_A [(q_t, .inr (2, [.null, .null, .null, .null, .int 0, .int 0]))] sz) (fun u => [(q_t, .inr (2, [.ref u.1, .ref u.2.1, .ref u.2.2.1, .ref u.2.2.2, .int 0, .int 0])), (u.1, .inl (cI, 60, .inl (fun _ => 0))), (u.2.1, .inl (cI, 60, .inl (fun _ => 0))), (u.2.2.1, .inl (cI, 60, .inl (fun _ => 0))), (u.2.2.2, .inl (cL, 60, .inr (.inl (fun _ => 0))))])) (va_A [(q_t, .inr (2, [.null, .null, .null, .null, .int 0, .int 0]))] sz)) 4 240 (va_A [(q_t, .inr (2, [.null, .null, .null, .null, .int 0, .int 0]))] sz) := by
  refine Met.ofW (cc := cX3_init) (maxL := 1) (ret := none) (by decide) rfl ?_
  intro p e s m args below meth c s₁ B hml hv
  obtain ⟨rfl, hsz, hP, hK, hD0, hZ⟩ := hv
  have hx := B.exec
  have hb := B.bytes
  have hr := B.returns
  have hts := atoms_spec (ws := wsX3_init) B.pre
  have hown : s.vm.findClass RX3 = some m.cls := findClass_of_methodNamed B.named
  have hlocks := B.notSynchronized
  have hin : meth.name = "<init>" := (name_of_methodNamed B.named B.method).1
  subst hsz
  have hD := hD0.self (sz := s.heap.size)
  generalize hAe : va_A [(q_t, .inr (2, [.null, .null, .null, .null, .int 0, .int 0]))] s.heap.size = A at hD hZ ⊢
  have hA : ∀ q : Nat, s.heap.size ≤ q → A q := fun q h => by rw [← hAe]; exact Or.inr h
  have hS : va_S A s.heap s.heap [] := va_S.rf
  have hP : va_P (dC, dI) vwCl [(q_t, .inr (2, [.null, .null, .null, .null, .int 0, .int 0]))] s.heap := hP
  have hl := lv_entry ([.ref q_t]) (n := 1) (Nat.le_of_ble_eq_true rfl)
  rw [lg_entry_eq]
  generalize (lg_sl ([.ref q_t]) ++ List.replicate (1 - (lg_sl ([.ref q_t])).length) Slot.unset).toArray = ls at hl ⊢
  have hl : lv_has ls 1 [(0, .ref q_t)] := hl
  refine wq hP hS (fun Q hQ H locs hP hS => ?_)
  have htw : ∀ w ∈ AW, w.before _ s = true := fun w h => hts w (List.mem_cons_of_mem _ h)
  have hn0 : ∀ w ∈ wsX30, w ∈ wsX3_init := fun w h => List.mem_cons_of_mem _ (inX3 w h)
  refine lv_aload_n hx hb dX3_init_0 rfl (lv_at hl 0 rfl) ?_
  refine W.objInit hx hb hown (htw _ aw_219) (htw _ aw_23) (htw _ aw_24) rfl (by rw [hml]; exact hl.1) rfl dX3_init_1 (Nat.le_of_ble_eq_true rfl) (Nat.le_of_ble_eq_true rfl) ?_
  refine W.eq (g2 := F0 m 4 ls []) rfl ?_
  refine lv_aload_n hx hb dX3_init_4 rfl (lv_at hl 0 rfl) ?_
  refine lv_bipush (v := 60) hx hb dX3_init_5 (by decide) ?_
  refine fr_newi (n := 60) (N' := 60) hx hb (htw _ aw_47) hK (t0 := 0) rfl hP hD hS hA (by decide) (by decide) (by decide) (Nat.le_of_ble_eq_true rfl) (Nat.le_of_ble_eq_true rfl) dX3_init_7 (fun q7 H hP hD hS => ?_)
  refine W.widen (k := 1) (n := 60) (by omega) (by omega) ?_
  have hP : va_P (dC, dI) vwCl [(q_t, .inr (2, [.null, .null, .null, .null, .int 0, .int 0])), (q7, .inl (cI, 60, .inl (fun _ => 0)))] H := hP
  have hD : va_D A [(q_t, .inr (2, [.null, .null, .null, .null, .int 0, .int 0])), (q7, .inl (cI, 60, .inl (fun _ => 0)))] := hD
  refine va_putF (D := (dC, dI)) (ci := 2) (v := .ref q7) (ty := (.array .int)) (C := RX3) (T := TX3) (N := 6) hx hb hts hn0 tyX3 tyX3_ok nmX3 hown hK hP hD hS 0 rfl rfl 0 (by decide) (htw _ aw_220) (fun _ h9 => h9) rfl hin rfl (by decide +kernel) rfl rfl (Nat.le_of_ble_eq_true rfl) dX3_init_9 (fun H locs hP hD hS => ?_)
  have hP : va_P (dC, dI) vwCl [(q_t, .inr (2, [.ref q7, .null, .null, .null, .int 0, .int 0])), (q7, .inl (cI, 60, .inl (fun _ => 0)))] H := hP
  have hD : va_D A [(q_t, .inr (2, [.ref q7, .null, .null, .null, .int 0, .int 0])), (q7, .inl (cI, 60, .inl (fun _ => 0)))] := hD
  refine lv_aload_n hx hb dX3_init_12 rfl (lv_at hl 0 rfl) ?_
  refine lv_bipush (v := 60) hx hb dX3_init_13 (by decide) ?_
  refine fr_newi (n := 60) (N' := 60) hx hb (htw _ aw_47) hK (t0 := 0) rfl hP hD hS hA (by decide) (by decide) (by decide) (Nat.le_of_ble_eq_true rfl) (Nat.le_of_ble_eq_true rfl) dX3_init_15 (fun q15 H hP hD hS => ?_)
  refine W.widen (k := 2) (n := 120) (by omega) (by omega) ?_
  have hP : va_P (dC, dI) vwCl [(q_t, .inr (2, [.ref q7, .null, .null, .null, .int 0, .int 0])), (q7, .inl (cI, 60, .inl (fun _ => 0))), (q15, .inl (cI, 60, .inl (fun _ => 0)))] H := hP
  have hD : va_D A [(q_t, .inr (2, [.ref q7, .null, .null, .null, .int 0, .int 0])), (q7, .inl (cI, 60, .inl (fun _ => 0))), (q15, .inl (cI, 60, .inl (fun _ => 0)))] := hD
  refine va_putF (D := (dC, dI)) (ci := 2) (v := .ref q15) (ty := (.array .int)) (C := RX3) (T := TX3) (N := 6) hx hb hts hn0 tyX3 tyX3_ok nmX3 hown hK hP hD hS 0 rfl rfl 1 (by decide) (htw _ aw_223) (fun _ h9 => h9) rfl hin rfl (by decide +kernel) rfl rfl (Nat.le_of_ble_eq_true rfl) dX3_init_17 (fun H locs hP hD hS => ?_)
  have hP : va_P (dC, dI) vwCl [(q_t, .inr (2, [.ref q7, .ref q15, .null, .null, .int 0, .int 0])), (q7, .inl (cI, 60, .inl (fun _ => 0))), (q15, .inl (cI, 60, .inl (fun _ => 0)))] H := hP
  have hD : va_D A [(q_t, .inr (2, [.ref q7, .ref q15, .null, .null, .int 0, .int 0])), (q7, .inl (cI, 60, .inl (fun _ => 0))), (q15, .inl (cI, 60, .inl (fun _ => 0)))] := hD
  refine lv_aload_n hx hb dX3_init_20 rfl (lv_at hl 0 rfl) ?_
  refine lv_bipush (v := 60) hx hb dX3_init_21 (by decide) ?_
  refine fr_newi (n := 60) (N' := 60) hx hb (htw _ aw_47) hK (t0 := 0) rfl hP hD hS hA (by decide) (by decide) (by decide) (Nat.le_of_ble_eq_true rfl) (Nat.le_of_ble_eq_true rfl) dX3_init_23 (fun q23 H hP hD hS => ?_)
  refine W.widen (k := 3) (n := 180) (by omega) (by omega) ?_
  have hP : va_P (dC, dI) vwCl [(q_t, .inr (2, [.ref q7, .ref q15, .null, .null, .int 0, .int 0])), (q7, .inl (cI, 60, .inl (fun _ => 0))), (q15, .inl (cI, 60, .inl (fun _ => 0))), (q23, .inl (cI, 60, .inl (fun _ => 0)))] H := hP
  have hD : va_D A [(q_t, .inr (2, [.ref q7, .ref q15, .null, .null, .int 0, .int 0])), (q7, .inl (cI, 60, .inl (fun _ => 0))), (q15, .inl (cI, 60, .inl (fun _ => 0))), (q23, .inl (cI, 60, .inl (fun _ => 0)))] := hD
  refine va_putF (D := (dC, dI)) (ci := 2) (v := .ref q23) (ty := (.array .int)) (C := RX3) (T := TX3) (N := 6) hx hb hts hn0 tyX3 tyX3_ok nmX3 hown hK hP hD hS 0 rfl rfl 2 (by decide) (htw _ aw_226) (fun _ h9 => h9) rfl hin rfl (by decide +kernel) rfl rfl (Nat.le_of_ble_eq_true rfl) dX3_init_25 (fun H locs hP hD hS => ?_)
  have hP : va_P (dC, dI) vwCl [(q_t, .inr (2, [.ref q7, .ref q15, .ref q23, .null, .int 0, .int 0])), (q7, .inl (cI, 60, .inl (fun _ => 0))), (q15, .inl (cI, 60, .inl (fun _ => 0))), (q23, .inl (cI, 60, .inl (fun _ => 0)))] H := hP
  have hD : va_D A [(q_t, .inr (2, [.ref q7, .ref q15, .ref q23, .null, .int 0, .int 0])), (q7, .inl (cI, 60, .inl (fun _ => 0))), (q15, .inl (cI, 60, .inl (fun _ => 0))), (q23, .inl (cI, 60, .inl (fun _ => 0)))] := hD
  refine lv_aload_n hx hb dX3_init_28 rfl (lv_at hl 0 rfl) ?_
  refine lv_bipush (v := 60) hx hb dX3_init_29 (by decide) ?_
  refine fr_newl (n := 60) (N' := 60) hx hb (htw _ aw_93) hK (t0 := 1) rfl hP hD hS hA (by decide) (by decide) (by decide) (Nat.le_of_ble_eq_true rfl) (Nat.le_of_ble_eq_true rfl) dX3_init_31 (fun q31 H hP hD hS => ?_)
  refine W.widen (k := 4) (n := 240) (by omega) (by omega) ?_
  have hP : va_P (dC, dI) vwCl [(q_t, .inr (2, [.ref q7, .ref q15, .ref q23, .null, .int 0, .int 0])), (q7, .inl (cI, 60, .inl (fun _ => 0))), (q15, .inl (cI, 60, .inl (fun _ => 0))), (q23, .inl (cI, 60, .inl (fun _ => 0))), (q31, .inl (cL, 60, .inr (.inl (fun _ => 0))))] H := hP
  have hD : va_D A [(q_t, .inr (2, [.ref q7, .ref q15, .ref q23, .null, .int 0, .int 0])), (q7, .inl (cI, 60, .inl (fun _ => 0))), (q15, .inl (cI, 60, .inl (fun _ => 0))), (q23, .inl (cI, 60, .inl (fun _ => 0))), (q31, .inl (cL, 60, .inr (.inl (fun _ => 0))))] := hD
  refine va_putF (D := (dC, dI)) (ci := 2) (v := .ref q31) (ty := (.array .long)) (C := RX3) (T := TX3) (N := 6) hx hb hts hn0 tyX3 tyX3_ok nmX3 hown hK hP hD hS 0 rfl rfl 3 (by decide) (htw _ aw_229) (fun _ h9 => h9) rfl hin rfl (by decide +kernel) rfl rfl (Nat.le_of_ble_eq_true rfl) dX3_init_33 (fun H locs hP hD hS => ?_)
  have hP : va_P (dC, dI) vwCl [(q_t, .inr (2, [.ref q7, .ref q15, .ref q23, .ref q31, .int 0, .int 0])), (q7, .inl (cI, 60, .inl (fun _ => 0))), (q15, .inl (cI, 60, .inl (fun _ => 0))), (q23, .inl (cI, 60, .inl (fun _ => 0))), (q31, .inl (cL, 60, .inr (.inl (fun _ => 0))))] H := hP
  have hD : va_D A [(q_t, .inr (2, [.ref q7, .ref q15, .ref q23, .ref q31, .int 0, .int 0])), (q7, .inl (cI, 60, .inl (fun _ => 0))), (q15, .inl (cI, 60, .inl (fun _ => 0))), (q23, .inl (cI, 60, .inl (fun _ => 0))), (q31, .inl (cL, 60, .inr (.inl (fun _ => 0))))] := hD
  refine lv_aload_n hx hb dX3_init_36 rfl (lv_at hl 0 rfl) ?_
  refine lv_iconst (v := 0) hx hb dX3_init_37 (by decide) ?_
  refine va_put (D := (dC, dI)) (ci := 2) (v := .int 0) (ty := .int) (C := RX3) (T := TX3) (N := 6) hx hb hts hn0 tyX3 tyX3_ok nmX3 hown hK hP hD hS 0 rfl rfl 4 (by decide) (htw _ aw_232) (fun _ h9 => h9) rfl (by decide +kernel) rfl rfl (Nat.le_of_ble_eq_true rfl) dX3_init_38 (fun H locs hP hD hS => ?_)
  have hP : va_P (dC, dI) vwCl [(q_t, .inr (2, [.ref q7, .ref q15, .ref q23, .ref q31, .int 0, .int 0])), (q7, .inl (cI, 60, .inl (fun _ => 0))), (q15, .inl (cI, 60, .inl (fun _ => 0))), (q23, .inl (cI, 60, .inl (fun _ => 0))), (q31, .inl (cL, 60, .inr (.inl (fun _ => 0))))] H := hP
  have hD : va_D A [(q_t, .inr (2, [.ref q7, .ref q15, .ref q23, .ref q31, .int 0, .int 0])), (q7, .inl (cI, 60, .inl (fun _ => 0))), (q15, .inl (cI, 60, .inl (fun _ => 0))), (q23, .inl (cI, 60, .inl (fun _ => 0))), (q31, .inl (cL, 60, .inr (.inl (fun _ => 0))))] := hD
  refine lv_aload_n hx hb dX3_init_41 rfl (lv_at hl 0 rfl) ?_
  refine lv_iconst (v := 0) hx hb dX3_init_42 (by decide) ?_
  refine va_put (D := (dC, dI)) (ci := 2) (v := .int 0) (ty := .int) (C := RX3) (T := TX3) (N := 6) hx hb hts hn0 tyX3 tyX3_ok nmX3 hown hK hP hD hS 0 rfl rfl 5 (by decide) (htw _ aw_234) (fun _ h9 => h9) rfl (by decide +kernel) rfl rfl (Nat.le_of_ble_eq_true rfl) dX3_init_43 (fun H locs hP hD hS => ?_)
  have hP : va_P (dC, dI) vwCl [(q_t, .inr (2, [.ref q7, .ref q15, .ref q23, .ref q31, .int 0, .int 0])), (q7, .inl (cI, 60, .inl (fun _ => 0))), (q15, .inl (cI, 60, .inl (fun _ => 0))), (q23, .inl (cI, 60, .inl (fun _ => 0))), (q31, .inl (cL, 60, .inr (.inl (fun _ => 0))))] H := hP
  have hD : va_D A [(q_t, .inr (2, [.ref q7, .ref q15, .ref q23, .ref q31, .int 0, .int 0])), (q7, .inl (cI, 60, .inl (fun _ => 0))), (q15, .inl (cI, 60, .inl (fun _ => 0))), (q23, .inl (cI, 60, .inl (fun _ => 0))), (q31, .inl (cL, 60, .inr (.inl (fun _ => 0))))] := hD
  subst hQ
  exact W.vret hx hb hr (fun t ht hW => ⟨⟨(q7, q15, q23, q31), rfl, trivial, by rw [ht]; exact hP, va_K.moved hW.alike hK, hD⟩, hS.F ht⟩) hS.2.2 dX3_init_46
def M_Program_add (t_count : Int32) (t_kind : Nat → Int32) (t_first : Nat → Int32) (t_second : Nat → Int32) (t_content : Nat → Int64) (x1 : Int32) : Option (Int32 × Int32 × (Nat → Int32) × (Nat → Int32) × (Nat → Int32) × (Nat → Int64)) :=
  (if t_count < 60 then
    chk ((0 : Int32) ≤ t_count ∧ t_count < 60) (chk ((0 : Int32) ≤ t_count ∧ t_count < 60) (chk ((0 : Int32) ≤ t_count ∧ t_count < 60) (chk ((0 : Int32) ≤ t_count ∧ t_count < 60) (some ((t_count + 1) - 1, t_count + 1, upd t_kind t_count.toNatClampNeg x1, upd t_first t_count.toNatClampNeg (-1), upd t_second t_count.toNatClampNeg (-1), vp_updL t_content t_count.toNatClampNeg 0)))))
  else
    some ((-1), t_count, t_kind, t_first, t_second, t_content))
set_option maxHeartbeats 4000000 in
set_option maxRecDepth 100000 in
theorem c_Program_add (l : Launch) (dC : Nat → ClassId) (dI : Nat → Nat → Nat) (cI cL : ClassId) (sz : Nat) (q_t q_t_kind q_t_first q_t_second q_t_content : Nat) (t_count t_version : Int32) (t_kind t_first t_second : Nat → Int32) (t_content : Nat → Int64) (x1 r0 u_t_count : Int32) (u_t_kind u_t_first u_t_second : Nat → Int32) (u_t_content : Nat → Int64) (hm : M_Program_add t_count t_kind t_first t_second t_content x1 = some (r0, u_t_count, u_t_kind, u_t_first, u_t_second, u_t_content)) : Met l yX3_add wsX3_add ({ frames := 0, cells := 0, slots := 0, locals := 0 }) (frPc (dC, dI) vwCl [(cI, .int), (cL, .long)] [(q_t, .inr (2, [.ref q_t_kind, .ref q_t_first, .ref q_t_second, .ref q_t_content, .int t_count, .int t_version])), (q_t_kind, .inl (cI, 60, .inl t_kind)), (q_t_first, .inl (cI, 60, .inl t_first)), (q_t_second, .inl (cI, 60, .inl t_second)), (q_t_content, .inl (cL, 60, .inr (.inl t_content)))] sz [.ref q_t, .int x1]) (va_Qi (fun (r : Int32) (_ : Unit) => r = r0) (frB (dC, dI) vwCl [(cI, .int), (cL, .long)] (va_A [(q_t, .inr (2, [.ref q_t_kind, .ref q_t_first, .ref q_t_second, .ref q_t_content, .int t_count, .int t_version])), (q_t_kind, .inl (cI, 60, .inl t_kind)), (q_t_first, .inl (cI, 60, .inl t_first)), (q_t_second, .inl (cI, 60, .inl t_second)), (q_t_content, .inl (cL, 60, .inr (.inl t_content)))] sz) [(q_t, .inr (2, [.ref q_t_kind, .ref q_t_first, .ref q_t_second, .ref q_t_content, .int u_t_count, .int t_version])), (q_t_kind, .inl (cI, 60, .inl u_t_kind)), (q_t_first, .inl (cI, 60, .inl u_t_first)), (q_t_second, .inl (cI, 60, .inl u_t_second)), (q_t_content, .inl (cL, 60, .inr (.inl u_t_content)))]) (va_A [(q_t, .inr (2, [.ref q_t_kind, .ref q_t_first, .ref q_t_second, .ref q_t_content, .int t_count, .int t_version])), (q_t_kind, .inl (cI, 60, .inl t_kind)), (q_t_first, .inl (cI, 60, .inl t_first)), (q_t_second, .inl (cI, 60, .inl t_second)), (q_t_content, .inl (cL, 60, .inr (.inl t_content)))] sz)) 0 0 (va_A [(q_t, .inr (2, [.ref q_t_kind, .ref q_t_first, .ref q_t_second, .ref q_t_content, .int t_count, .int t_version])), (q_t_kind, .inl (cI, 60, .inl t_kind)), (q_t_first, .inl (cI, 60, .inl t_first)), (q_t_second, .inl (cI, 60, .inl t_second)), (q_t_content, .inl (cL, 60, .inr (.inl t_content)))] sz) := by
  refine Met.ofW (cc := cX3_add) (maxL := 2) (ret := (some .int)) (by decide) rfl ?_
  intro p e s m args below meth c s₁ B hml hv
  obtain ⟨rfl, hsz, hP, hK, hD0, hZ⟩ := hv
  have hx := B.exec
  have hb := B.bytes
  have hr := B.returns
  have hts := atoms_spec (ws := wsX3_add) B.pre
  have hown : s.vm.findClass RX3 = some m.cls := findClass_of_methodNamed B.named
  have hlocks := B.notSynchronized
  subst hsz
  have hD := hD0.self (sz := s.heap.size)
  generalize hAe : va_A [(q_t, .inr (2, [.ref q_t_kind, .ref q_t_first, .ref q_t_second, .ref q_t_content, .int t_count, .int t_version])), (q_t_kind, .inl (cI, 60, .inl t_kind)), (q_t_first, .inl (cI, 60, .inl t_first)), (q_t_second, .inl (cI, 60, .inl t_second)), (q_t_content, .inl (cL, 60, .inr (.inl t_content)))] s.heap.size = A at hD hZ ⊢
  have hA : ∀ q : Nat, s.heap.size ≤ q → A q := fun q h => by rw [← hAe]; exact Or.inr h
  have hS : va_S A s.heap s.heap [] := va_S.rf
  have hP : va_P (dC, dI) vwCl [(q_t, .inr (2, [.ref q_t_kind, .ref q_t_first, .ref q_t_second, .ref q_t_content, .int t_count, .int t_version])), (q_t_kind, .inl (cI, 60, .inl t_kind)), (q_t_first, .inl (cI, 60, .inl t_first)), (q_t_second, .inl (cI, 60, .inl t_second)), (q_t_content, .inl (cL, 60, .inr (.inl t_content)))] s.heap := hP
  have hl := lv_entry ([.ref q_t, .int x1]) (n := 2) (Nat.le_of_ble_eq_true rfl)
  rw [lg_entry_eq]
  generalize (lg_sl ([.ref q_t, .int x1]) ++ List.replicate (2 - (lg_sl ([.ref q_t, .int x1])).length) Slot.unset).toArray = ls at hl ⊢
  have hl : lv_has ls 2 [(0, .ref q_t), (1, .int x1)] := hl
  refine wq hP hS (fun Q hQ H locs hP hS => ?_)
  have htw : ∀ w ∈ AW, w.before _ s = true := fun w h => hts w (List.mem_cons_of_mem _ h)
  have hn0 : ∀ w ∈ wsX30, w ∈ wsX3_add := fun w h => List.mem_cons_of_mem _ (inX3 w h)
  rw [M_Program_add] at hm
  refine lv_aload_n hx hb dX3_add_0 rfl (lv_at hl 0 rfl) ?_
  refine va_get (D := (dC, dI)) (ci := 2) (v := .int t_count) (C := RX3) (T := TX3) (N := 6) hx hb hts hn0 hown hK hP 0 rfl rfl 4 (by decide) (htw _ aw_232) (fun _ h9 => h9) rfl dX3_add_1 ?_
  refine lv_bipush (v := 60) hx hb dX3_add_4 (by decide) ?_
  refine lv_icmp_lt hx hb dX3_add_6 rfl (fun h6 => ?_) (fun h6 => ?_)
  · rw [if_pos h6] at hm
    refine lv_aload_n hx hb dX3_add_11 rfl (lv_at hl 0 rfl) ?_
    refine va_get (D := (dC, dI)) (ci := 2) (v := .ref q_t_kind) (C := RX3) (T := TX3) (N := 6) hx hb hts hn0 hown hK hP 0 rfl rfl 0 (by decide) (htw _ aw_220) (fun _ h9 => h9) rfl dX3_add_12 ?_
    refine lv_aload_n hx hb dX3_add_15 rfl (lv_at hl 0 rfl) ?_
    refine va_get (D := (dC, dI)) (ci := 2) (v := .int t_count) (C := RX3) (T := TX3) (N := 6) hx hb hts hn0 hown hK hP 0 rfl rfl 4 (by decide) (htw _ aw_232) (fun _ h9 => h9) rfl dX3_add_16 ?_
    refine lv_iload_n hx hb dX3_add_19 rfl (lv_at hl 1 rfl) ?_
    obtain ⟨h20, hm⟩ := chk_inv hm
    refine va_iast (D := (dC, dI)) hx hb hK hP hD hS 1 0 rfl rfl (in_of (n := 60) (by decide) h20) dX3_add_20 (fun H locs hP hD hS => ?_)
    have hP : va_P (dC, dI) vwCl [(q_t, .inr (2, [.ref q_t_kind, .ref q_t_first, .ref q_t_second, .ref q_t_content, .int t_count, .int t_version])), (q_t_kind, .inl (cI, 60, .inl (upd t_kind t_count.toNatClampNeg x1))), (q_t_first, .inl (cI, 60, .inl t_first)), (q_t_second, .inl (cI, 60, .inl t_second)), (q_t_content, .inl (cL, 60, .inr (.inl t_content)))] H := hP
    have hD : va_D A [(q_t, .inr (2, [.ref q_t_kind, .ref q_t_first, .ref q_t_second, .ref q_t_content, .int t_count, .int t_version])), (q_t_kind, .inl (cI, 60, .inl (upd t_kind t_count.toNatClampNeg x1))), (q_t_first, .inl (cI, 60, .inl t_first)), (q_t_second, .inl (cI, 60, .inl t_second)), (q_t_content, .inl (cL, 60, .inr (.inl t_content)))] := hD
    refine lv_aload_n hx hb dX3_add_21 rfl (lv_at hl 0 rfl) ?_
    refine va_get (D := (dC, dI)) (ci := 2) (v := .ref q_t_first) (C := RX3) (T := TX3) (N := 6) hx hb hts hn0 hown hK hP 0 rfl rfl 1 (by decide) (htw _ aw_223) (fun _ h9 => h9) rfl dX3_add_22 ?_
    refine lv_aload_n hx hb dX3_add_25 rfl (lv_at hl 0 rfl) ?_
    refine va_get (D := (dC, dI)) (ci := 2) (v := .int t_count) (C := RX3) (T := TX3) (N := 6) hx hb hts hn0 hown hK hP 0 rfl rfl 4 (by decide) (htw _ aw_232) (fun _ h9 => h9) rfl dX3_add_26 ?_
    refine lv_iconst (v := (-1)) hx hb dX3_add_29 (by decide) ?_
    obtain ⟨h30, hm⟩ := chk_inv hm
    refine va_iast (D := (dC, dI)) hx hb hK hP hD hS 2 0 rfl rfl (in_of (n := 60) (by decide) h30) dX3_add_30 (fun H locs hP hD hS => ?_)
    have hP : va_P (dC, dI) vwCl [(q_t, .inr (2, [.ref q_t_kind, .ref q_t_first, .ref q_t_second, .ref q_t_content, .int t_count, .int t_version])), (q_t_kind, .inl (cI, 60, .inl (upd t_kind t_count.toNatClampNeg x1))), (q_t_first, .inl (cI, 60, .inl (upd t_first t_count.toNatClampNeg (-1)))), (q_t_second, .inl (cI, 60, .inl t_second)), (q_t_content, .inl (cL, 60, .inr (.inl t_content)))] H := hP
    have hD : va_D A [(q_t, .inr (2, [.ref q_t_kind, .ref q_t_first, .ref q_t_second, .ref q_t_content, .int t_count, .int t_version])), (q_t_kind, .inl (cI, 60, .inl (upd t_kind t_count.toNatClampNeg x1))), (q_t_first, .inl (cI, 60, .inl (upd t_first t_count.toNatClampNeg (-1)))), (q_t_second, .inl (cI, 60, .inl t_second)), (q_t_content, .inl (cL, 60, .inr (.inl t_content)))] := hD
    refine lv_aload_n hx hb dX3_add_31 rfl (lv_at hl 0 rfl) ?_
    refine va_get (D := (dC, dI)) (ci := 2) (v := .ref q_t_second) (C := RX3) (T := TX3) (N := 6) hx hb hts hn0 hown hK hP 0 rfl rfl 2 (by decide) (htw _ aw_226) (fun _ h9 => h9) rfl dX3_add_32 ?_
    refine lv_aload_n hx hb dX3_add_35 rfl (lv_at hl 0 rfl) ?_
    refine va_get (D := (dC, dI)) (ci := 2) (v := .int t_count) (C := RX3) (T := TX3) (N := 6) hx hb hts hn0 hown hK hP 0 rfl rfl 4 (by decide) (htw _ aw_232) (fun _ h9 => h9) rfl dX3_add_36 ?_
    refine lv_iconst (v := (-1)) hx hb dX3_add_39 (by decide) ?_
    obtain ⟨h40, hm⟩ := chk_inv hm
    refine va_iast (D := (dC, dI)) hx hb hK hP hD hS 3 0 rfl rfl (in_of (n := 60) (by decide) h40) dX3_add_40 (fun H locs hP hD hS => ?_)
    have hP : va_P (dC, dI) vwCl [(q_t, .inr (2, [.ref q_t_kind, .ref q_t_first, .ref q_t_second, .ref q_t_content, .int t_count, .int t_version])), (q_t_kind, .inl (cI, 60, .inl (upd t_kind t_count.toNatClampNeg x1))), (q_t_first, .inl (cI, 60, .inl (upd t_first t_count.toNatClampNeg (-1)))), (q_t_second, .inl (cI, 60, .inl (upd t_second t_count.toNatClampNeg (-1)))), (q_t_content, .inl (cL, 60, .inr (.inl t_content)))] H := hP
    have hD : va_D A [(q_t, .inr (2, [.ref q_t_kind, .ref q_t_first, .ref q_t_second, .ref q_t_content, .int t_count, .int t_version])), (q_t_kind, .inl (cI, 60, .inl (upd t_kind t_count.toNatClampNeg x1))), (q_t_first, .inl (cI, 60, .inl (upd t_first t_count.toNatClampNeg (-1)))), (q_t_second, .inl (cI, 60, .inl (upd t_second t_count.toNatClampNeg (-1)))), (q_t_content, .inl (cL, 60, .inr (.inl t_content)))] := hD
    refine lv_aload_n hx hb dX3_add_41 rfl (lv_at hl 0 rfl) ?_
    refine va_get (D := (dC, dI)) (ci := 2) (v := .ref q_t_content) (C := RX3) (T := TX3) (N := 6) hx hb hts hn0 hown hK hP 0 rfl rfl 3 (by decide) (htw _ aw_229) (fun _ h9 => h9) rfl dX3_add_42 ?_
    refine lv_aload_n hx hb dX3_add_45 rfl (lv_at hl 0 rfl) ?_
    refine va_get (D := (dC, dI)) (ci := 2) (v := .int t_count) (C := RX3) (T := TX3) (N := 6) hx hb hts hn0 hown hK hP 0 rfl rfl 4 (by decide) (htw _ aw_232) (fun _ h9 => h9) rfl dX3_add_46 ?_
    refine lv_lconst (v := 0) hx hb dX3_add_49 (by decide) ?_
    obtain ⟨h50, hm⟩ := chk_inv hm
    refine va_last (D := (dC, dI)) hx hb hK hP hD hS 4 1 rfl rfl (in_of (n := 60) (by decide) h50) dX3_add_50 (fun H locs hP hD hS => ?_)
    have hP : va_P (dC, dI) vwCl [(q_t, .inr (2, [.ref q_t_kind, .ref q_t_first, .ref q_t_second, .ref q_t_content, .int t_count, .int t_version])), (q_t_kind, .inl (cI, 60, .inl (upd t_kind t_count.toNatClampNeg x1))), (q_t_first, .inl (cI, 60, .inl (upd t_first t_count.toNatClampNeg (-1)))), (q_t_second, .inl (cI, 60, .inl (upd t_second t_count.toNatClampNeg (-1)))), (q_t_content, .inl (cL, 60, .inr (.inl (vp_updL t_content t_count.toNatClampNeg 0))))] H := hP
    have hD : va_D A [(q_t, .inr (2, [.ref q_t_kind, .ref q_t_first, .ref q_t_second, .ref q_t_content, .int t_count, .int t_version])), (q_t_kind, .inl (cI, 60, .inl (upd t_kind t_count.toNatClampNeg x1))), (q_t_first, .inl (cI, 60, .inl (upd t_first t_count.toNatClampNeg (-1)))), (q_t_second, .inl (cI, 60, .inl (upd t_second t_count.toNatClampNeg (-1)))), (q_t_content, .inl (cL, 60, .inr (.inl (vp_updL t_content t_count.toNatClampNeg 0))))] := hD
    refine lv_aload_n hx hb dX3_add_51 rfl (lv_at hl 0 rfl) ?_
    refine lv_dup hx hb dX3_add_52 rfl ?_
    refine va_get (D := (dC, dI)) (ci := 2) (v := .int t_count) (C := RX3) (T := TX3) (N := 6) hx hb hts hn0 hown hK hP 0 rfl rfl 4 (by decide) (htw _ aw_232) (fun _ h9 => h9) rfl dX3_add_53 ?_
    refine lv_iconst (v := 1) hx hb dX3_add_56 (by decide) ?_
    refine lv_iadd hx hb dX3_add_57 ?_
    refine va_put (D := (dC, dI)) (ci := 2) (v := .int (t_count + 1)) (ty := .int) (C := RX3) (T := TX3) (N := 6) hx hb hts hn0 tyX3 tyX3_ok nmX3 hown hK hP hD hS 0 rfl rfl 4 (by decide) (htw _ aw_232) (fun _ h9 => h9) rfl (by decide +kernel) rfl rfl (Nat.le_of_ble_eq_true rfl) dX3_add_58 (fun H locs hP hD hS => ?_)
    have hP : va_P (dC, dI) vwCl [(q_t, .inr (2, [.ref q_t_kind, .ref q_t_first, .ref q_t_second, .ref q_t_content, .int (t_count + 1), .int t_version])), (q_t_kind, .inl (cI, 60, .inl (upd t_kind t_count.toNatClampNeg x1))), (q_t_first, .inl (cI, 60, .inl (upd t_first t_count.toNatClampNeg (-1)))), (q_t_second, .inl (cI, 60, .inl (upd t_second t_count.toNatClampNeg (-1)))), (q_t_content, .inl (cL, 60, .inr (.inl (vp_updL t_content t_count.toNatClampNeg 0))))] H := hP
    have hD : va_D A [(q_t, .inr (2, [.ref q_t_kind, .ref q_t_first, .ref q_t_second, .ref q_t_content, .int (t_count + 1), .int t_version])), (q_t_kind, .inl (cI, 60, .inl (upd t_kind t_count.toNatClampNeg x1))), (q_t_first, .inl (cI, 60, .inl (upd t_first t_count.toNatClampNeg (-1)))), (q_t_second, .inl (cI, 60, .inl (upd t_second t_count.toNatClampNeg (-1)))), (q_t_content, .inl (cL, 60, .inr (.inl (vp_updL t_content t_count.toNatClampNeg 0))))] := hD
    refine lv_aload_n hx hb dX3_add_61 rfl (lv_at hl 0 rfl) ?_
    refine va_get (D := (dC, dI)) (ci := 2) (v := .int (t_count + 1)) (C := RX3) (T := TX3) (N := 6) hx hb hts hn0 hown hK hP 0 rfl rfl 4 (by decide) (htw _ aw_232) (fun _ h9 => h9) rfl dX3_add_62 ?_
    refine lv_iconst (v := 1) hx hb dX3_add_65 (by decide) ?_
    refine lv_isub hx hb dX3_add_66 ?_
    obtain ⟨rfl, rfl, rfl, rfl, rfl, rfl⟩ := ij6 hm
    subst hQ
    exact W.iret hx hb hr (fun t ht hW => ⟨⟨_, (), rfl, rfl, by rw [ht]; exact hP, va_K.moved hW.alike hK, hD⟩, hS.F ht⟩) hS.2.2 dX3_add_67
  · rw [if_neg h6] at hm
    refine lv_iconst (v := (-1)) hx hb dX3_add_9 (by decide) ?_
    obtain ⟨rfl, rfl, rfl, rfl, rfl, rfl⟩ := ij6 hm
    subst hQ
    exact W.iret hx hb hr (fun t ht hW => ⟨⟨_, (), rfl, rfl, by rw [ht]; exact hP, va_K.moved hW.alike hK, hD⟩, hS.F ht⟩) hS.2.2 dX3_add_10
def M_Program_signed (x0 : Int32) : Option (Int32) :=
  (if (x0 &&& 1) = 0 then
    some (x0 / 2)
  else
    some ((-(x0 / 2)) - 1))
set_option maxHeartbeats 4000000 in
set_option maxRecDepth 100000 in
theorem c_Program_signed (l : Launch) (dC : Nat → ClassId) (dI : Nat → Nat → Nat) (cI cL : ClassId) (sz : Nat) (x0 r0 : Int32) (hm : M_Program_signed x0 = some r0) : Met l yX3_signed wsX3_signed ({ frames := 0, cells := 0, slots := 0, locals := 0 }) (frPc (dC, dI) vwCl [(cI, .int), (cL, .long)] [] sz [.int x0]) (va_Qi (fun (r : Int32) (_ : Unit) => r = r0) (frB (dC, dI) vwCl [(cI, .int), (cL, .long)] (va_A [] sz) []) (va_A [] sz)) 0 0 (va_A [] sz) := by
  refine Met.ofW (cc := cX3_signed) (maxL := 1) (ret := (some .int)) (by decide) rfl ?_
  intro p e s m args below meth c s₁ B hml hv
  obtain ⟨rfl, hsz, hP, hK, hD0, hZ⟩ := hv
  have hx := B.exec
  have hb := B.bytes
  have hr := B.returns
  have hts := atoms_spec (ws := wsX3_signed) B.pre
  have hown : s.vm.findClass RX3 = some m.cls := findClass_of_methodNamed B.named
  have hlocks := B.notSynchronized
  subst hsz
  have hD := hD0.self (sz := s.heap.size)
  generalize hAe : va_A [] s.heap.size = A at hD hZ ⊢
  have hA : ∀ q : Nat, s.heap.size ≤ q → A q := fun q h => by rw [← hAe]; exact Or.inr h
  have hS : va_S A s.heap s.heap [] := va_S.rf
  have hP : va_P (dC, dI) vwCl [] s.heap := hP
  have hl := lv_entry ([.int x0]) (n := 1) (Nat.le_of_ble_eq_true rfl)
  rw [lg_entry_eq]
  generalize (lg_sl ([.int x0]) ++ List.replicate (1 - (lg_sl ([.int x0])).length) Slot.unset).toArray = ls at hl ⊢
  have hl : lv_has ls 1 [(0, .int x0)] := hl
  refine wq hP hS (fun Q hQ H locs hP hS => ?_)
  have htw : ∀ w ∈ AW, w.before _ s = true := fun w h => hts w (List.mem_cons_of_mem _ h)
  rw [M_Program_signed] at hm
  refine lv_iload_n hx hb dX3_signed_0 rfl (lv_at hl 0 rfl) ?_
  refine lv_iconst (v := 1) hx hb dX3_signed_1 (by decide) ?_
  refine lv_iand hx hb dX3_signed_2 ?_
  refine lv_if_ne hx hb dX3_signed_3 rfl (fun h3 => ?_) (fun h3 => ?_)
  · rw [if_neg h3] at hm
    refine lv_iload_n hx hb dX3_signed_12 rfl (lv_at hl 0 rfl) ?_
    refine lv_iconst (v := 2) hx hb dX3_signed_13 (by decide) ?_
    refine lv_idiv hx hb dX3_signed_14 (by decide) ?_
    refine lv_ineg hx hb dX3_signed_15 ?_
    refine lv_iconst (v := 1) hx hb dX3_signed_16 (by decide) ?_
    refine lv_isub hx hb dX3_signed_17 ?_
    obtain rfl := Option.some.inj hm
    subst hQ
    exact W.iret hx hb hr (fun t ht hW => ⟨⟨_, (), rfl, rfl, by rw [ht]; exact hP, va_K.moved hW.alike hK, hD⟩, hS.F ht⟩) hS.2.2 dX3_signed_18
  · rw [if_pos h3] at hm
    refine lv_iload_n hx hb dX3_signed_6 rfl (lv_at hl 0 rfl) ?_
    refine lv_iconst (v := 2) hx hb dX3_signed_7 (by decide) ?_
    refine lv_idiv hx hb dX3_signed_8 (by decide) ?_
    refine lv_goto hx hb dX3_signed_9 rfl ?_
    obtain rfl := Option.some.inj hm
    subst hQ
    exact W.iret hx hb hr (fun t ht hW => ⟨⟨_, (), rfl, rfl, by rw [ht]; exact hP, va_K.moved hW.alike hK, hD⟩, hS.F ht⟩) hS.2.2 dX3_signed_18
def M_Program_takeConstant (a0_length : Int32) (a0_place : Int32) (a0_wrong : Int32) (a0_bytes : Nat → Int32) (x1 : Int32) : Option (Int64 × Int32 × Int32) :=
  (if x1 = 0 then
    c3 (M_Text_takeNatural a0_length a0_place a0_wrong a0_bytes) (fun r33 t_place_33 t_wrong_33 =>
      c1 (M_Program_signed r33) (fun r36 =>
        some (r36.toInt64, t_place_33, t_wrong_33)))
  else
    (if x1 = 1 then
      c3 (M_Text_take a0_length a0_place a0_wrong a0_bytes (1 : Int32)) (fun r43 t_place_43 t_wrong_43 =>
        some (r43.toInt64, t_place_43, t_wrong_43))
    else
      (if x1 = 2 then
        some (0, a0_place, a0_wrong)
      else
        (if x1 = 3 then
          c3 (M_Text_takeBytes a0_length a0_place a0_wrong a0_bytes) (fun r49 t_place_49 t_wrong_49 =>
            some (r49, t_place_49, t_wrong_49))
        else
          some (0, a0_place, a0_wrong)))))
set_option maxHeartbeats 4000000 in
set_option maxRecDepth 100000 in
theorem c_Program_takeConstant (l : Launch) (dC : Nat → ClassId) (dI : Nat → Nat → Nat) (cI cL : ClassId) (sz : Nat) (q_a0 q_a0_bytes : Nat) (a0_length a0_place a0_wrong : Int32) (a0_bytes : Nat → Int32) (x1 : Int32) (r0 : Int64) (u_a0_place u_a0_wrong : Int32) (hm : M_Program_takeConstant a0_length a0_place a0_wrong a0_bytes x1 = some (r0, u_a0_place, u_a0_wrong)) : Met l yX3_takeConstant wsX3_takeConstant ({ frames := 3, cells := 0, slots := 0, locals := 69 }) (frPc (dC, dI) vwCl [(cI, .int), (cL, .long)] [(q_a0, .inr (5, [.ref q_a0_bytes, .int a0_length, .int a0_place, .int a0_wrong])), (q_a0_bytes, .inl (cI, 80, .inl a0_bytes))] sz [.ref q_a0, .int x1]) (va_Ql (fun (r : Int64) (_ : Unit) => r = r0) (frB (dC, dI) vwCl [(cI, .int), (cL, .long)] (va_A [(q_a0, .inr (5, [.ref q_a0_bytes, .int a0_length, .int a0_place, .int a0_wrong])), (q_a0_bytes, .inl (cI, 80, .inl a0_bytes))] sz) [(q_a0, .inr (5, [.ref q_a0_bytes, .int a0_length, .int u_a0_place, .int u_a0_wrong])), (q_a0_bytes, .inl (cI, 80, .inl a0_bytes))]) (va_A [(q_a0, .inr (5, [.ref q_a0_bytes, .int a0_length, .int a0_place, .int a0_wrong])), (q_a0_bytes, .inl (cI, 80, .inl a0_bytes))] sz)) 0 0 (va_A [(q_a0, .inr (5, [.ref q_a0_bytes, .int a0_length, .int a0_place, .int a0_wrong])), (q_a0_bytes, .inl (cI, 80, .inl a0_bytes))] sz) := by
  refine Met.ofW (cc := cX3_takeConstant) (maxL := 2) (ret := (some .long)) (by decide) rfl ?_
  intro p e s m args below meth c s₁ B hml hv
  obtain ⟨rfl, hsz, hP, hK, hD0, hZ⟩ := hv
  have hx := B.exec
  have hb := B.bytes
  have hr := B.returns
  have hts := atoms_spec (ws := wsX3_takeConstant) B.pre
  have hown : s.vm.findClass RX3 = some m.cls := findClass_of_methodNamed B.named
  have hlocks := B.notSynchronized
  subst hsz
  have hD := hD0.self (sz := s.heap.size)
  generalize hAe : va_A [(q_a0, .inr (5, [.ref q_a0_bytes, .int a0_length, .int a0_place, .int a0_wrong])), (q_a0_bytes, .inl (cI, 80, .inl a0_bytes))] s.heap.size = A at hD hZ ⊢
  have hA : ∀ q : Nat, s.heap.size ≤ q → A q := fun q h => by rw [← hAe]; exact Or.inr h
  have hS : va_S A s.heap s.heap [] := va_S.rf
  have hP : va_P (dC, dI) vwCl [(q_a0, .inr (5, [.ref q_a0_bytes, .int a0_length, .int a0_place, .int a0_wrong])), (q_a0_bytes, .inl (cI, 80, .inl a0_bytes))] s.heap := hP
  have hl := lv_entry ([.ref q_a0, .int x1]) (n := 2) (Nat.le_of_ble_eq_true rfl)
  rw [lg_entry_eq]
  generalize (lg_sl ([.ref q_a0, .int x1]) ++ List.replicate (2 - (lg_sl ([.ref q_a0, .int x1])).length) Slot.unset).toArray = ls at hl ⊢
  have hl : lv_has ls 2 [(0, .ref q_a0), (1, .int x1)] := hl
  refine wq hP hS (fun Q hQ H locs hP hS => ?_)
  have htw : ∀ w ∈ AW, w.before _ s = true := fun w h => hts w (List.mem_cons_of_mem _ h)
  rw [M_Program_takeConstant] at hm
  refine lv_iload_n hx hb dX3_takeConstant_0 rfl (lv_at hl 1 rfl) ?_
  by_cases h1_0 : x1 = 0
  · rw [if_pos h1_0] at hm
    refine lv_tableIn hx hb dX3_takeConstant_1 (by rw [h1_0]; decide) (by rw [h1_0]; decide) (by rw [h1_0]; rfl) rfl ?_
    refine lv_aload_n hx hb dX3_takeConstant_32 rfl (lv_at hl 0 rfl) ?_
    obtain ⟨r33, t_place_33, t_wrong_33, e33, hm⟩ := c3_inv hm
    refine fr_i (wr := []) (w2 := [(q_a0, .inr (5, [.ref q_a0_bytes, .int a0_length, .int t_place_33, .int t_wrong_33])), (q_a0_bytes, .inl (cI, 80, .inl a0_bytes))]) (va_runV (As := []) (rest := []) ⟨hx, hb, hml, hown, hts⟩ (c_Text_takeNatural l dC dI cI cL H.size q_a0 q_a0_bytes a0_length a0_place a0_wrong a0_bytes r33 t_place_33 t_wrong_33 e33) (kV 0 hts aw_277 rfl rfl aw_2 aw_274 aw_275 aw_276 (by decide +kernel) ⟨Nat.le_of_ble_eq_true rfl, Nat.le_of_ble_eq_true rfl⟩) (fr_preV hK hP hD hS hA hZ [0, 1] rfl rfl (ci := 5) (q0 := 0) rfl rfl) rfl rfl hl.1 rfl (lv_room (Nat.le_of_ble_eq_true rfl)) dX3_takeConstant_33 ⟨Nat.le_of_ble_eq_true rfl, Nat.le_of_ble_eq_true rfl⟩) hP hD hS hA [0, 1] [] [0, 1] rfl rfl rfl (by decide) rfl rfl (fun H locs hP hD hS => ?_)
    have hP : va_P (dC, dI) vwCl [(q_a0, .inr (5, [.ref q_a0_bytes, .int a0_length, .int t_place_33, .int t_wrong_33])), (q_a0_bytes, .inl (cI, 80, .inl a0_bytes))] H := hP
    have hD : va_D A [(q_a0, .inr (5, [.ref q_a0_bytes, .int a0_length, .int t_place_33, .int t_wrong_33])), (q_a0_bytes, .inl (cI, 80, .inl a0_bytes))] := hD
    obtain ⟨r36, e36, hm⟩ := c1_inv hm
    refine fr_i (wr := [(q_a0, .inr (5, [.ref q_a0_bytes, .int a0_length, .int t_place_33, .int t_wrong_33])), (q_a0_bytes, .inl (cI, 80, .inl a0_bytes))]) (w2 := [(q_a0, .inr (5, [.ref q_a0_bytes, .int a0_length, .int t_place_33, .int t_wrong_33])), (q_a0_bytes, .inl (cI, 80, .inl a0_bytes))]) (va_runS (As := [.int r33]) (rest := []) ⟨hx, hb, hml, hown, hts⟩ (c_Program_signed l dC dI cI cL H.size r33 r36 e36) (kS 1 hts aw_317 rfl rfl aw_8 aw_315 aw_316 (by decide +kernel) ⟨Nat.le_of_ble_eq_true rfl, Nat.le_of_ble_eq_true rfl⟩) (fr_preS hK hP hD hS hA hZ [] rfl rfl) rfl rfl hl.1 rfl (lv_room (Nat.le_of_ble_eq_true rfl)) dX3_takeConstant_36 ⟨Nat.le_of_ble_eq_true rfl, Nat.le_of_ble_eq_true rfl⟩) hP hD hS hA [] [0, 1] [0, 1] rfl rfl rfl (by decide) rfl rfl (fun H locs hP hD hS => ?_)
    have hP : va_P (dC, dI) vwCl [(q_a0, .inr (5, [.ref q_a0_bytes, .int a0_length, .int t_place_33, .int t_wrong_33])), (q_a0_bytes, .inl (cI, 80, .inl a0_bytes))] H := hP
    have hD : va_D A [(q_a0, .inr (5, [.ref q_a0_bytes, .int a0_length, .int t_place_33, .int t_wrong_33])), (q_a0_bytes, .inl (cI, 80, .inl a0_bytes))] := hD
    refine lv_i2l (v := r36.toInt64) hx hb dX3_takeConstant_39 rfl ?_
    obtain ⟨rfl, rfl, rfl⟩ := ij3 hm
    subst hQ
    exact W.lret hx hb hr (fun t ht hW => ⟨⟨_, (), rfl, rfl, by rw [ht]; exact hP, va_K.moved hW.alike hK, hD⟩, hS.F ht⟩) hS.2.2 dX3_takeConstant_40
  · rw [if_neg h1_0] at hm
    by_cases h1_1 : x1 = 1
    · rw [if_pos h1_1] at hm
      refine lv_tableIn hx hb dX3_takeConstant_1 (by rw [h1_1]; decide) (by rw [h1_1]; decide) (by rw [h1_1]; rfl) rfl ?_
      refine lv_aload_n hx hb dX3_takeConstant_41 rfl (lv_at hl 0 rfl) ?_
      refine lv_iconst (v := 1) hx hb dX3_takeConstant_42 (by decide) ?_
      obtain ⟨r43, t_place_43, t_wrong_43, e43, hm⟩ := c3_inv hm
      refine fr_i (wr := []) (w2 := [(q_a0, .inr (5, [.ref q_a0_bytes, .int a0_length, .int t_place_43, .int t_wrong_43])), (q_a0_bytes, .inl (cI, 80, .inl a0_bytes))]) (va_runV (As := [.int 1]) (rest := []) ⟨hx, hb, hml, hown, hts⟩ (c_Text_take l dC dI cI cL H.size q_a0 q_a0_bytes a0_length a0_place a0_wrong a0_bytes (1 : Int32) r43 t_place_43 t_wrong_43 e43) (kV 1 hts aw_281 rfl rfl aw_2 aw_303 aw_279 aw_280 (by decide +kernel) ⟨Nat.le_of_ble_eq_true rfl, Nat.le_of_ble_eq_true rfl⟩) (fr_preV hK hP hD hS hA hZ [0, 1] rfl rfl (ci := 5) (q0 := 0) rfl rfl) rfl rfl hl.1 rfl (lv_room (Nat.le_of_ble_eq_true rfl)) dX3_takeConstant_43 ⟨Nat.le_of_ble_eq_true rfl, Nat.le_of_ble_eq_true rfl⟩) hP hD hS hA [0, 1] [] [0, 1] rfl rfl rfl (by decide) rfl rfl (fun H locs hP hD hS => ?_)
      have hP : va_P (dC, dI) vwCl [(q_a0, .inr (5, [.ref q_a0_bytes, .int a0_length, .int t_place_43, .int t_wrong_43])), (q_a0_bytes, .inl (cI, 80, .inl a0_bytes))] H := hP
      have hD : va_D A [(q_a0, .inr (5, [.ref q_a0_bytes, .int a0_length, .int t_place_43, .int t_wrong_43])), (q_a0_bytes, .inl (cI, 80, .inl a0_bytes))] := hD
      refine lv_i2l (v := r43.toInt64) hx hb dX3_takeConstant_46 rfl ?_
      obtain ⟨rfl, rfl, rfl⟩ := ij3 hm
      subst hQ
      exact W.lret hx hb hr (fun t ht hW => ⟨⟨_, (), rfl, rfl, by rw [ht]; exact hP, va_K.moved hW.alike hK, hD⟩, hS.F ht⟩) hS.2.2 dX3_takeConstant_47
    · rw [if_neg h1_1] at hm
      by_cases h1_2 : x1 = 2
      · rw [if_pos h1_2] at hm
        refine lv_tableIn hx hb dX3_takeConstant_1 (by rw [h1_2]; decide) (by rw [h1_2]; decide) (by rw [h1_2]; rfl) rfl ?_
        refine lv_lconst (v := 0) hx hb dX3_takeConstant_53 (by decide) ?_
        obtain ⟨rfl, rfl, rfl⟩ := ij3 hm
        subst hQ
        exact W.lret hx hb hr (fun t ht hW => ⟨⟨_, (), rfl, rfl, by rw [ht]; exact hP, va_K.moved hW.alike hK, hD⟩, hS.F ht⟩) hS.2.2 dX3_takeConstant_54
      · rw [if_neg h1_2] at hm
        by_cases h1_3 : x1 = 3
        · rw [if_pos h1_3] at hm
          refine lv_tableIn hx hb dX3_takeConstant_1 (by rw [h1_3]; decide) (by rw [h1_3]; decide) (by rw [h1_3]; rfl) rfl ?_
          refine lv_aload_n hx hb dX3_takeConstant_48 rfl (lv_at hl 0 rfl) ?_
          obtain ⟨r49, t_place_49, t_wrong_49, e49, hm⟩ := c3_inv hm
          refine fr_l (wr := []) (w2 := [(q_a0, .inr (5, [.ref q_a0_bytes, .int a0_length, .int t_place_49, .int t_wrong_49])), (q_a0_bytes, .inl (cI, 80, .inl a0_bytes))]) (va_runV (As := []) (rest := []) ⟨hx, hb, hml, hown, hts⟩ (c_Text_takeBytes l dC dI cI cL H.size q_a0 q_a0_bytes a0_length a0_place a0_wrong a0_bytes r49 t_place_49 t_wrong_49 e49) (kV 0 hts aw_321 rfl rfl aw_2 aw_318 aw_319 aw_320 (by decide +kernel) ⟨Nat.le_of_ble_eq_true rfl, Nat.le_of_ble_eq_true rfl⟩) (fr_preV hK hP hD hS hA hZ [0, 1] rfl rfl (ci := 5) (q0 := 0) rfl rfl) rfl rfl hl.1 rfl (lv_room (Nat.le_of_ble_eq_true rfl)) dX3_takeConstant_49 ⟨Nat.le_of_ble_eq_true rfl, Nat.le_of_ble_eq_true rfl⟩) hP hD hS hA [0, 1] [] [0, 1] rfl rfl rfl (by decide) rfl rfl (fun H locs hP hD hS => ?_)
          have hP : va_P (dC, dI) vwCl [(q_a0, .inr (5, [.ref q_a0_bytes, .int a0_length, .int t_place_49, .int t_wrong_49])), (q_a0_bytes, .inl (cI, 80, .inl a0_bytes))] H := hP
          have hD : va_D A [(q_a0, .inr (5, [.ref q_a0_bytes, .int a0_length, .int t_place_49, .int t_wrong_49])), (q_a0_bytes, .inl (cI, 80, .inl a0_bytes))] := hD
          obtain ⟨rfl, rfl, rfl⟩ := ij3 hm
          subst hQ
          exact W.lret hx hb hr (fun t ht hW => ⟨⟨_, (), rfl, rfl, by rw [ht]; exact hP, va_K.moved hW.alike hK, hD⟩, hS.F ht⟩) hS.2.2 dX3_takeConstant_52
        · rw [if_neg h1_3] at hm
          refine lv_tableOut hx hb dX3_takeConstant_1 (by have g1_0 := lv_neT h1_0 (show (0 : Int32).toInt = 0 from by decide); have g1_1 := lv_neT h1_1 (show (1 : Int32).toInt = 1 from by decide); have g1_2 := lv_neT h1_2 (show (2 : Int32).toInt = 2 from by decide); have g1_3 := lv_neT h1_3 (show (3 : Int32).toInt = 3 from by decide); omega) rfl ?_
          refine lv_lconst (v := 0) hx hb dX3_takeConstant_53 (by decide) ?_
          obtain ⟨rfl, rfl, rfl⟩ := ij3 hm
          subst hQ
          exact W.lret hx hb hr (fun t ht hW => ⟨⟨_, (), rfl, rfl, by rw [ht]; exact hP, va_K.moved hW.alike hK, hD⟩, hS.F ht⟩) hS.2.2 dX3_takeConstant_54
def M_Program_takeOperation (a0_length : Int32) (a0_place : Int32) (a0_wrong : Int32) (a0_bytes : Nat → Int32) : Option (Int32 × Int32 × Int32) :=
  c3 (M_Text_take a0_length a0_place a0_wrong a0_bytes (4 : Int32)) (fun r2 t_place_2 t_wrong_2 =>
    (if r2 ≤ 11 then
      some (r2, t_place_2, t_wrong_2)
    else
      c1 (M_Text_refuseLatest t_place_2 t_wrong_2) (fun t_wrong_13 =>
        some (r2, t_place_2, t_wrong_13))))
set_option maxHeartbeats 4000000 in
set_option maxRecDepth 100000 in
theorem c_Program_takeOperation (l : Launch) (dC : Nat → ClassId) (dI : Nat → Nat → Nat) (cI cL : ClassId) (sz : Nat) (q_a0 q_a0_bytes : Nat) (a0_length a0_place a0_wrong : Int32) (a0_bytes : Nat → Int32) (r0 u_a0_place u_a0_wrong : Int32) (hm : M_Program_takeOperation a0_length a0_place a0_wrong a0_bytes = some (r0, u_a0_place, u_a0_wrong)) : Met l yX3_takeOperation wsX3_takeOperation ({ frames := 2, cells := 0, slots := 0, locals := 45 }) (frPc (dC, dI) vwCl [(cI, .int), (cL, .long)] [(q_a0, .inr (5, [.ref q_a0_bytes, .int a0_length, .int a0_place, .int a0_wrong])), (q_a0_bytes, .inl (cI, 80, .inl a0_bytes))] sz [.ref q_a0]) (va_Qi (fun (r : Int32) (_ : Unit) => r = r0) (frB (dC, dI) vwCl [(cI, .int), (cL, .long)] (va_A [(q_a0, .inr (5, [.ref q_a0_bytes, .int a0_length, .int a0_place, .int a0_wrong])), (q_a0_bytes, .inl (cI, 80, .inl a0_bytes))] sz) [(q_a0, .inr (5, [.ref q_a0_bytes, .int a0_length, .int u_a0_place, .int u_a0_wrong])), (q_a0_bytes, .inl (cI, 80, .inl a0_bytes))]) (va_A [(q_a0, .inr (5, [.ref q_a0_bytes, .int a0_length, .int a0_place, .int a0_wrong])), (q_a0_bytes, .inl (cI, 80, .inl a0_bytes))] sz)) 0 0 (va_A [(q_a0, .inr (5, [.ref q_a0_bytes, .int a0_length, .int a0_place, .int a0_wrong])), (q_a0_bytes, .inl (cI, 80, .inl a0_bytes))] sz) := by
  refine Met.ofW (cc := cX3_takeOperation) (maxL := 2) (ret := (some .int)) (by decide) rfl ?_
  intro p e s m args below meth c s₁ B hml hv
  obtain ⟨rfl, hsz, hP, hK, hD0, hZ⟩ := hv
  have hx := B.exec
  have hb := B.bytes
  have hr := B.returns
  have hts := atoms_spec (ws := wsX3_takeOperation) B.pre
  have hown : s.vm.findClass RX3 = some m.cls := findClass_of_methodNamed B.named
  have hlocks := B.notSynchronized
  subst hsz
  have hD := hD0.self (sz := s.heap.size)
  generalize hAe : va_A [(q_a0, .inr (5, [.ref q_a0_bytes, .int a0_length, .int a0_place, .int a0_wrong])), (q_a0_bytes, .inl (cI, 80, .inl a0_bytes))] s.heap.size = A at hD hZ ⊢
  have hA : ∀ q : Nat, s.heap.size ≤ q → A q := fun q h => by rw [← hAe]; exact Or.inr h
  have hS : va_S A s.heap s.heap [] := va_S.rf
  have hP : va_P (dC, dI) vwCl [(q_a0, .inr (5, [.ref q_a0_bytes, .int a0_length, .int a0_place, .int a0_wrong])), (q_a0_bytes, .inl (cI, 80, .inl a0_bytes))] s.heap := hP
  have hl := lv_entry ([.ref q_a0]) (n := 2) (Nat.le_of_ble_eq_true rfl)
  rw [lg_entry_eq]
  generalize (lg_sl ([.ref q_a0]) ++ List.replicate (2 - (lg_sl ([.ref q_a0])).length) Slot.unset).toArray = ls at hl ⊢
  have hl : lv_has ls 2 [(0, .ref q_a0)] := hl
  refine wq hP hS (fun Q hQ H locs hP hS => ?_)
  have htw : ∀ w ∈ AW, w.before _ s = true := fun w h => hts w (List.mem_cons_of_mem _ h)
  rw [M_Program_takeOperation] at hm
  refine lv_aload_n hx hb dX3_takeOperation_0 rfl (lv_at hl 0 rfl) ?_
  refine lv_iconst (v := 4) hx hb dX3_takeOperation_1 (by decide) ?_
  obtain ⟨r2, t_place_2, t_wrong_2, e2, hm⟩ := c3_inv hm
  refine fr_i (wr := []) (w2 := [(q_a0, .inr (5, [.ref q_a0_bytes, .int a0_length, .int t_place_2, .int t_wrong_2])), (q_a0_bytes, .inl (cI, 80, .inl a0_bytes))]) (va_runV (As := [.int 4]) (rest := []) ⟨hx, hb, hml, hown, hts⟩ (c_Text_take l dC dI cI cL H.size q_a0 q_a0_bytes a0_length a0_place a0_wrong a0_bytes (4 : Int32) r2 t_place_2 t_wrong_2 e2) (kV 1 hts aw_281 rfl rfl aw_2 aw_303 aw_279 aw_280 (by decide +kernel) ⟨Nat.le_of_ble_eq_true rfl, Nat.le_of_ble_eq_true rfl⟩) (fr_preV hK hP hD hS hA hZ [0, 1] rfl rfl (ci := 5) (q0 := 0) rfl rfl) rfl rfl hl.1 rfl (lv_room (Nat.le_of_ble_eq_true rfl)) dX3_takeOperation_2 ⟨Nat.le_of_ble_eq_true rfl, Nat.le_of_ble_eq_true rfl⟩) hP hD hS hA [0, 1] [] [0, 1] rfl rfl rfl (by decide) rfl rfl (fun H locs hP hD hS => ?_)
  have hP : va_P (dC, dI) vwCl [(q_a0, .inr (5, [.ref q_a0_bytes, .int a0_length, .int t_place_2, .int t_wrong_2])), (q_a0_bytes, .inl (cI, 80, .inl a0_bytes))] H := hP
  have hD : va_D A [(q_a0, .inr (5, [.ref q_a0_bytes, .int a0_length, .int t_place_2, .int t_wrong_2])), (q_a0_bytes, .inl (cI, 80, .inl a0_bytes))] := hD
  refine lv_istore_n (lv' := [(1, .int r2), (0, .ref q_a0)]) hx hb dX3_takeOperation_5 rfl hl (by decide) rfl (fun ls hl => ?_)
  refine lv_iload_n hx hb dX3_takeOperation_6 rfl (lv_at hl 0 rfl) ?_
  refine lv_bipush (v := 11) hx hb dX3_takeOperation_7 (by decide) ?_
  refine lv_icmp_le hx hb dX3_takeOperation_9 rfl (fun h9 => ?_) (fun h9 => ?_)
  · rw [if_pos h9] at hm
    refine lv_iload_n hx hb dX3_takeOperation_16 rfl (lv_at hl 0 rfl) ?_
    obtain ⟨rfl, rfl, rfl⟩ := ij3 hm
    subst hQ
    exact W.iret hx hb hr (fun t ht hW => ⟨⟨_, (), rfl, rfl, by rw [ht]; exact hP, va_K.moved hW.alike hK, hD⟩, hS.F ht⟩) hS.2.2 dX3_takeOperation_17
  · rw [if_neg h9] at hm
    refine lv_aload_n hx hb dX3_takeOperation_12 rfl (lv_at hl 1 rfl) ?_
    obtain ⟨t_wrong_13, e13, hm⟩ := c1_inv hm
    refine fr_v (wr := [(q_a0_bytes, .inl (cI, 80, .inl a0_bytes))]) (w2 := [(q_a0, .inr (5, [.ref q_a0_bytes, .int a0_length, .int t_place_2, .int t_wrong_13])), (q_a0_bytes, .inl (cI, 80, .inl a0_bytes))]) (va_runV (As := []) (rest := []) ⟨hx, hb, hml, hown, hts⟩ (c_Text_refuseLatest l dC dI cI cL H.size q_a0 q_a0_bytes a0_length t_place_2 t_wrong_2 t_wrong_13 e13) (kV 0 hts aw_298 rfl rfl aw_2 aw_308 aw_296 aw_297 (by decide +kernel) ⟨Nat.le_of_ble_eq_true rfl, Nat.le_of_ble_eq_true rfl⟩) (fr_preV hK hP hD hS hA hZ [0] rfl rfl (ci := 5) (q0 := 0) rfl rfl) rfl rfl hl.1 rfl (lv_room (Nat.le_of_ble_eq_true rfl)) dX3_takeOperation_13 ⟨Nat.le_of_ble_eq_true rfl, Nat.le_of_ble_eq_true rfl⟩) hP hD hS hA [0] [1] [1, 0] rfl rfl rfl (by decide) rfl rfl (fun H locs hP hD hS => ?_)
    have hP : va_P (dC, dI) vwCl [(q_a0, .inr (5, [.ref q_a0_bytes, .int a0_length, .int t_place_2, .int t_wrong_13])), (q_a0_bytes, .inl (cI, 80, .inl a0_bytes))] H := hP
    have hD : va_D A [(q_a0, .inr (5, [.ref q_a0_bytes, .int a0_length, .int t_place_2, .int t_wrong_13])), (q_a0_bytes, .inl (cI, 80, .inl a0_bytes))] := hD
    refine lv_iload_n hx hb dX3_takeOperation_16 rfl (lv_at hl 0 rfl) ?_
    obtain ⟨rfl, rfl, rfl⟩ := ij3 hm
    subst hQ
    exact W.iret hx hb hr (fun t ht hW => ⟨⟨_, (), rfl, rfl, by rw [ht]; exact hP, va_K.moved hW.alike hK, hD⟩, hS.F ht⟩) hS.2.2 dX3_takeOperation_17
def M_Program_takeVariable_15 (a0_length : Int32) (a0_bytes : Nat → Int32) (a0_place : Int32) (a0_wrong : Int32) (v2 : Int32) : Option (Int32 × Int32 × Int32) :=
  c1 (M_Text_refuseLatest a0_place a0_wrong) (fun t_wrong_16 =>
    some (v2, a0_place, t_wrong_16))
def M_Program_takeVariable (a0_length : Int32) (a0_place : Int32) (a0_wrong : Int32) (a0_bytes : Nat → Int32) (x1 : Int32) : Option (Int32 × Int32 × Int32) :=
  c3 (M_Text_takeNatural a0_length a0_place a0_wrong a0_bytes) (fun r1 t_place_1 t_wrong_1 =>
    (if r1 < 1 then
      M_Program_takeVariable_15 a0_length a0_bytes t_place_1 t_wrong_1 r1
    else
      (if r1 ≤ x1 then
        some (r1, t_place_1, t_wrong_1)
      else
        M_Program_takeVariable_15 a0_length a0_bytes t_place_1 t_wrong_1 r1)))
set_option maxHeartbeats 4000000 in
set_option maxRecDepth 100000 in
theorem c_Program_takeVariable (l : Launch) (dC : Nat → ClassId) (dI : Nat → Nat → Nat) (cI cL : ClassId) (sz : Nat) (q_a0 q_a0_bytes : Nat) (a0_length a0_place a0_wrong : Int32) (a0_bytes : Nat → Int32) (x1 r0 u_a0_place u_a0_wrong : Int32) (hm : M_Program_takeVariable a0_length a0_place a0_wrong a0_bytes x1 = some (r0, u_a0_place, u_a0_wrong)) : Met l yX3_takeVariable wsX3_takeVariable ({ frames := 3, cells := 0, slots := 0, locals := 69 }) (frPc (dC, dI) vwCl [(cI, .int), (cL, .long)] [(q_a0, .inr (5, [.ref q_a0_bytes, .int a0_length, .int a0_place, .int a0_wrong])), (q_a0_bytes, .inl (cI, 80, .inl a0_bytes))] sz [.ref q_a0, .int x1]) (va_Qi (fun (r : Int32) (_ : Unit) => r = r0) (frB (dC, dI) vwCl [(cI, .int), (cL, .long)] (va_A [(q_a0, .inr (5, [.ref q_a0_bytes, .int a0_length, .int a0_place, .int a0_wrong])), (q_a0_bytes, .inl (cI, 80, .inl a0_bytes))] sz) [(q_a0, .inr (5, [.ref q_a0_bytes, .int a0_length, .int u_a0_place, .int u_a0_wrong])), (q_a0_bytes, .inl (cI, 80, .inl a0_bytes))]) (va_A [(q_a0, .inr (5, [.ref q_a0_bytes, .int a0_length, .int a0_place, .int a0_wrong])), (q_a0_bytes, .inl (cI, 80, .inl a0_bytes))] sz)) 0 0 (va_A [(q_a0, .inr (5, [.ref q_a0_bytes, .int a0_length, .int a0_place, .int a0_wrong])), (q_a0_bytes, .inl (cI, 80, .inl a0_bytes))] sz) := by
  refine Met.ofW (cc := cX3_takeVariable) (maxL := 3) (ret := (some .int)) (by decide) rfl ?_
  intro p e s m args below meth c s₁ B hml hv
  obtain ⟨rfl, hsz, hP, hK, hD0, hZ⟩ := hv
  have hx := B.exec
  have hb := B.bytes
  have hr := B.returns
  have hts := atoms_spec (ws := wsX3_takeVariable) B.pre
  have hown : s.vm.findClass RX3 = some m.cls := findClass_of_methodNamed B.named
  have hlocks := B.notSynchronized
  subst hsz
  have hD := hD0.self (sz := s.heap.size)
  generalize hAe : va_A [(q_a0, .inr (5, [.ref q_a0_bytes, .int a0_length, .int a0_place, .int a0_wrong])), (q_a0_bytes, .inl (cI, 80, .inl a0_bytes))] s.heap.size = A at hD hZ ⊢
  have hA : ∀ q : Nat, s.heap.size ≤ q → A q := fun q h => by rw [← hAe]; exact Or.inr h
  have hS : va_S A s.heap s.heap [] := va_S.rf
  have hP : va_P (dC, dI) vwCl [(q_a0, .inr (5, [.ref q_a0_bytes, .int a0_length, .int a0_place, .int a0_wrong])), (q_a0_bytes, .inl (cI, 80, .inl a0_bytes))] s.heap := hP
  have hl := lv_entry ([.ref q_a0, .int x1]) (n := 3) (Nat.le_of_ble_eq_true rfl)
  rw [lg_entry_eq]
  generalize (lg_sl ([.ref q_a0, .int x1]) ++ List.replicate (3 - (lg_sl ([.ref q_a0, .int x1])).length) Slot.unset).toArray = ls at hl ⊢
  have hl : lv_has ls 3 [(0, .ref q_a0), (1, .int x1)] := hl
  refine wq hP hS (fun Q hQ H locs hP hS => ?_)
  have htw : ∀ w ∈ AW, w.before _ s = true := fun w h => hts w (List.mem_cons_of_mem _ h)
  have L15 : ∀ (a0_place a0_wrong v2 : Int32) (ls : Array Slot) (H : Heap) (locs : List Loc), M_Program_takeVariable_15 a0_length a0_bytes a0_place a0_wrong v2 = some (r0, u_a0_place, u_a0_wrong) → lv_has ls 3 [(0, .ref q_a0), (2, .int v2)] → va_P (dC, dI) vwCl [(q_a0, .inr (5, [.ref q_a0_bytes, .int a0_length, .int a0_place, .int a0_wrong])), (q_a0_bytes, .inl (cI, 80, .inl a0_bytes))] H → va_D A [(q_a0, .inr (5, [.ref q_a0_bytes, .int a0_length, .int a0_place, .int a0_wrong])), (q_a0_bytes, .inl (cI, 80, .inl a0_bytes))] → va_S A s.heap H locs → W p l e ({ frames := 3, cells := 0, slots := 0, locals := 69 }) s m [.ref q_a0, .int x1].toArray below meth c H locs 0 0 Q (F0 m 15 ls []) := by
    intro a0_place a0_wrong v2 ls H locs hm hl hP hD hS
    rw [M_Program_takeVariable_15] at hm
    refine lv_aload_n hx hb dX3_takeVariable_15 rfl (lv_at hl 0 rfl) ?_
    obtain ⟨t_wrong_16, e16, hm⟩ := c1_inv hm
    refine fr_v (wr := [(q_a0_bytes, .inl (cI, 80, .inl a0_bytes))]) (w2 := [(q_a0, .inr (5, [.ref q_a0_bytes, .int a0_length, .int a0_place, .int t_wrong_16])), (q_a0_bytes, .inl (cI, 80, .inl a0_bytes))]) (va_runV (As := []) (rest := []) ⟨hx, hb, hml, hown, hts⟩ (c_Text_refuseLatest l dC dI cI cL H.size q_a0 q_a0_bytes a0_length a0_place a0_wrong t_wrong_16 e16) (kV 0 hts aw_298 rfl rfl aw_2 aw_308 aw_296 aw_297 (by decide +kernel) ⟨Nat.le_of_ble_eq_true rfl, Nat.le_of_ble_eq_true rfl⟩) (fr_preV hK hP hD hS hA hZ [0] rfl rfl (ci := 5) (q0 := 0) rfl rfl) rfl rfl hl.1 rfl (lv_room (Nat.le_of_ble_eq_true rfl)) dX3_takeVariable_16 ⟨Nat.le_of_ble_eq_true rfl, Nat.le_of_ble_eq_true rfl⟩) hP hD hS hA [0] [1] [1, 0] rfl rfl rfl (by decide) rfl rfl (fun H locs hP hD hS => ?_)
    have hP : va_P (dC, dI) vwCl [(q_a0, .inr (5, [.ref q_a0_bytes, .int a0_length, .int a0_place, .int t_wrong_16])), (q_a0_bytes, .inl (cI, 80, .inl a0_bytes))] H := hP
    have hD : va_D A [(q_a0, .inr (5, [.ref q_a0_bytes, .int a0_length, .int a0_place, .int t_wrong_16])), (q_a0_bytes, .inl (cI, 80, .inl a0_bytes))] := hD
    refine lv_iload_n hx hb dX3_takeVariable_19 rfl (lv_at hl 1 rfl) ?_
    obtain ⟨rfl, rfl, rfl⟩ := ij3 hm
    subst hQ
    exact W.iret hx hb hr (fun t ht hW => ⟨⟨_, (), rfl, rfl, by rw [ht]; exact hP, va_K.moved hW.alike hK, hD⟩, hS.F ht⟩) hS.2.2 dX3_takeVariable_20
  rw [M_Program_takeVariable] at hm
  refine lv_aload_n hx hb dX3_takeVariable_0 rfl (lv_at hl 0 rfl) ?_
  obtain ⟨r1, t_place_1, t_wrong_1, e1, hm⟩ := c3_inv hm
  refine fr_i (wr := []) (w2 := [(q_a0, .inr (5, [.ref q_a0_bytes, .int a0_length, .int t_place_1, .int t_wrong_1])), (q_a0_bytes, .inl (cI, 80, .inl a0_bytes))]) (va_runV (As := []) (rest := []) ⟨hx, hb, hml, hown, hts⟩ (c_Text_takeNatural l dC dI cI cL H.size q_a0 q_a0_bytes a0_length a0_place a0_wrong a0_bytes r1 t_place_1 t_wrong_1 e1) (kV 0 hts aw_277 rfl rfl aw_2 aw_274 aw_275 aw_276 (by decide +kernel) ⟨Nat.le_of_ble_eq_true rfl, Nat.le_of_ble_eq_true rfl⟩) (fr_preV hK hP hD hS hA hZ [0, 1] rfl rfl (ci := 5) (q0 := 0) rfl rfl) rfl rfl hl.1 rfl (lv_room (Nat.le_of_ble_eq_true rfl)) dX3_takeVariable_1 ⟨Nat.le_of_ble_eq_true rfl, Nat.le_of_ble_eq_true rfl⟩) hP hD hS hA [0, 1] [] [0, 1] rfl rfl rfl (by decide) rfl rfl (fun H locs hP hD hS => ?_)
  have hP : va_P (dC, dI) vwCl [(q_a0, .inr (5, [.ref q_a0_bytes, .int a0_length, .int t_place_1, .int t_wrong_1])), (q_a0_bytes, .inl (cI, 80, .inl a0_bytes))] H := hP
  have hD : va_D A [(q_a0, .inr (5, [.ref q_a0_bytes, .int a0_length, .int t_place_1, .int t_wrong_1])), (q_a0_bytes, .inl (cI, 80, .inl a0_bytes))] := hD
  refine lv_istore_n (lv' := [(2, .int r1), (0, .ref q_a0), (1, .int x1)]) hx hb dX3_takeVariable_4 rfl hl (by decide) rfl (fun ls hl => ?_)
  refine lv_iload_n hx hb dX3_takeVariable_5 rfl (lv_at hl 0 rfl) ?_
  refine lv_iconst (v := 1) hx hb dX3_takeVariable_6 (by decide) ?_
  refine lv_icmp_lt hx hb dX3_takeVariable_7 rfl (fun h7 => ?_) (fun h7 => ?_)
  · rw [if_pos h7] at hm
    exact L15 _ _ _ _ _ _ hm (lv_sub hl [1, 0] rfl) hP hD hS
  · rw [if_neg h7] at hm
    refine lv_iload_n hx hb dX3_takeVariable_10 rfl (lv_at hl 0 rfl) ?_
    refine lv_iload_n hx hb dX3_takeVariable_11 rfl (lv_at hl 2 rfl) ?_
    refine lv_icmp_le hx hb dX3_takeVariable_12 rfl (fun h12 => ?_) (fun h12 => ?_)
    · rw [if_pos h12] at hm
      refine lv_iload_n hx hb dX3_takeVariable_19 rfl (lv_at hl 0 rfl) ?_
      obtain ⟨rfl, rfl, rfl⟩ := ij3 hm
      subst hQ
      exact W.iret hx hb hr (fun t ht hW => ⟨⟨_, (), rfl, rfl, by rw [ht]; exact hP, va_K.moved hW.alike hK, hD⟩, hS.F ht⟩) hS.2.2 dX3_takeVariable_20
    · rw [if_neg h12] at hm
      exact L15 _ _ _ _ _ _ hm (lv_sub hl [1, 0] rfl) hP hD hS
def M_Program_fillTerm_43 (rc : Int32 → (Nat → Int32) → (Nat → Int32) → (Nat → Int32) → (Nat → Int64) → Int32 → Int32 → Int32 → (Nat → Int32) → Int32 → Int32 → Option (Int32 × Int32 × (Nat → Int32) × (Nat → Int32) × (Nat → Int32) × (Nat → Int64) × Int32 × Int32)) (a1_length : Int32) (a1_bytes : Nat → Int32) (t_count : Int32) (t_kind : Nat → Int32) (t_first : Nat → Int32) (t_second : Nat → Int32) (t_content : Nat → Int64) (a1_place : Int32) (a1_wrong : Int32) (v2 : Int32) (v3 : Int32) (v4 : Int32) (z0 : Int32) : Option (Int32 × Int32 × (Nat → Int32) × (Nat → Int32) × (Nat → Int32) × (Nat → Int64) × Int32 × Int32) :=
  (if z0 = (-1) then
    c1 (M_Text_refuseLatest a1_place a1_wrong) (fun t_wrong_52 =>
      some ((-1), t_count, t_kind, t_first, t_second, t_content, a1_place, t_wrong_52))
  else
    (if v4 = 0 then
      c3 (M_Program_takeVariable a1_length a1_place a1_wrong a1_bytes v3) (fun r112 a0_place_112 a0_wrong_112 =>
        chk ((0 : Int32) ≤ z0 ∧ z0 < 60) (some (z0, t_count, t_kind, t_first, t_second, vp_updL t_content z0.toNatClampNeg r112.toInt64, a0_place_112, a0_wrong_112)))
    else
      (if v4 = 1 then
        c8 (rc t_count t_kind t_first t_second t_content a1_length a1_place a1_wrong a1_bytes (v2 + 1) v3) (fun r132 t_count_132 t_kind_132 t_first_132 t_second_132 t_content_132 a1_place_132 a1_wrong_132 =>
          chk ((0 : Int32) ≤ z0 ∧ z0 < 60) (some (z0, t_count_132, t_kind_132, upd t_first_132 z0.toNatClampNeg r132, t_second_132, t_content_132, a1_place_132, a1_wrong_132)))
      else
        (if v4 = 2 then
          c8 (rc t_count t_kind t_first t_second t_content a1_length a1_place a1_wrong a1_bytes (v2 + 1) (v3 + 1)) (fun r153 t_count_153 t_kind_153 t_first_153 t_second_153 t_content_153 a1_place_153 a1_wrong_153 =>
            chk ((0 : Int32) ≤ z0 ∧ z0 < 60) (some (z0, t_count_153, t_kind_153, upd t_first_153 z0.toNatClampNeg r153, t_second_153, t_content_153, a1_place_153, a1_wrong_153)))
        else
          (if v4 = 3 then
            c8 (rc t_count t_kind t_first t_second t_content a1_length a1_place a1_wrong a1_bytes (v2 + 1) v3) (fun r172 t_count_172 t_kind_172 t_first_172 t_second_172 t_content_172 a1_place_172 a1_wrong_172 =>
              chk ((0 : Int32) ≤ z0 ∧ z0 < 60) (c8 (rc t_count_172 t_kind_172 (upd t_first_172 z0.toNatClampNeg r172) t_second_172 t_content_172 a1_length a1_place_172 a1_wrong_172 a1_bytes (v2 + 1) v3) (fun r188 t_count_188 t_kind_188 t_first_188 t_second_188 t_content_188 a1_place_188 a1_wrong_188 =>
                chk ((0 : Int32) ≤ z0 ∧ z0 < 60) (some (z0, t_count_188, t_kind_188, t_first_188, upd t_second_188 z0.toNatClampNeg r188, t_content_188, a1_place_188, a1_wrong_188)))))
          else
            (if v4 = 4 then
              c3 (M_Text_take a1_length a1_place a1_wrong a1_bytes (2 : Int32)) (fun r203 t_place_203 t_wrong_203 =>
                chk ((0 : Int32) ≤ z0 ∧ z0 < 60) (chk ((0 : Int32) ≤ z0 ∧ z0 < 60) (c3 (M_Program_takeConstant a1_length t_place_203 t_wrong_203 a1_bytes ((upd t_first z0.toNatClampNeg r203) z0.toNatClampNeg)) (fun r221 a0_place_221 a0_wrong_221 =>
                  chk ((0 : Int32) ≤ z0 ∧ z0 < 60) (some (z0, t_count, t_kind, upd t_first z0.toNatClampNeg r203, t_second, vp_updL t_content z0.toNatClampNeg r221, a0_place_221, a0_wrong_221))))))
            else
              (if v4 = 5 then
                c8 (rc t_count t_kind t_first t_second t_content a1_length a1_place a1_wrong a1_bytes (v2 + 1) v3) (fun r132 t_count_132 t_kind_132 t_first_132 t_second_132 t_content_132 a1_place_132 a1_wrong_132 =>
                  chk ((0 : Int32) ≤ z0 ∧ z0 < 60) (some (z0, t_count_132, t_kind_132, upd t_first_132 z0.toNatClampNeg r132, t_second_132, t_content_132, a1_place_132, a1_wrong_132)))
              else
                (if v4 = 6 then
                  some (z0, t_count, t_kind, t_first, t_second, t_content, a1_place, a1_wrong)
                else
                  (if v4 = 7 then
                    c3 (M_Program_takeOperation a1_length a1_place a1_wrong a1_bytes) (fun r235 a0_place_235 a0_wrong_235 =>
                      chk ((0 : Int32) ≤ z0 ∧ z0 < 60) (some (z0, t_count, t_kind, t_first, t_second, vp_updL t_content z0.toNatClampNeg r235.toInt64, a0_place_235, a0_wrong_235)))
                  else
                    some (z0, t_count, t_kind, t_first, t_second, t_content, a1_place, a1_wrong))))))))))
def M_Program_fillTerm_26 (rc : Int32 → (Nat → Int32) → (Nat → Int32) → (Nat → Int32) → (Nat → Int64) → Int32 → Int32 → Int32 → (Nat → Int32) → Int32 → Int32 → Option (Int32 × Int32 × (Nat → Int32) × (Nat → Int32) × (Nat → Int32) × (Nat → Int64) × Int32 × Int32)) (a1_length : Int32) (a1_bytes : Nat → Int32) (t_count : Int32) (t_kind : Nat → Int32) (t_first : Nat → Int32) (t_second : Nat → Int32) (t_content : Nat → Int64) (a1_place : Int32) (a1_wrong : Int32) (v2 : Int32) (v3 : Int32) (v4 : Int32) (z0 : Int32) : Option (Int32 × Int32 × (Nat → Int32) × (Nat → Int32) × (Nat → Int32) × (Nat → Int64) × Int32 × Int32) :=
  (if z0 = 0 then
    c6 (M_Program_add t_count t_kind t_first t_second t_content v4) (fun r40 t_count_40 t_kind_40 t_first_40 t_second_40 t_content_40 =>
      M_Program_fillTerm_43 rc a1_length a1_bytes t_count_40 t_kind_40 t_first_40 t_second_40 t_content_40 a1_place a1_wrong v2 v3 v4 r40)
  else
    M_Program_fillTerm_43 rc a1_length a1_bytes t_count t_kind t_first t_second t_content a1_place a1_wrong v2 v3 v4 (-1))
def M_Program_fillTerm_21 (rc : Int32 → (Nat → Int32) → (Nat → Int32) → (Nat → Int32) → (Nat → Int64) → Int32 → Int32 → Int32 → (Nat → Int32) → Int32 → Int32 → Option (Int32 × Int32 × (Nat → Int32) × (Nat → Int32) × (Nat → Int32) × (Nat → Int64) × Int32 × Int32)) (a1_length : Int32) (a1_bytes : Nat → Int32) (t_count : Int32) (t_kind : Nat → Int32) (t_first : Nat → Int32) (t_second : Nat → Int32) (t_content : Nat → Int64) (a1_place : Int32) (a1_wrong : Int32) (v2 : Int32) (v3 : Int32) (v4 : Int32) : Option (Int32 × Int32 × (Nat → Int32) × (Nat → Int32) × (Nat → Int32) × (Nat → Int64) × Int32 × Int32) :=
  M_Program_fillTerm_26 rc a1_length a1_bytes t_count t_kind t_first t_second t_content a1_place a1_wrong v2 v3 v4 1
def M_Program_fillTerm : Nat → Int32 → (Nat → Int32) → (Nat → Int32) → (Nat → Int32) → (Nat → Int64) → Int32 → Int32 → Int32 → (Nat → Int32) → Int32 → Int32 → Option (Int32 × Int32 × (Nat → Int32) × (Nat → Int32) × (Nat → Int32) × (Nat → Int64) × Int32 × Int32)
  | 0, _, _, _, _, _, _, _, _, _, _, _ => none
  | f + 1, t_count, t_kind, t_first, t_second, t_content, a1_length, a1_place, a1_wrong, a1_bytes, x2, x3 =>
    c3 (M_Text_take a1_length a1_place a1_wrong a1_bytes (3 : Int32)) (fun r2 t_place_2 t_wrong_2 =>
      (if t_wrong_2 = (-1) then
        (if x2 ≤ 20 then
          M_Program_fillTerm_26 (fun y0 y1 y2 y3 y4 y5 y6 y7 y8 y9 y10 => M_Program_fillTerm f y0 y1 y2 y3 y4 y5 y6 y7 y8 y9 y10) a1_length a1_bytes t_count t_kind t_first t_second t_content t_place_2 t_wrong_2 x2 x3 r2 0
        else
          M_Program_fillTerm_21 (fun y0 y1 y2 y3 y4 y5 y6 y7 y8 y9 y10 => M_Program_fillTerm f y0 y1 y2 y3 y4 y5 y6 y7 y8 y9 y10) a1_length a1_bytes t_count t_kind t_first t_second t_content t_place_2 t_wrong_2 x2 x3 r2)
      else
        M_Program_fillTerm_21 (fun y0 y1 y2 y3 y4 y5 y6 y7 y8 y9 y10 => M_Program_fillTerm f y0 y1 y2 y3 y4 y5 y6 y7 y8 y9 y10) a1_length a1_bytes t_count t_kind t_first t_second t_content t_place_2 t_wrong_2 x2 x3 r2))
set_option maxHeartbeats 4000000 in
set_option maxRecDepth 100000 in
theorem c_Program_fillTerm (l : Launch) (dC : Nat → ClassId) (dI : Nat → Nat → Nat) (cI cL : ClassId) : ∀ (f : Nat) (sz : Nat) (q_t q_a1 q_t_kind q_t_first q_t_second q_t_content q_a1_bytes : Nat) (t_count t_version : Int32) (t_kind t_first t_second : Nat → Int32) (t_content : Nat → Int64) (a1_length a1_place a1_wrong : Int32) (a1_bytes : Nat → Int32) (x2 x3 r0 u_t_count : Int32) (u_t_kind u_t_first u_t_second : Nat → Int32) (u_t_content : Nat → Int64) (u_a1_place u_a1_wrong : Int32) (hm : M_Program_fillTerm f t_count t_kind t_first t_second t_content a1_length a1_place a1_wrong a1_bytes x2 x3 = some (r0, u_t_count, u_t_kind, u_t_first, u_t_second, u_t_content, u_a1_place, u_a1_wrong)), Met l yX3_fillTerm wsX3_fillTerm ({ frames := 4 + f, cells := 0, slots := 0, locals := 91 + f * 26 }) (frPc (dC, dI) vwCl [(cI, .int), (cL, .long)] [(q_t, .inr (2, [.ref q_t_kind, .ref q_t_first, .ref q_t_second, .ref q_t_content, .int t_count, .int t_version])), (q_t_kind, .inl (cI, 60, .inl t_kind)), (q_t_first, .inl (cI, 60, .inl t_first)), (q_t_second, .inl (cI, 60, .inl t_second)), (q_t_content, .inl (cL, 60, .inr (.inl t_content))), (q_a1, .inr (5, [.ref q_a1_bytes, .int a1_length, .int a1_place, .int a1_wrong])), (q_a1_bytes, .inl (cI, 80, .inl a1_bytes))] sz [.ref q_t, .ref q_a1, .int x2, .int x3]) (va_Qi (fun (r : Int32) (_ : Unit) => r = r0) (frB (dC, dI) vwCl [(cI, .int), (cL, .long)] (va_A [(q_t, .inr (2, [.ref q_t_kind, .ref q_t_first, .ref q_t_second, .ref q_t_content, .int t_count, .int t_version])), (q_t_kind, .inl (cI, 60, .inl t_kind)), (q_t_first, .inl (cI, 60, .inl t_first)), (q_t_second, .inl (cI, 60, .inl t_second)), (q_t_content, .inl (cL, 60, .inr (.inl t_content))), (q_a1, .inr (5, [.ref q_a1_bytes, .int a1_length, .int a1_place, .int a1_wrong])), (q_a1_bytes, .inl (cI, 80, .inl a1_bytes))] sz) [(q_t, .inr (2, [.ref q_t_kind, .ref q_t_first, .ref q_t_second, .ref q_t_content, .int u_t_count, .int t_version])), (q_t_kind, .inl (cI, 60, .inl u_t_kind)), (q_t_first, .inl (cI, 60, .inl u_t_first)), (q_t_second, .inl (cI, 60, .inl u_t_second)), (q_t_content, .inl (cL, 60, .inr (.inl u_t_content))), (q_a1, .inr (5, [.ref q_a1_bytes, .int a1_length, .int u_a1_place, .int u_a1_wrong])), (q_a1_bytes, .inl (cI, 80, .inl a1_bytes))]) (va_A [(q_t, .inr (2, [.ref q_t_kind, .ref q_t_first, .ref q_t_second, .ref q_t_content, .int t_count, .int t_version])), (q_t_kind, .inl (cI, 60, .inl t_kind)), (q_t_first, .inl (cI, 60, .inl t_first)), (q_t_second, .inl (cI, 60, .inl t_second)), (q_t_content, .inl (cL, 60, .inr (.inl t_content))), (q_a1, .inr (5, [.ref q_a1_bytes, .int a1_length, .int a1_place, .int a1_wrong])), (q_a1_bytes, .inl (cI, 80, .inl a1_bytes))] sz)) 0 0 (va_A [(q_t, .inr (2, [.ref q_t_kind, .ref q_t_first, .ref q_t_second, .ref q_t_content, .int t_count, .int t_version])), (q_t_kind, .inl (cI, 60, .inl t_kind)), (q_t_first, .inl (cI, 60, .inl t_first)), (q_t_second, .inl (cI, 60, .inl t_second)), (q_t_content, .inl (cL, 60, .inr (.inl t_content))), (q_a1, .inr (5, [.ref q_a1_bytes, .int a1_length, .int a1_place, .int a1_wrong])), (q_a1_bytes, .inl (cI, 80, .inl a1_bytes))] sz) := by
  intro f
  induction f with
  | zero => intro sz q_t q_a1 q_t_kind q_t_first q_t_second q_t_content q_a1_bytes t_count t_version t_kind t_first t_second t_content a1_length a1_place a1_wrong a1_bytes x2 x3 r0 u_t_count u_t_kind u_t_first u_t_second u_t_content u_a1_place u_a1_wrong hm; rw [M_Program_fillTerm] at hm; cases hm
  | succ f ihr =>
  intro sz q_t q_a1 q_t_kind q_t_first q_t_second q_t_content q_a1_bytes t_count t_version t_kind t_first t_second t_content a1_length a1_place a1_wrong a1_bytes x2 x3 r0 u_t_count u_t_kind u_t_first u_t_second u_t_content u_a1_place u_a1_wrong hm
  refine Met.ofW (cc := cX3_fillTerm) (maxL := 7) (ret := (some .int)) (by decide) rfl ?_
  intro p e s m args below meth c s₁ B hml hv
  obtain ⟨rfl, hsz, hP, hK, hD0, hZ⟩ := hv
  have hx := B.exec
  have hb := B.bytes
  have hr := B.returns
  have hts := atoms_spec (ws := wsX3_fillTerm) B.pre
  have hown : s.vm.findClass RX3 = some m.cls := findClass_of_methodNamed B.named
  have hlocks := B.notSynchronized
  subst hsz
  have hD := hD0.self (sz := s.heap.size)
  generalize hAe : va_A [(q_t, .inr (2, [.ref q_t_kind, .ref q_t_first, .ref q_t_second, .ref q_t_content, .int t_count, .int t_version])), (q_t_kind, .inl (cI, 60, .inl t_kind)), (q_t_first, .inl (cI, 60, .inl t_first)), (q_t_second, .inl (cI, 60, .inl t_second)), (q_t_content, .inl (cL, 60, .inr (.inl t_content))), (q_a1, .inr (5, [.ref q_a1_bytes, .int a1_length, .int a1_place, .int a1_wrong])), (q_a1_bytes, .inl (cI, 80, .inl a1_bytes))] s.heap.size = A at hD hZ ⊢
  have hA : ∀ q : Nat, s.heap.size ≤ q → A q := fun q h => by rw [← hAe]; exact Or.inr h
  have hS : va_S A s.heap s.heap [] := va_S.rf
  have hP : va_P (dC, dI) vwCl [(q_t, .inr (2, [.ref q_t_kind, .ref q_t_first, .ref q_t_second, .ref q_t_content, .int t_count, .int t_version])), (q_t_kind, .inl (cI, 60, .inl t_kind)), (q_t_first, .inl (cI, 60, .inl t_first)), (q_t_second, .inl (cI, 60, .inl t_second)), (q_t_content, .inl (cL, 60, .inr (.inl t_content))), (q_a1, .inr (5, [.ref q_a1_bytes, .int a1_length, .int a1_place, .int a1_wrong])), (q_a1_bytes, .inl (cI, 80, .inl a1_bytes))] s.heap := hP
  have hl := lv_entry ([.ref q_t, .ref q_a1, .int x2, .int x3]) (n := 7) (Nat.le_of_ble_eq_true rfl)
  rw [lg_entry_eq]
  generalize (lg_sl ([.ref q_t, .ref q_a1, .int x2, .int x3]) ++ List.replicate (7 - (lg_sl ([.ref q_t, .ref q_a1, .int x2, .int x3])).length) Slot.unset).toArray = ls at hl ⊢
  have hl : lv_has ls 7 [(0, .ref q_t), (1, .ref q_a1), (2, .int x2), (3, .int x3)] := hl
  refine wq hP hS (fun Q hQ H locs hP hS => ?_)
  have htw : ∀ w ∈ AW, w.before _ s = true := fun w h => hts w (List.mem_cons_of_mem _ h)
  have hn0 : ∀ w ∈ wsX30, w ∈ wsX3_fillTerm := fun w h => List.mem_cons_of_mem _ (inX3 w h)
  have hn1 : ∀ w ∈ wsX60, w ∈ wsX3_fillTerm := fun w h => List.mem_cons_of_mem _ (inX6 w h)
  have L43 : ∀ (t_count : Int32) (t_kind t_first t_second : Nat → Int32) (t_content : Nat → Int64) (a1_place a1_wrong v2 v3 v4 z0 : Int32) (ls : Array Slot) (H : Heap) (locs : List Loc), M_Program_fillTerm_43 (fun y0 y1 y2 y3 y4 y5 y6 y7 y8 y9 y10 => M_Program_fillTerm f y0 y1 y2 y3 y4 y5 y6 y7 y8 y9 y10) a1_length a1_bytes t_count t_kind t_first t_second t_content a1_place a1_wrong v2 v3 v4 z0 = some (r0, u_t_count, u_t_kind, u_t_first, u_t_second, u_t_content, u_a1_place, u_a1_wrong) → lv_has ls 7 [(0, .ref q_t), (1, .ref q_a1), (2, .int v2), (3, .int v3), (4, .int v4)] → va_P (dC, dI) vwCl [(q_t, .inr (2, [.ref q_t_kind, .ref q_t_first, .ref q_t_second, .ref q_t_content, .int t_count, .int t_version])), (q_t_kind, .inl (cI, 60, .inl t_kind)), (q_t_first, .inl (cI, 60, .inl t_first)), (q_t_second, .inl (cI, 60, .inl t_second)), (q_t_content, .inl (cL, 60, .inr (.inl t_content))), (q_a1, .inr (5, [.ref q_a1_bytes, .int a1_length, .int a1_place, .int a1_wrong])), (q_a1_bytes, .inl (cI, 80, .inl a1_bytes))] H → va_D A [(q_t, .inr (2, [.ref q_t_kind, .ref q_t_first, .ref q_t_second, .ref q_t_content, .int t_count, .int t_version])), (q_t_kind, .inl (cI, 60, .inl t_kind)), (q_t_first, .inl (cI, 60, .inl t_first)), (q_t_second, .inl (cI, 60, .inl t_second)), (q_t_content, .inl (cL, 60, .inr (.inl t_content))), (q_a1, .inr (5, [.ref q_a1_bytes, .int a1_length, .int a1_place, .int a1_wrong])), (q_a1_bytes, .inl (cI, 80, .inl a1_bytes))] → va_S A s.heap H locs → W p l e ({ frames := 4 + (f + 1), cells := 0, slots := 0, locals := 91 + (f + 1) * 26 }) s m [.ref q_t, .ref q_a1, .int x2, .int x3].toArray below meth c H locs 0 0 Q (F0 m 43 ls [.int z0]) := by
    intro t_count t_kind t_first t_second t_content a1_place a1_wrong v2 v3 v4 z0 ls H locs hm hl hP hD hS
    rw [M_Program_fillTerm_43] at hm
    refine lv_istore (lv' := [(6, .int z0), (0, .ref q_t), (1, .ref q_a1), (2, .int v2), (3, .int v3), (4, .int v4)]) hx hb dX3_fillTerm_43 hl (by decide) rfl (fun ls hl => ?_)
    refine lv_iload hx hb dX3_fillTerm_45 (lv_at hl 0 rfl) ?_
    refine lv_iconst (v := (-1)) hx hb dX3_fillTerm_47 (by decide) ?_
    refine lv_icmp_ne hx hb dX3_fillTerm_48 rfl (fun h48 => ?_) (fun h48 => ?_)
    · rw [if_neg h48] at hm
      refine lv_iload hx hb dX3_fillTerm_57 (lv_at hl 5 rfl) ?_
      by_cases h59_0 : v4 = 0
      · rw [if_pos h59_0] at hm
        refine lv_tableIn hx hb dX3_fillTerm_59 (by rw [h59_0]; decide) (by rw [h59_0]; decide) (by rw [h59_0]; rfl) rfl ?_
        refine lv_aload_n hx hb dX3_fillTerm_104 rfl (lv_at hl 1 rfl) ?_
        refine va_get (D := (dC, dI)) (ci := 2) (v := .ref q_t_content) (C := RX3) (T := TX3) (N := 6) hx hb hts hn0 hown hK hP 0 rfl rfl 3 (by decide) (htw _ aw_229) (fun _ h9 => h9) rfl dX3_fillTerm_105 ?_
        refine lv_iload hx hb dX3_fillTerm_108 (lv_at hl 0 rfl) ?_
        refine lv_aload_n hx hb dX3_fillTerm_110 rfl (lv_at hl 2 rfl) ?_
        refine lv_iload_n hx hb dX3_fillTerm_111 rfl (lv_at hl 4 rfl) ?_
        obtain ⟨r112, a0_place_112, a0_wrong_112, e112, hm⟩ := c3_inv hm
        refine fr_i (wr := [(q_t, .inr (2, [.ref q_t_kind, .ref q_t_first, .ref q_t_second, .ref q_t_content, .int t_count, .int t_version])), (q_t_kind, .inl (cI, 60, .inl t_kind)), (q_t_first, .inl (cI, 60, .inl t_first)), (q_t_second, .inl (cI, 60, .inl t_second)), (q_t_content, .inl (cL, 60, .inr (.inl t_content)))]) (w2 := [(q_t, .inr (2, [.ref q_t_kind, .ref q_t_first, .ref q_t_second, .ref q_t_content, .int t_count, .int t_version])), (q_t_kind, .inl (cI, 60, .inl t_kind)), (q_t_first, .inl (cI, 60, .inl t_first)), (q_t_second, .inl (cI, 60, .inl t_second)), (q_t_content, .inl (cL, 60, .inr (.inl t_content))), (q_a1, .inr (5, [.ref q_a1_bytes, .int a1_length, .int a0_place_112, .int a0_wrong_112])), (q_a1_bytes, .inl (cI, 80, .inl a1_bytes))]) (va_runS (As := [.ref q_a1, .int v3]) (rest := [.int z0, .ref q_t_content]) ⟨hx, hb, hml, hown, hts⟩ (c_Program_takeVariable l dC dI cI cL H.size q_a1 q_a1_bytes a1_length a1_place a1_wrong a1_bytes v3 r112 a0_place_112 a0_wrong_112 e112) (kS 2 hts aw_311 rfl rfl aw_8 aw_309 aw_310 (by decide +kernel) ⟨by exact rl1 (a := 3) (b := 4) (f := f) (Nat.le_of_ble_eq_true rfl), by exact rl2 (x := 91) (b := 91) (f := f) (K := 26) (Nat.le_of_ble_eq_true rfl)⟩) (fr_preS hK hP hD hS hA hZ [5, 6] rfl rfl) rfl rfl hl.1 rfl (lv_room (Nat.le_of_ble_eq_true rfl)) dX3_fillTerm_112 ⟨Nat.le_of_ble_eq_true rfl, Nat.le_of_ble_eq_true rfl⟩) hP hD hS hA [5, 6] [0, 1, 2, 3, 4] [0, 1, 2, 3, 4, 5, 6] rfl rfl rfl (by decide) rfl rfl (fun H locs hP hD hS => ?_)
        have hP : va_P (dC, dI) vwCl [(q_t, .inr (2, [.ref q_t_kind, .ref q_t_first, .ref q_t_second, .ref q_t_content, .int t_count, .int t_version])), (q_t_kind, .inl (cI, 60, .inl t_kind)), (q_t_first, .inl (cI, 60, .inl t_first)), (q_t_second, .inl (cI, 60, .inl t_second)), (q_t_content, .inl (cL, 60, .inr (.inl t_content))), (q_a1, .inr (5, [.ref q_a1_bytes, .int a1_length, .int a0_place_112, .int a0_wrong_112])), (q_a1_bytes, .inl (cI, 80, .inl a1_bytes))] H := hP
        have hD : va_D A [(q_t, .inr (2, [.ref q_t_kind, .ref q_t_first, .ref q_t_second, .ref q_t_content, .int t_count, .int t_version])), (q_t_kind, .inl (cI, 60, .inl t_kind)), (q_t_first, .inl (cI, 60, .inl t_first)), (q_t_second, .inl (cI, 60, .inl t_second)), (q_t_content, .inl (cL, 60, .inr (.inl t_content))), (q_a1, .inr (5, [.ref q_a1_bytes, .int a1_length, .int a0_place_112, .int a0_wrong_112])), (q_a1_bytes, .inl (cI, 80, .inl a1_bytes))] := hD
        refine lv_i2l (v := r112.toInt64) hx hb dX3_fillTerm_115 rfl ?_
        obtain ⟨h116, hm⟩ := chk_inv hm
        refine va_last (D := (dC, dI)) hx hb hK hP hD hS 4 1 rfl rfl (in_of (n := 60) (by decide) h116) dX3_fillTerm_116 (fun H locs hP hD hS => ?_)
        have hP : va_P (dC, dI) vwCl [(q_t, .inr (2, [.ref q_t_kind, .ref q_t_first, .ref q_t_second, .ref q_t_content, .int t_count, .int t_version])), (q_t_kind, .inl (cI, 60, .inl t_kind)), (q_t_first, .inl (cI, 60, .inl t_first)), (q_t_second, .inl (cI, 60, .inl t_second)), (q_t_content, .inl (cL, 60, .inr (.inl (vp_updL t_content z0.toNatClampNeg r112.toInt64)))), (q_a1, .inr (5, [.ref q_a1_bytes, .int a1_length, .int a0_place_112, .int a0_wrong_112])), (q_a1_bytes, .inl (cI, 80, .inl a1_bytes))] H := hP
        have hD : va_D A [(q_t, .inr (2, [.ref q_t_kind, .ref q_t_first, .ref q_t_second, .ref q_t_content, .int t_count, .int t_version])), (q_t_kind, .inl (cI, 60, .inl t_kind)), (q_t_first, .inl (cI, 60, .inl t_first)), (q_t_second, .inl (cI, 60, .inl t_second)), (q_t_content, .inl (cL, 60, .inr (.inl (vp_updL t_content z0.toNatClampNeg r112.toInt64)))), (q_a1, .inr (5, [.ref q_a1_bytes, .int a1_length, .int a0_place_112, .int a0_wrong_112])), (q_a1_bytes, .inl (cI, 80, .inl a1_bytes))] := hD
        refine lv_goto hx hb dX3_fillTerm_117 rfl ?_
        refine lv_iload hx hb dX3_fillTerm_243 (lv_at hl 0 rfl) ?_
        obtain ⟨rfl, rfl, rfl, rfl, rfl, rfl, rfl, rfl⟩ := ij8 hm
        subst hQ
        exact W.iret hx hb hr (fun t ht hW => ⟨⟨_, (), rfl, rfl, by rw [ht]; exact hP, va_K.moved hW.alike hK, hD⟩, hS.F ht⟩) hS.2.2 dX3_fillTerm_245
      · rw [if_neg h59_0] at hm
        by_cases h59_1 : v4 = 1
        · rw [if_pos h59_1] at hm
          refine lv_tableIn hx hb dX3_fillTerm_59 (by rw [h59_1]; decide) (by rw [h59_1]; decide) (by rw [h59_1]; rfl) rfl ?_
          refine lv_aload_n hx hb dX3_fillTerm_120 rfl (lv_at hl 1 rfl) ?_
          refine va_get (D := (dC, dI)) (ci := 2) (v := .ref q_t_first) (C := RX3) (T := TX3) (N := 6) hx hb hts hn0 hown hK hP 0 rfl rfl 1 (by decide) (htw _ aw_223) (fun _ h9 => h9) rfl dX3_fillTerm_121 ?_
          refine lv_iload hx hb dX3_fillTerm_124 (lv_at hl 0 rfl) ?_
          refine lv_aload_n hx hb dX3_fillTerm_126 rfl (lv_at hl 1 rfl) ?_
          refine lv_aload_n hx hb dX3_fillTerm_127 rfl (lv_at hl 2 rfl) ?_
          refine lv_iload_n hx hb dX3_fillTerm_128 rfl (lv_at hl 3 rfl) ?_
          refine lv_iconst (v := 1) hx hb dX3_fillTerm_129 (by decide) ?_
          refine lv_iadd hx hb dX3_fillTerm_130 ?_
          refine lv_iload_n hx hb dX3_fillTerm_131 rfl (lv_at hl 4 rfl) ?_
          obtain ⟨r132, t_count_132, t_kind_132, t_first_132, t_second_132, t_content_132, a1_place_132, a1_wrong_132, e132, hm⟩ := c8_inv hm
          refine fr_i (wr := []) (w2 := [(q_t, .inr (2, [.ref q_t_kind, .ref q_t_first, .ref q_t_second, .ref q_t_content, .int t_count_132, .int t_version])), (q_t_kind, .inl (cI, 60, .inl t_kind_132)), (q_t_first, .inl (cI, 60, .inl t_first_132)), (q_t_second, .inl (cI, 60, .inl t_second_132)), (q_t_content, .inl (cL, 60, .inr (.inl t_content_132))), (q_a1, .inr (5, [.ref q_a1_bytes, .int a1_length, .int a1_place_132, .int a1_wrong_132])), (q_a1_bytes, .inl (cI, 80, .inl a1_bytes))]) (va_runV (As := [.ref q_a1, .int (v2 + 1), .int v3]) (rest := [.int z0, .ref q_t_first]) ⟨hx, hb, hml, hown, hts⟩ (ihr H.size q_t q_a1 q_t_kind q_t_first q_t_second q_t_content q_a1_bytes t_count t_version t_kind t_first t_second t_content a1_length a1_place a1_wrong a1_bytes (v2 + 1) v3 r132 t_count_132 t_kind_132 t_first_132 t_second_132 t_content_132 a1_place_132 a1_wrong_132 e132) (kV 3 hts aw_302 rfl rfl aw_8 aw_299 aw_301 as_0 (by decide +kernel) ⟨by exact Nat.le_refl (4 + (f + 1)), by exact rs2 (lo := 91) (f := f) (m := 7)⟩) (fr_preV hK hP hD hS hA hZ [0, 1, 2, 3, 4, 5, 6] rfl rfl (ci := 2) (q0 := 0) rfl rfl) rfl rfl hl.1 rfl (lv_room (Nat.le_of_ble_eq_true rfl)) dX3_fillTerm_132 ⟨Nat.le_of_ble_eq_true rfl, Nat.le_of_ble_eq_true rfl⟩) hP hD hS hA [0, 1, 2, 3, 4, 5, 6] [] [0, 1, 2, 3, 4, 5, 6] rfl rfl rfl (by decide) rfl rfl (fun H locs hP hD hS => ?_)
          have hP : va_P (dC, dI) vwCl [(q_t, .inr (2, [.ref q_t_kind, .ref q_t_first, .ref q_t_second, .ref q_t_content, .int t_count_132, .int t_version])), (q_t_kind, .inl (cI, 60, .inl t_kind_132)), (q_t_first, .inl (cI, 60, .inl t_first_132)), (q_t_second, .inl (cI, 60, .inl t_second_132)), (q_t_content, .inl (cL, 60, .inr (.inl t_content_132))), (q_a1, .inr (5, [.ref q_a1_bytes, .int a1_length, .int a1_place_132, .int a1_wrong_132])), (q_a1_bytes, .inl (cI, 80, .inl a1_bytes))] H := hP
          have hD : va_D A [(q_t, .inr (2, [.ref q_t_kind, .ref q_t_first, .ref q_t_second, .ref q_t_content, .int t_count_132, .int t_version])), (q_t_kind, .inl (cI, 60, .inl t_kind_132)), (q_t_first, .inl (cI, 60, .inl t_first_132)), (q_t_second, .inl (cI, 60, .inl t_second_132)), (q_t_content, .inl (cL, 60, .inr (.inl t_content_132))), (q_a1, .inr (5, [.ref q_a1_bytes, .int a1_length, .int a1_place_132, .int a1_wrong_132])), (q_a1_bytes, .inl (cI, 80, .inl a1_bytes))] := hD
          obtain ⟨h135, hm⟩ := chk_inv hm
          refine va_iast (D := (dC, dI)) hx hb hK hP hD hS 2 0 rfl rfl (in_of (n := 60) (by decide) h135) dX3_fillTerm_135 (fun H locs hP hD hS => ?_)
          have hP : va_P (dC, dI) vwCl [(q_t, .inr (2, [.ref q_t_kind, .ref q_t_first, .ref q_t_second, .ref q_t_content, .int t_count_132, .int t_version])), (q_t_kind, .inl (cI, 60, .inl t_kind_132)), (q_t_first, .inl (cI, 60, .inl (upd t_first_132 z0.toNatClampNeg r132))), (q_t_second, .inl (cI, 60, .inl t_second_132)), (q_t_content, .inl (cL, 60, .inr (.inl t_content_132))), (q_a1, .inr (5, [.ref q_a1_bytes, .int a1_length, .int a1_place_132, .int a1_wrong_132])), (q_a1_bytes, .inl (cI, 80, .inl a1_bytes))] H := hP
          have hD : va_D A [(q_t, .inr (2, [.ref q_t_kind, .ref q_t_first, .ref q_t_second, .ref q_t_content, .int t_count_132, .int t_version])), (q_t_kind, .inl (cI, 60, .inl t_kind_132)), (q_t_first, .inl (cI, 60, .inl (upd t_first_132 z0.toNatClampNeg r132))), (q_t_second, .inl (cI, 60, .inl t_second_132)), (q_t_content, .inl (cL, 60, .inr (.inl t_content_132))), (q_a1, .inr (5, [.ref q_a1_bytes, .int a1_length, .int a1_place_132, .int a1_wrong_132])), (q_a1_bytes, .inl (cI, 80, .inl a1_bytes))] := hD
          refine lv_goto hx hb dX3_fillTerm_136 rfl ?_
          refine lv_iload hx hb dX3_fillTerm_243 (lv_at hl 0 rfl) ?_
          obtain ⟨rfl, rfl, rfl, rfl, rfl, rfl, rfl, rfl⟩ := ij8 hm
          subst hQ
          exact W.iret hx hb hr (fun t ht hW => ⟨⟨_, (), rfl, rfl, by rw [ht]; exact hP, va_K.moved hW.alike hK, hD⟩, hS.F ht⟩) hS.2.2 dX3_fillTerm_245
        · rw [if_neg h59_1] at hm
          by_cases h59_2 : v4 = 2
          · rw [if_pos h59_2] at hm
            refine lv_tableIn hx hb dX3_fillTerm_59 (by rw [h59_2]; decide) (by rw [h59_2]; decide) (by rw [h59_2]; rfl) rfl ?_
            refine lv_aload_n hx hb dX3_fillTerm_139 rfl (lv_at hl 1 rfl) ?_
            refine va_get (D := (dC, dI)) (ci := 2) (v := .ref q_t_first) (C := RX3) (T := TX3) (N := 6) hx hb hts hn0 hown hK hP 0 rfl rfl 1 (by decide) (htw _ aw_223) (fun _ h9 => h9) rfl dX3_fillTerm_140 ?_
            refine lv_iload hx hb dX3_fillTerm_143 (lv_at hl 0 rfl) ?_
            refine lv_aload_n hx hb dX3_fillTerm_145 rfl (lv_at hl 1 rfl) ?_
            refine lv_aload_n hx hb dX3_fillTerm_146 rfl (lv_at hl 2 rfl) ?_
            refine lv_iload_n hx hb dX3_fillTerm_147 rfl (lv_at hl 3 rfl) ?_
            refine lv_iconst (v := 1) hx hb dX3_fillTerm_148 (by decide) ?_
            refine lv_iadd hx hb dX3_fillTerm_149 ?_
            refine lv_iload_n hx hb dX3_fillTerm_150 rfl (lv_at hl 4 rfl) ?_
            refine lv_iconst (v := 1) hx hb dX3_fillTerm_151 (by decide) ?_
            refine lv_iadd hx hb dX3_fillTerm_152 ?_
            obtain ⟨r153, t_count_153, t_kind_153, t_first_153, t_second_153, t_content_153, a1_place_153, a1_wrong_153, e153, hm⟩ := c8_inv hm
            refine fr_i (wr := []) (w2 := [(q_t, .inr (2, [.ref q_t_kind, .ref q_t_first, .ref q_t_second, .ref q_t_content, .int t_count_153, .int t_version])), (q_t_kind, .inl (cI, 60, .inl t_kind_153)), (q_t_first, .inl (cI, 60, .inl t_first_153)), (q_t_second, .inl (cI, 60, .inl t_second_153)), (q_t_content, .inl (cL, 60, .inr (.inl t_content_153))), (q_a1, .inr (5, [.ref q_a1_bytes, .int a1_length, .int a1_place_153, .int a1_wrong_153])), (q_a1_bytes, .inl (cI, 80, .inl a1_bytes))]) (va_runV (As := [.ref q_a1, .int (v2 + 1), .int (v3 + 1)]) (rest := [.int z0, .ref q_t_first]) ⟨hx, hb, hml, hown, hts⟩ (ihr H.size q_t q_a1 q_t_kind q_t_first q_t_second q_t_content q_a1_bytes t_count t_version t_kind t_first t_second t_content a1_length a1_place a1_wrong a1_bytes (v2 + 1) (v3 + 1) r153 t_count_153 t_kind_153 t_first_153 t_second_153 t_content_153 a1_place_153 a1_wrong_153 e153) (kV 3 hts aw_302 rfl rfl aw_8 aw_299 aw_301 as_0 (by decide +kernel) ⟨by exact Nat.le_refl (4 + (f + 1)), by exact rs2 (lo := 91) (f := f) (m := 7)⟩) (fr_preV hK hP hD hS hA hZ [0, 1, 2, 3, 4, 5, 6] rfl rfl (ci := 2) (q0 := 0) rfl rfl) rfl rfl hl.1 rfl (lv_room (Nat.le_of_ble_eq_true rfl)) dX3_fillTerm_153 ⟨Nat.le_of_ble_eq_true rfl, Nat.le_of_ble_eq_true rfl⟩) hP hD hS hA [0, 1, 2, 3, 4, 5, 6] [] [0, 1, 2, 3, 4, 5, 6] rfl rfl rfl (by decide) rfl rfl (fun H locs hP hD hS => ?_)
            have hP : va_P (dC, dI) vwCl [(q_t, .inr (2, [.ref q_t_kind, .ref q_t_first, .ref q_t_second, .ref q_t_content, .int t_count_153, .int t_version])), (q_t_kind, .inl (cI, 60, .inl t_kind_153)), (q_t_first, .inl (cI, 60, .inl t_first_153)), (q_t_second, .inl (cI, 60, .inl t_second_153)), (q_t_content, .inl (cL, 60, .inr (.inl t_content_153))), (q_a1, .inr (5, [.ref q_a1_bytes, .int a1_length, .int a1_place_153, .int a1_wrong_153])), (q_a1_bytes, .inl (cI, 80, .inl a1_bytes))] H := hP
            have hD : va_D A [(q_t, .inr (2, [.ref q_t_kind, .ref q_t_first, .ref q_t_second, .ref q_t_content, .int t_count_153, .int t_version])), (q_t_kind, .inl (cI, 60, .inl t_kind_153)), (q_t_first, .inl (cI, 60, .inl t_first_153)), (q_t_second, .inl (cI, 60, .inl t_second_153)), (q_t_content, .inl (cL, 60, .inr (.inl t_content_153))), (q_a1, .inr (5, [.ref q_a1_bytes, .int a1_length, .int a1_place_153, .int a1_wrong_153])), (q_a1_bytes, .inl (cI, 80, .inl a1_bytes))] := hD
            obtain ⟨h156, hm⟩ := chk_inv hm
            refine va_iast (D := (dC, dI)) hx hb hK hP hD hS 2 0 rfl rfl (in_of (n := 60) (by decide) h156) dX3_fillTerm_156 (fun H locs hP hD hS => ?_)
            have hP : va_P (dC, dI) vwCl [(q_t, .inr (2, [.ref q_t_kind, .ref q_t_first, .ref q_t_second, .ref q_t_content, .int t_count_153, .int t_version])), (q_t_kind, .inl (cI, 60, .inl t_kind_153)), (q_t_first, .inl (cI, 60, .inl (upd t_first_153 z0.toNatClampNeg r153))), (q_t_second, .inl (cI, 60, .inl t_second_153)), (q_t_content, .inl (cL, 60, .inr (.inl t_content_153))), (q_a1, .inr (5, [.ref q_a1_bytes, .int a1_length, .int a1_place_153, .int a1_wrong_153])), (q_a1_bytes, .inl (cI, 80, .inl a1_bytes))] H := hP
            have hD : va_D A [(q_t, .inr (2, [.ref q_t_kind, .ref q_t_first, .ref q_t_second, .ref q_t_content, .int t_count_153, .int t_version])), (q_t_kind, .inl (cI, 60, .inl t_kind_153)), (q_t_first, .inl (cI, 60, .inl (upd t_first_153 z0.toNatClampNeg r153))), (q_t_second, .inl (cI, 60, .inl t_second_153)), (q_t_content, .inl (cL, 60, .inr (.inl t_content_153))), (q_a1, .inr (5, [.ref q_a1_bytes, .int a1_length, .int a1_place_153, .int a1_wrong_153])), (q_a1_bytes, .inl (cI, 80, .inl a1_bytes))] := hD
            refine lv_goto hx hb dX3_fillTerm_157 rfl ?_
            refine lv_iload hx hb dX3_fillTerm_243 (lv_at hl 0 rfl) ?_
            obtain ⟨rfl, rfl, rfl, rfl, rfl, rfl, rfl, rfl⟩ := ij8 hm
            subst hQ
            exact W.iret hx hb hr (fun t ht hW => ⟨⟨_, (), rfl, rfl, by rw [ht]; exact hP, va_K.moved hW.alike hK, hD⟩, hS.F ht⟩) hS.2.2 dX3_fillTerm_245
          · rw [if_neg h59_2] at hm
            by_cases h59_3 : v4 = 3
            · rw [if_pos h59_3] at hm
              refine lv_tableIn hx hb dX3_fillTerm_59 (by rw [h59_3]; decide) (by rw [h59_3]; decide) (by rw [h59_3]; rfl) rfl ?_
              refine lv_aload_n hx hb dX3_fillTerm_160 rfl (lv_at hl 1 rfl) ?_
              refine va_get (D := (dC, dI)) (ci := 2) (v := .ref q_t_first) (C := RX3) (T := TX3) (N := 6) hx hb hts hn0 hown hK hP 0 rfl rfl 1 (by decide) (htw _ aw_223) (fun _ h9 => h9) rfl dX3_fillTerm_161 ?_
              refine lv_iload hx hb dX3_fillTerm_164 (lv_at hl 0 rfl) ?_
              refine lv_aload_n hx hb dX3_fillTerm_166 rfl (lv_at hl 1 rfl) ?_
              refine lv_aload_n hx hb dX3_fillTerm_167 rfl (lv_at hl 2 rfl) ?_
              refine lv_iload_n hx hb dX3_fillTerm_168 rfl (lv_at hl 3 rfl) ?_
              refine lv_iconst (v := 1) hx hb dX3_fillTerm_169 (by decide) ?_
              refine lv_iadd hx hb dX3_fillTerm_170 ?_
              refine lv_iload_n hx hb dX3_fillTerm_171 rfl (lv_at hl 4 rfl) ?_
              obtain ⟨r172, t_count_172, t_kind_172, t_first_172, t_second_172, t_content_172, a1_place_172, a1_wrong_172, e172, hm⟩ := c8_inv hm
              refine fr_i (wr := []) (w2 := [(q_t, .inr (2, [.ref q_t_kind, .ref q_t_first, .ref q_t_second, .ref q_t_content, .int t_count_172, .int t_version])), (q_t_kind, .inl (cI, 60, .inl t_kind_172)), (q_t_first, .inl (cI, 60, .inl t_first_172)), (q_t_second, .inl (cI, 60, .inl t_second_172)), (q_t_content, .inl (cL, 60, .inr (.inl t_content_172))), (q_a1, .inr (5, [.ref q_a1_bytes, .int a1_length, .int a1_place_172, .int a1_wrong_172])), (q_a1_bytes, .inl (cI, 80, .inl a1_bytes))]) (va_runV (As := [.ref q_a1, .int (v2 + 1), .int v3]) (rest := [.int z0, .ref q_t_first]) ⟨hx, hb, hml, hown, hts⟩ (ihr H.size q_t q_a1 q_t_kind q_t_first q_t_second q_t_content q_a1_bytes t_count t_version t_kind t_first t_second t_content a1_length a1_place a1_wrong a1_bytes (v2 + 1) v3 r172 t_count_172 t_kind_172 t_first_172 t_second_172 t_content_172 a1_place_172 a1_wrong_172 e172) (kV 3 hts aw_302 rfl rfl aw_8 aw_299 aw_301 as_0 (by decide +kernel) ⟨by exact Nat.le_refl (4 + (f + 1)), by exact rs2 (lo := 91) (f := f) (m := 7)⟩) (fr_preV hK hP hD hS hA hZ [0, 1, 2, 3, 4, 5, 6] rfl rfl (ci := 2) (q0 := 0) rfl rfl) rfl rfl hl.1 rfl (lv_room (Nat.le_of_ble_eq_true rfl)) dX3_fillTerm_172 ⟨Nat.le_of_ble_eq_true rfl, Nat.le_of_ble_eq_true rfl⟩) hP hD hS hA [0, 1, 2, 3, 4, 5, 6] [] [0, 1, 2, 3, 4, 5, 6] rfl rfl rfl (by decide) rfl rfl (fun H locs hP hD hS => ?_)
              have hP : va_P (dC, dI) vwCl [(q_t, .inr (2, [.ref q_t_kind, .ref q_t_first, .ref q_t_second, .ref q_t_content, .int t_count_172, .int t_version])), (q_t_kind, .inl (cI, 60, .inl t_kind_172)), (q_t_first, .inl (cI, 60, .inl t_first_172)), (q_t_second, .inl (cI, 60, .inl t_second_172)), (q_t_content, .inl (cL, 60, .inr (.inl t_content_172))), (q_a1, .inr (5, [.ref q_a1_bytes, .int a1_length, .int a1_place_172, .int a1_wrong_172])), (q_a1_bytes, .inl (cI, 80, .inl a1_bytes))] H := hP
              have hD : va_D A [(q_t, .inr (2, [.ref q_t_kind, .ref q_t_first, .ref q_t_second, .ref q_t_content, .int t_count_172, .int t_version])), (q_t_kind, .inl (cI, 60, .inl t_kind_172)), (q_t_first, .inl (cI, 60, .inl t_first_172)), (q_t_second, .inl (cI, 60, .inl t_second_172)), (q_t_content, .inl (cL, 60, .inr (.inl t_content_172))), (q_a1, .inr (5, [.ref q_a1_bytes, .int a1_length, .int a1_place_172, .int a1_wrong_172])), (q_a1_bytes, .inl (cI, 80, .inl a1_bytes))] := hD
              obtain ⟨h175, hm⟩ := chk_inv hm
              refine va_iast (D := (dC, dI)) hx hb hK hP hD hS 2 0 rfl rfl (in_of (n := 60) (by decide) h175) dX3_fillTerm_175 (fun H locs hP hD hS => ?_)
              have hP : va_P (dC, dI) vwCl [(q_t, .inr (2, [.ref q_t_kind, .ref q_t_first, .ref q_t_second, .ref q_t_content, .int t_count_172, .int t_version])), (q_t_kind, .inl (cI, 60, .inl t_kind_172)), (q_t_first, .inl (cI, 60, .inl (upd t_first_172 z0.toNatClampNeg r172))), (q_t_second, .inl (cI, 60, .inl t_second_172)), (q_t_content, .inl (cL, 60, .inr (.inl t_content_172))), (q_a1, .inr (5, [.ref q_a1_bytes, .int a1_length, .int a1_place_172, .int a1_wrong_172])), (q_a1_bytes, .inl (cI, 80, .inl a1_bytes))] H := hP
              have hD : va_D A [(q_t, .inr (2, [.ref q_t_kind, .ref q_t_first, .ref q_t_second, .ref q_t_content, .int t_count_172, .int t_version])), (q_t_kind, .inl (cI, 60, .inl t_kind_172)), (q_t_first, .inl (cI, 60, .inl (upd t_first_172 z0.toNatClampNeg r172))), (q_t_second, .inl (cI, 60, .inl t_second_172)), (q_t_content, .inl (cL, 60, .inr (.inl t_content_172))), (q_a1, .inr (5, [.ref q_a1_bytes, .int a1_length, .int a1_place_172, .int a1_wrong_172])), (q_a1_bytes, .inl (cI, 80, .inl a1_bytes))] := hD
              refine lv_aload_n hx hb dX3_fillTerm_176 rfl (lv_at hl 1 rfl) ?_
              refine va_get (D := (dC, dI)) (ci := 2) (v := .ref q_t_second) (C := RX3) (T := TX3) (N := 6) hx hb hts hn0 hown hK hP 0 rfl rfl 2 (by decide) (htw _ aw_226) (fun _ h9 => h9) rfl dX3_fillTerm_177 ?_
              refine lv_iload hx hb dX3_fillTerm_180 (lv_at hl 0 rfl) ?_
              refine lv_aload_n hx hb dX3_fillTerm_182 rfl (lv_at hl 1 rfl) ?_
              refine lv_aload_n hx hb dX3_fillTerm_183 rfl (lv_at hl 2 rfl) ?_
              refine lv_iload_n hx hb dX3_fillTerm_184 rfl (lv_at hl 3 rfl) ?_
              refine lv_iconst (v := 1) hx hb dX3_fillTerm_185 (by decide) ?_
              refine lv_iadd hx hb dX3_fillTerm_186 ?_
              refine lv_iload_n hx hb dX3_fillTerm_187 rfl (lv_at hl 4 rfl) ?_
              obtain ⟨r188, t_count_188, t_kind_188, t_first_188, t_second_188, t_content_188, a1_place_188, a1_wrong_188, e188, hm⟩ := c8_inv hm
              refine fr_i (wr := []) (w2 := [(q_t, .inr (2, [.ref q_t_kind, .ref q_t_first, .ref q_t_second, .ref q_t_content, .int t_count_188, .int t_version])), (q_t_kind, .inl (cI, 60, .inl t_kind_188)), (q_t_first, .inl (cI, 60, .inl t_first_188)), (q_t_second, .inl (cI, 60, .inl t_second_188)), (q_t_content, .inl (cL, 60, .inr (.inl t_content_188))), (q_a1, .inr (5, [.ref q_a1_bytes, .int a1_length, .int a1_place_188, .int a1_wrong_188])), (q_a1_bytes, .inl (cI, 80, .inl a1_bytes))]) (va_runV (As := [.ref q_a1, .int (v2 + 1), .int v3]) (rest := [.int z0, .ref q_t_second]) ⟨hx, hb, hml, hown, hts⟩ (ihr H.size q_t q_a1 q_t_kind q_t_first q_t_second q_t_content q_a1_bytes t_count_172 t_version t_kind_172 (upd t_first_172 z0.toNatClampNeg r172) t_second_172 t_content_172 a1_length a1_place_172 a1_wrong_172 a1_bytes (v2 + 1) v3 r188 t_count_188 t_kind_188 t_first_188 t_second_188 t_content_188 a1_place_188 a1_wrong_188 e188) (kV 3 hts aw_302 rfl rfl aw_8 aw_299 aw_301 as_0 (by decide +kernel) ⟨by exact Nat.le_refl (4 + (f + 1)), by exact rs2 (lo := 91) (f := f) (m := 7)⟩) (fr_preV hK hP hD hS hA hZ [0, 1, 2, 3, 4, 5, 6] rfl rfl (ci := 2) (q0 := 0) rfl rfl) rfl rfl hl.1 rfl (lv_room (Nat.le_of_ble_eq_true rfl)) dX3_fillTerm_188 ⟨Nat.le_of_ble_eq_true rfl, Nat.le_of_ble_eq_true rfl⟩) hP hD hS hA [0, 1, 2, 3, 4, 5, 6] [] [0, 1, 2, 3, 4, 5, 6] rfl rfl rfl (by decide) rfl rfl (fun H locs hP hD hS => ?_)
              have hP : va_P (dC, dI) vwCl [(q_t, .inr (2, [.ref q_t_kind, .ref q_t_first, .ref q_t_second, .ref q_t_content, .int t_count_188, .int t_version])), (q_t_kind, .inl (cI, 60, .inl t_kind_188)), (q_t_first, .inl (cI, 60, .inl t_first_188)), (q_t_second, .inl (cI, 60, .inl t_second_188)), (q_t_content, .inl (cL, 60, .inr (.inl t_content_188))), (q_a1, .inr (5, [.ref q_a1_bytes, .int a1_length, .int a1_place_188, .int a1_wrong_188])), (q_a1_bytes, .inl (cI, 80, .inl a1_bytes))] H := hP
              have hD : va_D A [(q_t, .inr (2, [.ref q_t_kind, .ref q_t_first, .ref q_t_second, .ref q_t_content, .int t_count_188, .int t_version])), (q_t_kind, .inl (cI, 60, .inl t_kind_188)), (q_t_first, .inl (cI, 60, .inl t_first_188)), (q_t_second, .inl (cI, 60, .inl t_second_188)), (q_t_content, .inl (cL, 60, .inr (.inl t_content_188))), (q_a1, .inr (5, [.ref q_a1_bytes, .int a1_length, .int a1_place_188, .int a1_wrong_188])), (q_a1_bytes, .inl (cI, 80, .inl a1_bytes))] := hD
              obtain ⟨h191, hm⟩ := chk_inv hm
              refine va_iast (D := (dC, dI)) hx hb hK hP hD hS 3 0 rfl rfl (in_of (n := 60) (by decide) h191) dX3_fillTerm_191 (fun H locs hP hD hS => ?_)
              have hP : va_P (dC, dI) vwCl [(q_t, .inr (2, [.ref q_t_kind, .ref q_t_first, .ref q_t_second, .ref q_t_content, .int t_count_188, .int t_version])), (q_t_kind, .inl (cI, 60, .inl t_kind_188)), (q_t_first, .inl (cI, 60, .inl t_first_188)), (q_t_second, .inl (cI, 60, .inl (upd t_second_188 z0.toNatClampNeg r188))), (q_t_content, .inl (cL, 60, .inr (.inl t_content_188))), (q_a1, .inr (5, [.ref q_a1_bytes, .int a1_length, .int a1_place_188, .int a1_wrong_188])), (q_a1_bytes, .inl (cI, 80, .inl a1_bytes))] H := hP
              have hD : va_D A [(q_t, .inr (2, [.ref q_t_kind, .ref q_t_first, .ref q_t_second, .ref q_t_content, .int t_count_188, .int t_version])), (q_t_kind, .inl (cI, 60, .inl t_kind_188)), (q_t_first, .inl (cI, 60, .inl t_first_188)), (q_t_second, .inl (cI, 60, .inl (upd t_second_188 z0.toNatClampNeg r188))), (q_t_content, .inl (cL, 60, .inr (.inl t_content_188))), (q_a1, .inr (5, [.ref q_a1_bytes, .int a1_length, .int a1_place_188, .int a1_wrong_188])), (q_a1_bytes, .inl (cI, 80, .inl a1_bytes))] := hD
              refine lv_goto hx hb dX3_fillTerm_192 rfl ?_
              refine lv_iload hx hb dX3_fillTerm_243 (lv_at hl 0 rfl) ?_
              obtain ⟨rfl, rfl, rfl, rfl, rfl, rfl, rfl, rfl⟩ := ij8 hm
              subst hQ
              exact W.iret hx hb hr (fun t ht hW => ⟨⟨_, (), rfl, rfl, by rw [ht]; exact hP, va_K.moved hW.alike hK, hD⟩, hS.F ht⟩) hS.2.2 dX3_fillTerm_245
            · rw [if_neg h59_3] at hm
              by_cases h59_4 : v4 = 4
              · rw [if_pos h59_4] at hm
                refine lv_tableIn hx hb dX3_fillTerm_59 (by rw [h59_4]; decide) (by rw [h59_4]; decide) (by rw [h59_4]; rfl) rfl ?_
                refine lv_aload_n hx hb dX3_fillTerm_195 rfl (lv_at hl 1 rfl) ?_
                refine va_get (D := (dC, dI)) (ci := 2) (v := .ref q_t_first) (C := RX3) (T := TX3) (N := 6) hx hb hts hn0 hown hK hP 0 rfl rfl 1 (by decide) (htw _ aw_223) (fun _ h9 => h9) rfl dX3_fillTerm_196 ?_
                refine lv_iload hx hb dX3_fillTerm_199 (lv_at hl 0 rfl) ?_
                refine lv_aload_n hx hb dX3_fillTerm_201 rfl (lv_at hl 2 rfl) ?_
                refine lv_iconst (v := 2) hx hb dX3_fillTerm_202 (by decide) ?_
                obtain ⟨r203, t_place_203, t_wrong_203, e203, hm⟩ := c3_inv hm
                refine fr_i (wr := [(q_t, .inr (2, [.ref q_t_kind, .ref q_t_first, .ref q_t_second, .ref q_t_content, .int t_count, .int t_version])), (q_t_kind, .inl (cI, 60, .inl t_kind)), (q_t_first, .inl (cI, 60, .inl t_first)), (q_t_second, .inl (cI, 60, .inl t_second)), (q_t_content, .inl (cL, 60, .inr (.inl t_content)))]) (w2 := [(q_t, .inr (2, [.ref q_t_kind, .ref q_t_first, .ref q_t_second, .ref q_t_content, .int t_count, .int t_version])), (q_t_kind, .inl (cI, 60, .inl t_kind)), (q_t_first, .inl (cI, 60, .inl t_first)), (q_t_second, .inl (cI, 60, .inl t_second)), (q_t_content, .inl (cL, 60, .inr (.inl t_content))), (q_a1, .inr (5, [.ref q_a1_bytes, .int a1_length, .int t_place_203, .int t_wrong_203])), (q_a1_bytes, .inl (cI, 80, .inl a1_bytes))]) (va_runV (As := [.int 2]) (rest := [.int z0, .ref q_t_first]) ⟨hx, hb, hml, hown, hts⟩ (c_Text_take l dC dI cI cL H.size q_a1 q_a1_bytes a1_length a1_place a1_wrong a1_bytes (2 : Int32) r203 t_place_203 t_wrong_203 e203) (kV 1 hts aw_281 rfl rfl aw_2 aw_303 aw_279 aw_280 (by decide +kernel) ⟨by exact rl1 (a := 1) (b := 4) (f := f) (Nat.le_of_ble_eq_true rfl), by exact rl2 (x := 45) (b := 91) (f := f) (K := 26) (Nat.le_of_ble_eq_true rfl)⟩) (fr_preV hK hP hD hS hA hZ [5, 6] rfl rfl (ci := 5) (q0 := 0) rfl rfl) rfl rfl hl.1 rfl (lv_room (Nat.le_of_ble_eq_true rfl)) dX3_fillTerm_203 ⟨Nat.le_of_ble_eq_true rfl, Nat.le_of_ble_eq_true rfl⟩) hP hD hS hA [5, 6] [0, 1, 2, 3, 4] [0, 1, 2, 3, 4, 5, 6] rfl rfl rfl (by decide) rfl rfl (fun H locs hP hD hS => ?_)
                have hP : va_P (dC, dI) vwCl [(q_t, .inr (2, [.ref q_t_kind, .ref q_t_first, .ref q_t_second, .ref q_t_content, .int t_count, .int t_version])), (q_t_kind, .inl (cI, 60, .inl t_kind)), (q_t_first, .inl (cI, 60, .inl t_first)), (q_t_second, .inl (cI, 60, .inl t_second)), (q_t_content, .inl (cL, 60, .inr (.inl t_content))), (q_a1, .inr (5, [.ref q_a1_bytes, .int a1_length, .int t_place_203, .int t_wrong_203])), (q_a1_bytes, .inl (cI, 80, .inl a1_bytes))] H := hP
                have hD : va_D A [(q_t, .inr (2, [.ref q_t_kind, .ref q_t_first, .ref q_t_second, .ref q_t_content, .int t_count, .int t_version])), (q_t_kind, .inl (cI, 60, .inl t_kind)), (q_t_first, .inl (cI, 60, .inl t_first)), (q_t_second, .inl (cI, 60, .inl t_second)), (q_t_content, .inl (cL, 60, .inr (.inl t_content))), (q_a1, .inr (5, [.ref q_a1_bytes, .int a1_length, .int t_place_203, .int t_wrong_203])), (q_a1_bytes, .inl (cI, 80, .inl a1_bytes))] := hD
                obtain ⟨h206, hm⟩ := chk_inv hm
                refine va_iast (D := (dC, dI)) hx hb hK hP hD hS 2 0 rfl rfl (in_of (n := 60) (by decide) h206) dX3_fillTerm_206 (fun H locs hP hD hS => ?_)
                have hP : va_P (dC, dI) vwCl [(q_t, .inr (2, [.ref q_t_kind, .ref q_t_first, .ref q_t_second, .ref q_t_content, .int t_count, .int t_version])), (q_t_kind, .inl (cI, 60, .inl t_kind)), (q_t_first, .inl (cI, 60, .inl (upd t_first z0.toNatClampNeg r203))), (q_t_second, .inl (cI, 60, .inl t_second)), (q_t_content, .inl (cL, 60, .inr (.inl t_content))), (q_a1, .inr (5, [.ref q_a1_bytes, .int a1_length, .int t_place_203, .int t_wrong_203])), (q_a1_bytes, .inl (cI, 80, .inl a1_bytes))] H := hP
                have hD : va_D A [(q_t, .inr (2, [.ref q_t_kind, .ref q_t_first, .ref q_t_second, .ref q_t_content, .int t_count, .int t_version])), (q_t_kind, .inl (cI, 60, .inl t_kind)), (q_t_first, .inl (cI, 60, .inl (upd t_first z0.toNatClampNeg r203))), (q_t_second, .inl (cI, 60, .inl t_second)), (q_t_content, .inl (cL, 60, .inr (.inl t_content))), (q_a1, .inr (5, [.ref q_a1_bytes, .int a1_length, .int t_place_203, .int t_wrong_203])), (q_a1_bytes, .inl (cI, 80, .inl a1_bytes))] := hD
                refine lv_aload_n hx hb dX3_fillTerm_207 rfl (lv_at hl 1 rfl) ?_
                refine va_get (D := (dC, dI)) (ci := 2) (v := .ref q_t_content) (C := RX3) (T := TX3) (N := 6) hx hb hts hn0 hown hK hP 0 rfl rfl 3 (by decide) (htw _ aw_229) (fun _ h9 => h9) rfl dX3_fillTerm_208 ?_
                refine lv_iload hx hb dX3_fillTerm_211 (lv_at hl 0 rfl) ?_
                refine lv_aload_n hx hb dX3_fillTerm_213 rfl (lv_at hl 2 rfl) ?_
                refine lv_aload_n hx hb dX3_fillTerm_214 rfl (lv_at hl 1 rfl) ?_
                refine va_get (D := (dC, dI)) (ci := 2) (v := .ref q_t_first) (C := RX3) (T := TX3) (N := 6) hx hb hts hn0 hown hK hP 0 rfl rfl 1 (by decide) (htw _ aw_223) (fun _ h9 => h9) rfl dX3_fillTerm_215 ?_
                refine lv_iload hx hb dX3_fillTerm_218 (lv_at hl 0 rfl) ?_
                obtain ⟨h220, hm⟩ := chk_inv hm
                refine va_iald (D := (dC, dI)) hx hb hK hP 2 0 rfl rfl (in_of (n := 60) (by decide) h220) dX3_fillTerm_220 ?_
                obtain ⟨r221, a0_place_221, a0_wrong_221, e221, hm⟩ := c3_inv hm
                refine fr_l (wr := [(q_t, .inr (2, [.ref q_t_kind, .ref q_t_first, .ref q_t_second, .ref q_t_content, .int t_count, .int t_version])), (q_t_kind, .inl (cI, 60, .inl t_kind)), (q_t_first, .inl (cI, 60, .inl (upd t_first z0.toNatClampNeg r203))), (q_t_second, .inl (cI, 60, .inl t_second)), (q_t_content, .inl (cL, 60, .inr (.inl t_content)))]) (w2 := [(q_t, .inr (2, [.ref q_t_kind, .ref q_t_first, .ref q_t_second, .ref q_t_content, .int t_count, .int t_version])), (q_t_kind, .inl (cI, 60, .inl t_kind)), (q_t_first, .inl (cI, 60, .inl (upd t_first z0.toNatClampNeg r203))), (q_t_second, .inl (cI, 60, .inl t_second)), (q_t_content, .inl (cL, 60, .inr (.inl t_content))), (q_a1, .inr (5, [.ref q_a1_bytes, .int a1_length, .int a0_place_221, .int a0_wrong_221])), (q_a1_bytes, .inl (cI, 80, .inl a1_bytes))]) (va_runS (As := [.ref q_a1, .int ((upd t_first z0.toNatClampNeg r203) z0.toNatClampNeg)]) (rest := [.int z0, .ref q_t_content]) ⟨hx, hb, hml, hown, hts⟩ (c_Program_takeConstant l dC dI cI cL H.size q_a1 q_a1_bytes a1_length t_place_203 t_wrong_203 a1_bytes ((upd t_first z0.toNatClampNeg r203) z0.toNatClampNeg) r221 a0_place_221 a0_wrong_221 e221) (kS 2 hts aw_314 rfl rfl aw_8 aw_312 aw_313 (by decide +kernel) ⟨by exact rl1 (a := 3) (b := 4) (f := f) (Nat.le_of_ble_eq_true rfl), by exact rl2 (x := 90) (b := 91) (f := f) (K := 26) (Nat.le_of_ble_eq_true rfl)⟩) (fr_preS hK hP hD hS hA hZ [5, 6] rfl rfl) rfl rfl hl.1 rfl (lv_room (Nat.le_of_ble_eq_true rfl)) dX3_fillTerm_221 ⟨Nat.le_of_ble_eq_true rfl, Nat.le_of_ble_eq_true rfl⟩) hP hD hS hA [5, 6] [0, 1, 2, 3, 4] [0, 1, 2, 3, 4, 5, 6] rfl rfl rfl (by decide) rfl rfl (fun H locs hP hD hS => ?_)
                have hP : va_P (dC, dI) vwCl [(q_t, .inr (2, [.ref q_t_kind, .ref q_t_first, .ref q_t_second, .ref q_t_content, .int t_count, .int t_version])), (q_t_kind, .inl (cI, 60, .inl t_kind)), (q_t_first, .inl (cI, 60, .inl (upd t_first z0.toNatClampNeg r203))), (q_t_second, .inl (cI, 60, .inl t_second)), (q_t_content, .inl (cL, 60, .inr (.inl t_content))), (q_a1, .inr (5, [.ref q_a1_bytes, .int a1_length, .int a0_place_221, .int a0_wrong_221])), (q_a1_bytes, .inl (cI, 80, .inl a1_bytes))] H := hP
                have hD : va_D A [(q_t, .inr (2, [.ref q_t_kind, .ref q_t_first, .ref q_t_second, .ref q_t_content, .int t_count, .int t_version])), (q_t_kind, .inl (cI, 60, .inl t_kind)), (q_t_first, .inl (cI, 60, .inl (upd t_first z0.toNatClampNeg r203))), (q_t_second, .inl (cI, 60, .inl t_second)), (q_t_content, .inl (cL, 60, .inr (.inl t_content))), (q_a1, .inr (5, [.ref q_a1_bytes, .int a1_length, .int a0_place_221, .int a0_wrong_221])), (q_a1_bytes, .inl (cI, 80, .inl a1_bytes))] := hD
                obtain ⟨h224, hm⟩ := chk_inv hm
                refine va_last (D := (dC, dI)) hx hb hK hP hD hS 4 1 rfl rfl (in_of (n := 60) (by decide) h224) dX3_fillTerm_224 (fun H locs hP hD hS => ?_)
                have hP : va_P (dC, dI) vwCl [(q_t, .inr (2, [.ref q_t_kind, .ref q_t_first, .ref q_t_second, .ref q_t_content, .int t_count, .int t_version])), (q_t_kind, .inl (cI, 60, .inl t_kind)), (q_t_first, .inl (cI, 60, .inl (upd t_first z0.toNatClampNeg r203))), (q_t_second, .inl (cI, 60, .inl t_second)), (q_t_content, .inl (cL, 60, .inr (.inl (vp_updL t_content z0.toNatClampNeg r221)))), (q_a1, .inr (5, [.ref q_a1_bytes, .int a1_length, .int a0_place_221, .int a0_wrong_221])), (q_a1_bytes, .inl (cI, 80, .inl a1_bytes))] H := hP
                have hD : va_D A [(q_t, .inr (2, [.ref q_t_kind, .ref q_t_first, .ref q_t_second, .ref q_t_content, .int t_count, .int t_version])), (q_t_kind, .inl (cI, 60, .inl t_kind)), (q_t_first, .inl (cI, 60, .inl (upd t_first z0.toNatClampNeg r203))), (q_t_second, .inl (cI, 60, .inl t_second)), (q_t_content, .inl (cL, 60, .inr (.inl (vp_updL t_content z0.toNatClampNeg r221)))), (q_a1, .inr (5, [.ref q_a1_bytes, .int a1_length, .int a0_place_221, .int a0_wrong_221])), (q_a1_bytes, .inl (cI, 80, .inl a1_bytes))] := hD
                refine lv_goto hx hb dX3_fillTerm_225 rfl ?_
                refine lv_iload hx hb dX3_fillTerm_243 (lv_at hl 0 rfl) ?_
                obtain ⟨rfl, rfl, rfl, rfl, rfl, rfl, rfl, rfl⟩ := ij8 hm
                subst hQ
                exact W.iret hx hb hr (fun t ht hW => ⟨⟨_, (), rfl, rfl, by rw [ht]; exact hP, va_K.moved hW.alike hK, hD⟩, hS.F ht⟩) hS.2.2 dX3_fillTerm_245
              · rw [if_neg h59_4] at hm
                by_cases h59_5 : v4 = 5
                · rw [if_pos h59_5] at hm
                  refine lv_tableIn hx hb dX3_fillTerm_59 (by rw [h59_5]; decide) (by rw [h59_5]; decide) (by rw [h59_5]; rfl) rfl ?_
                  refine lv_aload_n hx hb dX3_fillTerm_120 rfl (lv_at hl 1 rfl) ?_
                  refine va_get (D := (dC, dI)) (ci := 2) (v := .ref q_t_first) (C := RX3) (T := TX3) (N := 6) hx hb hts hn0 hown hK hP 0 rfl rfl 1 (by decide) (htw _ aw_223) (fun _ h9 => h9) rfl dX3_fillTerm_121 ?_
                  refine lv_iload hx hb dX3_fillTerm_124 (lv_at hl 0 rfl) ?_
                  refine lv_aload_n hx hb dX3_fillTerm_126 rfl (lv_at hl 1 rfl) ?_
                  refine lv_aload_n hx hb dX3_fillTerm_127 rfl (lv_at hl 2 rfl) ?_
                  refine lv_iload_n hx hb dX3_fillTerm_128 rfl (lv_at hl 3 rfl) ?_
                  refine lv_iconst (v := 1) hx hb dX3_fillTerm_129 (by decide) ?_
                  refine lv_iadd hx hb dX3_fillTerm_130 ?_
                  refine lv_iload_n hx hb dX3_fillTerm_131 rfl (lv_at hl 4 rfl) ?_
                  obtain ⟨r132, t_count_132, t_kind_132, t_first_132, t_second_132, t_content_132, a1_place_132, a1_wrong_132, e132, hm⟩ := c8_inv hm
                  refine fr_i (wr := []) (w2 := [(q_t, .inr (2, [.ref q_t_kind, .ref q_t_first, .ref q_t_second, .ref q_t_content, .int t_count_132, .int t_version])), (q_t_kind, .inl (cI, 60, .inl t_kind_132)), (q_t_first, .inl (cI, 60, .inl t_first_132)), (q_t_second, .inl (cI, 60, .inl t_second_132)), (q_t_content, .inl (cL, 60, .inr (.inl t_content_132))), (q_a1, .inr (5, [.ref q_a1_bytes, .int a1_length, .int a1_place_132, .int a1_wrong_132])), (q_a1_bytes, .inl (cI, 80, .inl a1_bytes))]) (va_runV (As := [.ref q_a1, .int (v2 + 1), .int v3]) (rest := [.int z0, .ref q_t_first]) ⟨hx, hb, hml, hown, hts⟩ (ihr H.size q_t q_a1 q_t_kind q_t_first q_t_second q_t_content q_a1_bytes t_count t_version t_kind t_first t_second t_content a1_length a1_place a1_wrong a1_bytes (v2 + 1) v3 r132 t_count_132 t_kind_132 t_first_132 t_second_132 t_content_132 a1_place_132 a1_wrong_132 e132) (kV 3 hts aw_302 rfl rfl aw_8 aw_299 aw_301 as_0 (by decide +kernel) ⟨by exact Nat.le_refl (4 + (f + 1)), by exact rs2 (lo := 91) (f := f) (m := 7)⟩) (fr_preV hK hP hD hS hA hZ [0, 1, 2, 3, 4, 5, 6] rfl rfl (ci := 2) (q0 := 0) rfl rfl) rfl rfl hl.1 rfl (lv_room (Nat.le_of_ble_eq_true rfl)) dX3_fillTerm_132 ⟨Nat.le_of_ble_eq_true rfl, Nat.le_of_ble_eq_true rfl⟩) hP hD hS hA [0, 1, 2, 3, 4, 5, 6] [] [0, 1, 2, 3, 4, 5, 6] rfl rfl rfl (by decide) rfl rfl (fun H locs hP hD hS => ?_)
                  have hP : va_P (dC, dI) vwCl [(q_t, .inr (2, [.ref q_t_kind, .ref q_t_first, .ref q_t_second, .ref q_t_content, .int t_count_132, .int t_version])), (q_t_kind, .inl (cI, 60, .inl t_kind_132)), (q_t_first, .inl (cI, 60, .inl t_first_132)), (q_t_second, .inl (cI, 60, .inl t_second_132)), (q_t_content, .inl (cL, 60, .inr (.inl t_content_132))), (q_a1, .inr (5, [.ref q_a1_bytes, .int a1_length, .int a1_place_132, .int a1_wrong_132])), (q_a1_bytes, .inl (cI, 80, .inl a1_bytes))] H := hP
                  have hD : va_D A [(q_t, .inr (2, [.ref q_t_kind, .ref q_t_first, .ref q_t_second, .ref q_t_content, .int t_count_132, .int t_version])), (q_t_kind, .inl (cI, 60, .inl t_kind_132)), (q_t_first, .inl (cI, 60, .inl t_first_132)), (q_t_second, .inl (cI, 60, .inl t_second_132)), (q_t_content, .inl (cL, 60, .inr (.inl t_content_132))), (q_a1, .inr (5, [.ref q_a1_bytes, .int a1_length, .int a1_place_132, .int a1_wrong_132])), (q_a1_bytes, .inl (cI, 80, .inl a1_bytes))] := hD
                  obtain ⟨h135, hm⟩ := chk_inv hm
                  refine va_iast (D := (dC, dI)) hx hb hK hP hD hS 2 0 rfl rfl (in_of (n := 60) (by decide) h135) dX3_fillTerm_135 (fun H locs hP hD hS => ?_)
                  have hP : va_P (dC, dI) vwCl [(q_t, .inr (2, [.ref q_t_kind, .ref q_t_first, .ref q_t_second, .ref q_t_content, .int t_count_132, .int t_version])), (q_t_kind, .inl (cI, 60, .inl t_kind_132)), (q_t_first, .inl (cI, 60, .inl (upd t_first_132 z0.toNatClampNeg r132))), (q_t_second, .inl (cI, 60, .inl t_second_132)), (q_t_content, .inl (cL, 60, .inr (.inl t_content_132))), (q_a1, .inr (5, [.ref q_a1_bytes, .int a1_length, .int a1_place_132, .int a1_wrong_132])), (q_a1_bytes, .inl (cI, 80, .inl a1_bytes))] H := hP
                  have hD : va_D A [(q_t, .inr (2, [.ref q_t_kind, .ref q_t_first, .ref q_t_second, .ref q_t_content, .int t_count_132, .int t_version])), (q_t_kind, .inl (cI, 60, .inl t_kind_132)), (q_t_first, .inl (cI, 60, .inl (upd t_first_132 z0.toNatClampNeg r132))), (q_t_second, .inl (cI, 60, .inl t_second_132)), (q_t_content, .inl (cL, 60, .inr (.inl t_content_132))), (q_a1, .inr (5, [.ref q_a1_bytes, .int a1_length, .int a1_place_132, .int a1_wrong_132])), (q_a1_bytes, .inl (cI, 80, .inl a1_bytes))] := hD
                  refine lv_goto hx hb dX3_fillTerm_136 rfl ?_
                  refine lv_iload hx hb dX3_fillTerm_243 (lv_at hl 0 rfl) ?_
                  obtain ⟨rfl, rfl, rfl, rfl, rfl, rfl, rfl, rfl⟩ := ij8 hm
                  subst hQ
                  exact W.iret hx hb hr (fun t ht hW => ⟨⟨_, (), rfl, rfl, by rw [ht]; exact hP, va_K.moved hW.alike hK, hD⟩, hS.F ht⟩) hS.2.2 dX3_fillTerm_245
                · rw [if_neg h59_5] at hm
                  by_cases h59_6 : v4 = 6
                  · rw [if_pos h59_6] at hm
                    refine lv_tableIn hx hb dX3_fillTerm_59 (by rw [h59_6]; decide) (by rw [h59_6]; decide) (by rw [h59_6]; rfl) rfl ?_
                    refine lv_iload hx hb dX3_fillTerm_243 (lv_at hl 0 rfl) ?_
                    obtain ⟨rfl, rfl, rfl, rfl, rfl, rfl, rfl, rfl⟩ := ij8 hm
                    subst hQ
                    exact W.iret hx hb hr (fun t ht hW => ⟨⟨_, (), rfl, rfl, by rw [ht]; exact hP, va_K.moved hW.alike hK, hD⟩, hS.F ht⟩) hS.2.2 dX3_fillTerm_245
                  · rw [if_neg h59_6] at hm
                    by_cases h59_7 : v4 = 7
                    · rw [if_pos h59_7] at hm
                      refine lv_tableIn hx hb dX3_fillTerm_59 (by rw [h59_7]; decide) (by rw [h59_7]; decide) (by rw [h59_7]; rfl) rfl ?_
                      refine lv_aload_n hx hb dX3_fillTerm_228 rfl (lv_at hl 1 rfl) ?_
                      refine va_get (D := (dC, dI)) (ci := 2) (v := .ref q_t_content) (C := RX3) (T := TX3) (N := 6) hx hb hts hn0 hown hK hP 0 rfl rfl 3 (by decide) (htw _ aw_229) (fun _ h9 => h9) rfl dX3_fillTerm_229 ?_
                      refine lv_iload hx hb dX3_fillTerm_232 (lv_at hl 0 rfl) ?_
                      refine lv_aload_n hx hb dX3_fillTerm_234 rfl (lv_at hl 2 rfl) ?_
                      obtain ⟨r235, a0_place_235, a0_wrong_235, e235, hm⟩ := c3_inv hm
                      refine fr_i (wr := [(q_t, .inr (2, [.ref q_t_kind, .ref q_t_first, .ref q_t_second, .ref q_t_content, .int t_count, .int t_version])), (q_t_kind, .inl (cI, 60, .inl t_kind)), (q_t_first, .inl (cI, 60, .inl t_first)), (q_t_second, .inl (cI, 60, .inl t_second)), (q_t_content, .inl (cL, 60, .inr (.inl t_content)))]) (w2 := [(q_t, .inr (2, [.ref q_t_kind, .ref q_t_first, .ref q_t_second, .ref q_t_content, .int t_count, .int t_version])), (q_t_kind, .inl (cI, 60, .inl t_kind)), (q_t_first, .inl (cI, 60, .inl t_first)), (q_t_second, .inl (cI, 60, .inl t_second)), (q_t_content, .inl (cL, 60, .inr (.inl t_content))), (q_a1, .inr (5, [.ref q_a1_bytes, .int a1_length, .int a0_place_235, .int a0_wrong_235])), (q_a1_bytes, .inl (cI, 80, .inl a1_bytes))]) (va_runS (As := [.ref q_a1]) (rest := [.int z0, .ref q_t_content]) ⟨hx, hb, hml, hown, hts⟩ (c_Program_takeOperation l dC dI cI cL H.size q_a1 q_a1_bytes a1_length a1_place a1_wrong a1_bytes r235 a0_place_235 a0_wrong_235 e235) (kS 1 hts aw_327 rfl rfl aw_8 aw_325 aw_326 (by decide +kernel) ⟨by exact rl1 (a := 2) (b := 4) (f := f) (Nat.le_of_ble_eq_true rfl), by exact rl2 (x := 66) (b := 91) (f := f) (K := 26) (Nat.le_of_ble_eq_true rfl)⟩) (fr_preS hK hP hD hS hA hZ [5, 6] rfl rfl) rfl rfl hl.1 rfl (lv_room (Nat.le_of_ble_eq_true rfl)) dX3_fillTerm_235 ⟨Nat.le_of_ble_eq_true rfl, Nat.le_of_ble_eq_true rfl⟩) hP hD hS hA [5, 6] [0, 1, 2, 3, 4] [0, 1, 2, 3, 4, 5, 6] rfl rfl rfl (by decide) rfl rfl (fun H locs hP hD hS => ?_)
                      have hP : va_P (dC, dI) vwCl [(q_t, .inr (2, [.ref q_t_kind, .ref q_t_first, .ref q_t_second, .ref q_t_content, .int t_count, .int t_version])), (q_t_kind, .inl (cI, 60, .inl t_kind)), (q_t_first, .inl (cI, 60, .inl t_first)), (q_t_second, .inl (cI, 60, .inl t_second)), (q_t_content, .inl (cL, 60, .inr (.inl t_content))), (q_a1, .inr (5, [.ref q_a1_bytes, .int a1_length, .int a0_place_235, .int a0_wrong_235])), (q_a1_bytes, .inl (cI, 80, .inl a1_bytes))] H := hP
                      have hD : va_D A [(q_t, .inr (2, [.ref q_t_kind, .ref q_t_first, .ref q_t_second, .ref q_t_content, .int t_count, .int t_version])), (q_t_kind, .inl (cI, 60, .inl t_kind)), (q_t_first, .inl (cI, 60, .inl t_first)), (q_t_second, .inl (cI, 60, .inl t_second)), (q_t_content, .inl (cL, 60, .inr (.inl t_content))), (q_a1, .inr (5, [.ref q_a1_bytes, .int a1_length, .int a0_place_235, .int a0_wrong_235])), (q_a1_bytes, .inl (cI, 80, .inl a1_bytes))] := hD
                      refine lv_i2l (v := r235.toInt64) hx hb dX3_fillTerm_238 rfl ?_
                      obtain ⟨h239, hm⟩ := chk_inv hm
                      refine va_last (D := (dC, dI)) hx hb hK hP hD hS 4 1 rfl rfl (in_of (n := 60) (by decide) h239) dX3_fillTerm_239 (fun H locs hP hD hS => ?_)
                      have hP : va_P (dC, dI) vwCl [(q_t, .inr (2, [.ref q_t_kind, .ref q_t_first, .ref q_t_second, .ref q_t_content, .int t_count, .int t_version])), (q_t_kind, .inl (cI, 60, .inl t_kind)), (q_t_first, .inl (cI, 60, .inl t_first)), (q_t_second, .inl (cI, 60, .inl t_second)), (q_t_content, .inl (cL, 60, .inr (.inl (vp_updL t_content z0.toNatClampNeg r235.toInt64)))), (q_a1, .inr (5, [.ref q_a1_bytes, .int a1_length, .int a0_place_235, .int a0_wrong_235])), (q_a1_bytes, .inl (cI, 80, .inl a1_bytes))] H := hP
                      have hD : va_D A [(q_t, .inr (2, [.ref q_t_kind, .ref q_t_first, .ref q_t_second, .ref q_t_content, .int t_count, .int t_version])), (q_t_kind, .inl (cI, 60, .inl t_kind)), (q_t_first, .inl (cI, 60, .inl t_first)), (q_t_second, .inl (cI, 60, .inl t_second)), (q_t_content, .inl (cL, 60, .inr (.inl (vp_updL t_content z0.toNatClampNeg r235.toInt64)))), (q_a1, .inr (5, [.ref q_a1_bytes, .int a1_length, .int a0_place_235, .int a0_wrong_235])), (q_a1_bytes, .inl (cI, 80, .inl a1_bytes))] := hD
                      refine lv_goto hx hb dX3_fillTerm_240 rfl ?_
                      refine lv_iload hx hb dX3_fillTerm_243 (lv_at hl 0 rfl) ?_
                      obtain ⟨rfl, rfl, rfl, rfl, rfl, rfl, rfl, rfl⟩ := ij8 hm
                      subst hQ
                      exact W.iret hx hb hr (fun t ht hW => ⟨⟨_, (), rfl, rfl, by rw [ht]; exact hP, va_K.moved hW.alike hK, hD⟩, hS.F ht⟩) hS.2.2 dX3_fillTerm_245
                    · rw [if_neg h59_7] at hm
                      refine lv_tableOut hx hb dX3_fillTerm_59 (by have g59_0 := lv_neT h59_0 (show (0 : Int32).toInt = 0 from by decide); have g59_1 := lv_neT h59_1 (show (1 : Int32).toInt = 1 from by decide); have g59_2 := lv_neT h59_2 (show (2 : Int32).toInt = 2 from by decide); have g59_3 := lv_neT h59_3 (show (3 : Int32).toInt = 3 from by decide); have g59_4 := lv_neT h59_4 (show (4 : Int32).toInt = 4 from by decide); have g59_5 := lv_neT h59_5 (show (5 : Int32).toInt = 5 from by decide); have g59_6 := lv_neT h59_6 (show (6 : Int32).toInt = 6 from by decide); have g59_7 := lv_neT h59_7 (show (7 : Int32).toInt = 7 from by decide); omega) rfl ?_
                      refine lv_iload hx hb dX3_fillTerm_243 (lv_at hl 0 rfl) ?_
                      obtain ⟨rfl, rfl, rfl, rfl, rfl, rfl, rfl, rfl⟩ := ij8 hm
                      subst hQ
                      exact W.iret hx hb hr (fun t ht hW => ⟨⟨_, (), rfl, rfl, by rw [ht]; exact hP, va_K.moved hW.alike hK, hD⟩, hS.F ht⟩) hS.2.2 dX3_fillTerm_245
    · rw [if_pos h48] at hm
      refine lv_aload_n hx hb dX3_fillTerm_51 rfl (lv_at hl 2 rfl) ?_
      obtain ⟨t_wrong_52, e52, hm⟩ := c1_inv hm
      refine fr_v (wr := [(q_t, .inr (2, [.ref q_t_kind, .ref q_t_first, .ref q_t_second, .ref q_t_content, .int t_count, .int t_version])), (q_t_kind, .inl (cI, 60, .inl t_kind)), (q_t_first, .inl (cI, 60, .inl t_first)), (q_t_second, .inl (cI, 60, .inl t_second)), (q_t_content, .inl (cL, 60, .inr (.inl t_content))), (q_a1_bytes, .inl (cI, 80, .inl a1_bytes))]) (w2 := [(q_t, .inr (2, [.ref q_t_kind, .ref q_t_first, .ref q_t_second, .ref q_t_content, .int t_count, .int t_version])), (q_t_kind, .inl (cI, 60, .inl t_kind)), (q_t_first, .inl (cI, 60, .inl t_first)), (q_t_second, .inl (cI, 60, .inl t_second)), (q_t_content, .inl (cL, 60, .inr (.inl t_content))), (q_a1, .inr (5, [.ref q_a1_bytes, .int a1_length, .int a1_place, .int t_wrong_52])), (q_a1_bytes, .inl (cI, 80, .inl a1_bytes))]) (va_runV (As := []) (rest := []) ⟨hx, hb, hml, hown, hts⟩ (c_Text_refuseLatest l dC dI cI cL H.size q_a1 q_a1_bytes a1_length a1_place a1_wrong t_wrong_52 e52) (kV 0 hts aw_298 rfl rfl aw_2 aw_308 aw_296 aw_297 (by decide +kernel) ⟨by exact rl1 (a := 1) (b := 4) (f := f) (Nat.le_of_ble_eq_true rfl), by exact rl2 (x := 41) (b := 91) (f := f) (K := 26) (Nat.le_of_ble_eq_true rfl)⟩) (fr_preV hK hP hD hS hA hZ [5] rfl rfl (ci := 5) (q0 := 0) rfl rfl) rfl rfl hl.1 rfl (lv_room (Nat.le_of_ble_eq_true rfl)) dX3_fillTerm_52 ⟨Nat.le_of_ble_eq_true rfl, Nat.le_of_ble_eq_true rfl⟩) hP hD hS hA [5] [0, 1, 2, 3, 4, 6] [0, 1, 2, 3, 4, 6, 5] rfl rfl rfl (by decide) rfl rfl (fun H locs hP hD hS => ?_)
      have hP : va_P (dC, dI) vwCl [(q_t, .inr (2, [.ref q_t_kind, .ref q_t_first, .ref q_t_second, .ref q_t_content, .int t_count, .int t_version])), (q_t_kind, .inl (cI, 60, .inl t_kind)), (q_t_first, .inl (cI, 60, .inl t_first)), (q_t_second, .inl (cI, 60, .inl t_second)), (q_t_content, .inl (cL, 60, .inr (.inl t_content))), (q_a1, .inr (5, [.ref q_a1_bytes, .int a1_length, .int a1_place, .int t_wrong_52])), (q_a1_bytes, .inl (cI, 80, .inl a1_bytes))] H := hP
      have hD : va_D A [(q_t, .inr (2, [.ref q_t_kind, .ref q_t_first, .ref q_t_second, .ref q_t_content, .int t_count, .int t_version])), (q_t_kind, .inl (cI, 60, .inl t_kind)), (q_t_first, .inl (cI, 60, .inl t_first)), (q_t_second, .inl (cI, 60, .inl t_second)), (q_t_content, .inl (cL, 60, .inr (.inl t_content))), (q_a1, .inr (5, [.ref q_a1_bytes, .int a1_length, .int a1_place, .int t_wrong_52])), (q_a1_bytes, .inl (cI, 80, .inl a1_bytes))] := hD
      refine lv_iconst (v := (-1)) hx hb dX3_fillTerm_55 (by decide) ?_
      obtain ⟨rfl, rfl, rfl, rfl, rfl, rfl, rfl, rfl⟩ := ij8 hm
      subst hQ
      exact W.iret hx hb hr (fun t ht hW => ⟨⟨_, (), rfl, rfl, by rw [ht]; exact hP, va_K.moved hW.alike hK, hD⟩, hS.F ht⟩) hS.2.2 dX3_fillTerm_56
  have L26 : ∀ (t_count : Int32) (t_kind t_first t_second : Nat → Int32) (t_content : Nat → Int64) (a1_place a1_wrong v2 v3 v4 z0 : Int32) (ls : Array Slot) (H : Heap) (locs : List Loc), M_Program_fillTerm_26 (fun y0 y1 y2 y3 y4 y5 y6 y7 y8 y9 y10 => M_Program_fillTerm f y0 y1 y2 y3 y4 y5 y6 y7 y8 y9 y10) a1_length a1_bytes t_count t_kind t_first t_second t_content a1_place a1_wrong v2 v3 v4 z0 = some (r0, u_t_count, u_t_kind, u_t_first, u_t_second, u_t_content, u_a1_place, u_a1_wrong) → lv_has ls 7 [(0, .ref q_t), (1, .ref q_a1), (2, .int v2), (3, .int v3), (4, .int v4)] → va_P (dC, dI) vwCl [(q_t, .inr (2, [.ref q_t_kind, .ref q_t_first, .ref q_t_second, .ref q_t_content, .int t_count, .int t_version])), (q_t_kind, .inl (cI, 60, .inl t_kind)), (q_t_first, .inl (cI, 60, .inl t_first)), (q_t_second, .inl (cI, 60, .inl t_second)), (q_t_content, .inl (cL, 60, .inr (.inl t_content))), (q_a1, .inr (5, [.ref q_a1_bytes, .int a1_length, .int a1_place, .int a1_wrong])), (q_a1_bytes, .inl (cI, 80, .inl a1_bytes))] H → va_D A [(q_t, .inr (2, [.ref q_t_kind, .ref q_t_first, .ref q_t_second, .ref q_t_content, .int t_count, .int t_version])), (q_t_kind, .inl (cI, 60, .inl t_kind)), (q_t_first, .inl (cI, 60, .inl t_first)), (q_t_second, .inl (cI, 60, .inl t_second)), (q_t_content, .inl (cL, 60, .inr (.inl t_content))), (q_a1, .inr (5, [.ref q_a1_bytes, .int a1_length, .int a1_place, .int a1_wrong])), (q_a1_bytes, .inl (cI, 80, .inl a1_bytes))] → va_S A s.heap H locs → W p l e ({ frames := 4 + (f + 1), cells := 0, slots := 0, locals := 91 + (f + 1) * 26 }) s m [.ref q_t, .ref q_a1, .int x2, .int x3].toArray below meth c H locs 0 0 Q (F0 m 26 ls [.int z0]) := by
    intro t_count t_kind t_first t_second t_content a1_place a1_wrong v2 v3 v4 z0 ls H locs hm hl hP hD hS
    rw [M_Program_fillTerm_26] at hm
    refine lv_istore (lv' := [(5, .int z0), (0, .ref q_t), (1, .ref q_a1), (2, .int v2), (3, .int v3), (4, .int v4)]) hx hb dX3_fillTerm_26 hl (by decide) rfl (fun ls hl => ?_)
    refine lv_iload hx hb dX3_fillTerm_28 (lv_at hl 0 rfl) ?_
    refine lv_if_eq hx hb dX3_fillTerm_30 rfl (fun h30 => ?_) (fun h30 => ?_)
    · rw [if_pos h30] at hm
      refine lv_aload_n hx hb dX3_fillTerm_37 rfl (lv_at hl 1 rfl) ?_
      refine lv_iload hx hb dX3_fillTerm_38 (lv_at hl 5 rfl) ?_
      obtain ⟨r40, t_count_40, t_kind_40, t_first_40, t_second_40, t_content_40, e40, hm⟩ := c6_inv hm
      refine fr_i (wr := [(q_a1, .inr (5, [.ref q_a1_bytes, .int a1_length, .int a1_place, .int a1_wrong])), (q_a1_bytes, .inl (cI, 80, .inl a1_bytes))]) (w2 := [(q_t, .inr (2, [.ref q_t_kind, .ref q_t_first, .ref q_t_second, .ref q_t_content, .int t_count_40, .int t_version])), (q_t_kind, .inl (cI, 60, .inl t_kind_40)), (q_t_first, .inl (cI, 60, .inl t_first_40)), (q_t_second, .inl (cI, 60, .inl t_second_40)), (q_t_content, .inl (cL, 60, .inr (.inl t_content_40))), (q_a1, .inr (5, [.ref q_a1_bytes, .int a1_length, .int a1_place, .int a1_wrong])), (q_a1_bytes, .inl (cI, 80, .inl a1_bytes))]) (va_runV (As := [.int v4]) (rest := []) ⟨hx, hb, hml, hown, hts⟩ (c_Program_add l dC dI cI cL H.size q_t q_t_kind q_t_first q_t_second q_t_content t_count t_version t_kind t_first t_second t_content v4 r40 t_count_40 t_kind_40 t_first_40 t_second_40 t_content_40 e40) (kV 1 hts aw_307 rfl rfl aw_8 aw_304 aw_306 as_1 (by decide +kernel) ⟨by exact rl1 (a := 0) (b := 4) (f := f) (Nat.le_of_ble_eq_true rfl), by exact rl2 (x := 21) (b := 91) (f := f) (K := 26) (Nat.le_of_ble_eq_true rfl)⟩) (fr_preV hK hP hD hS hA hZ [0, 1, 2, 3, 4] rfl rfl (ci := 2) (q0 := 0) rfl rfl) rfl rfl hl.1 rfl (lv_room (Nat.le_of_ble_eq_true rfl)) dX3_fillTerm_40 ⟨Nat.le_of_ble_eq_true rfl, Nat.le_of_ble_eq_true rfl⟩) hP hD hS hA [0, 1, 2, 3, 4] [5, 6] [2, 3, 4, 5, 6, 0, 1] rfl rfl rfl (by decide) rfl rfl (fun H locs hP hD hS => ?_)
      have hP : va_P (dC, dI) vwCl [(q_t, .inr (2, [.ref q_t_kind, .ref q_t_first, .ref q_t_second, .ref q_t_content, .int t_count_40, .int t_version])), (q_t_kind, .inl (cI, 60, .inl t_kind_40)), (q_t_first, .inl (cI, 60, .inl t_first_40)), (q_t_second, .inl (cI, 60, .inl t_second_40)), (q_t_content, .inl (cL, 60, .inr (.inl t_content_40))), (q_a1, .inr (5, [.ref q_a1_bytes, .int a1_length, .int a1_place, .int a1_wrong])), (q_a1_bytes, .inl (cI, 80, .inl a1_bytes))] H := hP
      have hD : va_D A [(q_t, .inr (2, [.ref q_t_kind, .ref q_t_first, .ref q_t_second, .ref q_t_content, .int t_count_40, .int t_version])), (q_t_kind, .inl (cI, 60, .inl t_kind_40)), (q_t_first, .inl (cI, 60, .inl t_first_40)), (q_t_second, .inl (cI, 60, .inl t_second_40)), (q_t_content, .inl (cL, 60, .inr (.inl t_content_40))), (q_a1, .inr (5, [.ref q_a1_bytes, .int a1_length, .int a1_place, .int a1_wrong])), (q_a1_bytes, .inl (cI, 80, .inl a1_bytes))] := hD
      exact L43 _ _ _ _ _ _ _ _ _ _ _ _ _ _ hm (lv_sub hl [1, 2, 3, 4, 5] rfl) hP hD hS
    · rw [if_neg h30] at hm
      refine lv_iconst (v := (-1)) hx hb dX3_fillTerm_33 (by decide) ?_
      refine lv_goto hx hb dX3_fillTerm_34 rfl ?_
      exact L43 _ _ _ _ _ _ _ _ _ _ _ _ _ _ hm (lv_sub hl [1, 2, 3, 4, 5] rfl) hP hD hS
  have L21 : ∀ (t_count : Int32) (t_kind t_first t_second : Nat → Int32) (t_content : Nat → Int64) (a1_place a1_wrong v2 v3 v4 : Int32) (ls : Array Slot) (H : Heap) (locs : List Loc), M_Program_fillTerm_21 (fun y0 y1 y2 y3 y4 y5 y6 y7 y8 y9 y10 => M_Program_fillTerm f y0 y1 y2 y3 y4 y5 y6 y7 y8 y9 y10) a1_length a1_bytes t_count t_kind t_first t_second t_content a1_place a1_wrong v2 v3 v4 = some (r0, u_t_count, u_t_kind, u_t_first, u_t_second, u_t_content, u_a1_place, u_a1_wrong) → lv_has ls 7 [(0, .ref q_t), (1, .ref q_a1), (2, .int v2), (3, .int v3), (4, .int v4)] → va_P (dC, dI) vwCl [(q_t, .inr (2, [.ref q_t_kind, .ref q_t_first, .ref q_t_second, .ref q_t_content, .int t_count, .int t_version])), (q_t_kind, .inl (cI, 60, .inl t_kind)), (q_t_first, .inl (cI, 60, .inl t_first)), (q_t_second, .inl (cI, 60, .inl t_second)), (q_t_content, .inl (cL, 60, .inr (.inl t_content))), (q_a1, .inr (5, [.ref q_a1_bytes, .int a1_length, .int a1_place, .int a1_wrong])), (q_a1_bytes, .inl (cI, 80, .inl a1_bytes))] H → va_D A [(q_t, .inr (2, [.ref q_t_kind, .ref q_t_first, .ref q_t_second, .ref q_t_content, .int t_count, .int t_version])), (q_t_kind, .inl (cI, 60, .inl t_kind)), (q_t_first, .inl (cI, 60, .inl t_first)), (q_t_second, .inl (cI, 60, .inl t_second)), (q_t_content, .inl (cL, 60, .inr (.inl t_content))), (q_a1, .inr (5, [.ref q_a1_bytes, .int a1_length, .int a1_place, .int a1_wrong])), (q_a1_bytes, .inl (cI, 80, .inl a1_bytes))] → va_S A s.heap H locs → W p l e ({ frames := 4 + (f + 1), cells := 0, slots := 0, locals := 91 + (f + 1) * 26 }) s m [.ref q_t, .ref q_a1, .int x2, .int x3].toArray below meth c H locs 0 0 Q (F0 m 21 ls []) := by
    intro t_count t_kind t_first t_second t_content a1_place a1_wrong v2 v3 v4 ls H locs hm hl hP hD hS
    rw [M_Program_fillTerm_21] at hm
    refine lv_iconst (v := 1) hx hb dX3_fillTerm_21 (by decide) ?_
    refine lv_goto hx hb dX3_fillTerm_22 rfl ?_
    exact L26 _ _ _ _ _ _ _ _ _ _ _ _ _ _ hm (lv_sub hl [0, 1, 2, 3, 4] rfl) hP hD hS
  rw [M_Program_fillTerm] at hm
  refine lv_aload_n hx hb dX3_fillTerm_0 rfl (lv_at hl 1 rfl) ?_
  refine lv_iconst (v := 3) hx hb dX3_fillTerm_1 (by decide) ?_
  obtain ⟨r2, t_place_2, t_wrong_2, e2, hm⟩ := c3_inv hm
  refine fr_i (wr := [(q_t, .inr (2, [.ref q_t_kind, .ref q_t_first, .ref q_t_second, .ref q_t_content, .int t_count, .int t_version])), (q_t_kind, .inl (cI, 60, .inl t_kind)), (q_t_first, .inl (cI, 60, .inl t_first)), (q_t_second, .inl (cI, 60, .inl t_second)), (q_t_content, .inl (cL, 60, .inr (.inl t_content)))]) (w2 := [(q_t, .inr (2, [.ref q_t_kind, .ref q_t_first, .ref q_t_second, .ref q_t_content, .int t_count, .int t_version])), (q_t_kind, .inl (cI, 60, .inl t_kind)), (q_t_first, .inl (cI, 60, .inl t_first)), (q_t_second, .inl (cI, 60, .inl t_second)), (q_t_content, .inl (cL, 60, .inr (.inl t_content))), (q_a1, .inr (5, [.ref q_a1_bytes, .int a1_length, .int t_place_2, .int t_wrong_2])), (q_a1_bytes, .inl (cI, 80, .inl a1_bytes))]) (va_runV (As := [.int 3]) (rest := []) ⟨hx, hb, hml, hown, hts⟩ (c_Text_take l dC dI cI cL H.size q_a1 q_a1_bytes a1_length a1_place a1_wrong a1_bytes (3 : Int32) r2 t_place_2 t_wrong_2 e2) (kV 1 hts aw_281 rfl rfl aw_2 aw_303 aw_279 aw_280 (by decide +kernel) ⟨by exact rl1 (a := 1) (b := 4) (f := f) (Nat.le_of_ble_eq_true rfl), by exact rl2 (x := 45) (b := 91) (f := f) (K := 26) (Nat.le_of_ble_eq_true rfl)⟩) (fr_preV hK hP hD hS hA hZ [5, 6] rfl rfl (ci := 5) (q0 := 0) rfl rfl) rfl rfl hl.1 rfl (lv_room (Nat.le_of_ble_eq_true rfl)) dX3_fillTerm_2 ⟨Nat.le_of_ble_eq_true rfl, Nat.le_of_ble_eq_true rfl⟩) hP hD hS hA [5, 6] [0, 1, 2, 3, 4] [0, 1, 2, 3, 4, 5, 6] rfl rfl rfl (by decide) rfl rfl (fun H locs hP hD hS => ?_)
  have hP : va_P (dC, dI) vwCl [(q_t, .inr (2, [.ref q_t_kind, .ref q_t_first, .ref q_t_second, .ref q_t_content, .int t_count, .int t_version])), (q_t_kind, .inl (cI, 60, .inl t_kind)), (q_t_first, .inl (cI, 60, .inl t_first)), (q_t_second, .inl (cI, 60, .inl t_second)), (q_t_content, .inl (cL, 60, .inr (.inl t_content))), (q_a1, .inr (5, [.ref q_a1_bytes, .int a1_length, .int t_place_2, .int t_wrong_2])), (q_a1_bytes, .inl (cI, 80, .inl a1_bytes))] H := hP
  have hD : va_D A [(q_t, .inr (2, [.ref q_t_kind, .ref q_t_first, .ref q_t_second, .ref q_t_content, .int t_count, .int t_version])), (q_t_kind, .inl (cI, 60, .inl t_kind)), (q_t_first, .inl (cI, 60, .inl t_first)), (q_t_second, .inl (cI, 60, .inl t_second)), (q_t_content, .inl (cL, 60, .inr (.inl t_content))), (q_a1, .inr (5, [.ref q_a1_bytes, .int a1_length, .int t_place_2, .int t_wrong_2])), (q_a1_bytes, .inl (cI, 80, .inl a1_bytes))] := hD
  refine lv_istore (lv' := [(4, .int r2), (0, .ref q_t), (1, .ref q_a1), (2, .int x2), (3, .int x3)]) hx hb dX3_fillTerm_5 hl (by decide) rfl (fun ls hl => ?_)
  refine lv_aload_n hx hb dX3_fillTerm_7 rfl (lv_at hl 2 rfl) ?_
  refine va_getN (D := (dC, dI)) (ci := 5) (v := .int t_wrong_2) (C := RX6) (T := TX6) (N := 4) hx hb hts hn1 hown hK hP 5 rfl rfl 3 (by decide) (va_Nw.use rfl (nx_3 hZ.1)) (fun _ h9 => h9) rfl dX3_fillTerm_8 ?_
  refine lv_iconst (v := (-1)) hx hb dX3_fillTerm_11 (by decide) ?_
  refine lv_icmp_ne hx hb dX3_fillTerm_12 rfl (fun h12 => ?_) (fun h12 => ?_)
  · rw [if_neg h12] at hm
    exact L21 _ _ _ _ _ _ _ _ _ _ _ _ _ hm (lv_sub hl [1, 2, 3, 4, 0] rfl) hP hD hS
  · rw [if_pos h12] at hm
    refine lv_iload_n hx hb dX3_fillTerm_15 rfl (lv_at hl 3 rfl) ?_
    refine lv_bipush (v := 20) hx hb dX3_fillTerm_16 (by decide) ?_
    refine lv_icmp_le hx hb dX3_fillTerm_18 rfl (fun h18 => ?_) (fun h18 => ?_)
    · rw [if_pos h18] at hm
      refine lv_iconst (v := 0) hx hb dX3_fillTerm_25 (by decide) ?_
      exact L26 _ _ _ _ _ _ _ _ _ _ _ _ _ _ hm (lv_sub hl [1, 2, 3, 4, 0] rfl) hP hD hS
    · rw [if_neg h18] at hm
      exact L21 _ _ _ _ _ _ _ _ _ _ _ _ _ hm (lv_sub hl [1, 2, 3, 4, 0] rfl) hP hD hS
def M_Program_fill (t_count : Int32) (t_version : Int32) (t_kind : Nat → Int32) (t_first : Nat → Int32) (t_second : Nat → Int32) (t_content : Nat → Int64) (a1_length : Int32) (a1_place : Int32) (a1_wrong : Int32) (a1_bytes : Nat → Int32) : Option (Int32 × Int32 × (Nat → Int32) × (Nat → Int32) × (Nat → Int32) × (Nat → Int64) × Int32 × Int32) :=
  c2 (M_Text_rewind a1_place a1_wrong) (fun t_place_1 t_wrong_1 =>
    c3 (M_Text_takeNatural a1_length t_place_1 t_wrong_1 a1_bytes) (fun r11 t_place_11 t_wrong_11 =>
      c8 (M_Program_fillTerm 22 0 t_kind t_first t_second t_content a1_length t_place_11 t_wrong_11 a1_bytes (0 : Int32) (0 : Int32)) (fun r21 t_count_21 t_kind_21 t_first_21 t_second_21 t_content_21 a1_place_21 a1_wrong_21 =>
        c1 (M_Text_takeEnding a1_length a1_place_21 a1_wrong_21 a1_bytes) (fun t_wrong_26 =>
          some (t_count_21, r11, t_kind_21, t_first_21, t_second_21, t_content_21, a1_place_21, t_wrong_26)))))
set_option maxHeartbeats 4000000 in
set_option maxRecDepth 100000 in
theorem c_Program_fill (l : Launch) (dC : Nat → ClassId) (dI : Nat → Nat → Nat) (cI cL : ClassId) (sz : Nat) (q_t q_a1 q_t_kind q_t_first q_t_second q_t_content q_a1_bytes : Nat) (t_count t_version : Int32) (t_kind t_first t_second : Nat → Int32) (t_content : Nat → Int64) (a1_length a1_place a1_wrong : Int32) (a1_bytes : Nat → Int32) (u_t_count u_t_version : Int32) (u_t_kind u_t_first u_t_second : Nat → Int32) (u_t_content : Nat → Int64) (u_a1_place u_a1_wrong : Int32) (hm : M_Program_fill t_count t_version t_kind t_first t_second t_content a1_length a1_place a1_wrong a1_bytes = some (u_t_count, u_t_version, u_t_kind, u_t_first, u_t_second, u_t_content, u_a1_place, u_a1_wrong)) : Met l yX3_fill wsX3_fill ({ frames := 27, cells := 0, slots := 0, locals := 689 }) (frPc (dC, dI) vwCl [(cI, .int), (cL, .long)] [(q_t, .inr (2, [.ref q_t_kind, .ref q_t_first, .ref q_t_second, .ref q_t_content, .int t_count, .int t_version])), (q_t_kind, .inl (cI, 60, .inl t_kind)), (q_t_first, .inl (cI, 60, .inl t_first)), (q_t_second, .inl (cI, 60, .inl t_second)), (q_t_content, .inl (cL, 60, .inr (.inl t_content))), (q_a1, .inr (5, [.ref q_a1_bytes, .int a1_length, .int a1_place, .int a1_wrong])), (q_a1_bytes, .inl (cI, 80, .inl a1_bytes))] sz [.ref q_t, .ref q_a1]) (va_Qv (fun (_ : Unit) => True) (frB (dC, dI) vwCl [(cI, .int), (cL, .long)] (va_A [(q_t, .inr (2, [.ref q_t_kind, .ref q_t_first, .ref q_t_second, .ref q_t_content, .int t_count, .int t_version])), (q_t_kind, .inl (cI, 60, .inl t_kind)), (q_t_first, .inl (cI, 60, .inl t_first)), (q_t_second, .inl (cI, 60, .inl t_second)), (q_t_content, .inl (cL, 60, .inr (.inl t_content))), (q_a1, .inr (5, [.ref q_a1_bytes, .int a1_length, .int a1_place, .int a1_wrong])), (q_a1_bytes, .inl (cI, 80, .inl a1_bytes))] sz) [(q_t, .inr (2, [.ref q_t_kind, .ref q_t_first, .ref q_t_second, .ref q_t_content, .int u_t_count, .int u_t_version])), (q_t_kind, .inl (cI, 60, .inl u_t_kind)), (q_t_first, .inl (cI, 60, .inl u_t_first)), (q_t_second, .inl (cI, 60, .inl u_t_second)), (q_t_content, .inl (cL, 60, .inr (.inl u_t_content))), (q_a1, .inr (5, [.ref q_a1_bytes, .int a1_length, .int u_a1_place, .int u_a1_wrong])), (q_a1_bytes, .inl (cI, 80, .inl a1_bytes))]) (va_A [(q_t, .inr (2, [.ref q_t_kind, .ref q_t_first, .ref q_t_second, .ref q_t_content, .int t_count, .int t_version])), (q_t_kind, .inl (cI, 60, .inl t_kind)), (q_t_first, .inl (cI, 60, .inl t_first)), (q_t_second, .inl (cI, 60, .inl t_second)), (q_t_content, .inl (cL, 60, .inr (.inl t_content))), (q_a1, .inr (5, [.ref q_a1_bytes, .int a1_length, .int a1_place, .int a1_wrong])), (q_a1_bytes, .inl (cI, 80, .inl a1_bytes))] sz)) 0 0 (va_A [(q_t, .inr (2, [.ref q_t_kind, .ref q_t_first, .ref q_t_second, .ref q_t_content, .int t_count, .int t_version])), (q_t_kind, .inl (cI, 60, .inl t_kind)), (q_t_first, .inl (cI, 60, .inl t_first)), (q_t_second, .inl (cI, 60, .inl t_second)), (q_t_content, .inl (cL, 60, .inr (.inl t_content))), (q_a1, .inr (5, [.ref q_a1_bytes, .int a1_length, .int a1_place, .int a1_wrong])), (q_a1_bytes, .inl (cI, 80, .inl a1_bytes))] sz) := by
  refine Met.ofW (cc := cX3_fill) (maxL := 2) (ret := none) (by decide) rfl ?_
  intro p e s m args below meth c s₁ B hml hv
  obtain ⟨rfl, hsz, hP, hK, hD0, hZ⟩ := hv
  have hx := B.exec
  have hb := B.bytes
  have hr := B.returns
  have hts := atoms_spec (ws := wsX3_fill) B.pre
  have hown : s.vm.findClass RX3 = some m.cls := findClass_of_methodNamed B.named
  have hlocks := B.notSynchronized
  subst hsz
  have hD := hD0.self (sz := s.heap.size)
  generalize hAe : va_A [(q_t, .inr (2, [.ref q_t_kind, .ref q_t_first, .ref q_t_second, .ref q_t_content, .int t_count, .int t_version])), (q_t_kind, .inl (cI, 60, .inl t_kind)), (q_t_first, .inl (cI, 60, .inl t_first)), (q_t_second, .inl (cI, 60, .inl t_second)), (q_t_content, .inl (cL, 60, .inr (.inl t_content))), (q_a1, .inr (5, [.ref q_a1_bytes, .int a1_length, .int a1_place, .int a1_wrong])), (q_a1_bytes, .inl (cI, 80, .inl a1_bytes))] s.heap.size = A at hD hZ ⊢
  have hA : ∀ q : Nat, s.heap.size ≤ q → A q := fun q h => by rw [← hAe]; exact Or.inr h
  have hS : va_S A s.heap s.heap [] := va_S.rf
  have hP : va_P (dC, dI) vwCl [(q_t, .inr (2, [.ref q_t_kind, .ref q_t_first, .ref q_t_second, .ref q_t_content, .int t_count, .int t_version])), (q_t_kind, .inl (cI, 60, .inl t_kind)), (q_t_first, .inl (cI, 60, .inl t_first)), (q_t_second, .inl (cI, 60, .inl t_second)), (q_t_content, .inl (cL, 60, .inr (.inl t_content))), (q_a1, .inr (5, [.ref q_a1_bytes, .int a1_length, .int a1_place, .int a1_wrong])), (q_a1_bytes, .inl (cI, 80, .inl a1_bytes))] s.heap := hP
  have hl := lv_entry ([.ref q_t, .ref q_a1]) (n := 2) (Nat.le_of_ble_eq_true rfl)
  rw [lg_entry_eq]
  generalize (lg_sl ([.ref q_t, .ref q_a1]) ++ List.replicate (2 - (lg_sl ([.ref q_t, .ref q_a1])).length) Slot.unset).toArray = ls at hl ⊢
  have hl : lv_has ls 2 [(0, .ref q_t), (1, .ref q_a1)] := hl
  refine wq hP hS (fun Q hQ H locs hP hS => ?_)
  have htw : ∀ w ∈ AW, w.before _ s = true := fun w h => hts w (List.mem_cons_of_mem _ h)
  have hn0 : ∀ w ∈ wsX30, w ∈ wsX3_fill := fun w h => List.mem_cons_of_mem _ (inX3 w h)
  rw [M_Program_fill] at hm
  refine lv_aload_n hx hb dX3_fill_0 rfl (lv_at hl 1 rfl) ?_
  obtain ⟨t_place_1, t_wrong_1, e1, hm⟩ := c2_inv hm
  refine fr_v (wr := [(q_t, .inr (2, [.ref q_t_kind, .ref q_t_first, .ref q_t_second, .ref q_t_content, .int t_count, .int t_version])), (q_t_kind, .inl (cI, 60, .inl t_kind)), (q_t_first, .inl (cI, 60, .inl t_first)), (q_t_second, .inl (cI, 60, .inl t_second)), (q_t_content, .inl (cL, 60, .inr (.inl t_content))), (q_a1_bytes, .inl (cI, 80, .inl a1_bytes))]) (w2 := [(q_t, .inr (2, [.ref q_t_kind, .ref q_t_first, .ref q_t_second, .ref q_t_content, .int t_count, .int t_version])), (q_t_kind, .inl (cI, 60, .inl t_kind)), (q_t_first, .inl (cI, 60, .inl t_first)), (q_t_second, .inl (cI, 60, .inl t_second)), (q_t_content, .inl (cL, 60, .inr (.inl t_content))), (q_a1, .inr (5, [.ref q_a1_bytes, .int a1_length, .int t_place_1, .int t_wrong_1])), (q_a1_bytes, .inl (cI, 80, .inl a1_bytes))]) (va_runV (As := []) (rest := []) ⟨hx, hb, hml, hown, hts⟩ (c_Text_rewind l dC dI cI cL H.size q_a1 q_a1_bytes a1_length a1_place a1_wrong t_place_1 t_wrong_1 e1) (kV 0 hts aw_273 rfl rfl aw_2 aw_270 aw_271 aw_272 (by decide +kernel) ⟨Nat.le_of_ble_eq_true rfl, Nat.le_of_ble_eq_true rfl⟩) (fr_preV hK hP hD hS hA hZ [5] rfl rfl (ci := 5) (q0 := 0) rfl rfl) rfl rfl hl.1 rfl (lv_room (Nat.le_of_ble_eq_true rfl)) dX3_fill_1 ⟨Nat.le_of_ble_eq_true rfl, Nat.le_of_ble_eq_true rfl⟩) hP hD hS hA [5] [0, 1, 2, 3, 4, 6] [0, 1, 2, 3, 4, 6, 5] rfl rfl rfl (by decide) rfl rfl (fun H locs hP hD hS => ?_)
  have hP : va_P (dC, dI) vwCl [(q_t, .inr (2, [.ref q_t_kind, .ref q_t_first, .ref q_t_second, .ref q_t_content, .int t_count, .int t_version])), (q_t_kind, .inl (cI, 60, .inl t_kind)), (q_t_first, .inl (cI, 60, .inl t_first)), (q_t_second, .inl (cI, 60, .inl t_second)), (q_t_content, .inl (cL, 60, .inr (.inl t_content))), (q_a1, .inr (5, [.ref q_a1_bytes, .int a1_length, .int t_place_1, .int t_wrong_1])), (q_a1_bytes, .inl (cI, 80, .inl a1_bytes))] H := hP
  have hD : va_D A [(q_t, .inr (2, [.ref q_t_kind, .ref q_t_first, .ref q_t_second, .ref q_t_content, .int t_count, .int t_version])), (q_t_kind, .inl (cI, 60, .inl t_kind)), (q_t_first, .inl (cI, 60, .inl t_first)), (q_t_second, .inl (cI, 60, .inl t_second)), (q_t_content, .inl (cL, 60, .inr (.inl t_content))), (q_a1, .inr (5, [.ref q_a1_bytes, .int a1_length, .int t_place_1, .int t_wrong_1])), (q_a1_bytes, .inl (cI, 80, .inl a1_bytes))] := hD
  refine lv_aload_n hx hb dX3_fill_4 rfl (lv_at hl 0 rfl) ?_
  refine lv_iconst (v := 0) hx hb dX3_fill_5 (by decide) ?_
  refine va_put (D := (dC, dI)) (ci := 2) (v := .int 0) (ty := .int) (C := RX3) (T := TX3) (N := 6) hx hb hts hn0 tyX3 tyX3_ok nmX3 hown hK hP hD hS 0 rfl rfl 4 (by decide) (htw _ aw_232) (fun _ h9 => h9) rfl (by decide +kernel) rfl rfl (Nat.le_of_ble_eq_true rfl) dX3_fill_6 (fun H locs hP hD hS => ?_)
  have hP : va_P (dC, dI) vwCl [(q_t, .inr (2, [.ref q_t_kind, .ref q_t_first, .ref q_t_second, .ref q_t_content, .int 0, .int t_version])), (q_t_kind, .inl (cI, 60, .inl t_kind)), (q_t_first, .inl (cI, 60, .inl t_first)), (q_t_second, .inl (cI, 60, .inl t_second)), (q_t_content, .inl (cL, 60, .inr (.inl t_content))), (q_a1, .inr (5, [.ref q_a1_bytes, .int a1_length, .int t_place_1, .int t_wrong_1])), (q_a1_bytes, .inl (cI, 80, .inl a1_bytes))] H := hP
  have hD : va_D A [(q_t, .inr (2, [.ref q_t_kind, .ref q_t_first, .ref q_t_second, .ref q_t_content, .int 0, .int t_version])), (q_t_kind, .inl (cI, 60, .inl t_kind)), (q_t_first, .inl (cI, 60, .inl t_first)), (q_t_second, .inl (cI, 60, .inl t_second)), (q_t_content, .inl (cL, 60, .inr (.inl t_content))), (q_a1, .inr (5, [.ref q_a1_bytes, .int a1_length, .int t_place_1, .int t_wrong_1])), (q_a1_bytes, .inl (cI, 80, .inl a1_bytes))] := hD
  refine lv_aload_n hx hb dX3_fill_9 rfl (lv_at hl 0 rfl) ?_
  refine lv_aload_n hx hb dX3_fill_10 rfl (lv_at hl 1 rfl) ?_
  obtain ⟨r11, t_place_11, t_wrong_11, e11, hm⟩ := c3_inv hm
  refine fr_i (wr := [(q_t, .inr (2, [.ref q_t_kind, .ref q_t_first, .ref q_t_second, .ref q_t_content, .int 0, .int t_version])), (q_t_kind, .inl (cI, 60, .inl t_kind)), (q_t_first, .inl (cI, 60, .inl t_first)), (q_t_second, .inl (cI, 60, .inl t_second)), (q_t_content, .inl (cL, 60, .inr (.inl t_content)))]) (w2 := [(q_t, .inr (2, [.ref q_t_kind, .ref q_t_first, .ref q_t_second, .ref q_t_content, .int 0, .int t_version])), (q_t_kind, .inl (cI, 60, .inl t_kind)), (q_t_first, .inl (cI, 60, .inl t_first)), (q_t_second, .inl (cI, 60, .inl t_second)), (q_t_content, .inl (cL, 60, .inr (.inl t_content))), (q_a1, .inr (5, [.ref q_a1_bytes, .int a1_length, .int t_place_11, .int t_wrong_11])), (q_a1_bytes, .inl (cI, 80, .inl a1_bytes))]) (va_runV (As := []) (rest := [.ref q_t]) ⟨hx, hb, hml, hown, hts⟩ (c_Text_takeNatural l dC dI cI cL H.size q_a1 q_a1_bytes a1_length t_place_1 t_wrong_1 a1_bytes r11 t_place_11 t_wrong_11 e11) (kV 0 hts aw_277 rfl rfl aw_2 aw_274 aw_275 aw_276 (by decide +kernel) ⟨Nat.le_of_ble_eq_true rfl, Nat.le_of_ble_eq_true rfl⟩) (fr_preV hK hP hD hS hA hZ [5, 6] rfl rfl (ci := 5) (q0 := 0) rfl rfl) rfl rfl hl.1 rfl (lv_room (Nat.le_of_ble_eq_true rfl)) dX3_fill_11 ⟨Nat.le_of_ble_eq_true rfl, Nat.le_of_ble_eq_true rfl⟩) hP hD hS hA [5, 6] [0, 1, 2, 3, 4] [0, 1, 2, 3, 4, 5, 6] rfl rfl rfl (by decide) rfl rfl (fun H locs hP hD hS => ?_)
  have hP : va_P (dC, dI) vwCl [(q_t, .inr (2, [.ref q_t_kind, .ref q_t_first, .ref q_t_second, .ref q_t_content, .int 0, .int t_version])), (q_t_kind, .inl (cI, 60, .inl t_kind)), (q_t_first, .inl (cI, 60, .inl t_first)), (q_t_second, .inl (cI, 60, .inl t_second)), (q_t_content, .inl (cL, 60, .inr (.inl t_content))), (q_a1, .inr (5, [.ref q_a1_bytes, .int a1_length, .int t_place_11, .int t_wrong_11])), (q_a1_bytes, .inl (cI, 80, .inl a1_bytes))] H := hP
  have hD : va_D A [(q_t, .inr (2, [.ref q_t_kind, .ref q_t_first, .ref q_t_second, .ref q_t_content, .int 0, .int t_version])), (q_t_kind, .inl (cI, 60, .inl t_kind)), (q_t_first, .inl (cI, 60, .inl t_first)), (q_t_second, .inl (cI, 60, .inl t_second)), (q_t_content, .inl (cL, 60, .inr (.inl t_content))), (q_a1, .inr (5, [.ref q_a1_bytes, .int a1_length, .int t_place_11, .int t_wrong_11])), (q_a1_bytes, .inl (cI, 80, .inl a1_bytes))] := hD
  refine va_put (D := (dC, dI)) (ci := 2) (v := .int r11) (ty := .int) (C := RX3) (T := TX3) (N := 6) hx hb hts hn0 tyX3 tyX3_ok nmX3 hown hK hP hD hS 0 rfl rfl 5 (by decide) (htw _ aw_234) (fun _ h9 => h9) rfl (by decide +kernel) rfl rfl (Nat.le_of_ble_eq_true rfl) dX3_fill_14 (fun H locs hP hD hS => ?_)
  have hP : va_P (dC, dI) vwCl [(q_t, .inr (2, [.ref q_t_kind, .ref q_t_first, .ref q_t_second, .ref q_t_content, .int 0, .int r11])), (q_t_kind, .inl (cI, 60, .inl t_kind)), (q_t_first, .inl (cI, 60, .inl t_first)), (q_t_second, .inl (cI, 60, .inl t_second)), (q_t_content, .inl (cL, 60, .inr (.inl t_content))), (q_a1, .inr (5, [.ref q_a1_bytes, .int a1_length, .int t_place_11, .int t_wrong_11])), (q_a1_bytes, .inl (cI, 80, .inl a1_bytes))] H := hP
  have hD : va_D A [(q_t, .inr (2, [.ref q_t_kind, .ref q_t_first, .ref q_t_second, .ref q_t_content, .int 0, .int r11])), (q_t_kind, .inl (cI, 60, .inl t_kind)), (q_t_first, .inl (cI, 60, .inl t_first)), (q_t_second, .inl (cI, 60, .inl t_second)), (q_t_content, .inl (cL, 60, .inr (.inl t_content))), (q_a1, .inr (5, [.ref q_a1_bytes, .int a1_length, .int t_place_11, .int t_wrong_11])), (q_a1_bytes, .inl (cI, 80, .inl a1_bytes))] := hD
  refine lv_aload_n hx hb dX3_fill_17 rfl (lv_at hl 0 rfl) ?_
  refine lv_aload_n hx hb dX3_fill_18 rfl (lv_at hl 1 rfl) ?_
  refine lv_iconst (v := 0) hx hb dX3_fill_19 (by decide) ?_
  refine lv_iconst (v := 0) hx hb dX3_fill_20 (by decide) ?_
  obtain ⟨r21, t_count_21, t_kind_21, t_first_21, t_second_21, t_content_21, a1_place_21, a1_wrong_21, e21, hm⟩ := c8_inv hm
  refine fr_i (wr := []) (w2 := [(q_t, .inr (2, [.ref q_t_kind, .ref q_t_first, .ref q_t_second, .ref q_t_content, .int t_count_21, .int r11])), (q_t_kind, .inl (cI, 60, .inl t_kind_21)), (q_t_first, .inl (cI, 60, .inl t_first_21)), (q_t_second, .inl (cI, 60, .inl t_second_21)), (q_t_content, .inl (cL, 60, .inr (.inl t_content_21))), (q_a1, .inr (5, [.ref q_a1_bytes, .int a1_length, .int a1_place_21, .int a1_wrong_21])), (q_a1_bytes, .inl (cI, 80, .inl a1_bytes))]) (va_runV (As := [.ref q_a1, .int 0, .int 0]) (rest := []) ⟨hx, hb, hml, hown, hts⟩ (c_Program_fillTerm l dC dI cI cL 22 H.size q_t q_a1 q_t_kind q_t_first q_t_second q_t_content q_a1_bytes (0 : Int32) r11 t_kind t_first t_second t_content a1_length t_place_11 t_wrong_11 a1_bytes (0 : Int32) (0 : Int32) r21 t_count_21 t_kind_21 t_first_21 t_second_21 t_content_21 a1_place_21 a1_wrong_21 e21) (kV 3 hts aw_302 rfl rfl aw_8 aw_299 aw_301 as_0 (by decide +kernel) ⟨Nat.le_of_ble_eq_true rfl, Nat.le_of_ble_eq_true rfl⟩) (fr_preV hK hP hD hS hA hZ [0, 1, 2, 3, 4, 5, 6] rfl rfl (ci := 2) (q0 := 0) rfl rfl) rfl rfl hl.1 rfl (lv_room (Nat.le_of_ble_eq_true rfl)) dX3_fill_21 ⟨Nat.le_of_ble_eq_true rfl, Nat.le_of_ble_eq_true rfl⟩) hP hD hS hA [0, 1, 2, 3, 4, 5, 6] [] [0, 1, 2, 3, 4, 5, 6] rfl rfl rfl (by decide) rfl rfl (fun H locs hP hD hS => ?_)
  have hP : va_P (dC, dI) vwCl [(q_t, .inr (2, [.ref q_t_kind, .ref q_t_first, .ref q_t_second, .ref q_t_content, .int t_count_21, .int r11])), (q_t_kind, .inl (cI, 60, .inl t_kind_21)), (q_t_first, .inl (cI, 60, .inl t_first_21)), (q_t_second, .inl (cI, 60, .inl t_second_21)), (q_t_content, .inl (cL, 60, .inr (.inl t_content_21))), (q_a1, .inr (5, [.ref q_a1_bytes, .int a1_length, .int a1_place_21, .int a1_wrong_21])), (q_a1_bytes, .inl (cI, 80, .inl a1_bytes))] H := hP
  have hD : va_D A [(q_t, .inr (2, [.ref q_t_kind, .ref q_t_first, .ref q_t_second, .ref q_t_content, .int t_count_21, .int r11])), (q_t_kind, .inl (cI, 60, .inl t_kind_21)), (q_t_first, .inl (cI, 60, .inl t_first_21)), (q_t_second, .inl (cI, 60, .inl t_second_21)), (q_t_content, .inl (cL, 60, .inr (.inl t_content_21))), (q_a1, .inr (5, [.ref q_a1_bytes, .int a1_length, .int a1_place_21, .int a1_wrong_21])), (q_a1_bytes, .inl (cI, 80, .inl a1_bytes))] := hD
  refine lv_pop hx hb dX3_fill_24 rfl ?_
  refine lv_aload_n hx hb dX3_fill_25 rfl (lv_at hl 1 rfl) ?_
  obtain ⟨t_wrong_26, e26, hm⟩ := c1_inv hm
  refine fr_v (wr := [(q_t, .inr (2, [.ref q_t_kind, .ref q_t_first, .ref q_t_second, .ref q_t_content, .int t_count_21, .int r11])), (q_t_kind, .inl (cI, 60, .inl t_kind_21)), (q_t_first, .inl (cI, 60, .inl t_first_21)), (q_t_second, .inl (cI, 60, .inl t_second_21)), (q_t_content, .inl (cL, 60, .inr (.inl t_content_21)))]) (w2 := [(q_t, .inr (2, [.ref q_t_kind, .ref q_t_first, .ref q_t_second, .ref q_t_content, .int t_count_21, .int r11])), (q_t_kind, .inl (cI, 60, .inl t_kind_21)), (q_t_first, .inl (cI, 60, .inl t_first_21)), (q_t_second, .inl (cI, 60, .inl t_second_21)), (q_t_content, .inl (cL, 60, .inr (.inl t_content_21))), (q_a1, .inr (5, [.ref q_a1_bytes, .int a1_length, .int a1_place_21, .int t_wrong_26])), (q_a1_bytes, .inl (cI, 80, .inl a1_bytes))]) (va_runV (As := []) (rest := []) ⟨hx, hb, hml, hown, hts⟩ (c_Text_takeEnding l dC dI cI cL H.size q_a1 q_a1_bytes a1_length a1_place_21 a1_wrong_21 a1_bytes t_wrong_26 e26) (kV 0 hts aw_331 rfl rfl aw_2 aw_328 aw_329 aw_330 (by decide +kernel) ⟨Nat.le_of_ble_eq_true rfl, Nat.le_of_ble_eq_true rfl⟩) (fr_preV hK hP hD hS hA hZ [5, 6] rfl rfl (ci := 5) (q0 := 0) rfl rfl) rfl rfl hl.1 rfl (lv_room (Nat.le_of_ble_eq_true rfl)) dX3_fill_26 ⟨Nat.le_of_ble_eq_true rfl, Nat.le_of_ble_eq_true rfl⟩) hP hD hS hA [5, 6] [0, 1, 2, 3, 4] [0, 1, 2, 3, 4, 5, 6] rfl rfl rfl (by decide) rfl rfl (fun H locs hP hD hS => ?_)
  have hP : va_P (dC, dI) vwCl [(q_t, .inr (2, [.ref q_t_kind, .ref q_t_first, .ref q_t_second, .ref q_t_content, .int t_count_21, .int r11])), (q_t_kind, .inl (cI, 60, .inl t_kind_21)), (q_t_first, .inl (cI, 60, .inl t_first_21)), (q_t_second, .inl (cI, 60, .inl t_second_21)), (q_t_content, .inl (cL, 60, .inr (.inl t_content_21))), (q_a1, .inr (5, [.ref q_a1_bytes, .int a1_length, .int a1_place_21, .int t_wrong_26])), (q_a1_bytes, .inl (cI, 80, .inl a1_bytes))] H := hP
  have hD : va_D A [(q_t, .inr (2, [.ref q_t_kind, .ref q_t_first, .ref q_t_second, .ref q_t_content, .int t_count_21, .int r11])), (q_t_kind, .inl (cI, 60, .inl t_kind_21)), (q_t_first, .inl (cI, 60, .inl t_first_21)), (q_t_second, .inl (cI, 60, .inl t_second_21)), (q_t_content, .inl (cL, 60, .inr (.inl t_content_21))), (q_a1, .inr (5, [.ref q_a1_bytes, .int a1_length, .int a1_place_21, .int t_wrong_26])), (q_a1_bytes, .inl (cI, 80, .inl a1_bytes))] := hD
  obtain ⟨rfl, rfl, rfl, rfl, rfl, rfl, rfl, rfl⟩ := ij8 hm
  subst hQ
  exact W.vret hx hb hr (fun t ht hW => ⟨⟨(), rfl, trivial, by rw [ht]; exact hP, va_K.moved hW.alike hK, hD⟩, hS.F ht⟩) hS.2.2 dX3_fill_29
