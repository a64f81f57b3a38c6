set_option maxHeartbeats 4000000 in
set_option maxRecDepth 100000 in
theorem c_Text_init (l : Launch) (dC : Nat → ClassId) (dI : Nat → Nat → Nat) (cI cL : ClassId) (sz q_t : Nat) : Met l yX6_init wsX6_init ({ frames := 1, cells := 1, slots := 80, locals := 12 }) (frPc (dC, dI) vwCl [(cI, .int), (cL, .long)] [(q_t, .inr (5, [.null, .int 0, .int 0, .int 0]))] sz [.ref q_t]) (va_Qv (fun (_ : Nat) => True) (frBn (S := Nat) (dC, dI) vwCl [(cI, .int), (cL, .long)] (va_A [(q_t, .inr (5, [.null, .int 0, .int 0, .int 0]))] sz) (fun u => [(q_t, .inr (5, [.ref u, .int 0, .int 0, .int (-1)])), (u, .inl (cI, 80, .inl (fun _ => 0)))])) (va_A [(q_t, .inr (5, [.null, .int 0, .int 0, .int 0]))] sz)) 1 80 (va_A [(q_t, .inr (5, [.null, .int 0, .int 0, .int 0]))] sz) := by
  refine Met.ofW (cc := cX6_init) (maxL := 1) (ret := none) (by decide) rfl ?_
  intro p e s m args below meth c s₁ B hml hv
  obtain ⟨rfl, hsz, hP, hK, hD0, hZ⟩ := hv
  have hx := B.exec
  have hb := B.bytes
  have hr := B.returns
  have hts := atoms_spec (ws := wsX6_init) B.pre
  have hown : s.vm.findClass RX6 = some m.cls := findClass_of_methodNamed B.named
  have hlocks := B.notSynchronized
  have hin : meth.name = "<init>" := (name_of_methodNamed B.named B.method).1
  subst hsz
  have hD := hD0.self (sz := s.heap.size)
  generalize hAe : va_A [(q_t, .inr (5, [.null, .int 0, .int 0, .int 0]))] s.heap.size = A at hD hZ ⊢
  have hA : ∀ q : Nat, s.heap.size ≤ q → A q := fun q h => by rw [← hAe]; exact Or.inr h
  have hS : va_S A s.heap s.heap [] := va_S.rf
  have hP : va_P (dC, dI) vwCl [(q_t, .inr (5, [.null, .int 0, .int 0, .int 0]))] s.heap := hP
  have hl := lv_entry ([.ref q_t]) (n := 1) (Nat.le_of_ble_eq_true rfl)
  rw [lg_entry_eq]
  generalize (lg_sl ([.ref q_t]) ++ List.replicate (1 - (lg_sl ([.ref q_t])).length) Slot.unset).toArray = ls at hl ⊢
  have hl : lv_has ls 1 [(0, .ref q_t)] := hl
  refine wq hP hS (fun Q hQ H locs hP hS => ?_)
  have htw : ∀ w ∈ AW, w.before _ s = true := fun w h => hts w (List.mem_cons_of_mem _ h)
  have hn0 : ∀ w ∈ wsX60, w ∈ wsX6_init := fun w h => List.mem_cons_of_mem _ (inX6 w h)
  refine lv_aload_n hx hb dX6_init_0 rfl (lv_at hl 0 rfl) ?_
  refine W.objInit hx hb hown (htw _ aw_30) (htw _ aw_23) (htw _ aw_24) rfl (by rw [hml]; exact hl.1) rfl dX6_init_1 (Nat.le_of_ble_eq_true rfl) (Nat.le_of_ble_eq_true rfl) ?_
  refine W.eq (g2 := F0 m 4 ls []) rfl ?_
  refine lv_aload_n hx hb dX6_init_4 rfl (lv_at hl 0 rfl) ?_
  refine lv_bipush (v := 80) hx hb dX6_init_5 (by decide) ?_
  refine fr_newi (n := 80) (N' := 80) hx hb (htw _ aw_47) hK (t0 := 0) rfl hP hD hS hA (by decide) (by decide) (by decide) (Nat.le_of_ble_eq_true rfl) (Nat.le_of_ble_eq_true rfl) dX6_init_7 (fun q7 H hP hD hS => ?_)
  refine W.widen (k := 1) (n := 80) (by omega) (by omega) ?_
  have hP : va_P (dC, dI) vwCl [(q_t, .inr (5, [.null, .int 0, .int 0, .int 0])), (q7, .inl (cI, 80, .inl (fun _ => 0)))] H := hP
  have hD : va_D A [(q_t, .inr (5, [.null, .int 0, .int 0, .int 0])), (q7, .inl (cI, 80, .inl (fun _ => 0)))] := hD
  refine va_putF (D := (dC, dI)) (ci := 5) (v := .ref q7) (ty := (.array .int)) (C := RX6) (T := TX6) (N := 4) hx hb hts hn0 tyX6 tyX6_ok nmX6 hown hK hP hD hS 0 rfl rfl 0 (by decide) (htw _ aw_31) (fun _ h9 => h9) rfl hin rfl (by decide +kernel) rfl rfl (Nat.le_of_ble_eq_true rfl) dX6_init_9 (fun H locs hP hD hS => ?_)
  have hP : va_P (dC, dI) vwCl [(q_t, .inr (5, [.ref q7, .int 0, .int 0, .int 0])), (q7, .inl (cI, 80, .inl (fun _ => 0)))] H := hP
  have hD : va_D A [(q_t, .inr (5, [.ref q7, .int 0, .int 0, .int 0])), (q7, .inl (cI, 80, .inl (fun _ => 0)))] := hD
  refine lv_aload_n hx hb dX6_init_12 rfl (lv_at hl 0 rfl) ?_
  refine lv_iconst (v := 0) hx hb dX6_init_13 (by decide) ?_
  refine va_put (D := (dC, dI)) (ci := 5) (v := .int 0) (ty := .int) (C := RX6) (T := TX6) (N := 4) hx hb hts hn0 tyX6 tyX6_ok nmX6 hown hK hP hD hS 0 rfl rfl 1 (by decide) (htw _ aw_32) (fun _ h9 => h9) rfl (by decide +kernel) rfl rfl (Nat.le_of_ble_eq_true rfl) dX6_init_14 (fun H locs hP hD hS => ?_)
  have hP : va_P (dC, dI) vwCl [(q_t, .inr (5, [.ref q7, .int 0, .int 0, .int 0])), (q7, .inl (cI, 80, .inl (fun _ => 0)))] H := hP
  have hD : va_D A [(q_t, .inr (5, [.ref q7, .int 0, .int 0, .int 0])), (q7, .inl (cI, 80, .inl (fun _ => 0)))] := hD
  refine lv_aload_n hx hb dX6_init_17 rfl (lv_at hl 0 rfl) ?_
  refine lv_iconst (v := 0) hx hb dX6_init_18 (by decide) ?_
  refine va_put (D := (dC, dI)) (ci := 5) (v := .int 0) (ty := .int) (C := RX6) (T := TX6) (N := 4) hx hb hts hn0 tyX6 tyX6_ok nmX6 hown hK hP hD hS 0 rfl rfl 2 (by decide) (htw _ aw_34) (fun _ h9 => h9) rfl (by decide +kernel) rfl rfl (Nat.le_of_ble_eq_true rfl) dX6_init_19 (fun H locs hP hD hS => ?_)
  have hP : va_P (dC, dI) vwCl [(q_t, .inr (5, [.ref q7, .int 0, .int 0, .int 0])), (q7, .inl (cI, 80, .inl (fun _ => 0)))] H := hP
  have hD : va_D A [(q_t, .inr (5, [.ref q7, .int 0, .int 0, .int 0])), (q7, .inl (cI, 80, .inl (fun _ => 0)))] := hD
  refine lv_aload_n hx hb dX6_init_22 rfl (lv_at hl 0 rfl) ?_
  refine lv_iconst (v := (-1)) hx hb dX6_init_23 (by decide) ?_
  refine va_put (D := (dC, dI)) (ci := 5) (v := .int (-1)) (ty := .int) (C := RX6) (T := TX6) (N := 4) hx hb hts hn0 tyX6 tyX6_ok nmX6 hown hK hP hD hS 0 rfl rfl 3 (by decide) (htw _ aw_35) (fun _ h9 => h9) rfl (by decide +kernel) rfl rfl (Nat.le_of_ble_eq_true rfl) dX6_init_24 (fun H locs hP hD hS => ?_)
  have hP : va_P (dC, dI) vwCl [(q_t, .inr (5, [.ref q7, .int 0, .int 0, .int (-1)])), (q7, .inl (cI, 80, .inl (fun _ => 0)))] H := hP
  have hD : va_D A [(q_t, .inr (5, [.ref q7, .int 0, .int 0, .int (-1)])), (q7, .inl (cI, 80, .inl (fun _ => 0)))] := hD
  subst hQ
  exact W.vret hx hb hr (fun t ht hW => ⟨⟨q7, rfl, trivial, by rw [ht]; exact hP, va_K.moved hW.alike hK, hD⟩, hS.F ht⟩) hS.2.2 dX6_init_27
def M_Text_add (t_length : Int32) (t_bytes : Nat → Int32) (x1 : Int32) : Option (Int32 × (Nat → Int32)) :=
  (if 80 ≤ t_length then
    some (t_length, t_bytes)
  else
    chk ((0 : Int32) ≤ t_length ∧ t_length < 80) (some (t_length + 1, upd t_bytes t_length.toNatClampNeg (x1 &&& 255))))
set_option maxHeartbeats 4000000 in
set_option maxRecDepth 100000 in
theorem c_Text_add (l : Launch) (dC : Nat → ClassId) (dI : Nat → Nat → Nat) (cI cL : ClassId) (sz : Nat) (q_t q_t_bytes : Nat) (t_length t_place t_wrong : Int32) (t_bytes : Nat → Int32) (x1 u_t_length : Int32) (u_t_bytes : Nat → Int32) (hm : M_Text_add t_length t_bytes x1 = some (u_t_length, u_t_bytes)) : Met l yX6_add wsX6_add ({ frames := 0, cells := 0, slots := 0, locals := 0 }) (frPc (dC, dI) vwCl [(cI, .int), (cL, .long)] [(q_t, .inr (5, [.ref q_t_bytes, .int t_length, .int t_place, .int t_wrong])), (q_t_bytes, .inl (cI, 80, .inl t_bytes))] sz [.ref q_t, .int x1]) (va_Qv (fun (_ : Unit) => True) (frB (dC, dI) vwCl [(cI, .int), (cL, .long)] (va_A [(q_t, .inr (5, [.ref q_t_bytes, .int t_length, .int t_place, .int t_wrong])), (q_t_bytes, .inl (cI, 80, .inl t_bytes))] sz) [(q_t, .inr (5, [.ref q_t_bytes, .int u_t_length, .int t_place, .int t_wrong])), (q_t_bytes, .inl (cI, 80, .inl u_t_bytes))]) (va_A [(q_t, .inr (5, [.ref q_t_bytes, .int t_length, .int t_place, .int t_wrong])), (q_t_bytes, .inl (cI, 80, .inl t_bytes))] sz)) 0 0 (va_A [(q_t, .inr (5, [.ref q_t_bytes, .int t_length, .int t_place, .int t_wrong])), (q_t_bytes, .inl (cI, 80, .inl t_bytes))] sz) := by
  refine Met.ofW (cc := cX6_add) (maxL := 2) (ret := none) (by decide) rfl ?_
  intro p e s m args below meth c s₁ B hml hv
  obtain ⟨rfl, hsz, hP, hK, hD0, hZ⟩ := hv
  have hx := B.exec
  have hb := B.bytes
  have hr := B.returns
  have hts := atoms_spec (ws := wsX6_add) B.pre
  have hown : s.vm.findClass RX6 = some m.cls := findClass_of_methodNamed B.named
  have hlocks := B.notSynchronized
  subst hsz
  have hD := hD0.self (sz := s.heap.size)
  generalize hAe : va_A [(q_t, .inr (5, [.ref q_t_bytes, .int t_length, .int t_place, .int t_wrong])), (q_t_bytes, .inl (cI, 80, .inl t_bytes))] s.heap.size = A at hD hZ ⊢
  have hA : ∀ q : Nat, s.heap.size ≤ q → A q := fun q h => by rw [← hAe]; exact Or.inr h
  have hS : va_S A s.heap s.heap [] := va_S.rf
  have hP : va_P (dC, dI) vwCl [(q_t, .inr (5, [.ref q_t_bytes, .int t_length, .int t_place, .int t_wrong])), (q_t_bytes, .inl (cI, 80, .inl t_bytes))] s.heap := hP
  have hl := lv_entry ([.ref q_t, .int x1]) (n := 2) (Nat.le_of_ble_eq_true rfl)
  rw [lg_entry_eq]
  generalize (lg_sl ([.ref q_t, .int x1]) ++ List.replicate (2 - (lg_sl ([.ref q_t, .int x1])).length) Slot.unset).toArray = ls at hl ⊢
  have hl : lv_has ls 2 [(0, .ref q_t), (1, .int x1)] := hl
  refine wq hP hS (fun Q hQ H locs hP hS => ?_)
  have htw : ∀ w ∈ AW, w.before _ s = true := fun w h => hts w (List.mem_cons_of_mem _ h)
  have hn0 : ∀ w ∈ wsX60, w ∈ wsX6_add := fun w h => List.mem_cons_of_mem _ (inX6 w h)
  rw [M_Text_add] at hm
  refine lv_aload_n hx hb dX6_add_0 rfl (lv_at hl 0 rfl) ?_
  refine va_get (D := (dC, dI)) (ci := 5) (v := .int t_length) (C := RX6) (T := TX6) (N := 4) hx hb hts hn0 hown hK hP 0 rfl rfl 1 (by decide) (htw _ aw_32) (fun _ h9 => h9) rfl dX6_add_1 ?_
  refine lv_bipush (v := 80) hx hb dX6_add_4 (by decide) ?_
  refine lv_icmp_ge hx hb dX6_add_6 rfl (fun h6 => ?_) (fun h6 => ?_)
  · rw [if_pos h6] at hm
    obtain ⟨rfl, rfl⟩ := ij2 hm
    subst hQ
    exact W.vret hx hb hr (fun t ht hW => ⟨⟨(), rfl, trivial, by rw [ht]; exact hP, va_K.moved hW.alike hK, hD⟩, hS.F ht⟩) hS.2.2 dX6_add_33
  · rw [if_neg h6] at hm
    refine lv_aload_n hx hb dX6_add_9 rfl (lv_at hl 0 rfl) ?_
    refine va_get (D := (dC, dI)) (ci := 5) (v := .ref q_t_bytes) (C := RX6) (T := TX6) (N := 4) hx hb hts hn0 hown hK hP 0 rfl rfl 0 (by decide) (htw _ aw_31) (fun _ h9 => h9) rfl dX6_add_10 ?_
    refine lv_aload_n hx hb dX6_add_13 rfl (lv_at hl 0 rfl) ?_
    refine va_get (D := (dC, dI)) (ci := 5) (v := .int t_length) (C := RX6) (T := TX6) (N := 4) hx hb hts hn0 hown hK hP 0 rfl rfl 1 (by decide) (htw _ aw_32) (fun _ h9 => h9) rfl dX6_add_14 ?_
    refine lv_iload_n hx hb dX6_add_17 rfl (lv_at hl 1 rfl) ?_
    refine lv_sipush (v := 255) hx hb dX6_add_18 (by decide) ?_
    refine lv_iand hx hb dX6_add_21 ?_
    obtain ⟨h22, hm⟩ := chk_inv hm
    refine va_iast (D := (dC, dI)) hx hb hK hP hD hS 1 0 rfl rfl (in_of (n := 80) (by decide) h22) dX6_add_22 (fun H locs hP hD hS => ?_)
    have hP : va_P (dC, dI) vwCl [(q_t, .inr (5, [.ref q_t_bytes, .int t_length, .int t_place, .int t_wrong])), (q_t_bytes, .inl (cI, 80, .inl (upd t_bytes t_length.toNatClampNeg (x1 &&& 255))))] H := hP
    have hD : va_D A [(q_t, .inr (5, [.ref q_t_bytes, .int t_length, .int t_place, .int t_wrong])), (q_t_bytes, .inl (cI, 80, .inl (upd t_bytes t_length.toNatClampNeg (x1 &&& 255))))] := hD
    refine lv_aload_n hx hb dX6_add_23 rfl (lv_at hl 0 rfl) ?_
    refine lv_dup hx hb dX6_add_24 rfl ?_
    refine va_get (D := (dC, dI)) (ci := 5) (v := .int t_length) (C := RX6) (T := TX6) (N := 4) hx hb hts hn0 hown hK hP 0 rfl rfl 1 (by decide) (htw _ aw_32) (fun _ h9 => h9) rfl dX6_add_25 ?_
    refine lv_iconst (v := 1) hx hb dX6_add_28 (by decide) ?_
    refine lv_iadd hx hb dX6_add_29 ?_
    refine va_put (D := (dC, dI)) (ci := 5) (v := .int (t_length + 1)) (ty := .int) (C := RX6) (T := TX6) (N := 4) hx hb hts hn0 tyX6 tyX6_ok nmX6 hown hK hP hD hS 0 rfl rfl 1 (by decide) (htw _ aw_32) (fun _ h9 => h9) rfl (by decide +kernel) rfl rfl (Nat.le_of_ble_eq_true rfl) dX6_add_30 (fun H locs hP hD hS => ?_)
    have hP : va_P (dC, dI) vwCl [(q_t, .inr (5, [.ref q_t_bytes, .int (t_length + 1), .int t_place, .int t_wrong])), (q_t_bytes, .inl (cI, 80, .inl (upd t_bytes t_length.toNatClampNeg (x1 &&& 255))))] H := hP
    have hD : va_D A [(q_t, .inr (5, [.ref q_t_bytes, .int (t_length + 1), .int t_place, .int t_wrong])), (q_t_bytes, .inl (cI, 80, .inl (upd t_bytes t_length.toNatClampNeg (x1 &&& 255))))] := hD
    obtain ⟨rfl, rfl⟩ := ij2 hm
    subst hQ
    exact W.vret hx hb hr (fun t ht hW => ⟨⟨(), rfl, trivial, by rw [ht]; exact hP, va_K.moved hW.alike hK, hD⟩, hS.F ht⟩) hS.2.2 dX6_add_33
def M_Text_bitAt (t_length : Int32) (t_bytes : Nat → Int32) (x1 : Int32) : Option (Int32) :=
  (if (x1 >>> ((3 : Int32) &&& 31)) < 0 then
    some 0
  else
    (if (x1 >>> ((3 : Int32) &&& 31)) < t_length then
      chk ((0 : Int32) ≤ (x1 >>> ((3 : Int32) &&& 31)) ∧ (x1 >>> ((3 : Int32) &&& 31)) < 80) (some (((t_bytes (x1 >>> ((3 : Int32) &&& 31)).toNatClampNeg) >>> ((7 - (x1 &&& 7)) &&& 31)) &&& 1))
    else
      some 0))
set_option maxHeartbeats 4000000 in
set_option maxRecDepth 100000 in
theorem c_Text_bitAt (l : Launch) (dC : Nat → ClassId) (dI : Nat → Nat → Nat) (cI cL : ClassId) (sz : Nat) (q_t q_t_bytes : Nat) (t_length t_place t_wrong : Int32) (t_bytes : Nat → Int32) (x1 r0 : Int32) (hm : M_Text_bitAt t_length t_bytes x1 = some r0) : Met l yX6_bitAt wsX6_bitAt ({ frames := 0, cells := 0, slots := 0, locals := 0 }) (frPc (dC, dI) vwCl [(cI, .int), (cL, .long)] [(q_t, .inr (5, [.ref q_t_bytes, .int t_length, .int t_place, .int t_wrong])), (q_t_bytes, .inl (cI, 80, .inl t_bytes))] sz [.ref q_t, .int x1]) (va_Qi (fun (r : Int32) (_ : Unit) => r = r0) (frB (dC, dI) vwCl [(cI, .int), (cL, .long)] (va_A [(q_t, .inr (5, [.ref q_t_bytes, .int t_length, .int t_place, .int t_wrong])), (q_t_bytes, .inl (cI, 80, .inl t_bytes))] sz) [(q_t, .inr (5, [.ref q_t_bytes, .int t_length, .int t_place, .int t_wrong])), (q_t_bytes, .inl (cI, 80, .inl t_bytes))]) (va_A [(q_t, .inr (5, [.ref q_t_bytes, .int t_length, .int t_place, .int t_wrong])), (q_t_bytes, .inl (cI, 80, .inl t_bytes))] sz)) 0 0 (va_A [(q_t, .inr (5, [.ref q_t_bytes, .int t_length, .int t_place, .int t_wrong])), (q_t_bytes, .inl (cI, 80, .inl t_bytes))] sz) := by
  refine Met.ofW (cc := cX6_bitAt) (maxL := 3) (ret := (some .int)) (by decide) rfl ?_
  intro p e s m args below meth c s₁ B hml hv
  obtain ⟨rfl, hsz, hP, hK, hD0, hZ⟩ := hv
  have hx := B.exec
  have hb := B.bytes
  have hr := B.returns
  have hts := atoms_spec (ws := wsX6_bitAt) B.pre
  have hown : s.vm.findClass RX6 = some m.cls := findClass_of_methodNamed B.named
  have hlocks := B.notSynchronized
  subst hsz
  have hD := hD0.self (sz := s.heap.size)
  generalize hAe : va_A [(q_t, .inr (5, [.ref q_t_bytes, .int t_length, .int t_place, .int t_wrong])), (q_t_bytes, .inl (cI, 80, .inl t_bytes))] s.heap.size = A at hD hZ ⊢
  have hA : ∀ q : Nat, s.heap.size ≤ q → A q := fun q h => by rw [← hAe]; exact Or.inr h
  have hS : va_S A s.heap s.heap [] := va_S.rf
  have hP : va_P (dC, dI) vwCl [(q_t, .inr (5, [.ref q_t_bytes, .int t_length, .int t_place, .int t_wrong])), (q_t_bytes, .inl (cI, 80, .inl t_bytes))] s.heap := hP
  have hl := lv_entry ([.ref q_t, .int x1]) (n := 3) (Nat.le_of_ble_eq_true rfl)
  rw [lg_entry_eq]
  generalize (lg_sl ([.ref q_t, .int x1]) ++ List.replicate (3 - (lg_sl ([.ref q_t, .int x1])).length) Slot.unset).toArray = ls at hl ⊢
  have hl : lv_has ls 3 [(0, .ref q_t), (1, .int x1)] := hl
  refine wq hP hS (fun Q hQ H locs hP hS => ?_)
  have htw : ∀ w ∈ AW, w.before _ s = true := fun w h => hts w (List.mem_cons_of_mem _ h)
  have hn0 : ∀ w ∈ wsX60, w ∈ wsX6_bitAt := fun w h => List.mem_cons_of_mem _ (inX6 w h)
  rw [M_Text_bitAt] at hm
  refine lv_iload_n hx hb dX6_bitAt_0 rfl (lv_at hl 1 rfl) ?_
  refine lv_iconst (v := 3) hx hb dX6_bitAt_1 (by decide) ?_
  refine lv_ishr hx hb dX6_bitAt_2 ?_
  refine lv_istore_n (lv' := [(2, .int (x1 >>> ((3 : Int32) &&& 31))), (0, .ref q_t), (1, .int x1)]) hx hb dX6_bitAt_3 rfl hl (by decide) rfl (fun ls hl => ?_)
  refine lv_iload_n hx hb dX6_bitAt_4 rfl (lv_at hl 0 rfl) ?_
  refine lv_if_lt hx hb dX6_bitAt_5 rfl (fun h5 => ?_) (fun h5 => ?_)
  · rw [if_pos h5] at hm
    refine lv_iconst (v := 0) hx hb dX6_bitAt_16 (by decide) ?_
    obtain rfl := Option.some.inj hm
    subst hQ
    exact W.iret hx hb hr (fun t ht hW => ⟨⟨_, (), rfl, rfl, by rw [ht]; exact hP, va_K.moved hW.alike hK, hD⟩, hS.F ht⟩) hS.2.2 dX6_bitAt_17
  · rw [if_neg h5] at hm
    refine lv_iload_n hx hb dX6_bitAt_8 rfl (lv_at hl 0 rfl) ?_
    refine lv_aload_n hx hb dX6_bitAt_9 rfl (lv_at hl 1 rfl) ?_
    refine va_get (D := (dC, dI)) (ci := 5) (v := .int t_length) (C := RX6) (T := TX6) (N := 4) hx hb hts hn0 hown hK hP 0 rfl rfl 1 (by decide) (htw _ aw_32) (fun _ h9 => h9) rfl dX6_bitAt_10 ?_
    refine lv_icmp_lt hx hb dX6_bitAt_13 rfl (fun h13 => ?_) (fun h13 => ?_)
    · rw [if_pos h13] at hm
      refine lv_aload_n hx hb dX6_bitAt_18 rfl (lv_at hl 1 rfl) ?_
      refine va_get (D := (dC, dI)) (ci := 5) (v := .ref q_t_bytes) (C := RX6) (T := TX6) (N := 4) hx hb hts hn0 hown hK hP 0 rfl rfl 0 (by decide) (htw _ aw_31) (fun _ h9 => h9) rfl dX6_bitAt_19 ?_
      refine lv_iload_n hx hb dX6_bitAt_22 rfl (lv_at hl 0 rfl) ?_
      obtain ⟨h23, hm⟩ := chk_inv hm
      refine va_iald (D := (dC, dI)) hx hb hK hP 1 0 rfl rfl (in_of (n := 80) (by decide) h23) dX6_bitAt_23 ?_
      refine lv_bipush (v := 7) hx hb dX6_bitAt_24 (by decide) ?_
      refine lv_iload_n hx hb dX6_bitAt_26 rfl (lv_at hl 2 rfl) ?_
      refine lv_bipush (v := 7) hx hb dX6_bitAt_27 (by decide) ?_
      refine lv_iand hx hb dX6_bitAt_29 ?_
      refine lv_isub hx hb dX6_bitAt_30 ?_
      refine lv_ishr hx hb dX6_bitAt_31 ?_
      refine lv_iconst (v := 1) hx hb dX6_bitAt_32 (by decide) ?_
      refine lv_iand hx hb dX6_bitAt_33 ?_
      obtain rfl := Option.some.inj hm
      subst hQ
      exact W.iret hx hb hr (fun t ht hW => ⟨⟨_, (), rfl, rfl, by rw [ht]; exact hP, va_K.moved hW.alike hK, hD⟩, hS.F ht⟩) hS.2.2 dX6_bitAt_34
    · rw [if_neg h13] at hm
      refine lv_iconst (v := 0) hx hb dX6_bitAt_16 (by decide) ?_
      obtain rfl := Option.some.inj hm
      subst hQ
      exact W.iret hx hb hr (fun t ht hW => ⟨⟨_, (), rfl, rfl, by rw [ht]; exact hP, va_K.moved hW.alike hK, hD⟩, hS.F ht⟩) hS.2.2 dX6_bitAt_17
def M_Text_bits (t_length : Int32) : Option (Int32) :=
  some (8 * t_length)
set_option maxHeartbeats 4000000 in
set_option maxRecDepth 100000 in
theorem c_Text_bits (l : Launch) (dC : Nat → ClassId) (dI : Nat → Nat → Nat) (cI cL : ClassId) (sz : Nat) (q_t q_t_bytes : Nat) (t_length t_place t_wrong r0 : Int32) (hm : M_Text_bits t_length = some r0) : Met l yX6_bits wsX6_bits ({ frames := 0, cells := 0, slots := 0, locals := 0 }) (frPc (dC, dI) vwCl [(cI, .int), (cL, .long)] [(q_t, .inr (5, [.ref q_t_bytes, .int t_length, .int t_place, .int t_wrong]))] sz [.ref q_t]) (va_Qi (fun (r : Int32) (_ : Unit) => r = r0) (frB (dC, dI) vwCl [(cI, .int), (cL, .long)] (va_A [(q_t, .inr (5, [.ref q_t_bytes, .int t_length, .int t_place, .int t_wrong]))] sz) [(q_t, .inr (5, [.ref q_t_bytes, .int t_length, .int t_place, .int t_wrong]))]) (va_A [(q_t, .inr (5, [.ref q_t_bytes, .int t_length, .int t_place, .int t_wrong]))] sz)) 0 0 (va_A [(q_t, .inr (5, [.ref q_t_bytes, .int t_length, .int t_place, .int t_wrong]))] sz) := by
  refine Met.ofW (cc := cX6_bits) (maxL := 1) (ret := (some .int)) (by decide) rfl ?_
  intro p e s m args below meth c s₁ B hml hv
  obtain ⟨rfl, hsz, hP, hK, hD0, hZ⟩ := hv
  have hx := B.exec
  have hb := B.bytes
  have hr := B.returns
  have hts := atoms_spec (ws := wsX6_bits) B.pre
  have hown : s.vm.findClass RX6 = some m.cls := findClass_of_methodNamed B.named
  have hlocks := B.notSynchronized
  subst hsz
  have hD := hD0.self (sz := s.heap.size)
  generalize hAe : va_A [(q_t, .inr (5, [.ref q_t_bytes, .int t_length, .int t_place, .int t_wrong]))] s.heap.size = A at hD hZ ⊢
  have hA : ∀ q : Nat, s.heap.size ≤ q → A q := fun q h => by rw [← hAe]; exact Or.inr h
  have hS : va_S A s.heap s.heap [] := va_S.rf
  have hP : va_P (dC, dI) vwCl [(q_t, .inr (5, [.ref q_t_bytes, .int t_length, .int t_place, .int t_wrong]))] s.heap := hP
  have hl := lv_entry ([.ref q_t]) (n := 1) (Nat.le_of_ble_eq_true rfl)
  rw [lg_entry_eq]
  generalize (lg_sl ([.ref q_t]) ++ List.replicate (1 - (lg_sl ([.ref q_t])).length) Slot.unset).toArray = ls at hl ⊢
  have hl : lv_has ls 1 [(0, .ref q_t)] := hl
  refine wq hP hS (fun Q hQ H locs hP hS => ?_)
  have htw : ∀ w ∈ AW, w.before _ s = true := fun w h => hts w (List.mem_cons_of_mem _ h)
  have hn0 : ∀ w ∈ wsX60, w ∈ wsX6_bits := fun w h => List.mem_cons_of_mem _ (inX6 w h)
  rw [M_Text_bits] at hm
  refine lv_bipush (v := 8) hx hb dX6_bits_0 (by decide) ?_
  refine lv_aload_n hx hb dX6_bits_2 rfl (lv_at hl 0 rfl) ?_
  refine va_get (D := (dC, dI)) (ci := 5) (v := .int t_length) (C := RX6) (T := TX6) (N := 4) hx hb hts hn0 hown hK hP 0 rfl rfl 1 (by decide) (htw _ aw_32) (fun _ h9 => h9) rfl dX6_bits_3 ?_
  refine lv_imul hx hb dX6_bits_6 ?_
  obtain rfl := Option.some.inj hm
  subst hQ
  exact W.iret hx hb hr (fun t ht hW => ⟨⟨_, (), rfl, rfl, by rw [ht]; exact hP, va_K.moved hW.alike hK, hD⟩, hS.F ht⟩) hS.2.2 dX6_bits_7
def M_Text_refuse (t_wrong : Int32) (x1 : Int32) : Option (Int32) :=
  (if t_wrong = (-1) then
    some x1
  else
    some t_wrong)
set_option maxHeartbeats 4000000 in
set_option maxRecDepth 100000 in
theorem c_Text_refuse (l : Launch) (dC : Nat → ClassId) (dI : Nat → Nat → Nat) (cI cL : ClassId) (sz : Nat) (q_t q_t_bytes : Nat) (t_length t_place t_wrong x1 u_t_wrong : Int32) (hm : M_Text_refuse t_wrong x1 = some u_t_wrong) : Met l yX6_refuse wsX6_refuse ({ frames := 0, cells := 0, slots := 0, locals := 0 }) (frPc (dC, dI) vwCl [(cI, .int), (cL, .long)] [(q_t, .inr (5, [.ref q_t_bytes, .int t_length, .int t_place, .int t_wrong]))] sz [.ref q_t, .int x1]) (va_Qv (fun (_ : Unit) => True) (frB (dC, dI) vwCl [(cI, .int), (cL, .long)] (va_A [(q_t, .inr (5, [.ref q_t_bytes, .int t_length, .int t_place, .int t_wrong]))] sz) [(q_t, .inr (5, [.ref q_t_bytes, .int t_length, .int t_place, .int u_t_wrong]))]) (va_A [(q_t, .inr (5, [.ref q_t_bytes, .int t_length, .int t_place, .int t_wrong]))] sz)) 0 0 (va_A [(q_t, .inr (5, [.ref q_t_bytes, .int t_length, .int t_place, .int t_wrong]))] sz) := by
  refine Met.ofW (cc := cX6_refuse) (maxL := 2) (ret := none) (by decide) rfl ?_
  intro p e s m args below meth c s₁ B hml hv
  obtain ⟨rfl, hsz, hP, hK, hD0, hZ⟩ := hv
  have hx := B.exec
  have hb := B.bytes
  have hr := B.returns
  have hts := atoms_spec (ws := wsX6_refuse) B.pre
  have hown : s.vm.findClass RX6 = some m.cls := findClass_of_methodNamed B.named
  have hlocks := B.notSynchronized
  subst hsz
  have hD := hD0.self (sz := s.heap.size)
  generalize hAe : va_A [(q_t, .inr (5, [.ref q_t_bytes, .int t_length, .int t_place, .int t_wrong]))] s.heap.size = A at hD hZ ⊢
  have hA : ∀ q : Nat, s.heap.size ≤ q → A q := fun q h => by rw [← hAe]; exact Or.inr h
  have hS : va_S A s.heap s.heap [] := va_S.rf
  have hP : va_P (dC, dI) vwCl [(q_t, .inr (5, [.ref q_t_bytes, .int t_length, .int t_place, .int t_wrong]))] s.heap := hP
  have hl := lv_entry ([.ref q_t, .int x1]) (n := 2) (Nat.le_of_ble_eq_true rfl)
  rw [lg_entry_eq]
  generalize (lg_sl ([.ref q_t, .int x1]) ++ List.replicate (2 - (lg_sl ([.ref q_t, .int x1])).length) Slot.unset).toArray = ls at hl ⊢
  have hl : lv_has ls 2 [(0, .ref q_t), (1, .int x1)] := hl
  refine wq hP hS (fun Q hQ H locs hP hS => ?_)
  have htw : ∀ w ∈ AW, w.before _ s = true := fun w h => hts w (List.mem_cons_of_mem _ h)
  have hn0 : ∀ w ∈ wsX60, w ∈ wsX6_refuse := fun w h => List.mem_cons_of_mem _ (inX6 w h)
  rw [M_Text_refuse] at hm
  refine lv_aload_n hx hb dX6_refuse_0 rfl (lv_at hl 0 rfl) ?_
  refine va_get (D := (dC, dI)) (ci := 5) (v := .int t_wrong) (C := RX6) (T := TX6) (N := 4) hx hb hts hn0 hown hK hP 0 rfl rfl 3 (by decide) (htw _ aw_35) (fun _ h9 => h9) rfl dX6_refuse_1 ?_
  refine lv_iconst (v := (-1)) hx hb dX6_refuse_4 (by decide) ?_
  refine lv_icmp_ne hx hb dX6_refuse_5 rfl (fun h5 => ?_) (fun h5 => ?_)
  · rw [if_neg h5] at hm
    obtain rfl := Option.some.inj hm
    subst hQ
    exact W.vret hx hb hr (fun t ht hW => ⟨⟨(), rfl, trivial, by rw [ht]; exact hP, va_K.moved hW.alike hK, hD⟩, hS.F ht⟩) hS.2.2 dX6_refuse_13
  · rw [if_pos h5] at hm
    refine lv_aload_n hx hb dX6_refuse_8 rfl (lv_at hl 0 rfl) ?_
    refine lv_iload_n hx hb dX6_refuse_9 rfl (lv_at hl 1 rfl) ?_
    refine va_put (D := (dC, dI)) (ci := 5) (v := .int x1) (ty := .int) (C := RX6) (T := TX6) (N := 4) hx hb hts hn0 tyX6 tyX6_ok nmX6 hown hK hP hD hS 0 rfl rfl 3 (by decide) (htw _ aw_35) (fun _ h9 => h9) rfl (by decide +kernel) rfl rfl (Nat.le_of_ble_eq_true rfl) dX6_refuse_10 (fun H locs hP hD hS => ?_)
    have hP : va_P (dC, dI) vwCl [(q_t, .inr (5, [.ref q_t_bytes, .int t_length, .int t_place, .int x1]))] H := hP
    have hD : va_D A [(q_t, .inr (5, [.ref q_t_bytes, .int t_length, .int t_place, .int x1]))] := hD
    obtain rfl := Option.some.inj hm
    subst hQ
    exact W.vret hx hb hr (fun t ht hW => ⟨⟨(), rfl, trivial, by rw [ht]; exact hP, va_K.moved hW.alike hK, hD⟩, hS.F ht⟩) hS.2.2 dX6_refuse_13
def M_Text_refuseLatest (t_place : Int32) (t_wrong : Int32) : Option (Int32) :=
  c1 (M_Text_refuse t_wrong (t_place - 1)) (fun t_wrong_7 =>
    some t_wrong_7)
set_option maxHeartbeats 4000000 in
set_option maxRecDepth 100000 in
theorem c_Text_refuseLatest (l : Launch) (dC : Nat → ClassId) (dI : Nat → Nat → Nat) (cI cL : ClassId) (sz : Nat) (q_t q_t_bytes : Nat) (t_length t_place t_wrong u_t_wrong : Int32) (hm : M_Text_refuseLatest t_place t_wrong = some u_t_wrong) : Met l yX6_refuseLatest wsX6_refuseLatest ({ frames := 1, cells := 0, slots := 0, locals := 21 }) (frPc (dC, dI) vwCl [(cI, .int), (cL, .long)] [(q_t, .inr (5, [.ref q_t_bytes, .int t_length, .int t_place, .int t_wrong]))] sz [.ref q_t]) (va_Qv (fun (_ : Unit) => True) (frB (dC, dI) vwCl [(cI, .int), (cL, .long)] (va_A [(q_t, .inr (5, [.ref q_t_bytes, .int t_length, .int t_place, .int t_wrong]))] sz) [(q_t, .inr (5, [.ref q_t_bytes, .int t_length, .int t_place, .int u_t_wrong]))]) (va_A [(q_t, .inr (5, [.ref q_t_bytes, .int t_length, .int t_place, .int t_wrong]))] sz)) 0 0 (va_A [(q_t, .inr (5, [.ref q_t_bytes, .int t_length, .int t_place, .int t_wrong]))] sz) := by
  refine Met.ofW (cc := cX6_refuseLatest) (maxL := 1) (ret := none) (by decide) rfl ?_
  intro p e s m args below meth c s₁ B hml hv
  obtain ⟨rfl, hsz, hP, hK, hD0, hZ⟩ := hv
  have hx := B.exec
  have hb := B.bytes
  have hr := B.returns
  have hts := atoms_spec (ws := wsX6_refuseLatest) B.pre
  have hown : s.vm.findClass RX6 = some m.cls := findClass_of_methodNamed B.named
  have hlocks := B.notSynchronized
  subst hsz
  have hD := hD0.self (sz := s.heap.size)
  generalize hAe : va_A [(q_t, .inr (5, [.ref q_t_bytes, .int t_length, .int t_place, .int t_wrong]))] s.heap.size = A at hD hZ ⊢
  have hA : ∀ q : Nat, s.heap.size ≤ q → A q := fun q h => by rw [← hAe]; exact Or.inr h
  have hS : va_S A s.heap s.heap [] := va_S.rf
  have hP : va_P (dC, dI) vwCl [(q_t, .inr (5, [.ref q_t_bytes, .int t_length, .int t_place, .int t_wrong]))] s.heap := hP
  have hl := lv_entry ([.ref q_t]) (n := 1) (Nat.le_of_ble_eq_true rfl)
  rw [lg_entry_eq]
  generalize (lg_sl ([.ref q_t]) ++ List.replicate (1 - (lg_sl ([.ref q_t])).length) Slot.unset).toArray = ls at hl ⊢
  have hl : lv_has ls 1 [(0, .ref q_t)] := hl
  refine wq hP hS (fun Q hQ H locs hP hS => ?_)
  have htw : ∀ w ∈ AW, w.before _ s = true := fun w h => hts w (List.mem_cons_of_mem _ h)
  have hn0 : ∀ w ∈ wsX60, w ∈ wsX6_refuseLatest := fun w h => List.mem_cons_of_mem _ (inX6 w h)
  rw [M_Text_refuseLatest] at hm
  refine lv_aload_n hx hb dX6_refuseLatest_0 rfl (lv_at hl 0 rfl) ?_
  refine lv_aload_n hx hb dX6_refuseLatest_1 rfl (lv_at hl 0 rfl) ?_
  refine va_get (D := (dC, dI)) (ci := 5) (v := .int t_place) (C := RX6) (T := TX6) (N := 4) hx hb hts hn0 hown hK hP 0 rfl rfl 2 (by decide) (htw _ aw_34) (fun _ h9 => h9) rfl dX6_refuseLatest_2 ?_
  refine lv_iconst (v := 1) hx hb dX6_refuseLatest_5 (by decide) ?_
  refine lv_isub hx hb dX6_refuseLatest_6 ?_
  obtain ⟨t_wrong_7, e7, hm⟩ := c1_inv hm
  refine fr_v (wr := []) (w2 := [(q_t, .inr (5, [.ref q_t_bytes, .int t_length, .int t_place, .int t_wrong_7]))]) (va_runV (As := [.int (t_place - 1)]) (rest := []) ⟨hx, hb, hml, hown, hts⟩ (c_Text_refuse l dC dI cI cL H.size q_t q_t_bytes t_length t_place t_wrong (t_place - 1) t_wrong_7 e7) (kV 1 hts aw_289 rfl rfl aw_2 aw_286 aw_287 aw_288 (by decide +kernel) ⟨Nat.le_of_ble_eq_true rfl, Nat.le_of_ble_eq_true rfl⟩) (fr_preV hK hP hD hS hA hZ [0] rfl rfl (ci := 5) (q0 := 0) rfl rfl) rfl rfl hl.1 rfl (lv_room (Nat.le_of_ble_eq_true rfl)) dX6_refuseLatest_7 ⟨Nat.le_of_ble_eq_true rfl, Nat.le_of_ble_eq_true rfl⟩) hP hD hS hA [0] [] [0] rfl rfl rfl (by decide) rfl rfl (fun H locs hP hD hS => ?_)
  have hP : va_P (dC, dI) vwCl [(q_t, .inr (5, [.ref q_t_bytes, .int t_length, .int t_place, .int t_wrong_7]))] H := hP
  have hD : va_D A [(q_t, .inr (5, [.ref q_t_bytes, .int t_length, .int t_place, .int t_wrong_7]))] := hD
  obtain rfl := Option.some.inj hm
  subst hQ
  exact W.vret hx hb hr (fun t ht hW => ⟨⟨(), rfl, trivial, by rw [ht]; exact hP, va_K.moved hW.alike hK, hD⟩, hS.F ht⟩) hS.2.2 dX6_refuseLatest_10
def M_Text_rewind (t_place : Int32) (t_wrong : Int32) : Option (Int32 × Int32) :=
  some (0, (-1))
set_option maxHeartbeats 4000000 in
set_option maxRecDepth 100000 in
theorem c_Text_rewind (l : Launch) (dC : Nat → ClassId) (dI : Nat → Nat → Nat) (cI cL : ClassId) (sz : Nat) (q_t q_t_bytes : Nat) (t_length t_place t_wrong u_t_place u_t_wrong : Int32) (hm : M_Text_rewind t_place t_wrong = some (u_t_place, u_t_wrong)) : Met l yX6_rewind wsX6_rewind ({ frames := 0, cells := 0, slots := 0, locals := 0 }) (frPc (dC, dI) vwCl [(cI, .int), (cL, .long)] [(q_t, .inr (5, [.ref q_t_bytes, .int t_length, .int t_place, .int t_wrong]))] sz [.ref q_t]) (va_Qv (fun (_ : Unit) => True) (frB (dC, dI) vwCl [(cI, .int), (cL, .long)] (va_A [(q_t, .inr (5, [.ref q_t_bytes, .int t_length, .int t_place, .int t_wrong]))] sz) [(q_t, .inr (5, [.ref q_t_bytes, .int t_length, .int u_t_place, .int u_t_wrong]))]) (va_A [(q_t, .inr (5, [.ref q_t_bytes, .int t_length, .int t_place, .int t_wrong]))] sz)) 0 0 (va_A [(q_t, .inr (5, [.ref q_t_bytes, .int t_length, .int t_place, .int t_wrong]))] sz) := by
  refine Met.ofW (cc := cX6_rewind) (maxL := 1) (ret := none) (by decide) rfl ?_
  intro p e s m args below meth c s₁ B hml hv
  obtain ⟨rfl, hsz, hP, hK, hD0, hZ⟩ := hv
  have hx := B.exec
  have hb := B.bytes
  have hr := B.returns
  have hts := atoms_spec (ws := wsX6_rewind) B.pre
  have hown : s.vm.findClass RX6 = some m.cls := findClass_of_methodNamed B.named
  have hlocks := B.notSynchronized
  subst hsz
  have hD := hD0.self (sz := s.heap.size)
  generalize hAe : va_A [(q_t, .inr (5, [.ref q_t_bytes, .int t_length, .int t_place, .int t_wrong]))] s.heap.size = A at hD hZ ⊢
  have hA : ∀ q : Nat, s.heap.size ≤ q → A q := fun q h => by rw [← hAe]; exact Or.inr h
  have hS : va_S A s.heap s.heap [] := va_S.rf
  have hP : va_P (dC, dI) vwCl [(q_t, .inr (5, [.ref q_t_bytes, .int t_length, .int t_place, .int t_wrong]))] s.heap := hP
  have hl := lv_entry ([.ref q_t]) (n := 1) (Nat.le_of_ble_eq_true rfl)
  rw [lg_entry_eq]
  generalize (lg_sl ([.ref q_t]) ++ List.replicate (1 - (lg_sl ([.ref q_t])).length) Slot.unset).toArray = ls at hl ⊢
  have hl : lv_has ls 1 [(0, .ref q_t)] := hl
  refine wq hP hS (fun Q hQ H locs hP hS => ?_)
  have htw : ∀ w ∈ AW, w.before _ s = true := fun w h => hts w (List.mem_cons_of_mem _ h)
  have hn0 : ∀ w ∈ wsX60, w ∈ wsX6_rewind := fun w h => List.mem_cons_of_mem _ (inX6 w h)
  rw [M_Text_rewind] at hm
  refine lv_aload_n hx hb dX6_rewind_0 rfl (lv_at hl 0 rfl) ?_
  refine lv_iconst (v := 0) hx hb dX6_rewind_1 (by decide) ?_
  refine va_put (D := (dC, dI)) (ci := 5) (v := .int 0) (ty := .int) (C := RX6) (T := TX6) (N := 4) hx hb hts hn0 tyX6 tyX6_ok nmX6 hown hK hP hD hS 0 rfl rfl 2 (by decide) (htw _ aw_34) (fun _ h9 => h9) rfl (by decide +kernel) rfl rfl (Nat.le_of_ble_eq_true rfl) dX6_rewind_2 (fun H locs hP hD hS => ?_)
  have hP : va_P (dC, dI) vwCl [(q_t, .inr (5, [.ref q_t_bytes, .int t_length, .int 0, .int t_wrong]))] H := hP
  have hD : va_D A [(q_t, .inr (5, [.ref q_t_bytes, .int t_length, .int 0, .int t_wrong]))] := hD
  refine lv_aload_n hx hb dX6_rewind_5 rfl (lv_at hl 0 rfl) ?_
  refine lv_iconst (v := (-1)) hx hb dX6_rewind_6 (by decide) ?_
  refine va_put (D := (dC, dI)) (ci := 5) (v := .int (-1)) (ty := .int) (C := RX6) (T := TX6) (N := 4) hx hb hts hn0 tyX6 tyX6_ok nmX6 hown hK hP hD hS 0 rfl rfl 3 (by decide) (htw _ aw_35) (fun _ h9 => h9) rfl (by decide +kernel) rfl rfl (Nat.le_of_ble_eq_true rfl) dX6_rewind_7 (fun H locs hP hD hS => ?_)
  have hP : va_P (dC, dI) vwCl [(q_t, .inr (5, [.ref q_t_bytes, .int t_length, .int 0, .int (-1)]))] H := hP
  have hD : va_D A [(q_t, .inr (5, [.ref q_t_bytes, .int t_length, .int 0, .int (-1)]))] := hD
  obtain ⟨rfl, rfl⟩ := ij2 hm
  subst hQ
  exact W.vret hx hb hr (fun t ht hW => ⟨⟨(), rfl, trivial, by rw [ht]; exact hP, va_K.moved hW.alike hK, hD⟩, hS.F ht⟩) hS.2.2 dX6_rewind_10
def M_Text_take_4 (t_length : Int32) (t_bytes : Nat → Int32) : Nat → Int32 → Int32 → Int32 → Int32 → Int32 → Option (Int32 × Int32 × Int32)
  | 0, _, _, _, _, _ => none
  | f + 1, t_place, t_wrong, v1, v2, v3 =>
    (if v1 ≤ v3 then
      some (v2, t_place, t_wrong)
    else
      (if t_wrong = (-1) then
        c1 (M_Text_bits t_length) (fun r22 =>
          (if t_place < r22 then
            c1 (M_Text_bitAt t_length t_bytes t_place) (fun r47 =>
              M_Text_take_4 t_length t_bytes f (t_place + 1) t_wrong v1 ((2 * v2) + r47) (v3 + 1))
          else
            c1 (M_Text_bits t_length) (fun r30 =>
              c1 (M_Text_refuse t_wrong r30) (fun t_wrong_33 =>
                M_Text_take_4 t_length t_bytes f t_place t_wrong_33 v1 v2 (v3 + 1)))))
      else
        some (v2, t_place, t_wrong)))
def M_Text_take (t_length : Int32) (t_place : Int32) (t_wrong : Int32) (t_bytes : Nat → Int32) (x1 : Int32) : Option (Int32 × Int32 × Int32) :=
  M_Text_take_4 t_length t_bytes 1000 t_place t_wrong x1 0 0
set_option maxHeartbeats 4000000 in
set_option maxRecDepth 100000 in
theorem c_Text_take (l : Launch) (dC : Nat → ClassId) (dI : Nat → Nat → Nat) (cI cL : ClassId) (sz : Nat) (q_t q_t_bytes : Nat) (t_length t_place t_wrong : Int32) (t_bytes : Nat → Int32) (x1 r0 u_t_place u_t_wrong : Int32) (hm : M_Text_take t_length t_place t_wrong t_bytes x1 = some (r0, u_t_place, u_t_wrong)) : Met l yX6_take wsX6_take ({ frames := 1, cells := 0, slots := 0, locals := 22 }) (frPc (dC, dI) vwCl [(cI, .int), (cL, .long)] [(q_t, .inr (5, [.ref q_t_bytes, .int t_length, .int t_place, .int t_wrong])), (q_t_bytes, .inl (cI, 80, .inl t_bytes))] sz [.ref q_t, .int x1]) (va_Qi (fun (r : Int32) (_ : Unit) => r = r0) (frB (dC, dI) vwCl [(cI, .int), (cL, .long)] (va_A [(q_t, .inr (5, [.ref q_t_bytes, .int t_length, .int t_place, .int t_wrong])), (q_t_bytes, .inl (cI, 80, .inl t_bytes))] sz) [(q_t, .inr (5, [.ref q_t_bytes, .int t_length, .int u_t_place, .int u_t_wrong])), (q_t_bytes, .inl (cI, 80, .inl t_bytes))]) (va_A [(q_t, .inr (5, [.ref q_t_bytes, .int t_length, .int t_place, .int t_wrong])), (q_t_bytes, .inl (cI, 80, .inl t_bytes))] sz)) 0 0 (va_A [(q_t, .inr (5, [.ref q_t_bytes, .int t_length, .int t_place, .int t_wrong])), (q_t_bytes, .inl (cI, 80, .inl t_bytes))] sz) := by
  refine Met.ofW (cc := cX6_take) (maxL := 4) (ret := (some .int)) (by decide) rfl ?_
  intro p e s m args below meth c s₁ B hml hv
  obtain ⟨rfl, hsz, hP, hK, hD0, hZ⟩ := hv
  have hx := B.exec
  have hb := B.bytes
  have hr := B.returns
  have hts := atoms_spec (ws := wsX6_take) B.pre
  have hown : s.vm.findClass RX6 = some m.cls := findClass_of_methodNamed B.named
  have hlocks := B.notSynchronized
  subst hsz
  have hD := hD0.self (sz := s.heap.size)
  generalize hAe : va_A [(q_t, .inr (5, [.ref q_t_bytes, .int t_length, .int t_place, .int t_wrong])), (q_t_bytes, .inl (cI, 80, .inl t_bytes))] s.heap.size = A at hD hZ ⊢
  have hA : ∀ q : Nat, s.heap.size ≤ q → A q := fun q h => by rw [← hAe]; exact Or.inr h
  have hS : va_S A s.heap s.heap [] := va_S.rf
  have hP : va_P (dC, dI) vwCl [(q_t, .inr (5, [.ref q_t_bytes, .int t_length, .int t_place, .int t_wrong])), (q_t_bytes, .inl (cI, 80, .inl t_bytes))] s.heap := hP
  have hl := lv_entry ([.ref q_t, .int x1]) (n := 4) (Nat.le_of_ble_eq_true rfl)
  rw [lg_entry_eq]
  generalize (lg_sl ([.ref q_t, .int x1]) ++ List.replicate (4 - (lg_sl ([.ref q_t, .int x1])).length) Slot.unset).toArray = ls at hl ⊢
  have hl : lv_has ls 4 [(0, .ref q_t), (1, .int x1)] := hl
  refine wq hP hS (fun Q hQ H locs hP hS => ?_)
  have htw : ∀ w ∈ AW, w.before _ s = true := fun w h => hts w (List.mem_cons_of_mem _ h)
  have hn0 : ∀ w ∈ wsX60, w ∈ wsX6_take := fun w h => List.mem_cons_of_mem _ (inX6 w h)
  have L4 : ∀ (f : Nat) (t_place t_wrong v1 v2 v3 : Int32) (ls : Array Slot) (H : Heap) (locs : List Loc), M_Text_take_4 t_length t_bytes f t_place t_wrong v1 v2 v3 = some (r0, u_t_place, u_t_wrong) → lv_has ls 4 [(0, .ref q_t), (1, .int v1), (2, .int v2), (3, .int v3)] → va_P (dC, dI) vwCl [(q_t, .inr (5, [.ref q_t_bytes, .int t_length, .int t_place, .int t_wrong])), (q_t_bytes, .inl (cI, 80, .inl t_bytes))] H → va_D A [(q_t, .inr (5, [.ref q_t_bytes, .int t_length, .int t_place, .int t_wrong])), (q_t_bytes, .inl (cI, 80, .inl t_bytes))] → va_S A s.heap H locs → W p l e ({ frames := 1, cells := 0, slots := 0, locals := 22 }) s m [.ref q_t, .int x1].toArray below meth c H locs 0 0 Q (F0 m 4 ls []) := by
    intro f
    induction f with
    | zero => intro t_place t_wrong v1 v2 v3 ls H locs hm; rw [M_Text_take_4] at hm; cases hm
    | succ f ih4 =>
      intro t_place t_wrong v1 v2 v3 ls H locs hm hl hP hD hS
      rw [M_Text_take_4] at hm
      refine lv_iload_n hx hb dX6_take_4 rfl (lv_at hl 3 rfl) ?_
      refine lv_iload_n hx hb dX6_take_5 rfl (lv_at hl 1 rfl) ?_
      refine lv_icmp_ge hx hb dX6_take_6 rfl (fun h6 => ?_) (fun h6 => ?_)
      · rw [if_pos h6] at hm
        refine lv_iload_n hx hb dX6_take_68 rfl (lv_at hl 2 rfl) ?_
        obtain ⟨rfl, rfl, rfl⟩ := ij3 hm
        subst hQ
        exact W.iret hx hb hr (fun t ht hW => ⟨⟨_, (), rfl, rfl, by rw [ht]; exact hP, va_K.moved hW.alike hK, hD⟩, hS.F ht⟩) hS.2.2 dX6_take_69
      · rw [if_neg h6] at hm
        refine lv_aload_n hx hb dX6_take_9 rfl (lv_at hl 0 rfl) ?_
        refine va_get (D := (dC, dI)) (ci := 5) (v := .int t_wrong) (C := RX6) (T := TX6) (N := 4) hx hb hts hn0 hown hK hP 0 rfl rfl 3 (by decide) (htw _ aw_35) (fun _ h9 => h9) rfl dX6_take_10 ?_
        refine lv_iconst (v := (-1)) hx hb dX6_take_13 (by decide) ?_
        refine lv_icmp_ne hx hb dX6_take_14 rfl (fun h14 => ?_) (fun h14 => ?_)
        · rw [if_neg h14] at hm
          refine lv_iload_n hx hb dX6_take_68 rfl (lv_at hl 2 rfl) ?_
          obtain ⟨rfl, rfl, rfl⟩ := ij3 hm
          subst hQ
          exact W.iret hx hb hr (fun t ht hW => ⟨⟨_, (), rfl, rfl, by rw [ht]; exact hP, va_K.moved hW.alike hK, hD⟩, hS.F ht⟩) hS.2.2 dX6_take_69
        · rw [if_pos h14] at hm
          refine lv_aload_n hx hb dX6_take_17 rfl (lv_at hl 0 rfl) ?_
          refine va_get (D := (dC, dI)) (ci := 5) (v := .int t_place) (C := RX6) (T := TX6) (N := 4) hx hb hts hn0 hown hK hP 0 rfl rfl 2 (by decide) (htw _ aw_34) (fun _ h9 => h9) rfl dX6_take_18 ?_
          refine lv_aload_n hx hb dX6_take_21 rfl (lv_at hl 0 rfl) ?_
          obtain ⟨r22, e22, hm⟩ := c1_inv hm
          refine fr_i (wr := [(q_t_bytes, .inl (cI, 80, .inl t_bytes))]) (w2 := [(q_t, .inr (5, [.ref q_t_bytes, .int t_length, .int t_place, .int t_wrong])), (q_t_bytes, .inl (cI, 80, .inl t_bytes))]) (va_runV (As := []) (rest := [.int t_place]) ⟨hx, hb, hml, hown, hts⟩ (c_Text_bits l dC dI cI cL H.size q_t q_t_bytes t_length t_place t_wrong r22 e22) (kV 0 hts aw_285 rfl rfl aw_2 aw_282 aw_283 aw_284 (by decide +kernel) ⟨Nat.le_of_ble_eq_true rfl, Nat.le_of_ble_eq_true rfl⟩) (fr_preV hK hP hD hS hA hZ [0] rfl rfl (ci := 5) (q0 := 0) rfl rfl) rfl rfl hl.1 rfl (lv_room (Nat.le_of_ble_eq_true rfl)) dX6_take_22 ⟨Nat.le_of_ble_eq_true rfl, Nat.le_of_ble_eq_true rfl⟩) hP hD hS hA [0] [1] [1, 0] rfl rfl rfl (by decide) rfl rfl (fun H locs hP hD hS => ?_)
          have hP : va_P (dC, dI) vwCl [(q_t, .inr (5, [.ref q_t_bytes, .int t_length, .int t_place, .int t_wrong])), (q_t_bytes, .inl (cI, 80, .inl t_bytes))] H := hP
          have hD : va_D A [(q_t, .inr (5, [.ref q_t_bytes, .int t_length, .int t_place, .int t_wrong])), (q_t_bytes, .inl (cI, 80, .inl t_bytes))] := hD
          refine lv_icmp_lt hx hb dX6_take_25 rfl (fun h25 => ?_) (fun h25 => ?_)
          · rw [if_pos h25] at hm
            refine lv_iconst (v := 2) hx hb dX6_take_39 (by decide) ?_
            refine lv_iload_n hx hb dX6_take_40 rfl (lv_at hl 2 rfl) ?_
            refine lv_imul hx hb dX6_take_41 ?_
            refine lv_aload_n hx hb dX6_take_42 rfl (lv_at hl 0 rfl) ?_
            refine lv_aload_n hx hb dX6_take_43 rfl (lv_at hl 0 rfl) ?_
            refine va_get (D := (dC, dI)) (ci := 5) (v := .int t_place) (C := RX6) (T := TX6) (N := 4) hx hb hts hn0 hown hK hP 0 rfl rfl 2 (by decide) (htw _ aw_34) (fun _ h9 => h9) rfl dX6_take_44 ?_
            obtain ⟨r47, e47, hm⟩ := c1_inv hm
            refine fr_i (wr := []) (w2 := [(q_t, .inr (5, [.ref q_t_bytes, .int t_length, .int t_place, .int t_wrong])), (q_t_bytes, .inl (cI, 80, .inl t_bytes))]) (va_runV (As := [.int t_place]) (rest := [.int (2 * v2)]) ⟨hx, hb, hml, hown, hts⟩ (c_Text_bitAt l dC dI cI cL H.size q_t q_t_bytes t_length t_place t_wrong t_bytes t_place r47 e47) (kV 1 hts aw_293 rfl rfl aw_2 aw_290 aw_291 aw_292 (by decide +kernel) ⟨Nat.le_of_ble_eq_true rfl, Nat.le_of_ble_eq_true rfl⟩) (fr_preV hK hP hD hS hA hZ [0, 1] rfl rfl (ci := 5) (q0 := 0) rfl rfl) rfl rfl hl.1 rfl (lv_room (Nat.le_of_ble_eq_true rfl)) dX6_take_47 ⟨Nat.le_of_ble_eq_true rfl, Nat.le_of_ble_eq_true rfl⟩) hP hD hS hA [0, 1] [] [0, 1] rfl rfl rfl (by decide) rfl rfl (fun H locs hP hD hS => ?_)
            have hP : va_P (dC, dI) vwCl [(q_t, .inr (5, [.ref q_t_bytes, .int t_length, .int t_place, .int t_wrong])), (q_t_bytes, .inl (cI, 80, .inl t_bytes))] H := hP
            have hD : va_D A [(q_t, .inr (5, [.ref q_t_bytes, .int t_length, .int t_place, .int t_wrong])), (q_t_bytes, .inl (cI, 80, .inl t_bytes))] := hD
            refine lv_iadd hx hb dX6_take_50 ?_
            refine lv_istore_n (lv' := [(2, .int ((2 * v2) + r47)), (0, .ref q_t), (1, .int v1), (3, .int v3)]) hx hb dX6_take_51 rfl hl (by decide) rfl (fun ls hl => ?_)
            refine lv_aload_n hx hb dX6_take_52 rfl (lv_at hl 1 rfl) ?_
            refine lv_dup hx hb dX6_take_53 rfl ?_
            refine va_get (D := (dC, dI)) (ci := 5) (v := .int t_place) (C := RX6) (T := TX6) (N := 4) hx hb hts hn0 hown hK hP 0 rfl rfl 2 (by decide) (htw _ aw_34) (fun _ h9 => h9) rfl dX6_take_54 ?_
            refine lv_iconst (v := 1) hx hb dX6_take_57 (by decide) ?_
            refine lv_iadd hx hb dX6_take_58 ?_
            refine va_put (D := (dC, dI)) (ci := 5) (v := .int (t_place + 1)) (ty := .int) (C := RX6) (T := TX6) (N := 4) hx hb hts hn0 tyX6 tyX6_ok nmX6 hown hK hP hD hS 0 rfl rfl 2 (by decide) (htw _ aw_34) (fun _ h9 => h9) rfl (by decide +kernel) rfl rfl (Nat.le_of_ble_eq_true rfl) dX6_take_59 (fun H locs hP hD hS => ?_)
            have hP : va_P (dC, dI) vwCl [(q_t, .inr (5, [.ref q_t_bytes, .int t_length, .int (t_place + 1), .int t_wrong])), (q_t_bytes, .inl (cI, 80, .inl t_bytes))] H := hP
            have hD : va_D A [(q_t, .inr (5, [.ref q_t_bytes, .int t_length, .int (t_place + 1), .int t_wrong])), (q_t_bytes, .inl (cI, 80, .inl t_bytes))] := hD
            refine lv_iinc (k := 3) (v := v3 + 1) (lv' := [(3, .int (v3 + 1)), (2, .int ((2 * v2) + r47)), (0, .ref q_t), (1, .int v1)]) hx hb dX6_take_62 hl rfl rfl (by decide) rfl (fun ls hl => ?_)
            refine lv_goto hx hb dX6_take_65 rfl ?_
            exact ih4 _ _ _ _ _ _ _ _ hm (lv_sub hl [2, 3, 1, 0] rfl) hP hD hS
          · rw [if_neg h25] at hm
            refine lv_aload_n hx hb dX6_take_28 rfl (lv_at hl 0 rfl) ?_
            refine lv_aload_n hx hb dX6_take_29 rfl (lv_at hl 0 rfl) ?_
            obtain ⟨r30, e30, hm⟩ := c1_inv hm
            refine fr_i (wr := [(q_t_bytes, .inl (cI, 80, .inl t_bytes))]) (w2 := [(q_t, .inr (5, [.ref q_t_bytes, .int t_length, .int t_place, .int t_wrong])), (q_t_bytes, .inl (cI, 80, .inl t_bytes))]) (va_runV (As := []) (rest := [.ref q_t]) ⟨hx, hb, hml, hown, hts⟩ (c_Text_bits l dC dI cI cL H.size q_t q_t_bytes t_length t_place t_wrong r30 e30) (kV 0 hts aw_285 rfl rfl aw_2 aw_282 aw_283 aw_284 (by decide +kernel) ⟨Nat.le_of_ble_eq_true rfl, Nat.le_of_ble_eq_true rfl⟩) (fr_preV hK hP hD hS hA hZ [0] rfl rfl (ci := 5) (q0 := 0) rfl rfl) rfl rfl hl.1 rfl (lv_room (Nat.le_of_ble_eq_true rfl)) dX6_take_30 ⟨Nat.le_of_ble_eq_true rfl, Nat.le_of_ble_eq_true rfl⟩) hP hD hS hA [0] [1] [1, 0] rfl rfl rfl (by decide) rfl rfl (fun H locs hP hD hS => ?_)
            have hP : va_P (dC, dI) vwCl [(q_t, .inr (5, [.ref q_t_bytes, .int t_length, .int t_place, .int t_wrong])), (q_t_bytes, .inl (cI, 80, .inl t_bytes))] H := hP
            have hD : va_D A [(q_t, .inr (5, [.ref q_t_bytes, .int t_length, .int t_place, .int t_wrong])), (q_t_bytes, .inl (cI, 80, .inl t_bytes))] := hD
            obtain ⟨t_wrong_33, e33, hm⟩ := c1_inv hm
            refine fr_v (wr := [(q_t_bytes, .inl (cI, 80, .inl t_bytes))]) (w2 := [(q_t, .inr (5, [.ref q_t_bytes, .int t_length, .int t_place, .int t_wrong_33])), (q_t_bytes, .inl (cI, 80, .inl t_bytes))]) (va_runV (As := [.int r30]) (rest := []) ⟨hx, hb, hml, hown, hts⟩ (c_Text_refuse l dC dI cI cL H.size q_t q_t_bytes t_length t_place t_wrong r30 t_wrong_33 e33) (kV 1 hts aw_289 rfl rfl aw_2 aw_286 aw_287 aw_288 (by decide +kernel) ⟨Nat.le_of_ble_eq_true rfl, Nat.le_of_ble_eq_true rfl⟩) (fr_preV hK hP hD hS hA hZ [0] rfl rfl (ci := 5) (q0 := 0) rfl rfl) rfl rfl hl.1 rfl (lv_room (Nat.le_of_ble_eq_true rfl)) dX6_take_33 ⟨Nat.le_of_ble_eq_true rfl, Nat.le_of_ble_eq_true rfl⟩) hP hD hS hA [0] [1] [1, 0] rfl rfl rfl (by decide) rfl rfl (fun H locs hP hD hS => ?_)
            have hP : va_P (dC, dI) vwCl [(q_t, .inr (5, [.ref q_t_bytes, .int t_length, .int t_place, .int t_wrong_33])), (q_t_bytes, .inl (cI, 80, .inl t_bytes))] H := hP
            have hD : va_D A [(q_t, .inr (5, [.ref q_t_bytes, .int t_length, .int t_place, .int t_wrong_33])), (q_t_bytes, .inl (cI, 80, .inl t_bytes))] := hD
            refine lv_goto hx hb dX6_take_36 rfl ?_
            refine lv_iinc (k := 3) (v := v3 + 1) (lv' := [(3, .int (v3 + 1)), (0, .ref q_t), (1, .int v1), (2, .int v2)]) hx hb dX6_take_62 hl rfl rfl (by decide) rfl (fun ls hl => ?_)
            refine lv_goto hx hb dX6_take_65 rfl ?_
            exact ih4 _ _ _ _ _ _ _ _ hm (lv_sub hl [1, 2, 3, 0] rfl) hP hD hS
  rw [M_Text_take] at hm
  refine lv_iconst (v := 0) hx hb dX6_take_0 (by decide) ?_
  refine lv_istore_n (lv' := [(2, .int 0), (0, .ref q_t), (1, .int x1)]) hx hb dX6_take_1 rfl hl (by decide) rfl (fun ls hl => ?_)
  refine lv_iconst (v := 0) hx hb dX6_take_2 (by decide) ?_
  refine lv_istore_n (lv' := [(3, .int 0), (2, .int 0), (0, .ref q_t), (1, .int x1)]) hx hb dX6_take_3 rfl hl (by decide) rfl (fun ls hl => ?_)
  exact L4 _ _ _ _ _ _ _ _ _ hm (lv_sub hl [2, 3, 1, 0] rfl) hP hD hS
def M_Text_takeBytes_11 (t_length : Int32) (t_bytes : Nat → Int32) : Nat → Int32 → Int32 → Int32 → Int64 → Int32 → Option (Int64 × Int32 × Int32)
  | 0, _, _, _, _, _ => none
  | f + 1, t_place, t_wrong, v1, v2, v4 =>
    (if v1 ≤ v4 then
      c1 (M_Packed_of v1 v2) (fun r38 =>
        some (r38, t_place, t_wrong))
    else
      c3 (M_Text_take t_length t_place t_wrong t_bytes (8 : Int32)) (fun r24 t_place_24 t_wrong_24 =>
        M_Text_takeBytes_11 t_length t_bytes f t_place_24 t_wrong_24 v1 ((v2 <<< ((8 : Int32).toInt64 &&& 63)) ||| r24.toInt64) (v4 + 1)))
def M_Text_takeBytes (t_length : Int32) (t_place : Int32) (t_wrong : Int32) (t_bytes : Nat → Int32) : Option (Int64 × Int32 × Int32) :=
  c3 (M_Text_take t_length t_place t_wrong t_bytes (3 : Int32)) (fun r2 t_place_2 t_wrong_2 =>
    M_Text_takeBytes_11 t_length t_bytes 1000 t_place_2 t_wrong_2 r2 0 0)
set_option maxHeartbeats 4000000 in
set_option maxRecDepth 100000 in
theorem c_Text_takeBytes (l : Launch) (dC : Nat → ClassId) (dI : Nat → Nat → Nat) (cI cL : ClassId) (sz : Nat) (q_t q_t_bytes : Nat) (t_length t_place t_wrong : Int32) (t_bytes : Nat → Int32) (r0 : Int64) (u_t_place u_t_wrong : Int32) (hm : M_Text_takeBytes t_length t_place t_wrong t_bytes = some (r0, u_t_place, u_t_wrong)) : Met l yX6_takeBytes wsX6_takeBytes ({ frames := 2, cells := 0, slots := 0, locals := 45 }) (frPc (dC, dI) vwCl [(cI, .int), (cL, .long)] [(q_t, .inr (5, [.ref q_t_bytes, .int t_length, .int t_place, .int t_wrong])), (q_t_bytes, .inl (cI, 80, .inl t_bytes))] sz [.ref q_t]) (va_Ql (fun (r : Int64) (_ : Unit) => r = r0) (frB (dC, dI) vwCl [(cI, .int), (cL, .long)] (va_A [(q_t, .inr (5, [.ref q_t_bytes, .int t_length, .int t_place, .int t_wrong])), (q_t_bytes, .inl (cI, 80, .inl t_bytes))] sz) [(q_t, .inr (5, [.ref q_t_bytes, .int t_length, .int u_t_place, .int u_t_wrong])), (q_t_bytes, .inl (cI, 80, .inl t_bytes))]) (va_A [(q_t, .inr (5, [.ref q_t_bytes, .int t_length, .int t_place, .int t_wrong])), (q_t_bytes, .inl (cI, 80, .inl t_bytes))] sz)) 0 0 (va_A [(q_t, .inr (5, [.ref q_t_bytes, .int t_length, .int t_place, .int t_wrong])), (q_t_bytes, .inl (cI, 80, .inl t_bytes))] sz) := by
  refine Met.ofW (cc := cX6_takeBytes) (maxL := 5) (ret := (some .long)) (by decide) rfl ?_
  intro p e s m args below meth c s₁ B hml hv
  obtain ⟨rfl, hsz, hP, hK, hD0, hZ⟩ := hv
  have hx := B.exec
  have hb := B.bytes
  have hr := B.returns
  have hts := atoms_spec (ws := wsX6_takeBytes) B.pre
  have hown : s.vm.findClass RX6 = some m.cls := findClass_of_methodNamed B.named
  have hlocks := B.notSynchronized
  subst hsz
  have hD := hD0.self (sz := s.heap.size)
  generalize hAe : va_A [(q_t, .inr (5, [.ref q_t_bytes, .int t_length, .int t_place, .int t_wrong])), (q_t_bytes, .inl (cI, 80, .inl t_bytes))] s.heap.size = A at hD hZ ⊢
  have hA : ∀ q : Nat, s.heap.size ≤ q → A q := fun q h => by rw [← hAe]; exact Or.inr h
  have hS : va_S A s.heap s.heap [] := va_S.rf
  have hP : va_P (dC, dI) vwCl [(q_t, .inr (5, [.ref q_t_bytes, .int t_length, .int t_place, .int t_wrong])), (q_t_bytes, .inl (cI, 80, .inl t_bytes))] s.heap := hP
  have hl := lv_entry ([.ref q_t]) (n := 5) (Nat.le_of_ble_eq_true rfl)
  rw [lg_entry_eq]
  generalize (lg_sl ([.ref q_t]) ++ List.replicate (5 - (lg_sl ([.ref q_t])).length) Slot.unset).toArray = ls at hl ⊢
  have hl : lv_has ls 5 [(0, .ref q_t)] := hl
  refine wq hP hS (fun Q hQ H locs hP hS => ?_)
  have htw : ∀ w ∈ AW, w.before _ s = true := fun w h => hts w (List.mem_cons_of_mem _ h)
  have L11 : ∀ (f : Nat) (t_place t_wrong v1 : Int32) (v2 : Int64) (v4 : Int32) (ls : Array Slot) (H : Heap) (locs : List Loc), M_Text_takeBytes_11 t_length t_bytes f t_place t_wrong v1 v2 v4 = some (r0, u_t_place, u_t_wrong) → lv_has ls 5 [(0, .ref q_t), (1, .int v1), (2, .long v2), (4, .int v4)] → va_P (dC, dI) vwCl [(q_t, .inr (5, [.ref q_t_bytes, .int t_length, .int t_place, .int t_wrong])), (q_t_bytes, .inl (cI, 80, .inl t_bytes))] H → va_D A [(q_t, .inr (5, [.ref q_t_bytes, .int t_length, .int t_place, .int t_wrong])), (q_t_bytes, .inl (cI, 80, .inl t_bytes))] → va_S A s.heap H locs → W p l e ({ frames := 2, cells := 0, slots := 0, locals := 45 }) s m [.ref q_t].toArray below meth c H locs 0 0 Q (F0 m 11 ls []) := by
    intro f
    induction f with
    | zero => intro t_place t_wrong v1 v2 v4 ls H locs hm; rw [M_Text_takeBytes_11] at hm; cases hm
    | succ f ih11 =>
      intro t_place t_wrong v1 v2 v4 ls H locs hm hl hP hD hS
      rw [M_Text_takeBytes_11] at hm
      refine lv_iload hx hb dX6_takeBytes_11 (lv_at hl 3 rfl) ?_
      refine lv_iload_n hx hb dX6_takeBytes_13 rfl (lv_at hl 1 rfl) ?_
      refine lv_icmp_ge hx hb dX6_takeBytes_14 rfl (fun h14 => ?_) (fun h14 => ?_)
      · rw [if_pos h14] at hm
        refine lv_iload_n hx hb dX6_takeBytes_36 rfl (lv_at hl 1 rfl) ?_
        refine lv_lload_n hx hb dX6_takeBytes_37 rfl (lv_at hl 2 rfl) ?_
        obtain ⟨r38, e38, hm⟩ := c1_inv hm
        refine fr_l (wr := [(q_t, .inr (5, [.ref q_t_bytes, .int t_length, .int t_place, .int t_wrong])), (q_t_bytes, .inl (cI, 80, .inl t_bytes))]) (w2 := [(q_t, .inr (5, [.ref q_t_bytes, .int t_length, .int t_place, .int t_wrong])), (q_t_bytes, .inl (cI, 80, .inl t_bytes))]) (va_runS (As := [.int v1, .long v2]) (rest := []) ⟨hx, hb, hml, hown, hts⟩ (c_Packed_of l dC dI cI cL H.size v1 v2 r38 e38) (kS 2 hts aw_324 rfl rfl aw_15 aw_322 aw_323 (by decide +kernel) ⟨Nat.le_of_ble_eq_true rfl, Nat.le_of_ble_eq_true rfl⟩) (fr_preS hK hP hD hS hA hZ [] rfl rfl) rfl rfl hl.1 rfl (lv_room (Nat.le_of_ble_eq_true rfl)) dX6_takeBytes_38 ⟨Nat.le_of_ble_eq_true rfl, Nat.le_of_ble_eq_true rfl⟩) hP hD hS hA [] [0, 1] [0, 1] rfl rfl rfl (by decide) rfl rfl (fun H locs hP hD hS => ?_)
        have hP : va_P (dC, dI) vwCl [(q_t, .inr (5, [.ref q_t_bytes, .int t_length, .int t_place, .int t_wrong])), (q_t_bytes, .inl (cI, 80, .inl t_bytes))] H := hP
        have hD : va_D A [(q_t, .inr (5, [.ref q_t_bytes, .int t_length, .int t_place, .int t_wrong])), (q_t_bytes, .inl (cI, 80, .inl t_bytes))] := hD
        obtain ⟨rfl, rfl, rfl⟩ := ij3 hm
        subst hQ
        exact W.lret hx hb hr (fun t ht hW => ⟨⟨_, (), rfl, rfl, by rw [ht]; exact hP, va_K.moved hW.alike hK, hD⟩, hS.F ht⟩) hS.2.2 dX6_takeBytes_41
      · rw [if_neg h14] at hm
        refine lv_lload_n hx hb dX6_takeBytes_17 rfl (lv_at hl 2 rfl) ?_
        refine lv_bipush (v := 8) hx hb dX6_takeBytes_18 (by decide) ?_
        refine lv_lshl (v := v2 <<< ((8 : Int32).toInt64 &&& 63)) hx hb dX6_takeBytes_20 rfl ?_
        refine lv_aload_n hx hb dX6_takeBytes_21 rfl (lv_at hl 0 rfl) ?_
        refine lv_bipush (v := 8) hx hb dX6_takeBytes_22 (by decide) ?_
        obtain ⟨r24, t_place_24, t_wrong_24, e24, hm⟩ := c3_inv hm
        refine fr_i (wr := []) (w2 := [(q_t, .inr (5, [.ref q_t_bytes, .int t_length, .int t_place_24, .int t_wrong_24])), (q_t_bytes, .inl (cI, 80, .inl t_bytes))]) (va_runV (As := [.int 8]) (rest := [.long (v2 <<< ((8 : Int32).toInt64 &&& 63))]) ⟨hx, hb, hml, hown, hts⟩ (c_Text_take l dC dI cI cL H.size q_t q_t_bytes t_length t_place t_wrong t_bytes (8 : Int32) r24 t_place_24 t_wrong_24 e24) (kV 1 hts aw_281 rfl rfl aw_2 aw_278 aw_279 aw_280 (by decide +kernel) ⟨Nat.le_of_ble_eq_true rfl, Nat.le_of_ble_eq_true rfl⟩) (fr_preV hK hP hD hS hA hZ [0, 1] rfl rfl (ci := 5) (q0 := 0) rfl rfl) rfl rfl hl.1 rfl (lv_room (Nat.le_of_ble_eq_true rfl)) dX6_takeBytes_24 ⟨Nat.le_of_ble_eq_true rfl, Nat.le_of_ble_eq_true rfl⟩) hP hD hS hA [0, 1] [] [0, 1] rfl rfl rfl (by decide) rfl rfl (fun H locs hP hD hS => ?_)
        have hP : va_P (dC, dI) vwCl [(q_t, .inr (5, [.ref q_t_bytes, .int t_length, .int t_place_24, .int t_wrong_24])), (q_t_bytes, .inl (cI, 80, .inl t_bytes))] H := hP
        have hD : va_D A [(q_t, .inr (5, [.ref q_t_bytes, .int t_length, .int t_place_24, .int t_wrong_24])), (q_t_bytes, .inl (cI, 80, .inl t_bytes))] := hD
        refine lv_i2l (v := r24.toInt64) hx hb dX6_takeBytes_27 rfl ?_
        refine lv_lor hx hb dX6_takeBytes_28 ?_
        refine lv_lstore_n (lv' := [(2, .long ((v2 <<< ((8 : Int32).toInt64 &&& 63)) ||| r24.toInt64)), (0, .ref q_t), (1, .int v1), (4, .int v4)]) hx hb dX6_takeBytes_29 rfl hl (by decide) rfl (fun ls hl => ?_)
        refine lv_iinc (k := 3) (v := v4 + 1) (lv' := [(4, .int (v4 + 1)), (2, .long ((v2 <<< ((8 : Int32).toInt64 &&& 63)) ||| r24.toInt64)), (0, .ref q_t), (1, .int v1)]) hx hb dX6_takeBytes_30 hl rfl rfl (by decide) rfl (fun ls hl => ?_)
        refine lv_goto hx hb dX6_takeBytes_33 rfl ?_
        exact ih11 _ _ _ _ _ _ _ _ hm (lv_sub hl [2, 3, 1, 0] rfl) hP hD hS
  rw [M_Text_takeBytes] at hm
  refine lv_aload_n hx hb dX6_takeBytes_0 rfl (lv_at hl 0 rfl) ?_
  refine lv_iconst (v := 3) hx hb dX6_takeBytes_1 (by decide) ?_
  obtain ⟨r2, t_place_2, t_wrong_2, e2, hm⟩ := c3_inv hm
  refine fr_i (wr := []) (w2 := [(q_t, .inr (5, [.ref q_t_bytes, .int t_length, .int t_place_2, .int t_wrong_2])), (q_t_bytes, .inl (cI, 80, .inl t_bytes))]) (va_runV (As := [.int 3]) (rest := []) ⟨hx, hb, hml, hown, hts⟩ (c_Text_take l dC dI cI cL H.size q_t q_t_bytes t_length t_place t_wrong t_bytes (3 : Int32) r2 t_place_2 t_wrong_2 e2) (kV 1 hts aw_281 rfl rfl aw_2 aw_278 aw_279 aw_280 (by decide +kernel) ⟨Nat.le_of_ble_eq_true rfl, Nat.le_of_ble_eq_true rfl⟩) (fr_preV hK hP hD hS hA hZ [0, 1] rfl rfl (ci := 5) (q0 := 0) rfl rfl) rfl rfl hl.1 rfl (lv_room (Nat.le_of_ble_eq_true rfl)) dX6_takeBytes_2 ⟨Nat.le_of_ble_eq_true rfl, Nat.le_of_ble_eq_true rfl⟩) hP hD hS hA [0, 1] [] [0, 1] rfl rfl rfl (by decide) rfl rfl (fun H locs hP hD hS => ?_)
  have hP : va_P (dC, dI) vwCl [(q_t, .inr (5, [.ref q_t_bytes, .int t_length, .int t_place_2, .int t_wrong_2])), (q_t_bytes, .inl (cI, 80, .inl t_bytes))] H := hP
  have hD : va_D A [(q_t, .inr (5, [.ref q_t_bytes, .int t_length, .int t_place_2, .int t_wrong_2])), (q_t_bytes, .inl (cI, 80, .inl t_bytes))] := hD
  refine lv_istore_n (lv' := [(1, .int r2), (0, .ref q_t)]) hx hb dX6_takeBytes_5 rfl hl (by decide) rfl (fun ls hl => ?_)
  refine lv_lconst (v := 0) hx hb dX6_takeBytes_6 (by decide) ?_
  refine lv_lstore_n (lv' := [(2, .long 0), (1, .int r2), (0, .ref q_t)]) hx hb dX6_takeBytes_7 rfl hl (by decide) rfl (fun ls hl => ?_)
  refine lv_iconst (v := 0) hx hb dX6_takeBytes_8 (by decide) ?_
  refine lv_istore (lv' := [(4, .int 0), (2, .long 0), (1, .int r2), (0, .ref q_t)]) hx hb dX6_takeBytes_9 hl (by decide) rfl (fun ls hl => ?_)
  exact L11 _ _ _ _ _ _ _ _ _ hm (lv_sub hl [3, 2, 1, 0] rfl) hP hD hS
def M_Text_takeEnding_70 (t_length : Int32) (t_place : Int32) (t_bytes : Nat → Int32) (t_wrong : Int32) (v1 : Int32) : Option (Int32) :=
  c1 (M_Text_bits t_length) (fun r74 =>
    (if r74 ≤ (v1 + 1) then
      some t_wrong
    else
      c1 (M_Text_refuse t_wrong (v1 + 1)) (fun t_wrong_84 =>
        some t_wrong_84)))
def M_Text_takeEnding_32 (t_length : Int32) (t_place : Int32) (t_bytes : Nat → Int32) : Nat → Int32 → Int32 → Int32 → Option (Int32)
  | 0, _, _, _ => none
  | f + 1, t_wrong, v1, v2 =>
    (if v1 ≤ v2 then
      c1 (M_Text_bitAt t_length t_bytes v1) (fun r59 =>
        (if r59 = 0 then
          c1 (M_Text_refuse t_wrong v1) (fun t_wrong_67 =>
            M_Text_takeEnding_70 t_length t_place t_bytes t_wrong_67 v1)
        else
          M_Text_takeEnding_70 t_length t_place t_bytes t_wrong v1))
    else
      c1 (M_Text_bitAt t_length t_bytes v2) (fun r39 =>
        (if r39 = 1 then
          c1 (M_Text_refuse t_wrong v2) (fun t_wrong_48 =>
            M_Text_takeEnding_32 t_length t_place t_bytes f t_wrong_48 v1 (v2 + 1))
        else
          M_Text_takeEnding_32 t_length t_place t_bytes f t_wrong v1 (v2 + 1))))
def M_Text_takeEnding_19 (t_length : Int32) (t_place : Int32) (t_bytes : Nat → Int32) (t_wrong : Int32) : Option (Int32) :=
  M_Text_takeEnding_32 t_length t_place t_bytes 1000 t_wrong (t_place ||| 7) t_place
def M_Text_takeEnding (t_length : Int32) (t_place : Int32) (t_wrong : Int32) (t_bytes : Nat → Int32) : Option (Int32) :=
  c1 (M_Text_bits t_length) (fun r5 =>
    (if t_place < r5 then
      M_Text_takeEnding_19 t_length t_place t_bytes t_wrong
    else
      c1 (M_Text_bits t_length) (fun r13 =>
        c1 (M_Text_refuse t_wrong r13) (fun t_wrong_16 =>
          M_Text_takeEnding_19 t_length t_place t_bytes t_wrong_16))))
set_option maxHeartbeats 4000000 in
set_option maxRecDepth 100000 in
theorem c_Text_takeEnding (l : Launch) (dC : Nat → ClassId) (dI : Nat → Nat → Nat) (cI cL : ClassId) (sz : Nat) (q_t q_t_bytes : Nat) (t_length t_place t_wrong : Int32) (t_bytes : Nat → Int32) (u_t_wrong : Int32) (hm : M_Text_takeEnding t_length t_place t_wrong t_bytes = some u_t_wrong) : Met l yX6_takeEnding wsX6_takeEnding ({ frames := 1, cells := 0, slots := 0, locals := 22 }) (frPc (dC, dI) vwCl [(cI, .int), (cL, .long)] [(q_t, .inr (5, [.ref q_t_bytes, .int t_length, .int t_place, .int t_wrong])), (q_t_bytes, .inl (cI, 80, .inl t_bytes))] sz [.ref q_t]) (va_Qv (fun (_ : Unit) => True) (frB (dC, dI) vwCl [(cI, .int), (cL, .long)] (va_A [(q_t, .inr (5, [.ref q_t_bytes, .int t_length, .int t_place, .int t_wrong])), (q_t_bytes, .inl (cI, 80, .inl t_bytes))] sz) [(q_t, .inr (5, [.ref q_t_bytes, .int t_length, .int t_place, .int u_t_wrong])), (q_t_bytes, .inl (cI, 80, .inl t_bytes))]) (va_A [(q_t, .inr (5, [.ref q_t_bytes, .int t_length, .int t_place, .int t_wrong])), (q_t_bytes, .inl (cI, 80, .inl t_bytes))] sz)) 0 0 (va_A [(q_t, .inr (5, [.ref q_t_bytes, .int t_length, .int t_place, .int t_wrong])), (q_t_bytes, .inl (cI, 80, .inl t_bytes))] sz) := by
  refine Met.ofW (cc := cX6_takeEnding) (maxL := 3) (ret := none) (by decide) rfl ?_
  intro p e s m args below meth c s₁ B hml hv
  obtain ⟨rfl, hsz, hP, hK, hD0, hZ⟩ := hv
  have hx := B.exec
  have hb := B.bytes
  have hr := B.returns
  have hts := atoms_spec (ws := wsX6_takeEnding) B.pre
  have hown : s.vm.findClass RX6 = some m.cls := findClass_of_methodNamed B.named
  have hlocks := B.notSynchronized
  subst hsz
  have hD := hD0.self (sz := s.heap.size)
  generalize hAe : va_A [(q_t, .inr (5, [.ref q_t_bytes, .int t_length, .int t_place, .int t_wrong])), (q_t_bytes, .inl (cI, 80, .inl t_bytes))] s.heap.size = A at hD hZ ⊢
  have hA : ∀ q : Nat, s.heap.size ≤ q → A q := fun q h => by rw [← hAe]; exact Or.inr h
  have hS : va_S A s.heap s.heap [] := va_S.rf
  have hP : va_P (dC, dI) vwCl [(q_t, .inr (5, [.ref q_t_bytes, .int t_length, .int t_place, .int t_wrong])), (q_t_bytes, .inl (cI, 80, .inl t_bytes))] s.heap := hP
  have hl := lv_entry ([.ref q_t]) (n := 3) (Nat.le_of_ble_eq_true rfl)
  rw [lg_entry_eq]
  generalize (lg_sl ([.ref q_t]) ++ List.replicate (3 - (lg_sl ([.ref q_t])).length) Slot.unset).toArray = ls at hl ⊢
  have hl : lv_has ls 3 [(0, .ref q_t)] := hl
  refine wq hP hS (fun Q hQ H locs hP hS => ?_)
  have htw : ∀ w ∈ AW, w.before _ s = true := fun w h => hts w (List.mem_cons_of_mem _ h)
  have hn0 : ∀ w ∈ wsX60, w ∈ wsX6_takeEnding := fun w h => List.mem_cons_of_mem _ (inX6 w h)
  have L70 : ∀ (t_wrong v1 : Int32) (ls : Array Slot) (H : Heap) (locs : List Loc), M_Text_takeEnding_70 t_length t_place t_bytes t_wrong v1 = some u_t_wrong → lv_has ls 3 [(0, .ref q_t), (1, .int v1)] → va_P (dC, dI) vwCl [(q_t, .inr (5, [.ref q_t_bytes, .int t_length, .int t_place, .int t_wrong])), (q_t_bytes, .inl (cI, 80, .inl t_bytes))] H → va_D A [(q_t, .inr (5, [.ref q_t_bytes, .int t_length, .int t_place, .int t_wrong])), (q_t_bytes, .inl (cI, 80, .inl t_bytes))] → va_S A s.heap H locs → W p l e ({ frames := 1, cells := 0, slots := 0, locals := 22 }) s m [.ref q_t].toArray below meth c H locs 0 0 Q (F0 m 70 ls []) := by
    intro t_wrong v1 ls H locs hm hl hP hD hS
    rw [M_Text_takeEnding_70] at hm
    refine lv_iload_n hx hb dX6_takeEnding_70 rfl (lv_at hl 1 rfl) ?_
    refine lv_iconst (v := 1) hx hb dX6_takeEnding_71 (by decide) ?_
    refine lv_iadd hx hb dX6_takeEnding_72 ?_
    refine lv_aload_n hx hb dX6_takeEnding_73 rfl (lv_at hl 0 rfl) ?_
    obtain ⟨r74, e74, hm⟩ := c1_inv hm
    refine fr_i (wr := [(q_t_bytes, .inl (cI, 80, .inl t_bytes))]) (w2 := [(q_t, .inr (5, [.ref q_t_bytes, .int t_length, .int t_place, .int t_wrong])), (q_t_bytes, .inl (cI, 80, .inl t_bytes))]) (va_runV (As := []) (rest := [.int (v1 + 1)]) ⟨hx, hb, hml, hown, hts⟩ (c_Text_bits l dC dI cI cL H.size q_t q_t_bytes t_length t_place t_wrong r74 e74) (kV 0 hts aw_285 rfl rfl aw_2 aw_282 aw_283 aw_284 (by decide +kernel) ⟨Nat.le_of_ble_eq_true rfl, Nat.le_of_ble_eq_true rfl⟩) (fr_preV hK hP hD hS hA hZ [0] rfl rfl (ci := 5) (q0 := 0) rfl rfl) rfl rfl hl.1 rfl (lv_room (Nat.le_of_ble_eq_true rfl)) dX6_takeEnding_74 ⟨Nat.le_of_ble_eq_true rfl, Nat.le_of_ble_eq_true rfl⟩) hP hD hS hA [0] [1] [1, 0] rfl rfl rfl (by decide) rfl rfl (fun H locs hP hD hS => ?_)
    have hP : va_P (dC, dI) vwCl [(q_t, .inr (5, [.ref q_t_bytes, .int t_length, .int t_place, .int t_wrong])), (q_t_bytes, .inl (cI, 80, .inl t_bytes))] H := hP
    have hD : va_D A [(q_t, .inr (5, [.ref q_t_bytes, .int t_length, .int t_place, .int t_wrong])), (q_t_bytes, .inl (cI, 80, .inl t_bytes))] := hD
    refine lv_icmp_ge hx hb dX6_takeEnding_77 rfl (fun h77 => ?_) (fun h77 => ?_)
    · rw [if_pos h77] at hm
      obtain rfl := Option.some.inj hm
      subst hQ
      exact W.vret hx hb hr (fun t ht hW => ⟨⟨(), rfl, trivial, by rw [ht]; exact hP, va_K.moved hW.alike hK, hD⟩, hS.F ht⟩) hS.2.2 dX6_takeEnding_87
    · rw [if_neg h77] at hm
      refine lv_aload_n hx hb dX6_takeEnding_80 rfl (lv_at hl 0 rfl) ?_
      refine lv_iload_n hx hb dX6_takeEnding_81 rfl (lv_at hl 1 rfl) ?_
      refine lv_iconst (v := 1) hx hb dX6_takeEnding_82 (by decide) ?_
      refine lv_iadd hx hb dX6_takeEnding_83 ?_
      obtain ⟨t_wrong_84, e84, hm⟩ := c1_inv hm
      refine fr_v (wr := [(q_t_bytes, .inl (cI, 80, .inl t_bytes))]) (w2 := [(q_t, .inr (5, [.ref q_t_bytes, .int t_length, .int t_place, .int t_wrong_84])), (q_t_bytes, .inl (cI, 80, .inl t_bytes))]) (va_runV (As := [.int (v1 + 1)]) (rest := []) ⟨hx, hb, hml, hown, hts⟩ (c_Text_refuse l dC dI cI cL H.size q_t q_t_bytes t_length t_place t_wrong (v1 + 1) t_wrong_84 e84) (kV 1 hts aw_289 rfl rfl aw_2 aw_286 aw_287 aw_288 (by decide +kernel) ⟨Nat.le_of_ble_eq_true rfl, Nat.le_of_ble_eq_true rfl⟩) (fr_preV hK hP hD hS hA hZ [0] rfl rfl (ci := 5) (q0 := 0) rfl rfl) rfl rfl hl.1 rfl (lv_room (Nat.le_of_ble_eq_true rfl)) dX6_takeEnding_84 ⟨Nat.le_of_ble_eq_true rfl, Nat.le_of_ble_eq_true rfl⟩) hP hD hS hA [0] [1] [1, 0] rfl rfl rfl (by decide) rfl rfl (fun H locs hP hD hS => ?_)
      have hP : va_P (dC, dI) vwCl [(q_t, .inr (5, [.ref q_t_bytes, .int t_length, .int t_place, .int t_wrong_84])), (q_t_bytes, .inl (cI, 80, .inl t_bytes))] H := hP
      have hD : va_D A [(q_t, .inr (5, [.ref q_t_bytes, .int t_length, .int t_place, .int t_wrong_84])), (q_t_bytes, .inl (cI, 80, .inl t_bytes))] := hD
      obtain rfl := Option.some.inj hm
      subst hQ
      exact W.vret hx hb hr (fun t ht hW => ⟨⟨(), rfl, trivial, by rw [ht]; exact hP, va_K.moved hW.alike hK, hD⟩, hS.F ht⟩) hS.2.2 dX6_takeEnding_87
  have L32 : ∀ (f : Nat) (t_wrong v1 v2 : Int32) (ls : Array Slot) (H : Heap) (locs : List Loc), M_Text_takeEnding_32 t_length t_place t_bytes f t_wrong v1 v2 = some u_t_wrong → lv_has ls 3 [(0, .ref q_t), (1, .int v1), (2, .int v2)] → va_P (dC, dI) vwCl [(q_t, .inr (5, [.ref q_t_bytes, .int t_length, .int t_place, .int t_wrong])), (q_t_bytes, .inl (cI, 80, .inl t_bytes))] H → va_D A [(q_t, .inr (5, [.ref q_t_bytes, .int t_length, .int t_place, .int t_wrong])), (q_t_bytes, .inl (cI, 80, .inl t_bytes))] → va_S A s.heap H locs → W p l e ({ frames := 1, cells := 0, slots := 0, locals := 22 }) s m [.ref q_t].toArray below meth c H locs 0 0 Q (F0 m 32 ls []) := by
    intro f
    induction f with
    | zero => intro t_wrong v1 v2 ls H locs hm; rw [M_Text_takeEnding_32] at hm; cases hm
    | succ f ih32 =>
      intro t_wrong v1 v2 ls H locs hm hl hP hD hS
      rw [M_Text_takeEnding_32] at hm
      refine lv_iload_n hx hb dX6_takeEnding_32 rfl (lv_at hl 2 rfl) ?_
      refine lv_iload_n hx hb dX6_takeEnding_33 rfl (lv_at hl 1 rfl) ?_
      refine lv_icmp_ge hx hb dX6_takeEnding_34 rfl (fun h34 => ?_) (fun h34 => ?_)
      · rw [if_pos h34] at hm
        refine lv_aload_n hx hb dX6_takeEnding_57 rfl (lv_at hl 0 rfl) ?_
        refine lv_iload_n hx hb dX6_takeEnding_58 rfl (lv_at hl 1 rfl) ?_
        obtain ⟨r59, e59, hm⟩ := c1_inv hm
        refine fr_i (wr := []) (w2 := [(q_t, .inr (5, [.ref q_t_bytes, .int t_length, .int t_place, .int t_wrong])), (q_t_bytes, .inl (cI, 80, .inl t_bytes))]) (va_runV (As := [.int v1]) (rest := []) ⟨hx, hb, hml, hown, hts⟩ (c_Text_bitAt l dC dI cI cL H.size q_t q_t_bytes t_length t_place t_wrong t_bytes v1 r59 e59) (kV 1 hts aw_293 rfl rfl aw_2 aw_290 aw_291 aw_292 (by decide +kernel) ⟨Nat.le_of_ble_eq_true rfl, Nat.le_of_ble_eq_true rfl⟩) (fr_preV hK hP hD hS hA hZ [0, 1] rfl rfl (ci := 5) (q0 := 0) rfl rfl) rfl rfl hl.1 rfl (lv_room (Nat.le_of_ble_eq_true rfl)) dX6_takeEnding_59 ⟨Nat.le_of_ble_eq_true rfl, Nat.le_of_ble_eq_true rfl⟩) hP hD hS hA [0, 1] [] [0, 1] rfl rfl rfl (by decide) rfl rfl (fun H locs hP hD hS => ?_)
        have hP : va_P (dC, dI) vwCl [(q_t, .inr (5, [.ref q_t_bytes, .int t_length, .int t_place, .int t_wrong])), (q_t_bytes, .inl (cI, 80, .inl t_bytes))] H := hP
        have hD : va_D A [(q_t, .inr (5, [.ref q_t_bytes, .int t_length, .int t_place, .int t_wrong])), (q_t_bytes, .inl (cI, 80, .inl t_bytes))] := hD
        refine lv_if_ne hx hb dX6_takeEnding_62 rfl (fun h62 => ?_) (fun h62 => ?_)
        · rw [if_neg h62] at hm
          exact L70 _ _ _ _ _ hm (lv_sub hl [0, 1] rfl) hP hD hS
        · rw [if_pos h62] at hm
          refine lv_aload_n hx hb dX6_takeEnding_65 rfl (lv_at hl 0 rfl) ?_
          refine lv_iload_n hx hb dX6_takeEnding_66 rfl (lv_at hl 1 rfl) ?_
          obtain ⟨t_wrong_67, e67, hm⟩ := c1_inv hm
          refine fr_v (wr := [(q_t_bytes, .inl (cI, 80, .inl t_bytes))]) (w2 := [(q_t, .inr (5, [.ref q_t_bytes, .int t_length, .int t_place, .int t_wrong_67])), (q_t_bytes, .inl (cI, 80, .inl t_bytes))]) (va_runV (As := [.int v1]) (rest := []) ⟨hx, hb, hml, hown, hts⟩ (c_Text_refuse l dC dI cI cL H.size q_t q_t_bytes t_length t_place t_wrong v1 t_wrong_67 e67) (kV 1 hts aw_289 rfl rfl aw_2 aw_286 aw_287 aw_288 (by decide +kernel) ⟨Nat.le_of_ble_eq_true rfl, Nat.le_of_ble_eq_true rfl⟩) (fr_preV hK hP hD hS hA hZ [0] rfl rfl (ci := 5) (q0 := 0) rfl rfl) rfl rfl hl.1 rfl (lv_room (Nat.le_of_ble_eq_true rfl)) dX6_takeEnding_67 ⟨Nat.le_of_ble_eq_true rfl, Nat.le_of_ble_eq_true rfl⟩) hP hD hS hA [0] [1] [1, 0] rfl rfl rfl (by decide) rfl rfl (fun H locs hP hD hS => ?_)
          have hP : va_P (dC, dI) vwCl [(q_t, .inr (5, [.ref q_t_bytes, .int t_length, .int t_place, .int t_wrong_67])), (q_t_bytes, .inl (cI, 80, .inl t_bytes))] H := hP
          have hD : va_D A [(q_t, .inr (5, [.ref q_t_bytes, .int t_length, .int t_place, .int t_wrong_67])), (q_t_bytes, .inl (cI, 80, .inl t_bytes))] := hD
          exact L70 _ _ _ _ _ hm (lv_sub hl [0, 1] rfl) hP hD hS
      · rw [if_neg h34] at hm
        refine lv_aload_n hx hb dX6_takeEnding_37 rfl (lv_at hl 0 rfl) ?_
        refine lv_iload_n hx hb dX6_takeEnding_38 rfl (lv_at hl 2 rfl) ?_
        obtain ⟨r39, e39, hm⟩ := c1_inv hm
        refine fr_i (wr := []) (w2 := [(q_t, .inr (5, [.ref q_t_bytes, .int t_length, .int t_place, .int t_wrong])), (q_t_bytes, .inl (cI, 80, .inl t_bytes))]) (va_runV (As := [.int v2]) (rest := []) ⟨hx, hb, hml, hown, hts⟩ (c_Text_bitAt l dC dI cI cL H.size q_t q_t_bytes t_length t_place t_wrong t_bytes v2 r39 e39) (kV 1 hts aw_293 rfl rfl aw_2 aw_290 aw_291 aw_292 (by decide +kernel) ⟨Nat.le_of_ble_eq_true rfl, Nat.le_of_ble_eq_true rfl⟩) (fr_preV hK hP hD hS hA hZ [0, 1] rfl rfl (ci := 5) (q0 := 0) rfl rfl) rfl rfl hl.1 rfl (lv_room (Nat.le_of_ble_eq_true rfl)) dX6_takeEnding_39 ⟨Nat.le_of_ble_eq_true rfl, Nat.le_of_ble_eq_true rfl⟩) hP hD hS hA [0, 1] [] [0, 1] rfl rfl rfl (by decide) rfl rfl (fun H locs hP hD hS => ?_)
        have hP : va_P (dC, dI) vwCl [(q_t, .inr (5, [.ref q_t_bytes, .int t_length, .int t_place, .int t_wrong])), (q_t_bytes, .inl (cI, 80, .inl t_bytes))] H := hP
        have hD : va_D A [(q_t, .inr (5, [.ref q_t_bytes, .int t_length, .int t_place, .int t_wrong])), (q_t_bytes, .inl (cI, 80, .inl t_bytes))] := hD
        refine lv_iconst (v := 1) hx hb dX6_takeEnding_42 (by decide) ?_
        refine lv_icmp_ne hx hb dX6_takeEnding_43 rfl (fun h43 => ?_) (fun h43 => ?_)
        · rw [if_neg h43] at hm
          refine lv_iinc (k := 2) (v := v2 + 1) (lv' := [(2, .int (v2 + 1)), (0, .ref q_t), (1, .int v1)]) hx hb dX6_takeEnding_51 hl rfl rfl (by decide) rfl (fun ls hl => ?_)
          refine lv_goto hx hb dX6_takeEnding_54 rfl ?_
          exact ih32 _ _ _ _ _ _ hm (lv_sub hl [1, 2, 0] rfl) hP hD hS
        · rw [if_pos h43] at hm
          refine lv_aload_n hx hb dX6_takeEnding_46 rfl (lv_at hl 0 rfl) ?_
          refine lv_iload_n hx hb dX6_takeEnding_47 rfl (lv_at hl 2 rfl) ?_
          obtain ⟨t_wrong_48, e48, hm⟩ := c1_inv hm
          refine fr_v (wr := [(q_t_bytes, .inl (cI, 80, .inl t_bytes))]) (w2 := [(q_t, .inr (5, [.ref q_t_bytes, .int t_length, .int t_place, .int t_wrong_48])), (q_t_bytes, .inl (cI, 80, .inl t_bytes))]) (va_runV (As := [.int v2]) (rest := []) ⟨hx, hb, hml, hown, hts⟩ (c_Text_refuse l dC dI cI cL H.size q_t q_t_bytes t_length t_place t_wrong v2 t_wrong_48 e48) (kV 1 hts aw_289 rfl rfl aw_2 aw_286 aw_287 aw_288 (by decide +kernel) ⟨Nat.le_of_ble_eq_true rfl, Nat.le_of_ble_eq_true rfl⟩) (fr_preV hK hP hD hS hA hZ [0] rfl rfl (ci := 5) (q0 := 0) rfl rfl) rfl rfl hl.1 rfl (lv_room (Nat.le_of_ble_eq_true rfl)) dX6_takeEnding_48 ⟨Nat.le_of_ble_eq_true rfl, Nat.le_of_ble_eq_true rfl⟩) hP hD hS hA [0] [1] [1, 0] rfl rfl rfl (by decide) rfl rfl (fun H locs hP hD hS => ?_)
          have hP : va_P (dC, dI) vwCl [(q_t, .inr (5, [.ref q_t_bytes, .int t_length, .int t_place, .int t_wrong_48])), (q_t_bytes, .inl (cI, 80, .inl t_bytes))] H := hP
          have hD : va_D A [(q_t, .inr (5, [.ref q_t_bytes, .int t_length, .int t_place, .int t_wrong_48])), (q_t_bytes, .inl (cI, 80, .inl t_bytes))] := hD
          refine lv_iinc (k := 2) (v := v2 + 1) (lv' := [(2, .int (v2 + 1)), (0, .ref q_t), (1, .int v1)]) hx hb dX6_takeEnding_51 hl rfl rfl (by decide) rfl (fun ls hl => ?_)
          refine lv_goto hx hb dX6_takeEnding_54 rfl ?_
          exact ih32 _ _ _ _ _ _ hm (lv_sub hl [1, 2, 0] rfl) hP hD hS
  have L19 : ∀ (t_wrong : Int32) (ls : Array Slot) (H : Heap) (locs : List Loc), M_Text_takeEnding_19 t_length t_place t_bytes t_wrong = some u_t_wrong → lv_has ls 3 [(0, .ref q_t)] → va_P (dC, dI) vwCl [(q_t, .inr (5, [.ref q_t_bytes, .int t_length, .int t_place, .int t_wrong])), (q_t_bytes, .inl (cI, 80, .inl t_bytes))] H → va_D A [(q_t, .inr (5, [.ref q_t_bytes, .int t_length, .int t_place, .int t_wrong])), (q_t_bytes, .inl (cI, 80, .inl t_bytes))] → va_S A s.heap H locs → W p l e ({ frames := 1, cells := 0, slots := 0, locals := 22 }) s m [.ref q_t].toArray below meth c H locs 0 0 Q (F0 m 19 ls []) := by
    intro t_wrong ls H locs hm hl hP hD hS
    rw [M_Text_takeEnding_19] at hm
    refine lv_aload_n hx hb dX6_takeEnding_19 rfl (lv_at hl 0 rfl) ?_
    refine va_get (D := (dC, dI)) (ci := 5) (v := .int t_place) (C := RX6) (T := TX6) (N := 4) hx hb hts hn0 hown hK hP 0 rfl rfl 2 (by decide) (htw _ aw_34) (fun _ h9 => h9) rfl dX6_takeEnding_20 ?_
    refine lv_bipush (v := 7) hx hb dX6_takeEnding_23 (by decide) ?_
    refine lv_ior hx hb dX6_takeEnding_25 ?_
    refine lv_istore_n (lv' := [(1, .int (t_place ||| 7)), (0, .ref q_t)]) hx hb dX6_takeEnding_26 rfl hl (by decide) rfl (fun ls hl => ?_)
    refine lv_aload_n hx hb dX6_takeEnding_27 rfl (lv_at hl 1 rfl) ?_
    refine va_get (D := (dC, dI)) (ci := 5) (v := .int t_place) (C := RX6) (T := TX6) (N := 4) hx hb hts hn0 hown hK hP 0 rfl rfl 2 (by decide) (htw _ aw_34) (fun _ h9 => h9) rfl dX6_takeEnding_28 ?_
    refine lv_istore_n (lv' := [(2, .int t_place), (1, .int (t_place ||| 7)), (0, .ref q_t)]) hx hb dX6_takeEnding_31 rfl hl (by decide) rfl (fun ls hl => ?_)
    exact L32 _ _ _ _ _ _ _ hm (lv_sub hl [2, 1, 0] rfl) hP hD hS
  rw [M_Text_takeEnding] at hm
  refine lv_aload_n hx hb dX6_takeEnding_0 rfl (lv_at hl 0 rfl) ?_
  refine va_get (D := (dC, dI)) (ci := 5) (v := .int t_place) (C := RX6) (T := TX6) (N := 4) hx hb hts hn0 hown hK hP 0 rfl rfl 2 (by decide) (htw _ aw_34) (fun _ h9 => h9) rfl dX6_takeEnding_1 ?_
  refine lv_aload_n hx hb dX6_takeEnding_4 rfl (lv_at hl 0 rfl) ?_
  obtain ⟨r5, e5, hm⟩ := c1_inv hm
  refine fr_i (wr := [(q_t_bytes, .inl (cI, 80, .inl t_bytes))]) (w2 := [(q_t, .inr (5, [.ref q_t_bytes, .int t_length, .int t_place, .int t_wrong])), (q_t_bytes, .inl (cI, 80, .inl t_bytes))]) (va_runV (As := []) (rest := [.int t_place]) ⟨hx, hb, hml, hown, hts⟩ (c_Text_bits l dC dI cI cL H.size q_t q_t_bytes t_length t_place t_wrong r5 e5) (kV 0 hts aw_285 rfl rfl aw_2 aw_282 aw_283 aw_284 (by decide +kernel) ⟨Nat.le_of_ble_eq_true rfl, Nat.le_of_ble_eq_true rfl⟩) (fr_preV hK hP hD hS hA hZ [0] rfl rfl (ci := 5) (q0 := 0) rfl rfl) rfl rfl hl.1 rfl (lv_room (Nat.le_of_ble_eq_true rfl)) dX6_takeEnding_5 ⟨Nat.le_of_ble_eq_true rfl, Nat.le_of_ble_eq_true rfl⟩) hP hD hS hA [0] [1] [1, 0] rfl rfl rfl (by decide) rfl rfl (fun H locs hP hD hS => ?_)
  have hP : va_P (dC, dI) vwCl [(q_t, .inr (5, [.ref q_t_bytes, .int t_length, .int t_place, .int t_wrong])), (q_t_bytes, .inl (cI, 80, .inl t_bytes))] H := hP
  have hD : va_D A [(q_t, .inr (5, [.ref q_t_bytes, .int t_length, .int t_place, .int t_wrong])), (q_t_bytes, .inl (cI, 80, .inl t_bytes))] := hD
  refine lv_icmp_lt hx hb dX6_takeEnding_8 rfl (fun h8 => ?_) (fun h8 => ?_)
  · rw [if_pos h8] at hm
    exact L19 _ _ _ _ hm (lv_sub hl [0] rfl) hP hD hS
  · rw [if_neg h8] at hm
    refine lv_aload_n hx hb dX6_takeEnding_11 rfl (lv_at hl 0 rfl) ?_
    refine lv_aload_n hx hb dX6_takeEnding_12 rfl (lv_at hl 0 rfl) ?_
    obtain ⟨r13, e13, hm⟩ := c1_inv hm
    refine fr_i (wr := [(q_t_bytes, .inl (cI, 80, .inl t_bytes))]) (w2 := [(q_t, .inr (5, [.ref q_t_bytes, .int t_length, .int t_place, .int t_wrong])), (q_t_bytes, .inl (cI, 80, .inl t_bytes))]) (va_runV (As := []) (rest := [.ref q_t]) ⟨hx, hb, hml, hown, hts⟩ (c_Text_bits l dC dI cI cL H.size q_t q_t_bytes t_length t_place t_wrong r13 e13) (kV 0 hts aw_285 rfl rfl aw_2 aw_282 aw_283 aw_284 (by decide +kernel) ⟨Nat.le_of_ble_eq_true rfl, Nat.le_of_ble_eq_true rfl⟩) (fr_preV hK hP hD hS hA hZ [0] rfl rfl (ci := 5) (q0 := 0) rfl rfl) rfl rfl hl.1 rfl (lv_room (Nat.le_of_ble_eq_true rfl)) dX6_takeEnding_13 ⟨Nat.le_of_ble_eq_true rfl, Nat.le_of_ble_eq_true rfl⟩) hP hD hS hA [0] [1] [1, 0] rfl rfl rfl (by decide) rfl rfl (fun H locs hP hD hS => ?_)
    have hP : va_P (dC, dI) vwCl [(q_t, .inr (5, [.ref q_t_bytes, .int t_length, .int t_place, .int t_wrong])), (q_t_bytes, .inl (cI, 80, .inl t_bytes))] H := hP
    have hD : va_D A [(q_t, .inr (5, [.ref q_t_bytes, .int t_length, .int t_place, .int t_wrong])), (q_t_bytes, .inl (cI, 80, .inl t_bytes))] := hD
    obtain ⟨t_wrong_16, e16, hm⟩ := c1_inv hm
    refine fr_v (wr := [(q_t_bytes, .inl (cI, 80, .inl t_bytes))]) (w2 := [(q_t, .inr (5, [.ref q_t_bytes, .int t_length, .int t_place, .int t_wrong_16])), (q_t_bytes, .inl (cI, 80, .inl t_bytes))]) (va_runV (As := [.int r13]) (rest := []) ⟨hx, hb, hml, hown, hts⟩ (c_Text_refuse l dC dI cI cL H.size q_t q_t_bytes t_length t_place t_wrong r13 t_wrong_16 e16) (kV 1 hts aw_289 rfl rfl aw_2 aw_286 aw_287 aw_288 (by decide +kernel) ⟨Nat.le_of_ble_eq_true rfl, Nat.le_of_ble_eq_true rfl⟩) (fr_preV hK hP hD hS hA hZ [0] rfl rfl (ci := 5) (q0 := 0) rfl rfl) rfl rfl hl.1 rfl (lv_room (Nat.le_of_ble_eq_true rfl)) dX6_takeEnding_16 ⟨Nat.le_of_ble_eq_true rfl, Nat.le_of_ble_eq_true rfl⟩) hP hD hS hA [0] [1] [1, 0] rfl rfl rfl (by decide) rfl rfl (fun H locs hP hD hS => ?_)
    have hP : va_P (dC, dI) vwCl [(q_t, .inr (5, [.ref q_t_bytes, .int t_length, .int t_place, .int t_wrong_16])), (q_t_bytes, .inl (cI, 80, .inl t_bytes))] H := hP
    have hD : va_D A [(q_t, .inr (5, [.ref q_t_bytes, .int t_length, .int t_place, .int t_wrong_16])), (q_t_bytes, .inl (cI, 80, .inl t_bytes))] := hD
    exact L19 _ _ _ _ hm (lv_sub hl [0] rfl) hP hD hS
def M_Text_takeNatural_79 (t_length : Int32) (t_bytes : Nat → Int32) (t_place : Int32) (t_wrong : Int32) (v1 : Int64) : Option (Int32 × Int32 × Int32) :=
  (if t_wrong = (-1) then
    some (v1.toInt32, t_place, t_wrong)
  else
    some (0, t_place, t_wrong))
def M_Text_takeNatural_66 (t_length : Int32) (t_bytes : Nat → Int32) (t_place : Int32) (t_wrong : Int32) (v1 : Int64) (v3 : Int32) : Option (Int32 × Int32 × Int32) :=
  (if v3 = 1 then
    c1 (M_Text_refuse t_wrong t_place) (fun t_wrong_76 =>
      M_Text_takeNatural_79 t_length t_bytes t_place t_wrong_76 v1)
  else
    M_Text_takeNatural_79 t_length t_bytes t_place t_wrong v1)
def M_Text_takeNatural_7 (t_length : Int32) (t_bytes : Nat → Int32) : Nat → Int32 → Int32 → Int64 → Int32 → Int32 → Option (Int32 × Int32 × Int32)
  | 0, _, _, _, _, _ => none
  | f + 1, t_place, t_wrong, v1, v3, v4 =>
    (if 5 ≤ v4 then
      M_Text_takeNatural_66 t_length t_bytes t_place t_wrong v1 v3
    else
      (if v3 = 1 then
        (if t_wrong = (-1) then
          c3 (M_Text_take t_length t_place t_wrong t_bytes (1 : Int32)) (fun r28 t_place_28 t_wrong_28 =>
            c3 (M_Text_take t_length t_place_28 t_wrong_28 t_bytes (7 : Int32)) (fun r36 t_place_36 t_wrong_36 =>
              (if (lg_cmp (v1 + (r36.toInt64 <<< ((7 * v4).toInt64 &&& 63))) 2147483647) ≤ 0 then
                M_Text_takeNatural_7 t_length t_bytes f t_place_36 t_wrong_36 (v1 + (r36.toInt64 <<< ((7 * v4).toInt64 &&& 63))) r28 (v4 + 1)
              else
                c1 (M_Text_refuseLatest t_place_36 t_wrong_36) (fun t_wrong_57 =>
                  M_Text_takeNatural_7 t_length t_bytes f t_place_36 t_wrong_57 (v1 + (r36.toInt64 <<< ((7 * v4).toInt64 &&& 63))) r28 (v4 + 1)))))
        else
          M_Text_takeNatural_66 t_length t_bytes t_place t_wrong v1 v3)
      else
        M_Text_takeNatural_66 t_length t_bytes t_place t_wrong v1 v3))
def M_Text_takeNatural (t_length : Int32) (t_place : Int32) (t_wrong : Int32) (t_bytes : Nat → Int32) : Option (Int32 × Int32 × Int32) :=
  M_Text_takeNatural_7 t_length t_bytes 1000 t_place t_wrong 0 1 0
set_option maxHeartbeats 4000000 in
set_option maxRecDepth 100000 in
theorem c_Text_takeNatural (l : Launch) (dC : Nat → ClassId) (dI : Nat → Nat → Nat) (cI cL : ClassId) (sz : Nat) (q_t q_t_bytes : Nat) (t_length t_place t_wrong : Int32) (t_bytes : Nat → Int32) (r0 u_t_place u_t_wrong : Int32) (hm : M_Text_takeNatural t_length t_place t_wrong t_bytes = some (r0, u_t_place, u_t_wrong)) : Met l yX6_takeNatural wsX6_takeNatural ({ frames := 2, cells := 0, slots := 0, locals := 45 }) (frPc (dC, dI) vwCl [(cI, .int), (cL, .long)] [(q_t, .inr (5, [.ref q_t_bytes, .int t_length, .int t_place, .int t_wrong])), (q_t_bytes, .inl (cI, 80, .inl t_bytes))] sz [.ref q_t]) (va_Qi (fun (r : Int32) (_ : Unit) => r = r0) (frB (dC, dI) vwCl [(cI, .int), (cL, .long)] (va_A [(q_t, .inr (5, [.ref q_t_bytes, .int t_length, .int t_place, .int t_wrong])), (q_t_bytes, .inl (cI, 80, .inl t_bytes))] sz) [(q_t, .inr (5, [.ref q_t_bytes, .int t_length, .int u_t_place, .int u_t_wrong])), (q_t_bytes, .inl (cI, 80, .inl t_bytes))]) (va_A [(q_t, .inr (5, [.ref q_t_bytes, .int t_length, .int t_place, .int t_wrong])), (q_t_bytes, .inl (cI, 80, .inl t_bytes))] sz)) 0 0 (va_A [(q_t, .inr (5, [.ref q_t_bytes, .int t_length, .int t_place, .int t_wrong])), (q_t_bytes, .inl (cI, 80, .inl t_bytes))] sz) := by
  refine Met.ofW (cc := cX6_takeNatural) (maxL := 5) (ret := (some .int)) (by decide) rfl ?_
  intro p e s m args below meth c s₁ B hml hv
  obtain ⟨rfl, hsz, hP, hK, hD0, hZ⟩ := hv
  have hx := B.exec
  have hb := B.bytes
  have hr := B.returns
  have hts := atoms_spec (ws := wsX6_takeNatural) B.pre
  have hown : s.vm.findClass RX6 = some m.cls := findClass_of_methodNamed B.named
  have hlocks := B.notSynchronized
  subst hsz
  have hD := hD0.self (sz := s.heap.size)
  generalize hAe : va_A [(q_t, .inr (5, [.ref q_t_bytes, .int t_length, .int t_place, .int t_wrong])), (q_t_bytes, .inl (cI, 80, .inl t_bytes))] s.heap.size = A at hD hZ ⊢
  have hA : ∀ q : Nat, s.heap.size ≤ q → A q := fun q h => by rw [← hAe]; exact Or.inr h
  have hS : va_S A s.heap s.heap [] := va_S.rf
  have hP : va_P (dC, dI) vwCl [(q_t, .inr (5, [.ref q_t_bytes, .int t_length, .int t_place, .int t_wrong])), (q_t_bytes, .inl (cI, 80, .inl t_bytes))] s.heap := hP
  have hl := lv_entry ([.ref q_t]) (n := 5) (Nat.le_of_ble_eq_true rfl)
  rw [lg_entry_eq]
  generalize (lg_sl ([.ref q_t]) ++ List.replicate (5 - (lg_sl ([.ref q_t])).length) Slot.unset).toArray = ls at hl ⊢
  have hl : lv_has ls 5 [(0, .ref q_t)] := hl
  refine wq hP hS (fun Q hQ H locs hP hS => ?_)
  have htw : ∀ w ∈ AW, w.before _ s = true := fun w h => hts w (List.mem_cons_of_mem _ h)
  have hn0 : ∀ w ∈ wsX60, w ∈ wsX6_takeNatural := fun w h => List.mem_cons_of_mem _ (inX6 w h)
  have L79 : ∀ (t_place t_wrong : Int32) (v1 : Int64) (ls : Array Slot) (H : Heap) (locs : List Loc), M_Text_takeNatural_79 t_length t_bytes t_place t_wrong v1 = some (r0, u_t_place, u_t_wrong) → lv_has ls 5 [(0, .ref q_t), (1, .long v1)] → va_P (dC, dI) vwCl [(q_t, .inr (5, [.ref q_t_bytes, .int t_length, .int t_place, .int t_wrong])), (q_t_bytes, .inl (cI, 80, .inl t_bytes))] H → va_D A [(q_t, .inr (5, [.ref q_t_bytes, .int t_length, .int t_place, .int t_wrong])), (q_t_bytes, .inl (cI, 80, .inl t_bytes))] → va_S A s.heap H locs → W p l e ({ frames := 2, cells := 0, slots := 0, locals := 45 }) s m [.ref q_t].toArray below meth c H locs 0 0 Q (F0 m 79 ls []) := by
    intro t_place t_wrong v1 ls H locs hm hl hP hD hS
    rw [M_Text_takeNatural_79] at hm
    refine lv_aload_n hx hb dX6_takeNatural_79 rfl (lv_at hl 0 rfl) ?_
    refine va_get (D := (dC, dI)) (ci := 5) (v := .int t_wrong) (C := RX6) (T := TX6) (N := 4) hx hb hts hn0 hown hK hP 0 rfl rfl 3 (by decide) (htw _ aw_35) (fun _ h9 => h9) rfl dX6_takeNatural_80 ?_
    refine lv_iconst (v := (-1)) hx hb dX6_takeNatural_83 (by decide) ?_
    refine lv_icmp_ne hx hb dX6_takeNatural_84 rfl (fun h84 => ?_) (fun h84 => ?_)
    · rw [if_neg h84] at hm
      refine lv_iconst (v := 0) hx hb dX6_takeNatural_92 (by decide) ?_
      obtain ⟨rfl, rfl, rfl⟩ := ij3 hm
      subst hQ
      exact W.iret hx hb hr (fun t ht hW => ⟨⟨_, (), rfl, rfl, by rw [ht]; exact hP, va_K.moved hW.alike hK, hD⟩, hS.F ht⟩) hS.2.2 dX6_takeNatural_93
    · rw [if_pos h84] at hm
      refine lv_lload_n hx hb dX6_takeNatural_87 rfl (lv_at hl 1 rfl) ?_
      refine lv_l2i (v := v1.toInt32) hx hb dX6_takeNatural_88 rfl ?_
      refine lv_goto hx hb dX6_takeNatural_89 rfl ?_
      obtain ⟨rfl, rfl, rfl⟩ := ij3 hm
      subst hQ
      exact W.iret hx hb hr (fun t ht hW => ⟨⟨_, (), rfl, rfl, by rw [ht]; exact hP, va_K.moved hW.alike hK, hD⟩, hS.F ht⟩) hS.2.2 dX6_takeNatural_93
  have L66 : ∀ (t_place t_wrong : Int32) (v1 : Int64) (v3 : Int32) (ls : Array Slot) (H : Heap) (locs : List Loc), M_Text_takeNatural_66 t_length t_bytes t_place t_wrong v1 v3 = some (r0, u_t_place, u_t_wrong) → lv_has ls 5 [(0, .ref q_t), (1, .long v1), (3, .int v3)] → va_P (dC, dI) vwCl [(q_t, .inr (5, [.ref q_t_bytes, .int t_length, .int t_place, .int t_wrong])), (q_t_bytes, .inl (cI, 80, .inl t_bytes))] H → va_D A [(q_t, .inr (5, [.ref q_t_bytes, .int t_length, .int t_place, .int t_wrong])), (q_t_bytes, .inl (cI, 80, .inl t_bytes))] → va_S A s.heap H locs → W p l e ({ frames := 2, cells := 0, slots := 0, locals := 45 }) s m [.ref q_t].toArray below meth c H locs 0 0 Q (F0 m 66 ls []) := by
    intro t_place t_wrong v1 v3 ls H locs hm hl hP hD hS
    rw [M_Text_takeNatural_66] at hm
    refine lv_iload_n hx hb dX6_takeNatural_66 rfl (lv_at hl 2 rfl) ?_
    refine lv_iconst (v := 1) hx hb dX6_takeNatural_67 (by decide) ?_
    refine lv_icmp_ne hx hb dX6_takeNatural_68 rfl (fun h68 => ?_) (fun h68 => ?_)
    · rw [if_neg h68] at hm
      exact L79 _ _ _ _ _ _ hm (lv_sub hl [0, 1] rfl) hP hD hS
    · rw [if_pos h68] at hm
      refine lv_aload_n hx hb dX6_takeNatural_71 rfl (lv_at hl 0 rfl) ?_
      refine lv_aload_n hx hb dX6_takeNatural_72 rfl (lv_at hl 0 rfl) ?_
      refine va_get (D := (dC, dI)) (ci := 5) (v := .int t_place) (C := RX6) (T := TX6) (N := 4) hx hb hts hn0 hown hK hP 0 rfl rfl 2 (by decide) (htw _ aw_34) (fun _ h9 => h9) rfl dX6_takeNatural_73 ?_
      obtain ⟨t_wrong_76, e76, hm⟩ := c1_inv hm
      refine fr_v (wr := [(q_t_bytes, .inl (cI, 80, .inl t_bytes))]) (w2 := [(q_t, .inr (5, [.ref q_t_bytes, .int t_length, .int t_place, .int t_wrong_76])), (q_t_bytes, .inl (cI, 80, .inl t_bytes))]) (va_runV (As := [.int t_place]) (rest := []) ⟨hx, hb, hml, hown, hts⟩ (c_Text_refuse l dC dI cI cL H.size q_t q_t_bytes t_length t_place t_wrong t_place t_wrong_76 e76) (kV 1 hts aw_289 rfl rfl aw_2 aw_286 aw_287 aw_288 (by decide +kernel) ⟨Nat.le_of_ble_eq_true rfl, Nat.le_of_ble_eq_true rfl⟩) (fr_preV hK hP hD hS hA hZ [0] rfl rfl (ci := 5) (q0 := 0) rfl rfl) rfl rfl hl.1 rfl (lv_room (Nat.le_of_ble_eq_true rfl)) dX6_takeNatural_76 ⟨Nat.le_of_ble_eq_true rfl, Nat.le_of_ble_eq_true rfl⟩) hP hD hS hA [0] [1] [1, 0] rfl rfl rfl (by decide) rfl rfl (fun H locs hP hD hS => ?_)
      have hP : va_P (dC, dI) vwCl [(q_t, .inr (5, [.ref q_t_bytes, .int t_length, .int t_place, .int t_wrong_76])), (q_t_bytes, .inl (cI, 80, .inl t_bytes))] H := hP
      have hD : va_D A [(q_t, .inr (5, [.ref q_t_bytes, .int t_length, .int t_place, .int t_wrong_76])), (q_t_bytes, .inl (cI, 80, .inl t_bytes))] := hD
      exact L79 _ _ _ _ _ _ hm (lv_sub hl [0, 1] rfl) hP hD hS
  have L7 : ∀ (f : Nat) (t_place t_wrong : Int32) (v1 : Int64) (v3 v4 : Int32) (ls : Array Slot) (H : Heap) (locs : List Loc), M_Text_takeNatural_7 t_length t_bytes f t_place t_wrong v1 v3 v4 = some (r0, u_t_place, u_t_wrong) → lv_has ls 5 [(0, .ref q_t), (1, .long v1), (3, .int v3), (4, .int v4)] → va_P (dC, dI) vwCl [(q_t, .inr (5, [.ref q_t_bytes, .int t_length, .int t_place, .int t_wrong])), (q_t_bytes, .inl (cI, 80, .inl t_bytes))] H → va_D A [(q_t, .inr (5, [.ref q_t_bytes, .int t_length, .int t_place, .int t_wrong])), (q_t_bytes, .inl (cI, 80, .inl t_bytes))] → va_S A s.heap H locs → W p l e ({ frames := 2, cells := 0, slots := 0, locals := 45 }) s m [.ref q_t].toArray below meth c H locs 0 0 Q (F0 m 7 ls []) := by
    intro f
    induction f with
    | zero => intro t_place t_wrong v1 v3 v4 ls H locs hm; rw [M_Text_takeNatural_7] at hm; cases hm
    | succ f ih7 =>
      intro t_place t_wrong v1 v3 v4 ls H locs hm hl hP hD hS
      rw [M_Text_takeNatural_7] at hm
      refine lv_iload hx hb dX6_takeNatural_7 (lv_at hl 3 rfl) ?_
      refine lv_iconst (v := 5) hx hb dX6_takeNatural_9 (by decide) ?_
      refine lv_icmp_ge hx hb dX6_takeNatural_10 rfl (fun h10 => ?_) (fun h10 => ?_)
      · rw [if_pos h10] at hm
        exact L66 _ _ _ _ _ _ _ hm (lv_sub hl [0, 1, 2] rfl) hP hD hS
      · rw [if_neg h10] at hm
        refine lv_iload_n hx hb dX6_takeNatural_13 rfl (lv_at hl 2 rfl) ?_
        refine lv_iconst (v := 1) hx hb dX6_takeNatural_14 (by decide) ?_
        refine lv_icmp_ne hx hb dX6_takeNatural_15 rfl (fun h15 => ?_) (fun h15 => ?_)
        · rw [if_neg h15] at hm
          exact L66 _ _ _ _ _ _ _ hm (lv_sub hl [0, 1, 2] rfl) hP hD hS
        · rw [if_pos h15] at hm
          refine lv_aload_n hx hb dX6_takeNatural_18 rfl (lv_at hl 0 rfl) ?_
          refine va_get (D := (dC, dI)) (ci := 5) (v := .int t_wrong) (C := RX6) (T := TX6) (N := 4) hx hb hts hn0 hown hK hP 0 rfl rfl 3 (by decide) (htw _ aw_35) (fun _ h9 => h9) rfl dX6_takeNatural_19 ?_
          refine lv_iconst (v := (-1)) hx hb dX6_takeNatural_22 (by decide) ?_
          refine lv_icmp_ne hx hb dX6_takeNatural_23 rfl (fun h23 => ?_) (fun h23 => ?_)
          · rw [if_neg h23] at hm
            exact L66 _ _ _ _ _ _ _ hm (lv_sub hl [0, 1, 2] rfl) hP hD hS
          · rw [if_pos h23] at hm
            refine lv_aload_n hx hb dX6_takeNatural_26 rfl (lv_at hl 0 rfl) ?_
            refine lv_iconst (v := 1) hx hb dX6_takeNatural_27 (by decide) ?_
            obtain ⟨r28, t_place_28, t_wrong_28, e28, hm⟩ := c3_inv hm
            refine fr_i (wr := []) (w2 := [(q_t, .inr (5, [.ref q_t_bytes, .int t_length, .int t_place_28, .int t_wrong_28])), (q_t_bytes, .inl (cI, 80, .inl t_bytes))]) (va_runV (As := [.int 1]) (rest := []) ⟨hx, hb, hml, hown, hts⟩ (c_Text_take l dC dI cI cL H.size q_t q_t_bytes t_length t_place t_wrong t_bytes (1 : Int32) r28 t_place_28 t_wrong_28 e28) (kV 1 hts aw_281 rfl rfl aw_2 aw_278 aw_279 aw_280 (by decide +kernel) ⟨Nat.le_of_ble_eq_true rfl, Nat.le_of_ble_eq_true rfl⟩) (fr_preV hK hP hD hS hA hZ [0, 1] rfl rfl (ci := 5) (q0 := 0) rfl rfl) rfl rfl hl.1 rfl (lv_room (Nat.le_of_ble_eq_true rfl)) dX6_takeNatural_28 ⟨Nat.le_of_ble_eq_true rfl, Nat.le_of_ble_eq_true rfl⟩) hP hD hS hA [0, 1] [] [0, 1] rfl rfl rfl (by decide) rfl rfl (fun H locs hP hD hS => ?_)
            have hP : va_P (dC, dI) vwCl [(q_t, .inr (5, [.ref q_t_bytes, .int t_length, .int t_place_28, .int t_wrong_28])), (q_t_bytes, .inl (cI, 80, .inl t_bytes))] H := hP
            have hD : va_D A [(q_t, .inr (5, [.ref q_t_bytes, .int t_length, .int t_place_28, .int t_wrong_28])), (q_t_bytes, .inl (cI, 80, .inl t_bytes))] := hD
            refine lv_istore_n (lv' := [(3, .int r28), (0, .ref q_t), (1, .long v1), (4, .int v4)]) hx hb dX6_takeNatural_31 rfl hl (by decide) rfl (fun ls hl => ?_)
            refine lv_lload_n hx hb dX6_takeNatural_32 rfl (lv_at hl 2 rfl) ?_
            refine lv_aload_n hx hb dX6_takeNatural_33 rfl (lv_at hl 1 rfl) ?_
            refine lv_bipush (v := 7) hx hb dX6_takeNatural_34 (by decide) ?_
            obtain ⟨r36, t_place_36, t_wrong_36, e36, hm⟩ := c3_inv hm
            refine fr_i (wr := []) (w2 := [(q_t, .inr (5, [.ref q_t_bytes, .int t_length, .int t_place_36, .int t_wrong_36])), (q_t_bytes, .inl (cI, 80, .inl t_bytes))]) (va_runV (As := [.int 7]) (rest := [.long v1]) ⟨hx, hb, hml, hown, hts⟩ (c_Text_take l dC dI cI cL H.size q_t q_t_bytes t_length t_place_28 t_wrong_28 t_bytes (7 : Int32) r36 t_place_36 t_wrong_36 e36) (kV 1 hts aw_281 rfl rfl aw_2 aw_278 aw_279 aw_280 (by decide +kernel) ⟨Nat.le_of_ble_eq_true rfl, Nat.le_of_ble_eq_true rfl⟩) (fr_preV hK hP hD hS hA hZ [0, 1] rfl rfl (ci := 5) (q0 := 0) rfl rfl) rfl rfl hl.1 rfl (lv_room (Nat.le_of_ble_eq_true rfl)) dX6_takeNatural_36 ⟨Nat.le_of_ble_eq_true rfl, Nat.le_of_ble_eq_true rfl⟩) hP hD hS hA [0, 1] [] [0, 1] rfl rfl rfl (by decide) rfl rfl (fun H locs hP hD hS => ?_)
            have hP : va_P (dC, dI) vwCl [(q_t, .inr (5, [.ref q_t_bytes, .int t_length, .int t_place_36, .int t_wrong_36])), (q_t_bytes, .inl (cI, 80, .inl t_bytes))] H := hP
            have hD : va_D A [(q_t, .inr (5, [.ref q_t_bytes, .int t_length, .int t_place_36, .int t_wrong_36])), (q_t_bytes, .inl (cI, 80, .inl t_bytes))] := hD
            refine lv_i2l (v := r36.toInt64) hx hb dX6_takeNatural_39 rfl ?_
            refine lv_bipush (v := 7) hx hb dX6_takeNatural_40 (by decide) ?_
            refine lv_iload hx hb dX6_takeNatural_42 (lv_at hl 3 rfl) ?_
            refine lv_imul hx hb dX6_takeNatural_44 ?_
            refine lv_lshl (v := r36.toInt64 <<< ((7 * v4).toInt64 &&& 63)) hx hb dX6_takeNatural_45 rfl ?_
            refine lv_ladd hx hb dX6_takeNatural_46 ?_
            refine lv_lstore_n (lv' := [(1, .long (v1 + (r36.toInt64 <<< ((7 * v4).toInt64 &&& 63)))), (3, .int r28), (0, .ref q_t), (4, .int v4)]) hx hb dX6_takeNatural_47 rfl hl (by decide) rfl (fun ls hl => ?_)
            refine lv_lload_n hx hb dX6_takeNatural_48 rfl (lv_at hl 0 rfl) ?_
            refine lv_ldc2 (v := 2147483647) hx hb hown (htw _ aw_294) dX6_takeNatural_49 ?_
            refine W.lcmp hx hb dX6_takeNatural_52 ?_
            refine lv_if_le hx hb dX6_takeNatural_53 rfl (fun h53 => ?_) (fun h53 => ?_)
            · rw [if_pos h53] at hm
              refine lv_iinc (k := 3) (v := v4 + 1) (lv' := [(4, .int (v4 + 1)), (1, .long (v1 + (r36.toInt64 <<< ((7 * v4).toInt64 &&& 63)))), (3, .int r28), (0, .ref q_t)]) hx hb dX6_takeNatural_60 hl rfl rfl (by decide) rfl (fun ls hl => ?_)
              refine lv_goto hx hb dX6_takeNatural_63 rfl ?_
              exact ih7 _ _ _ _ _ _ _ _ hm (lv_sub hl [3, 1, 2, 0] rfl) hP hD hS
            · rw [if_neg h53] at hm
              refine lv_aload_n hx hb dX6_takeNatural_56 rfl (lv_at hl 2 rfl) ?_
              obtain ⟨t_wrong_57, e57, hm⟩ := c1_inv hm
              refine fr_v (wr := [(q_t_bytes, .inl (cI, 80, .inl t_bytes))]) (w2 := [(q_t, .inr (5, [.ref q_t_bytes, .int t_length, .int t_place_36, .int t_wrong_57])), (q_t_bytes, .inl (cI, 80, .inl t_bytes))]) (va_runV (As := []) (rest := []) ⟨hx, hb, hml, hown, hts⟩ (c_Text_refuseLatest l dC dI cI cL H.size q_t q_t_bytes t_length t_place_36 t_wrong_36 t_wrong_57 e57) (kV 0 hts aw_298 rfl rfl aw_2 aw_295 aw_296 aw_297 (by decide +kernel) ⟨Nat.le_of_ble_eq_true rfl, Nat.le_of_ble_eq_true rfl⟩) (fr_preV hK hP hD hS hA hZ [0] rfl rfl (ci := 5) (q0 := 0) rfl rfl) rfl rfl hl.1 rfl (lv_room (Nat.le_of_ble_eq_true rfl)) dX6_takeNatural_57 ⟨Nat.le_of_ble_eq_true rfl, Nat.le_of_ble_eq_true rfl⟩) hP hD hS hA [0] [1] [1, 0] rfl rfl rfl (by decide) rfl rfl (fun H locs hP hD hS => ?_)
              have hP : va_P (dC, dI) vwCl [(q_t, .inr (5, [.ref q_t_bytes, .int t_length, .int t_place_36, .int t_wrong_57])), (q_t_bytes, .inl (cI, 80, .inl t_bytes))] H := hP
              have hD : va_D A [(q_t, .inr (5, [.ref q_t_bytes, .int t_length, .int t_place_36, .int t_wrong_57])), (q_t_bytes, .inl (cI, 80, .inl t_bytes))] := hD
              refine lv_iinc (k := 3) (v := v4 + 1) (lv' := [(4, .int (v4 + 1)), (1, .long (v1 + (r36.toInt64 <<< ((7 * v4).toInt64 &&& 63)))), (3, .int r28), (0, .ref q_t)]) hx hb dX6_takeNatural_60 hl rfl rfl (by decide) rfl (fun ls hl => ?_)
              refine lv_goto hx hb dX6_takeNatural_63 rfl ?_
              exact ih7 _ _ _ _ _ _ _ _ hm (lv_sub hl [3, 1, 2, 0] rfl) hP hD hS
  rw [M_Text_takeNatural] at hm
  refine lv_lconst (v := 0) hx hb dX6_takeNatural_0 (by decide) ?_
  refine lv_lstore_n (lv' := [(1, .long 0), (0, .ref q_t)]) hx hb dX6_takeNatural_1 rfl hl (by decide) rfl (fun ls hl => ?_)
  refine lv_iconst (v := 1) hx hb dX6_takeNatural_2 (by decide) ?_
  refine lv_istore_n (lv' := [(3, .int 1), (1, .long 0), (0, .ref q_t)]) hx hb dX6_takeNatural_3 rfl hl (by decide) rfl (fun ls hl => ?_)
  refine lv_iconst (v := 0) hx hb dX6_takeNatural_4 (by decide) ?_
  refine lv_istore (lv' := [(4, .int 0), (3, .int 1), (1, .long 0), (0, .ref q_t)]) hx hb dX6_takeNatural_5 hl (by decide) rfl (fun ls hl => ?_)
  exact L7 _ _ _ _ _ _ _ _ _ hm (lv_sub hl [3, 2, 1, 0] rfl) hP hD hS
