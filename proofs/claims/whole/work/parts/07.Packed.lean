def M_Packed_byteAt (x0 : Int64) (x2 : Int32) (x3 : Int32) : Option (Int32) :=
  some ((((x0.toUInt64 >>> ((8 * ((x2 - 1) - x3)).toInt64.toUInt64 &&& Int64.toUInt64 63)).toInt64).toInt32) &&& 255)
set_option maxHeartbeats 4000000 in
set_option maxRecDepth 100000 in
theorem c_Packed_byteAt (l : Launch) (dC : Nat → ClassId) (dI : Nat → Nat → Nat) (cI cL : ClassId) (sz : Nat) (x0 : Int64) (x2 x3 r0 : Int32) (hm : M_Packed_byteAt x0 x2 x3 = some r0) : Met l yX2_byteAt wsX2_byteAt ({ frames := 0, cells := 0, slots := 0, locals := 0 }) (frPc (dC, dI) vwCl [(cI, .int), (cL, .long)] [] sz [.long x0, .int x2, .int x3]) (va_Qi (fun (r : Int32) (_ : Unit) => r = r0) (frB (dC, dI) vwCl [(cI, .int), (cL, .long)] (va_A [] sz) []) (va_A [] sz)) 0 0 (va_A [] sz) := by
  refine Met.ofW (cc := cX2_byteAt) (maxL := 4) (ret := (some .int)) (by decide) rfl ?_
  intro p e s m args below meth c s₁ B hml hv
  obtain ⟨rfl, hsz, hP, hK, hD0, hZ⟩ := hv
  have hx := B.exec
  have hb := B.bytes
  have hr := B.returns
  have hts := atoms_spec (ws := wsX2_byteAt) B.pre
  have hown : s.vm.findClass RX2 = some m.cls := findClass_of_methodNamed B.named
  have hlocks := B.notSynchronized
  subst hsz
  have hD := hD0.self (sz := s.heap.size)
  generalize hAe : va_A [] s.heap.size = A at hD hZ ⊢
  have hA : ∀ q : Nat, s.heap.size ≤ q → A q := fun q h => by rw [← hAe]; exact Or.inr h
  have hS : va_S A s.heap s.heap [] := va_S.rf
  have hP : va_P (dC, dI) vwCl [] s.heap := hP
  have hl := lv_entry ([.long x0, .int x2, .int x3]) (n := 4) (Nat.le_of_ble_eq_true rfl)
  rw [lg_entry_eq]
  generalize (lg_sl ([.long x0, .int x2, .int x3]) ++ List.replicate (4 - (lg_sl ([.long x0, .int x2, .int x3])).length) Slot.unset).toArray = ls at hl ⊢
  have hl : lv_has ls 4 [(0, .long x0), (2, .int x2), (3, .int x3)] := hl
  refine wq hP hS (fun Q hQ H locs hP hS => ?_)
  have htw : ∀ w ∈ AW, w.before _ s = true := fun w h => hts w (List.mem_cons_of_mem _ h)
  rw [M_Packed_byteAt] at hm
  refine lv_lload_n hx hb dX2_byteAt_0 rfl (lv_at hl 0 rfl) ?_
  refine lv_bipush (v := 8) hx hb dX2_byteAt_1 (by decide) ?_
  refine lv_iload_n hx hb dX2_byteAt_3 rfl (lv_at hl 1 rfl) ?_
  refine lv_iconst (v := 1) hx hb dX2_byteAt_4 (by decide) ?_
  refine lv_isub hx hb dX2_byteAt_5 ?_
  refine lv_iload_n hx hb dX2_byteAt_6 rfl (lv_at hl 2 rfl) ?_
  refine lv_isub hx hb dX2_byteAt_7 ?_
  refine lv_imul hx hb dX2_byteAt_8 ?_
  refine lv_lushr (v := (x0.toUInt64 >>> ((8 * ((x2 - 1) - x3)).toInt64.toUInt64 &&& Int64.toUInt64 63)).toInt64) hx hb dX2_byteAt_9 rfl ?_
  refine lv_l2i (v := ((x0.toUInt64 >>> ((8 * ((x2 - 1) - x3)).toInt64.toUInt64 &&& Int64.toUInt64 63)).toInt64).toInt32) hx hb dX2_byteAt_10 rfl ?_
  refine lv_sipush (v := 255) hx hb dX2_byteAt_11 (by decide) ?_
  refine lv_iand hx hb dX2_byteAt_14 ?_
  obtain rfl := Option.some.inj hm
  subst hQ
  exact W.iret hx hb hr (fun t ht hW => ⟨⟨_, (), rfl, rfl, by rw [ht]; exact hP, va_K.moved hW.alike hK, hD⟩, hS.F ht⟩) hS.2.2 dX2_byteAt_15
def M_Packed_length (x0 : Int64) : Option (Int32) :=
  some (((x0.toUInt64 >>> ((56 : Int32).toInt64.toUInt64 &&& Int64.toUInt64 63)).toInt64).toInt32)
set_option maxHeartbeats 4000000 in
set_option maxRecDepth 100000 in
theorem c_Packed_length (l : Launch) (dC : Nat → ClassId) (dI : Nat → Nat → Nat) (cI cL : ClassId) (sz : Nat) (x0 : Int64) (r0 : Int32) (hm : M_Packed_length x0 = some r0) : Met l yX2_length wsX2_length ({ frames := 0, cells := 0, slots := 0, locals := 0 }) (frPc (dC, dI) vwCl [(cI, .int), (cL, .long)] [] sz [.long x0]) (va_Qi (fun (r : Int32) (_ : Unit) => r = r0) (frB (dC, dI) vwCl [(cI, .int), (cL, .long)] (va_A [] sz) []) (va_A [] sz)) 0 0 (va_A [] sz) := by
  refine Met.ofW (cc := cX2_length) (maxL := 2) (ret := (some .int)) (by decide) rfl ?_
  intro p e s m args below meth c s₁ B hml hv
  obtain ⟨rfl, hsz, hP, hK, hD0, hZ⟩ := hv
  have hx := B.exec
  have hb := B.bytes
  have hr := B.returns
  have hts := atoms_spec (ws := wsX2_length) B.pre
  have hown : s.vm.findClass RX2 = some m.cls := findClass_of_methodNamed B.named
  have hlocks := B.notSynchronized
  subst hsz
  have hD := hD0.self (sz := s.heap.size)
  generalize hAe : va_A [] s.heap.size = A at hD hZ ⊢
  have hA : ∀ q : Nat, s.heap.size ≤ q → A q := fun q h => by rw [← hAe]; exact Or.inr h
  have hS : va_S A s.heap s.heap [] := va_S.rf
  have hP : va_P (dC, dI) vwCl [] s.heap := hP
  have hl := lv_entry ([.long x0]) (n := 2) (Nat.le_of_ble_eq_true rfl)
  rw [lg_entry_eq]
  generalize (lg_sl ([.long x0]) ++ List.replicate (2 - (lg_sl ([.long x0])).length) Slot.unset).toArray = ls at hl ⊢
  have hl : lv_has ls 2 [(0, .long x0)] := hl
  refine wq hP hS (fun Q hQ H locs hP hS => ?_)
  have htw : ∀ w ∈ AW, w.before _ s = true := fun w h => hts w (List.mem_cons_of_mem _ h)
  rw [M_Packed_length] at hm
  refine lv_lload_n hx hb dX2_length_0 rfl (lv_at hl 0 rfl) ?_
  refine lv_bipush (v := 56) hx hb dX2_length_1 (by decide) ?_
  refine lv_lushr (v := (x0.toUInt64 >>> ((56 : Int32).toInt64.toUInt64 &&& Int64.toUInt64 63)).toInt64) hx hb dX2_length_3 rfl ?_
  refine lv_l2i (v := ((x0.toUInt64 >>> ((56 : Int32).toInt64.toUInt64 &&& Int64.toUInt64 63)).toInt64).toInt32) hx hb dX2_length_4 rfl ?_
  obtain rfl := Option.some.inj hm
  subst hQ
  exact W.iret hx hb hr (fun t ht hW => ⟨⟨_, (), rfl, rfl, by rw [ht]; exact hP, va_K.moved hW.alike hK, hD⟩, hS.F ht⟩) hS.2.2 dX2_length_5
def M_Packed_of (x0 : Int32) (x1 : Int64) : Option (Int64) :=
  some ((x0.toInt64 <<< ((56 : Int32).toInt64 &&& 63)) ||| x1)
set_option maxHeartbeats 4000000 in
set_option maxRecDepth 100000 in
theorem c_Packed_of (l : Launch) (dC : Nat → ClassId) (dI : Nat → Nat → Nat) (cI cL : ClassId) (sz : Nat) (x0 : Int32) (x1 r0 : Int64) (hm : M_Packed_of x0 x1 = some r0) : Met l yX2_of wsX2_of ({ frames := 0, cells := 0, slots := 0, locals := 0 }) (frPc (dC, dI) vwCl [(cI, .int), (cL, .long)] [] sz [.int x0, .long x1]) (va_Ql (fun (r : Int64) (_ : Unit) => r = r0) (frB (dC, dI) vwCl [(cI, .int), (cL, .long)] (va_A [] sz) []) (va_A [] sz)) 0 0 (va_A [] sz) := by
  refine Met.ofW (cc := cX2_of) (maxL := 3) (ret := (some .long)) (by decide) rfl ?_
  intro p e s m args below meth c s₁ B hml hv
  obtain ⟨rfl, hsz, hP, hK, hD0, hZ⟩ := hv
  have hx := B.exec
  have hb := B.bytes
  have hr := B.returns
  have hts := atoms_spec (ws := wsX2_of) B.pre
  have hown : s.vm.findClass RX2 = some m.cls := findClass_of_methodNamed B.named
  have hlocks := B.notSynchronized
  subst hsz
  have hD := hD0.self (sz := s.heap.size)
  generalize hAe : va_A [] s.heap.size = A at hD hZ ⊢
  have hA : ∀ q : Nat, s.heap.size ≤ q → A q := fun q h => by rw [← hAe]; exact Or.inr h
  have hS : va_S A s.heap s.heap [] := va_S.rf
  have hP : va_P (dC, dI) vwCl [] s.heap := hP
  have hl := lv_entry ([.int x0, .long x1]) (n := 3) (Nat.le_of_ble_eq_true rfl)
  rw [lg_entry_eq]
  generalize (lg_sl ([.int x0, .long x1]) ++ List.replicate (3 - (lg_sl ([.int x0, .long x1])).length) Slot.unset).toArray = ls at hl ⊢
  have hl : lv_has ls 3 [(0, .int x0), (1, .long x1)] := hl
  refine wq hP hS (fun Q hQ H locs hP hS => ?_)
  have htw : ∀ w ∈ AW, w.before _ s = true := fun w h => hts w (List.mem_cons_of_mem _ h)
  rw [M_Packed_of] at hm
  refine lv_iload_n hx hb dX2_of_0 rfl (lv_at hl 0 rfl) ?_
  refine lv_i2l (v := x0.toInt64) hx hb dX2_of_1 rfl ?_
  refine lv_bipush (v := 56) hx hb dX2_of_2 (by decide) ?_
  refine lv_lshl (v := x0.toInt64 <<< ((56 : Int32).toInt64 &&& 63)) hx hb dX2_of_4 rfl ?_
  refine lv_lload_n hx hb dX2_of_5 rfl (lv_at hl 1 rfl) ?_
  refine lv_lor hx hb dX2_of_6 ?_
  obtain rfl := Option.some.inj hm
  subst hQ
  exact W.lret hx hb hr (fun t ht hW => ⟨⟨_, (), rfl, rfl, by rw [ht]; exact hP, va_K.moved hW.alike hK, hD⟩, hS.F ht⟩) hS.2.2 dX2_of_7
def M_Packed_joined (x0 : Int64) (x2 : Int64) : Option (Int64) :=
  c1 (M_Packed_length x2) (fun r1 =>
    c1 (M_Packed_length x0) (fun r26 =>
      c1 (M_Packed_of (r26 + r1) (((x0 &&& 72057594037927935) <<< ((8 * r1).toInt64 &&& 63)) ||| (x2 &&& 72057594037927935))) (fun r34 =>
        some r34)))
set_option maxHeartbeats 4000000 in
set_option maxRecDepth 100000 in
theorem c_Packed_joined (l : Launch) (dC : Nat → ClassId) (dI : Nat → Nat → Nat) (cI cL : ClassId) (sz : Nat) (x0 x2 r0 : Int64) (hm : M_Packed_joined x0 x2 = some r0) : Met l yX2_joined wsX2_joined ({ frames := 1, cells := 0, slots := 0, locals := 22 }) (frPc (dC, dI) vwCl [(cI, .int), (cL, .long)] [] sz [.long x0, .long x2]) (va_Ql (fun (r : Int64) (_ : Unit) => r = r0) (frB (dC, dI) vwCl [(cI, .int), (cL, .long)] (va_A [] sz) []) (va_A [] sz)) 0 0 (va_A [] sz) := by
  refine Met.ofW (cc := cX2_joined) (maxL := 7) (ret := (some .long)) (by decide) rfl ?_
  intro p e s m args below meth c s₁ B hml hv
  obtain ⟨rfl, hsz, hP, hK, hD0, hZ⟩ := hv
  have hx := B.exec
  have hb := B.bytes
  have hr := B.returns
  have hts := atoms_spec (ws := wsX2_joined) B.pre
  have hown : s.vm.findClass RX2 = some m.cls := findClass_of_methodNamed B.named
  have hlocks := B.notSynchronized
  subst hsz
  have hD := hD0.self (sz := s.heap.size)
  generalize hAe : va_A [] s.heap.size = A at hD hZ ⊢
  have hA : ∀ q : Nat, s.heap.size ≤ q → A q := fun q h => by rw [← hAe]; exact Or.inr h
  have hS : va_S A s.heap s.heap [] := va_S.rf
  have hP : va_P (dC, dI) vwCl [] s.heap := hP
  have hl := lv_entry ([.long x0, .long x2]) (n := 7) (Nat.le_of_ble_eq_true rfl)
  rw [lg_entry_eq]
  generalize (lg_sl ([.long x0, .long x2]) ++ List.replicate (7 - (lg_sl ([.long x0, .long x2])).length) Slot.unset).toArray = ls at hl ⊢
  have hl : lv_has ls 7 [(0, .long x0), (2, .long x2)] := hl
  refine wq hP hS (fun Q hQ H locs hP hS => ?_)
  have htw : ∀ w ∈ AW, w.before _ s = true := fun w h => hts w (List.mem_cons_of_mem _ h)
  rw [M_Packed_joined] at hm
  refine lv_lload_n hx hb dX2_joined_0 rfl (lv_at hl 1 rfl) ?_
  obtain ⟨r1, e1, hm⟩ := c1_inv hm
  refine fr_i (wr := []) (w2 := []) (va_runS (As := [.long x2]) (rest := []) ⟨hx, hb, hml, hown, hts⟩ (c_Packed_length l dC dI cI cL H.size x2 r1 e1) (kS 1 hts aw_528 rfl rfl aw_15 aw_592 aw_527 (by decide +kernel) ⟨Nat.le_of_ble_eq_true rfl, Nat.le_of_ble_eq_true rfl⟩) (fr_preS hK hP hD hS hA hZ [] rfl rfl) rfl rfl hl.1 rfl (lv_room (Nat.le_of_ble_eq_true rfl)) dX2_joined_1 ⟨Nat.le_of_ble_eq_true rfl, Nat.le_of_ble_eq_true rfl⟩) hP hD hS hA [] [] [] rfl rfl rfl (by decide) rfl rfl (fun H locs hP hD hS => ?_)
  have hP : va_P (dC, dI) vwCl [] H := hP
  have hD : va_D A [] := hD
  refine lv_istore (lv' := [(4, .int r1), (0, .long x0), (2, .long x2)]) hx hb dX2_joined_4 hl (by decide) rfl (fun ls hl => ?_)
  refine lv_lload_n hx hb dX2_joined_6 rfl (lv_at hl 1 rfl) ?_
  refine lv_ldc2 (v := 72057594037927935) hx hb hown (htw _ aw_593) dX2_joined_7 ?_
  refine lv_land hx hb dX2_joined_10 ?_
  refine lv_bipush (v := 8) hx hb dX2_joined_11 (by decide) ?_
  refine lv_iload hx hb dX2_joined_13 (lv_at hl 0 rfl) ?_
  refine lv_imul hx hb dX2_joined_15 ?_
  refine lv_lshl (v := (x0 &&& 72057594037927935) <<< ((8 * r1).toInt64 &&& 63)) hx hb dX2_joined_16 rfl ?_
  refine lv_lload_n hx hb dX2_joined_17 rfl (lv_at hl 2 rfl) ?_
  refine lv_ldc2 (v := 72057594037927935) hx hb hown (htw _ aw_593) dX2_joined_18 ?_
  refine lv_land hx hb dX2_joined_21 ?_
  refine lv_lor hx hb dX2_joined_22 ?_
  refine lv_lstore (lv' := [(5, .long (((x0 &&& 72057594037927935) <<< ((8 * r1).toInt64 &&& 63)) ||| (x2 &&& 72057594037927935))), (4, .int r1), (0, .long x0), (2, .long x2)]) hx hb dX2_joined_23 hl (by decide) rfl (fun ls hl => ?_)
  refine lv_lload_n hx hb dX2_joined_25 rfl (lv_at hl 2 rfl) ?_
  obtain ⟨r26, e26, hm⟩ := c1_inv hm
  refine fr_i (wr := []) (w2 := []) (va_runS (As := [.long x0]) (rest := []) ⟨hx, hb, hml, hown, hts⟩ (c_Packed_length l dC dI cI cL H.size x0 r26 e26) (kS 1 hts aw_528 rfl rfl aw_15 aw_592 aw_527 (by decide +kernel) ⟨Nat.le_of_ble_eq_true rfl, Nat.le_of_ble_eq_true rfl⟩) (fr_preS hK hP hD hS hA hZ [] rfl rfl) rfl rfl hl.1 rfl (lv_room (Nat.le_of_ble_eq_true rfl)) dX2_joined_26 ⟨Nat.le_of_ble_eq_true rfl, Nat.le_of_ble_eq_true rfl⟩) hP hD hS hA [] [] [] rfl rfl rfl (by decide) rfl rfl (fun H locs hP hD hS => ?_)
  have hP : va_P (dC, dI) vwCl [] H := hP
  have hD : va_D A [] := hD
  refine lv_iload hx hb dX2_joined_29 (lv_at hl 1 rfl) ?_
  refine lv_iadd hx hb dX2_joined_31 ?_
  refine lv_lload hx hb dX2_joined_32 (lv_at hl 0 rfl) ?_
  obtain ⟨r34, e34, hm⟩ := c1_inv hm
  refine fr_l (wr := []) (w2 := []) (va_runS (As := [.int (r26 + r1), .long (((x0 &&& 72057594037927935) <<< ((8 * r1).toInt64 &&& 63)) ||| (x2 &&& 72057594037927935))]) (rest := []) ⟨hx, hb, hml, hown, hts⟩ (c_Packed_of l dC dI cI cL H.size (r26 + r1) (((x0 &&& 72057594037927935) <<< ((8 * r1).toInt64 &&& 63)) ||| (x2 &&& 72057594037927935)) r34 e34) (kS 2 hts aw_324 rfl rfl aw_15 aw_594 aw_323 (by decide +kernel) ⟨Nat.le_of_ble_eq_true rfl, Nat.le_of_ble_eq_true rfl⟩) (fr_preS hK hP hD hS hA hZ [] rfl rfl) rfl rfl hl.1 rfl (lv_room (Nat.le_of_ble_eq_true rfl)) dX2_joined_34 ⟨Nat.le_of_ble_eq_true rfl, Nat.le_of_ble_eq_true rfl⟩) hP hD hS hA [] [] [] rfl rfl rfl (by decide) rfl rfl (fun H locs hP hD hS => ?_)
  have hP : va_P (dC, dI) vwCl [] H := hP
  have hD : va_D A [] := hD
  obtain rfl := Option.some.inj hm
  subst hQ
  exact W.lret hx hb hr (fun t ht hW => ⟨⟨_, (), rfl, rfl, by rw [ht]; exact hP, va_K.moved hW.alike hK, hD⟩, hS.F ht⟩) hS.2.2 dX2_joined_37
