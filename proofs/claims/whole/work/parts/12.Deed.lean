set_option maxHeartbeats 4000000 in
set_option maxRecDepth 100000 in
theorem c_Deed_init (l : Launch) (dC : Nat → ClassId) (dI : Nat → Nat → Nat) (cI cL : ClassId) (sz q_t : Nat) : Met l yX0_init wsX0_init ({ frames := 1, cells := 1, slots := 3, locals := 12 }) (frPc (dC, dI) vwCl [(cI, .int), (cL, .long)] [(q_t, .inr (0, [.null, .int 0, .int 0, .int 0, .int 0, .int 0, .long 0]))] sz [.ref q_t]) (va_Qv (fun (_ : Nat) => True) (frBn (S := Nat) (dC, dI) vwCl [(cI, .int), (cL, .long)] (va_A [(q_t, .inr (0, [.null, .int 0, .int 0, .int 0, .int 0, .int 0, .long 0]))] sz) (fun u => [(q_t, .inr (0, [.ref u, .int 0, .int 0, .int 0, .int (-1), .int 2, .long 0])), (u, .inl (cI, 3, .inl (fun _ => 0)))])) (va_A [(q_t, .inr (0, [.null, .int 0, .int 0, .int 0, .int 0, .int 0, .long 0]))] sz)) 1 3 (va_A [(q_t, .inr (0, [.null, .int 0, .int 0, .int 0, .int 0, .int 0, .long 0]))] sz) := by
  refine Met.ofW (cc := cX0_init) (maxL := 1) (ret := none) (by decide) rfl ?_
  intro p e s m args below meth c s₁ B hml hv
  obtain ⟨rfl, hsz, hP, hK, hD0, hZ⟩ := hv
  have hx := B.exec
  have hb := B.bytes
  have hr := B.returns
  have hts := atoms_spec (ws := wsX0_init) B.pre
  have hown : s.vm.findClass RX0 = some m.cls := findClass_of_methodNamed B.named
  have hlocks := B.notSynchronized
  have hin : meth.name = "<init>" := (name_of_methodNamed B.named B.method).1
  subst hsz
  have hD := hD0.self (sz := s.heap.size)
  generalize hAe : va_A [(q_t, .inr (0, [.null, .int 0, .int 0, .int 0, .int 0, .int 0, .long 0]))] s.heap.size = A at hD hZ ⊢
  have hA : ∀ q : Nat, s.heap.size ≤ q → A q := fun q h => by rw [← hAe]; exact Or.inr h
  have hS : va_S A s.heap s.heap [] := va_S.rf
  have hP : va_P (dC, dI) vwCl [(q_t, .inr (0, [.null, .int 0, .int 0, .int 0, .int 0, .int 0, .long 0]))] s.heap := hP
  have hl := lv_entry ([.ref q_t]) (n := 1) (Nat.le_of_ble_eq_true rfl)
  rw [lg_entry_eq]
  generalize (lg_sl ([.ref q_t]) ++ List.replicate (1 - (lg_sl ([.ref q_t])).length) Slot.unset).toArray = ls at hl ⊢
  have hl : lv_has ls 1 [(0, .ref q_t)] := hl
  refine wq hP hS (fun Q hQ H locs hP hS => ?_)
  have htw : ∀ w ∈ AW, w.before _ s = true := fun w h => hts w (List.mem_cons_of_mem _ h)
  have hn0 : ∀ w ∈ wsX00, w ∈ wsX0_init := fun w h => List.mem_cons_of_mem _ (inX0 w h)
  refine lv_aload_n hx hb dX0_init_0 rfl (lv_at hl 0 rfl) ?_
  refine W.objInit hx hb hown (htw _ aw_120) (htw _ aw_23) (htw _ aw_24) rfl (by rw [hml]; exact hl.1) rfl dX0_init_1 (Nat.le_of_ble_eq_true rfl) (Nat.le_of_ble_eq_true rfl) ?_
  refine W.eq (g2 := F0 m 4 ls []) rfl ?_
  refine lv_aload_n hx hb dX0_init_4 rfl (lv_at hl 0 rfl) ?_
  refine lv_iconst (v := 3) hx hb dX0_init_5 (by decide) ?_
  refine fr_newi (n := 3) (N' := 3) hx hb (htw _ aw_47) hK (t0 := 0) rfl hP hD hS hA (by decide) (by decide) (by decide) (Nat.le_of_ble_eq_true rfl) (Nat.le_of_ble_eq_true rfl) dX0_init_6 (fun q6 H hP hD hS => ?_)
  refine W.widen (k := 1) (n := 3) (by omega) (by omega) ?_
  have hP : va_P (dC, dI) vwCl [(q_t, .inr (0, [.null, .int 0, .int 0, .int 0, .int 0, .int 0, .long 0])), (q6, .inl (cI, 3, .inl (fun _ => 0)))] H := hP
  have hD : va_D A [(q_t, .inr (0, [.null, .int 0, .int 0, .int 0, .int 0, .int 0, .long 0])), (q6, .inl (cI, 3, .inl (fun _ => 0)))] := hD
  refine va_putF (D := (dC, dI)) (ci := 0) (v := .ref q6) (ty := (.array .int)) (C := RX0) (T := TX0) (N := 7) hx hb hts hn0 tyX0 tyX0_ok nmX0 hown hK hP hD hS 0 rfl rfl 0 (by decide) (htw _ aw_121) (fun _ h9 => h9) rfl hin rfl (by decide +kernel) rfl rfl (Nat.le_of_ble_eq_true rfl) dX0_init_8 (fun H locs hP hD hS => ?_)
  have hP : va_P (dC, dI) vwCl [(q_t, .inr (0, [.ref q6, .int 0, .int 0, .int 0, .int 0, .int 0, .long 0])), (q6, .inl (cI, 3, .inl (fun _ => 0)))] H := hP
  have hD : va_D A [(q_t, .inr (0, [.ref q6, .int 0, .int 0, .int 0, .int 0, .int 0, .long 0])), (q6, .inl (cI, 3, .inl (fun _ => 0)))] := hD
  refine lv_aload_n hx hb dX0_init_11 rfl (lv_at hl 0 rfl) ?_
  refine lv_iconst (v := 0) hx hb dX0_init_12 (by decide) ?_
  refine va_put (D := (dC, dI)) (ci := 0) (v := .int 0) (ty := .int) (C := RX0) (T := TX0) (N := 7) hx hb hts hn0 tyX0 tyX0_ok nmX0 hown hK hP hD hS 0 rfl rfl 1 (by decide) (htw _ aw_122) (fun _ h9 => h9) rfl (by decide +kernel) rfl rfl (Nat.le_of_ble_eq_true rfl) dX0_init_13 (fun H locs hP hD hS => ?_)
  have hP : va_P (dC, dI) vwCl [(q_t, .inr (0, [.ref q6, .int 0, .int 0, .int 0, .int 0, .int 0, .long 0])), (q6, .inl (cI, 3, .inl (fun _ => 0)))] H := hP
  have hD : va_D A [(q_t, .inr (0, [.ref q6, .int 0, .int 0, .int 0, .int 0, .int 0, .long 0])), (q6, .inl (cI, 3, .inl (fun _ => 0)))] := hD
  refine lv_aload_n hx hb dX0_init_16 rfl (lv_at hl 0 rfl) ?_
  refine lv_iconst (v := 0) hx hb dX0_init_17 (by decide) ?_
  refine va_put (D := (dC, dI)) (ci := 0) (v := .int 0) (ty := .int) (C := RX0) (T := TX0) (N := 7) hx hb hts hn0 tyX0 tyX0_ok nmX0 hown hK hP hD hS 0 rfl rfl 2 (by decide) (htw _ aw_123) (fun _ h9 => h9) rfl (by decide +kernel) rfl rfl (Nat.le_of_ble_eq_true rfl) dX0_init_18 (fun H locs hP hD hS => ?_)
  have hP : va_P (dC, dI) vwCl [(q_t, .inr (0, [.ref q6, .int 0, .int 0, .int 0, .int 0, .int 0, .long 0])), (q6, .inl (cI, 3, .inl (fun _ => 0)))] H := hP
  have hD : va_D A [(q_t, .inr (0, [.ref q6, .int 0, .int 0, .int 0, .int 0, .int 0, .long 0])), (q6, .inl (cI, 3, .inl (fun _ => 0)))] := hD
  refine lv_aload_n hx hb dX0_init_21 rfl (lv_at hl 0 rfl) ?_
  refine lv_iconst (v := 0) hx hb dX0_init_22 (by decide) ?_
  refine va_put (D := (dC, dI)) (ci := 0) (v := .int 0) (ty := .boolean) (C := RX0) (T := TX0) (N := 7) hx hb hts hn0 tyX0 tyX0_ok nmX0 hown hK hP hD hS 0 rfl rfl 3 (by decide) (htw _ aw_124) (fun _ h9 => h9) rfl (by decide +kernel) rfl rfl (Nat.le_of_ble_eq_true rfl) dX0_init_23 (fun H locs hP hD hS => ?_)
  have hP : va_P (dC, dI) vwCl [(q_t, .inr (0, [.ref q6, .int 0, .int 0, .int 0, .int 0, .int 0, .long 0])), (q6, .inl (cI, 3, .inl (fun _ => 0)))] H := hP
  have hD : va_D A [(q_t, .inr (0, [.ref q6, .int 0, .int 0, .int 0, .int 0, .int 0, .long 0])), (q6, .inl (cI, 3, .inl (fun _ => 0)))] := hD
  refine lv_aload_n hx hb dX0_init_26 rfl (lv_at hl 0 rfl) ?_
  refine lv_iconst (v := (-1)) hx hb dX0_init_27 (by decide) ?_
  refine va_put (D := (dC, dI)) (ci := 0) (v := .int (-1)) (ty := .int) (C := RX0) (T := TX0) (N := 7) hx hb hts hn0 tyX0 tyX0_ok nmX0 hown hK hP hD hS 0 rfl rfl 4 (by decide) (htw _ aw_126) (fun _ h9 => h9) rfl (by decide +kernel) rfl rfl (Nat.le_of_ble_eq_true rfl) dX0_init_28 (fun H locs hP hD hS => ?_)
  have hP : va_P (dC, dI) vwCl [(q_t, .inr (0, [.ref q6, .int 0, .int 0, .int 0, .int (-1), .int 0, .long 0])), (q6, .inl (cI, 3, .inl (fun _ => 0)))] H := hP
  have hD : va_D A [(q_t, .inr (0, [.ref q6, .int 0, .int 0, .int 0, .int (-1), .int 0, .long 0])), (q6, .inl (cI, 3, .inl (fun _ => 0)))] := hD
  refine lv_aload_n hx hb dX0_init_31 rfl (lv_at hl 0 rfl) ?_
  refine lv_iconst (v := 2) hx hb dX0_init_32 (by decide) ?_
  refine va_put (D := (dC, dI)) (ci := 0) (v := .int 2) (ty := .int) (C := RX0) (T := TX0) (N := 7) hx hb hts hn0 tyX0 tyX0_ok nmX0 hown hK hP hD hS 0 rfl rfl 5 (by decide) (htw _ aw_128) (fun _ h9 => h9) rfl (by decide +kernel) rfl rfl (Nat.le_of_ble_eq_true rfl) dX0_init_33 (fun H locs hP hD hS => ?_)
  have hP : va_P (dC, dI) vwCl [(q_t, .inr (0, [.ref q6, .int 0, .int 0, .int 0, .int (-1), .int 2, .long 0])), (q6, .inl (cI, 3, .inl (fun _ => 0)))] H := hP
  have hD : va_D A [(q_t, .inr (0, [.ref q6, .int 0, .int 0, .int 0, .int (-1), .int 2, .long 0])), (q6, .inl (cI, 3, .inl (fun _ => 0)))] := hD
  refine lv_aload_n hx hb dX0_init_36 rfl (lv_at hl 0 rfl) ?_
  refine lv_lconst (v := 0) hx hb dX0_init_37 (by decide) ?_
  refine va_put (D := (dC, dI)) (ci := 0) (v := .long 0) (ty := .long) (C := RX0) (T := TX0) (N := 7) hx hb hts hn0 tyX0 tyX0_ok nmX0 hown hK hP hD hS 0 rfl rfl 6 (by decide) (htw _ aw_130) (fun _ h9 => h9) rfl (by decide +kernel) rfl rfl (Nat.le_of_ble_eq_true rfl) dX0_init_38 (fun H locs hP hD hS => ?_)
  have hP : va_P (dC, dI) vwCl [(q_t, .inr (0, [.ref q6, .int 0, .int 0, .int 0, .int (-1), .int 2, .long 0])), (q6, .inl (cI, 3, .inl (fun _ => 0)))] H := hP
  have hD : va_D A [(q_t, .inr (0, [.ref q6, .int 0, .int 0, .int 0, .int (-1), .int 2, .long 0])), (q6, .inl (cI, 3, .inl (fun _ => 0)))] := hD
  subst hQ
  exact W.vret hx hb hr (fun t ht hW => ⟨⟨q6, rfl, trivial, by rw [ht]; exact hP, va_K.moved hW.alike hK, hD⟩, hS.F ht⟩) hS.2.2 dX0_init_41
def M_Deed_cost_31 (t_operation : Int32) (t_many : Int32) (t_arguments : Nat → Int32) (a1_kind : Nat → Int32) (a1_content : Nat → Int64) : Nat → Int32 → Int32 → Option (Int32)
  | 0, _, _ => none
  | f + 1, v2, v3 =>
    (if t_many ≤ v3 then
      some v2
    else
      (if (at_ 600 a1_kind (at_ 3 t_arguments v3)) = 3 then
        c1 (M_Packed_length (atL 600 a1_content (at_ 3 t_arguments v3))) (fun r72 =>
          M_Deed_cost_31 t_operation t_many t_arguments a1_kind a1_content f (v2 + r72) (v3 + 1))
      else
        M_Deed_cost_31 t_operation t_many t_arguments a1_kind a1_content f v2 (v3 + 1)))
def M_Deed_cost (t_operation : Int32) (t_many : Int32) (t_arguments : Nat → Int32) (a1_kind : Nat → Int32) (a1_content : Nat → Int64) : Option (Int32) :=
  (if t_operation = 7 then
    M_Deed_cost_31 t_operation t_many t_arguments a1_kind a1_content 1000 (at_ 12 tb_COSTS t_operation) 0
  else
    (if t_operation = 9 then
      M_Deed_cost_31 t_operation t_many t_arguments a1_kind a1_content 1000 (at_ 12 tb_COSTS t_operation) 0
    else
      some (at_ 12 tb_COSTS t_operation)))
set_option maxHeartbeats 4000000 in
set_option maxRecDepth 100000 in
theorem c_Deed_cost (l : Launch) (dC : Nat → ClassId) (dI : Nat → Nat → Nat) (cI cL : ClassId) (sz : Nat) (q_t q_a1 q_t_arguments q_a1_kind q_a1_content q_a1_left q_a1_right q_a1_given : Nat) (t_operation t_many t_failed t_chosen t_kind : Int32) (t_content : Int64) (t_arguments : Nat → Int32) (a1_count : Int32) (a1_kind : Nat → Int32) (a1_content : Nat → Int64) (r0 : Int32) (hm : M_Deed_cost t_operation t_many t_arguments a1_kind a1_content = some r0) : Met l yX0_cost wsX0_cost ({ frames := 1, cells := 0, slots := 0, locals := 21 }) (frPc (dC, dI) vwCl [(cI, .int), (cL, .long)] [(q_t, .inr (0, [.ref q_t_arguments, .int t_operation, .int t_many, .int t_failed, .int t_chosen, .int t_kind, .long t_content])), (q_t_arguments, .inl (cI, 3, .inl t_arguments)), (q_a1, .inr (3, [.ref q_a1_kind, .ref q_a1_content, .ref q_a1_left, .ref q_a1_right, .ref q_a1_given, .int a1_count])), (q_a1_kind, .inl (cI, 600, .inl a1_kind)), (q_a1_content, .inl (cL, 600, .inr (.inl a1_content)))] sz [.ref q_t, .ref q_a1]) (va_Qi (fun (r : Int32) (_ : Unit) => r = r0) (frB (dC, dI) vwCl [(cI, .int), (cL, .long)] (va_A [(q_t, .inr (0, [.ref q_t_arguments, .int t_operation, .int t_many, .int t_failed, .int t_chosen, .int t_kind, .long t_content])), (q_t_arguments, .inl (cI, 3, .inl t_arguments)), (q_a1, .inr (3, [.ref q_a1_kind, .ref q_a1_content, .ref q_a1_left, .ref q_a1_right, .ref q_a1_given, .int a1_count])), (q_a1_kind, .inl (cI, 600, .inl a1_kind)), (q_a1_content, .inl (cL, 600, .inr (.inl a1_content)))] sz) [(q_t, .inr (0, [.ref q_t_arguments, .int t_operation, .int t_many, .int t_failed, .int t_chosen, .int t_kind, .long t_content])), (q_t_arguments, .inl (cI, 3, .inl t_arguments)), (q_a1, .inr (3, [.ref q_a1_kind, .ref q_a1_content, .ref q_a1_left, .ref q_a1_right, .ref q_a1_given, .int a1_count])), (q_a1_kind, .inl (cI, 600, .inl a1_kind)), (q_a1_content, .inl (cL, 600, .inr (.inl a1_content)))]) (va_A [(q_t, .inr (0, [.ref q_t_arguments, .int t_operation, .int t_many, .int t_failed, .int t_chosen, .int t_kind, .long t_content])), (q_t_arguments, .inl (cI, 3, .inl t_arguments)), (q_a1, .inr (3, [.ref q_a1_kind, .ref q_a1_content, .ref q_a1_left, .ref q_a1_right, .ref q_a1_given, .int a1_count])), (q_a1_kind, .inl (cI, 600, .inl a1_kind)), (q_a1_content, .inl (cL, 600, .inr (.inl a1_content)))] sz)) 0 0 (va_A [(q_t, .inr (0, [.ref q_t_arguments, .int t_operation, .int t_many, .int t_failed, .int t_chosen, .int t_kind, .long t_content])), (q_t_arguments, .inl (cI, 3, .inl t_arguments)), (q_a1, .inr (3, [.ref q_a1_kind, .ref q_a1_content, .ref q_a1_left, .ref q_a1_right, .ref q_a1_given, .int a1_count])), (q_a1_kind, .inl (cI, 600, .inl a1_kind)), (q_a1_content, .inl (cL, 600, .inr (.inl a1_content)))] sz) := by
  refine Met.ofW (cc := cX0_cost) (maxL := 5) (ret := (some .int)) (by decide) rfl ?_
  intro p e s m args below meth c s₁ B hml hv
  obtain ⟨rfl, hsz, hP, hK, hD0, hZ⟩ := hv
  have hx := B.exec
  have hb := B.bytes
  have hr := B.returns
  have hts := atoms_spec (ws := wsX0_cost) B.pre
  have hown : s.vm.findClass RX0 = some m.cls := findClass_of_methodNamed B.named
  have hlocks := B.notSynchronized
  subst hsz
  have hD := hD0.self (sz := s.heap.size)
  generalize hAe : va_A [(q_t, .inr (0, [.ref q_t_arguments, .int t_operation, .int t_many, .int t_failed, .int t_chosen, .int t_kind, .long t_content])), (q_t_arguments, .inl (cI, 3, .inl t_arguments)), (q_a1, .inr (3, [.ref q_a1_kind, .ref q_a1_content, .ref q_a1_left, .ref q_a1_right, .ref q_a1_given, .int a1_count])), (q_a1_kind, .inl (cI, 600, .inl a1_kind)), (q_a1_content, .inl (cL, 600, .inr (.inl a1_content)))] s.heap.size = A at hD hZ ⊢
  have hA : ∀ q : Nat, s.heap.size ≤ q → A q := fun q h => by rw [← hAe]; exact Or.inr h
  have hS : va_S A s.heap s.heap [] := va_S.rf
  have hP : va_P (dC, dI) vwCl [(q_t, .inr (0, [.ref q_t_arguments, .int t_operation, .int t_many, .int t_failed, .int t_chosen, .int t_kind, .long t_content])), (q_t_arguments, .inl (cI, 3, .inl t_arguments)), (q_a1, .inr (3, [.ref q_a1_kind, .ref q_a1_content, .ref q_a1_left, .ref q_a1_right, .ref q_a1_given, .int a1_count])), (q_a1_kind, .inl (cI, 600, .inl a1_kind)), (q_a1_content, .inl (cL, 600, .inr (.inl a1_content)))] s.heap := hP
  have hl := lv_entry ([.ref q_t, .ref q_a1]) (n := 5) (Nat.le_of_ble_eq_true rfl)
  rw [lg_entry_eq]
  generalize (lg_sl ([.ref q_t, .ref q_a1]) ++ List.replicate (5 - (lg_sl ([.ref q_t, .ref q_a1])).length) Slot.unset).toArray = ls at hl ⊢
  have hl : lv_has ls 5 [(0, .ref q_t), (1, .ref q_a1)] := hl
  refine wq hP hS (fun Q hQ H locs hP hS => ?_)
  have htw : ∀ w ∈ AW, w.before _ s = true := fun w h => hts w (List.mem_cons_of_mem _ h)
  have hn0 : ∀ w ∈ wsX00, w ∈ wsX0_cost := fun w h => List.mem_cons_of_mem _ (inX0 w h)
  have hn1 : ∀ w ∈ wsX40, w ∈ wsX0_cost := fun w h => List.mem_cons_of_mem _ (inX4 w h)
  obtain ⟨q_COSTS, hz_q_COSTS, ht_q_COSTS⟩ := hZ.2.2.2.1
  have L31 : ∀ (f : Nat) (v2 v3 : Int32) (ls : Array Slot) (H : Heap) (locs : List Loc), M_Deed_cost_31 t_operation t_many t_arguments a1_kind a1_content f v2 v3 = some r0 → lv_has ls 5 [(0, .ref q_t), (1, .ref q_a1), (2, .int v2), (3, .int v3)] → va_P (dC, dI) vwCl [(q_t, .inr (0, [.ref q_t_arguments, .int t_operation, .int t_many, .int t_failed, .int t_chosen, .int t_kind, .long t_content])), (q_t_arguments, .inl (cI, 3, .inl t_arguments)), (q_a1, .inr (3, [.ref q_a1_kind, .ref q_a1_content, .ref q_a1_left, .ref q_a1_right, .ref q_a1_given, .int a1_count])), (q_a1_kind, .inl (cI, 600, .inl a1_kind)), (q_a1_content, .inl (cL, 600, .inr (.inl a1_content)))] H → va_D A [(q_t, .inr (0, [.ref q_t_arguments, .int t_operation, .int t_many, .int t_failed, .int t_chosen, .int t_kind, .long t_content])), (q_t_arguments, .inl (cI, 3, .inl t_arguments)), (q_a1, .inr (3, [.ref q_a1_kind, .ref q_a1_content, .ref q_a1_left, .ref q_a1_right, .ref q_a1_given, .int a1_count])), (q_a1_kind, .inl (cI, 600, .inl a1_kind)), (q_a1_content, .inl (cL, 600, .inr (.inl a1_content)))] → va_S A s.heap H locs → W p l e ({ frames := 1, cells := 0, slots := 0, locals := 21 }) s m [.ref q_t, .ref q_a1].toArray below meth c H locs 0 0 Q (F0 m 31 ls []) := by
    intro f
    induction f with
    | zero => intro v2 v3 ls H locs hm; rw [M_Deed_cost_31] at hm; cases hm
    | succ f ih31 =>
      intro v2 v3 ls H locs hm hl hP hD hS
      rw [M_Deed_cost_31] at hm
      refine lv_iload_n hx hb dX0_cost_31 rfl (lv_at hl 3 rfl) ?_
      refine lv_aload_n hx hb dX0_cost_32 rfl (lv_at hl 0 rfl) ?_
      refine va_get (D := (dC, dI)) (ci := 0) (v := .int t_many) (C := RX0) (T := TX0) (N := 7) hx hb hts hn0 hown hK hP 0 rfl rfl 2 (by decide) (htw _ aw_123) (fun _ h9 => h9) rfl dX0_cost_33 ?_
      refine lv_icmp_ge hx hb dX0_cost_36 rfl (fun h36 => ?_) (fun h36 => ?_)
      · rw [if_pos h36] at hm
        refine lv_iload_n hx hb dX0_cost_83 rfl (lv_at hl 2 rfl) ?_
        obtain rfl := Option.some.inj hm
        subst hQ
        exact W.iret hx hb hr (fun t ht hW => ⟨⟨_, (), rfl, rfl, by rw [ht]; exact hP, va_K.moved hW.alike hK, hD⟩, hS.F ht⟩) hS.2.2 dX0_cost_84
      · rw [if_neg h36] at hm
        refine lv_aload_n hx hb dX0_cost_39 rfl (lv_at hl 0 rfl) ?_
        refine va_get (D := (dC, dI)) (ci := 0) (v := .ref q_t_arguments) (C := RX0) (T := TX0) (N := 7) hx hb hts hn0 hown hK hP 0 rfl rfl 0 (by decide) (htw _ aw_121) (fun _ h9 => h9) rfl dX0_cost_40 ?_
        refine lv_iload_n hx hb dX0_cost_43 rfl (lv_at hl 3 rfl) ?_
        refine fr_i (wr := [(q_t, .inr (0, [.ref q_t_arguments, .int t_operation, .int t_many, .int t_failed, .int t_chosen, .int t_kind, .long t_content])), (q_a1, .inr (3, [.ref q_a1_kind, .ref q_a1_content, .ref q_a1_left, .ref q_a1_right, .ref q_a1_given, .int a1_count])), (q_a1_kind, .inl (cI, 600, .inl a1_kind)), (q_a1_content, .inl (cL, 600, .inr (.inl a1_content)))]) (w2 := [(q_t, .inr (0, [.ref q_t_arguments, .int t_operation, .int t_many, .int t_failed, .int t_chosen, .int t_kind, .long t_content])), (q_t_arguments, .inl (cI, 3, .inl t_arguments)), (q_a1, .inr (3, [.ref q_a1_kind, .ref q_a1_content, .ref q_a1_left, .ref q_a1_right, .ref q_a1_given, .int a1_count])), (q_a1_kind, .inl (cI, 600, .inl a1_kind)), (q_a1_content, .inl (cL, 600, .inr (.inl a1_content)))]) (va_runSN (As := [.ref q_t_arguments, .int v3]) (rest := []) ⟨hx, hb, hml, hown, hts⟩ (c_TM_at l dC dI cI cL H.size q_t_arguments 3 t_arguments v3 (by decide)) (kSN 2 hts aw_346 rfl rfl aw_1 (nx_63 hZ.1) aw_345 (by decide +kernel) ⟨Nat.le_of_ble_eq_true rfl, Nat.le_of_ble_eq_true rfl⟩) (fr_preS hK hP hD hS hA hZ [1] rfl rfl) rfl rfl hl.1 rfl (lv_room (Nat.le_of_ble_eq_true rfl)) dX0_cost_44 ⟨Nat.le_of_ble_eq_true rfl, Nat.le_of_ble_eq_true rfl⟩) hP hD hS hA [1] [0, 2, 3, 4] [0, 4, 1, 2, 3] rfl rfl rfl (by decide) rfl rfl (fun H locs hP hD hS => ?_)
        have hP : va_P (dC, dI) vwCl [(q_t, .inr (0, [.ref q_t_arguments, .int t_operation, .int t_many, .int t_failed, .int t_chosen, .int t_kind, .long t_content])), (q_t_arguments, .inl (cI, 3, .inl t_arguments)), (q_a1, .inr (3, [.ref q_a1_kind, .ref q_a1_content, .ref q_a1_left, .ref q_a1_right, .ref q_a1_given, .int a1_count])), (q_a1_kind, .inl (cI, 600, .inl a1_kind)), (q_a1_content, .inl (cL, 600, .inr (.inl a1_content)))] H := hP
        have hD : va_D A [(q_t, .inr (0, [.ref q_t_arguments, .int t_operation, .int t_many, .int t_failed, .int t_chosen, .int t_kind, .long t_content])), (q_t_arguments, .inl (cI, 3, .inl t_arguments)), (q_a1, .inr (3, [.ref q_a1_kind, .ref q_a1_content, .ref q_a1_left, .ref q_a1_right, .ref q_a1_given, .int a1_count])), (q_a1_kind, .inl (cI, 600, .inl a1_kind)), (q_a1_content, .inl (cL, 600, .inr (.inl a1_content)))] := hD
        refine lv_istore (lv' := [(4, .int (at_ 3 t_arguments v3)), (0, .ref q_t), (1, .ref q_a1), (2, .int v2), (3, .int v3)]) hx hb dX0_cost_47 hl (by decide) rfl (fun ls hl => ?_)
        refine lv_aload_n hx hb dX0_cost_49 rfl (lv_at hl 2 rfl) ?_
        refine va_getN (D := (dC, dI)) (ci := 3) (v := .ref q_a1_kind) (C := RX4) (T := TX4) (N := 6) hx hb hts hn1 hown hK hP 2 rfl rfl 0 (by decide) (va_Nw.use rfl (nx_6 hZ.1)) (fun _ h9 => h9) rfl dX0_cost_50 ?_
        refine lv_iload hx hb dX0_cost_53 (lv_at hl 0 rfl) ?_
        refine fr_i (wr := [(q_t, .inr (0, [.ref q_t_arguments, .int t_operation, .int t_many, .int t_failed, .int t_chosen, .int t_kind, .long t_content])), (q_t_arguments, .inl (cI, 3, .inl t_arguments)), (q_a1, .inr (3, [.ref q_a1_kind, .ref q_a1_content, .ref q_a1_left, .ref q_a1_right, .ref q_a1_given, .int a1_count])), (q_a1_content, .inl (cL, 600, .inr (.inl a1_content)))]) (w2 := [(q_t, .inr (0, [.ref q_t_arguments, .int t_operation, .int t_many, .int t_failed, .int t_chosen, .int t_kind, .long t_content])), (q_t_arguments, .inl (cI, 3, .inl t_arguments)), (q_a1, .inr (3, [.ref q_a1_kind, .ref q_a1_content, .ref q_a1_left, .ref q_a1_right, .ref q_a1_given, .int a1_count])), (q_a1_kind, .inl (cI, 600, .inl a1_kind)), (q_a1_content, .inl (cL, 600, .inr (.inl a1_content)))]) (va_runSN (As := [.ref q_a1_kind, .int (at_ 3 t_arguments v3)]) (rest := []) ⟨hx, hb, hml, hown, hts⟩ (c_TM_at l dC dI cI cL H.size q_a1_kind 600 a1_kind (at_ 3 t_arguments v3) (by decide)) (kSN 2 hts aw_346 rfl rfl aw_1 (nx_63 hZ.1) aw_345 (by decide +kernel) ⟨Nat.le_of_ble_eq_true rfl, Nat.le_of_ble_eq_true rfl⟩) (fr_preS hK hP hD hS hA hZ [3] rfl rfl) rfl rfl hl.1 rfl (lv_room (Nat.le_of_ble_eq_true rfl)) dX0_cost_55 ⟨Nat.le_of_ble_eq_true rfl, Nat.le_of_ble_eq_true rfl⟩) hP hD hS hA [3] [0, 1, 2, 4] [0, 1, 2, 4, 3] rfl rfl rfl (by decide) rfl rfl (fun H locs hP hD hS => ?_)
        have hP : va_P (dC, dI) vwCl [(q_t, .inr (0, [.ref q_t_arguments, .int t_operation, .int t_many, .int t_failed, .int t_chosen, .int t_kind, .long t_content])), (q_t_arguments, .inl (cI, 3, .inl t_arguments)), (q_a1, .inr (3, [.ref q_a1_kind, .ref q_a1_content, .ref q_a1_left, .ref q_a1_right, .ref q_a1_given, .int a1_count])), (q_a1_kind, .inl (cI, 600, .inl a1_kind)), (q_a1_content, .inl (cL, 600, .inr (.inl a1_content)))] H := hP
        have hD : va_D A [(q_t, .inr (0, [.ref q_t_arguments, .int t_operation, .int t_many, .int t_failed, .int t_chosen, .int t_kind, .long t_content])), (q_t_arguments, .inl (cI, 3, .inl t_arguments)), (q_a1, .inr (3, [.ref q_a1_kind, .ref q_a1_content, .ref q_a1_left, .ref q_a1_right, .ref q_a1_given, .int a1_count])), (q_a1_kind, .inl (cI, 600, .inl a1_kind)), (q_a1_content, .inl (cL, 600, .inr (.inl a1_content)))] := hD
        refine lv_iconst (v := 3) hx hb dX0_cost_58 (by decide) ?_
        refine lv_icmp_ne hx hb dX0_cost_59 rfl (fun h59 => ?_) (fun h59 => ?_)
        · rw [if_neg h59] at hm
          refine lv_iinc (k := 4) (v := v3 + 1) (lv' := [(3, .int (v3 + 1)), (4, .int (at_ 3 t_arguments v3)), (0, .ref q_t), (1, .ref q_a1), (2, .int v2)]) hx hb dX0_cost_77 hl rfl rfl (by decide) rfl (fun ls hl => ?_)
          refine lv_goto hx hb dX0_cost_80 rfl ?_
          exact ih31 _ _ _ _ _ hm (lv_sub hl [2, 3, 4, 0] rfl) hP hD hS
        · rw [if_pos h59] at hm
          refine lv_iload_n hx hb dX0_cost_62 rfl (lv_at hl 3 rfl) ?_
          refine lv_aload_n hx hb dX0_cost_63 rfl (lv_at hl 2 rfl) ?_
          refine va_getN (D := (dC, dI)) (ci := 3) (v := .ref q_a1_content) (C := RX4) (T := TX4) (N := 6) hx hb hts hn1 hown hK hP 2 rfl rfl 1 (by decide) (va_Nw.use rfl (nx_9 hZ.1)) (fun _ h9 => h9) rfl dX0_cost_64 ?_
          refine lv_iload hx hb dX0_cost_67 (lv_at hl 0 rfl) ?_
          refine fr_l (wr := [(q_t, .inr (0, [.ref q_t_arguments, .int t_operation, .int t_many, .int t_failed, .int t_chosen, .int t_kind, .long t_content])), (q_t_arguments, .inl (cI, 3, .inl t_arguments)), (q_a1, .inr (3, [.ref q_a1_kind, .ref q_a1_content, .ref q_a1_left, .ref q_a1_right, .ref q_a1_given, .int a1_count])), (q_a1_kind, .inl (cI, 600, .inl a1_kind))]) (w2 := [(q_t, .inr (0, [.ref q_t_arguments, .int t_operation, .int t_many, .int t_failed, .int t_chosen, .int t_kind, .long t_content])), (q_t_arguments, .inl (cI, 3, .inl t_arguments)), (q_a1, .inr (3, [.ref q_a1_kind, .ref q_a1_content, .ref q_a1_left, .ref q_a1_right, .ref q_a1_given, .int a1_count])), (q_a1_kind, .inl (cI, 600, .inl a1_kind)), (q_a1_content, .inl (cL, 600, .inr (.inl a1_content)))]) (va_runSN (As := [.ref q_a1_content, .int (at_ 3 t_arguments v3)]) (rest := [.int v2]) ⟨hx, hb, hml, hown, hts⟩ (c_TM_longAt l dC dI cI cL H.size q_a1_content 600 a1_content (at_ 3 t_arguments v3) (by decide)) (kSN 2 hts aw_502 rfl rfl aw_1 (nx_65 hZ.1) aw_501 (by decide +kernel) ⟨Nat.le_of_ble_eq_true rfl, Nat.le_of_ble_eq_true rfl⟩) (fr_preS hK hP hD hS hA hZ [4] rfl rfl) rfl rfl hl.1 rfl (lv_room (Nat.le_of_ble_eq_true rfl)) dX0_cost_69 ⟨Nat.le_of_ble_eq_true rfl, Nat.le_of_ble_eq_true rfl⟩) hP hD hS hA [4] [0, 1, 2, 3] [0, 1, 2, 3, 4] rfl rfl rfl (by decide) rfl rfl (fun H locs hP hD hS => ?_)
          have hP : va_P (dC, dI) vwCl [(q_t, .inr (0, [.ref q_t_arguments, .int t_operation, .int t_many, .int t_failed, .int t_chosen, .int t_kind, .long t_content])), (q_t_arguments, .inl (cI, 3, .inl t_arguments)), (q_a1, .inr (3, [.ref q_a1_kind, .ref q_a1_content, .ref q_a1_left, .ref q_a1_right, .ref q_a1_given, .int a1_count])), (q_a1_kind, .inl (cI, 600, .inl a1_kind)), (q_a1_content, .inl (cL, 600, .inr (.inl a1_content)))] H := hP
          have hD : va_D A [(q_t, .inr (0, [.ref q_t_arguments, .int t_operation, .int t_many, .int t_failed, .int t_chosen, .int t_kind, .long t_content])), (q_t_arguments, .inl (cI, 3, .inl t_arguments)), (q_a1, .inr (3, [.ref q_a1_kind, .ref q_a1_content, .ref q_a1_left, .ref q_a1_right, .ref q_a1_given, .int a1_count])), (q_a1_kind, .inl (cI, 600, .inl a1_kind)), (q_a1_content, .inl (cL, 600, .inr (.inl a1_content)))] := hD
          obtain ⟨r72, e72, hm⟩ := c1_inv hm
          refine fr_i (wr := [(q_t, .inr (0, [.ref q_t_arguments, .int t_operation, .int t_many, .int t_failed, .int t_chosen, .int t_kind, .long t_content])), (q_t_arguments, .inl (cI, 3, .inl t_arguments)), (q_a1, .inr (3, [.ref q_a1_kind, .ref q_a1_content, .ref q_a1_left, .ref q_a1_right, .ref q_a1_given, .int a1_count])), (q_a1_kind, .inl (cI, 600, .inl a1_kind)), (q_a1_content, .inl (cL, 600, .inr (.inl a1_content)))]) (w2 := [(q_t, .inr (0, [.ref q_t_arguments, .int t_operation, .int t_many, .int t_failed, .int t_chosen, .int t_kind, .long t_content])), (q_t_arguments, .inl (cI, 3, .inl t_arguments)), (q_a1, .inr (3, [.ref q_a1_kind, .ref q_a1_content, .ref q_a1_left, .ref q_a1_right, .ref q_a1_given, .int a1_count])), (q_a1_kind, .inl (cI, 600, .inl a1_kind)), (q_a1_content, .inl (cL, 600, .inr (.inl a1_content)))]) (va_runS (As := [.long (atL 600 a1_content (at_ 3 t_arguments v3))]) (rest := [.int v2]) ⟨hx, hb, hml, hown, hts⟩ (c_Packed_length l dC dI cI cL H.size (atL 600 a1_content (at_ 3 t_arguments v3)) r72 e72) (kS 1 hts aw_528 rfl rfl aw_15 aw_526 aw_527 (by decide +kernel) ⟨Nat.le_of_ble_eq_true rfl, Nat.le_of_ble_eq_true rfl⟩) (fr_preS hK hP hD hS hA hZ [] rfl rfl) rfl rfl hl.1 rfl (lv_room (Nat.le_of_ble_eq_true rfl)) dX0_cost_72 ⟨Nat.le_of_ble_eq_true rfl, Nat.le_of_ble_eq_true rfl⟩) hP hD hS hA [] [0, 1, 2, 3, 4] [0, 1, 2, 3, 4] rfl rfl rfl (by decide) rfl rfl (fun H locs hP hD hS => ?_)
          have hP : va_P (dC, dI) vwCl [(q_t, .inr (0, [.ref q_t_arguments, .int t_operation, .int t_many, .int t_failed, .int t_chosen, .int t_kind, .long t_content])), (q_t_arguments, .inl (cI, 3, .inl t_arguments)), (q_a1, .inr (3, [.ref q_a1_kind, .ref q_a1_content, .ref q_a1_left, .ref q_a1_right, .ref q_a1_given, .int a1_count])), (q_a1_kind, .inl (cI, 600, .inl a1_kind)), (q_a1_content, .inl (cL, 600, .inr (.inl a1_content)))] H := hP
          have hD : va_D A [(q_t, .inr (0, [.ref q_t_arguments, .int t_operation, .int t_many, .int t_failed, .int t_chosen, .int t_kind, .long t_content])), (q_t_arguments, .inl (cI, 3, .inl t_arguments)), (q_a1, .inr (3, [.ref q_a1_kind, .ref q_a1_content, .ref q_a1_left, .ref q_a1_right, .ref q_a1_given, .int a1_count])), (q_a1_kind, .inl (cI, 600, .inl a1_kind)), (q_a1_content, .inl (cL, 600, .inr (.inl a1_content)))] := hD
          refine lv_iadd hx hb dX0_cost_75 ?_
          refine lv_istore_n (lv' := [(2, .int (v2 + r72)), (4, .int (at_ 3 t_arguments v3)), (0, .ref q_t), (1, .ref q_a1), (3, .int v3)]) hx hb dX0_cost_76 rfl hl (by decide) rfl (fun ls hl => ?_)
          refine lv_iinc (k := 4) (v := v3 + 1) (lv' := [(3, .int (v3 + 1)), (2, .int (v2 + r72)), (4, .int (at_ 3 t_arguments v3)), (0, .ref q_t), (1, .ref q_a1)]) hx hb dX0_cost_77 hl rfl rfl (by decide) rfl (fun ls hl => ?_)
          refine lv_goto hx hb dX0_cost_80 rfl ?_
          exact ih31 _ _ _ _ _ hm (lv_sub hl [3, 4, 1, 0] rfl) hP hD hS
  rw [M_Deed_cost] at hm
  refine va_getsN (C := "TermMachine") (n := "COSTS") (d := "[I") hx hb hz_q_COSTS hS hown (va_Nw.use rfl (nx_64 hZ.1)) (fun _ h9 => h9) dX0_cost_0 ?_
  refine lv_aload_n hx hb dX0_cost_3 rfl (lv_at hl 0 rfl) ?_
  refine va_get (D := (dC, dI)) (ci := 0) (v := .int t_operation) (C := RX0) (T := TX0) (N := 7) hx hb hts hn0 hown hK hP 0 rfl rfl 1 (by decide) (htw _ aw_122) (fun _ h9 => h9) rfl dX0_cost_4 ?_
  refine fr_i (wr := [(q_t, .inr (0, [.ref q_t_arguments, .int t_operation, .int t_many, .int t_failed, .int t_chosen, .int t_kind, .long t_content])), (q_t_arguments, .inl (cI, 3, .inl t_arguments)), (q_a1, .inr (3, [.ref q_a1_kind, .ref q_a1_content, .ref q_a1_left, .ref q_a1_right, .ref q_a1_given, .int a1_count])), (q_a1_kind, .inl (cI, 600, .inl a1_kind)), (q_a1_content, .inl (cL, 600, .inr (.inl a1_content)))]) (w2 := [(q_t, .inr (0, [.ref q_t_arguments, .int t_operation, .int t_many, .int t_failed, .int t_chosen, .int t_kind, .long t_content])), (q_t_arguments, .inl (cI, 3, .inl t_arguments)), (q_a1, .inr (3, [.ref q_a1_kind, .ref q_a1_content, .ref q_a1_left, .ref q_a1_right, .ref q_a1_given, .int a1_count])), (q_a1_kind, .inl (cI, 600, .inl a1_kind)), (q_a1_content, .inl (cL, 600, .inr (.inl a1_content)))]) (va_runSN (As := [.ref q_COSTS, .int t_operation]) (rest := []) ⟨hx, hb, hml, hown, hts⟩ (c_TM_atT l dC dI cI cL H.size q_COSTS 12 tb_COSTS t_operation (by decide)) (kSN 2 hts aw_346 rfl rfl aw_1 (nx_63 hZ.1) aw_345 (by decide +kernel) ⟨Nat.le_of_ble_eq_true rfl, Nat.le_of_ble_eq_true rfl⟩) (fr_preT hK hP hD hS hA hZ ht_q_COSTS) rfl rfl hl.1 rfl (lv_room (Nat.le_of_ble_eq_true rfl)) dX0_cost_7 ⟨Nat.le_of_ble_eq_true rfl, Nat.le_of_ble_eq_true rfl⟩) hP hD hS hA [] [0, 1, 2, 3, 4] [0, 1, 2, 3, 4] rfl rfl rfl (by decide) rfl rfl (fun H locs hP hD hS => ?_)
  have hP : va_P (dC, dI) vwCl [(q_t, .inr (0, [.ref q_t_arguments, .int t_operation, .int t_many, .int t_failed, .int t_chosen, .int t_kind, .long t_content])), (q_t_arguments, .inl (cI, 3, .inl t_arguments)), (q_a1, .inr (3, [.ref q_a1_kind, .ref q_a1_content, .ref q_a1_left, .ref q_a1_right, .ref q_a1_given, .int a1_count])), (q_a1_kind, .inl (cI, 600, .inl a1_kind)), (q_a1_content, .inl (cL, 600, .inr (.inl a1_content)))] H := hP
  have hD : va_D A [(q_t, .inr (0, [.ref q_t_arguments, .int t_operation, .int t_many, .int t_failed, .int t_chosen, .int t_kind, .long t_content])), (q_t_arguments, .inl (cI, 3, .inl t_arguments)), (q_a1, .inr (3, [.ref q_a1_kind, .ref q_a1_content, .ref q_a1_left, .ref q_a1_right, .ref q_a1_given, .int a1_count])), (q_a1_kind, .inl (cI, 600, .inl a1_kind)), (q_a1_content, .inl (cL, 600, .inr (.inl a1_content)))] := hD
  refine lv_istore_n (lv' := [(2, .int (at_ 12 tb_COSTS t_operation)), (0, .ref q_t), (1, .ref q_a1)]) hx hb dX0_cost_10 rfl hl (by decide) rfl (fun ls hl => ?_)
  refine lv_aload_n hx hb dX0_cost_11 rfl (lv_at hl 1 rfl) ?_
  refine va_get (D := (dC, dI)) (ci := 0) (v := .int t_operation) (C := RX0) (T := TX0) (N := 7) hx hb hts hn0 hown hK hP 0 rfl rfl 1 (by decide) (htw _ aw_122) (fun _ h9 => h9) rfl dX0_cost_12 ?_
  refine lv_bipush (v := 7) hx hb dX0_cost_15 (by decide) ?_
  refine lv_icmp_eq hx hb dX0_cost_17 rfl (fun h17 => ?_) (fun h17 => ?_)
  · rw [if_pos h17] at hm
    refine lv_iconst (v := 0) hx hb dX0_cost_29 (by decide) ?_
    refine lv_istore_n (lv' := [(3, .int 0), (2, .int (at_ 12 tb_COSTS t_operation)), (0, .ref q_t), (1, .ref q_a1)]) hx hb dX0_cost_30 rfl hl (by decide) rfl (fun ls hl => ?_)
    exact L31 _ _ _ _ _ _ hm (lv_sub hl [2, 3, 1, 0] rfl) hP hD hS
  · rw [if_neg h17] at hm
    refine lv_aload_n hx hb dX0_cost_20 rfl (lv_at hl 1 rfl) ?_
    refine va_get (D := (dC, dI)) (ci := 0) (v := .int t_operation) (C := RX0) (T := TX0) (N := 7) hx hb hts hn0 hown hK hP 0 rfl rfl 1 (by decide) (htw _ aw_122) (fun _ h9 => h9) rfl dX0_cost_21 ?_
    refine lv_bipush (v := 9) hx hb dX0_cost_24 (by decide) ?_
    refine lv_icmp_ne hx hb dX0_cost_26 rfl (fun h26 => ?_) (fun h26 => ?_)
    · rw [if_neg h26] at hm
      refine lv_iload_n hx hb dX0_cost_83 rfl (lv_at hl 0 rfl) ?_
      obtain rfl := Option.some.inj hm
      subst hQ
      exact W.iret hx hb hr (fun t ht hW => ⟨⟨_, (), rfl, rfl, by rw [ht]; exact hP, va_K.moved hW.alike hK, hD⟩, hS.F ht⟩) hS.2.2 dX0_cost_84
    · rw [if_pos h26] at hm
      refine lv_iconst (v := 0) hx hb dX0_cost_29 (by decide) ?_
      refine lv_istore_n (lv' := [(3, .int 0), (2, .int (at_ 12 tb_COSTS t_operation)), (0, .ref q_t), (1, .ref q_a1)]) hx hb dX0_cost_30 rfl hl (by decide) rfl (fun ls hl => ?_)
      exact L31 _ _ _ _ _ _ hm (lv_sub hl [2, 3, 1, 0] rfl) hP hD hS
def M_Deed_fits_2 (t_operation : Int32) (t_many : Int32) (t_arguments : Nat → Int32) (a1_kind : Nat → Int32) : Nat → Int32 → Option (Int32)
  | 0, _ => none
  | f + 1, v2 =>
    (if t_many ≤ v2 then
      some 1
    else
      (if (at_ 36 tb_WANTED ((3 * t_operation) + v2)) = (-1) then
        M_Deed_fits_2 t_operation t_many t_arguments a1_kind f (v2 + 1)
      else
        (if (at_ 600 a1_kind (at_ 3 t_arguments v2)) = (at_ 36 tb_WANTED ((3 * t_operation) + v2)) then
          M_Deed_fits_2 t_operation t_many t_arguments a1_kind f (v2 + 1)
        else
          some 0)))
def M_Deed_fits (t_operation : Int32) (t_many : Int32) (t_arguments : Nat → Int32) (a1_kind : Nat → Int32) : Option (Int32) :=
  M_Deed_fits_2 t_operation t_many t_arguments a1_kind 1000 0
set_option maxHeartbeats 4000000 in
set_option maxRecDepth 100000 in
theorem c_Deed_fits (l : Launch) (dC : Nat → ClassId) (dI : Nat → Nat → Nat) (cI cL : ClassId) (sz : Nat) (q_t q_a1 q_t_arguments q_a1_kind q_a1_content q_a1_left q_a1_right q_a1_given : Nat) (t_operation t_many t_failed t_chosen t_kind : Int32) (t_content : Int64) (t_arguments : Nat → Int32) (a1_count : Int32) (a1_kind : Nat → Int32) (r0 : Int32) (hm : M_Deed_fits t_operation t_many t_arguments a1_kind = some r0) : Met l yX0_fits wsX0_fits ({ frames := 1, cells := 0, slots := 0, locals := 21 }) (frPc (dC, dI) vwCl [(cI, .int), (cL, .long)] [(q_t, .inr (0, [.ref q_t_arguments, .int t_operation, .int t_many, .int t_failed, .int t_chosen, .int t_kind, .long t_content])), (q_t_arguments, .inl (cI, 3, .inl t_arguments)), (q_a1, .inr (3, [.ref q_a1_kind, .ref q_a1_content, .ref q_a1_left, .ref q_a1_right, .ref q_a1_given, .int a1_count])), (q_a1_kind, .inl (cI, 600, .inl a1_kind))] sz [.ref q_t, .ref q_a1]) (va_Qi (fun (r : Int32) (_ : Unit) => r = r0) (frB (dC, dI) vwCl [(cI, .int), (cL, .long)] (va_A [(q_t, .inr (0, [.ref q_t_arguments, .int t_operation, .int t_many, .int t_failed, .int t_chosen, .int t_kind, .long t_content])), (q_t_arguments, .inl (cI, 3, .inl t_arguments)), (q_a1, .inr (3, [.ref q_a1_kind, .ref q_a1_content, .ref q_a1_left, .ref q_a1_right, .ref q_a1_given, .int a1_count])), (q_a1_kind, .inl (cI, 600, .inl a1_kind))] sz) [(q_t, .inr (0, [.ref q_t_arguments, .int t_operation, .int t_many, .int t_failed, .int t_chosen, .int t_kind, .long t_content])), (q_t_arguments, .inl (cI, 3, .inl t_arguments)), (q_a1, .inr (3, [.ref q_a1_kind, .ref q_a1_content, .ref q_a1_left, .ref q_a1_right, .ref q_a1_given, .int a1_count])), (q_a1_kind, .inl (cI, 600, .inl a1_kind))]) (va_A [(q_t, .inr (0, [.ref q_t_arguments, .int t_operation, .int t_many, .int t_failed, .int t_chosen, .int t_kind, .long t_content])), (q_t_arguments, .inl (cI, 3, .inl t_arguments)), (q_a1, .inr (3, [.ref q_a1_kind, .ref q_a1_content, .ref q_a1_left, .ref q_a1_right, .ref q_a1_given, .int a1_count])), (q_a1_kind, .inl (cI, 600, .inl a1_kind))] sz)) 0 0 (va_A [(q_t, .inr (0, [.ref q_t_arguments, .int t_operation, .int t_many, .int t_failed, .int t_chosen, .int t_kind, .long t_content])), (q_t_arguments, .inl (cI, 3, .inl t_arguments)), (q_a1, .inr (3, [.ref q_a1_kind, .ref q_a1_content, .ref q_a1_left, .ref q_a1_right, .ref q_a1_given, .int a1_count])), (q_a1_kind, .inl (cI, 600, .inl a1_kind))] sz) := by
  refine Met.ofW (cc := cX0_fits) (maxL := 4) (ret := (some .boolean)) (by decide) rfl ?_
  intro p e s m args below meth c s₁ B hml hv
  obtain ⟨rfl, hsz, hP, hK, hD0, hZ⟩ := hv
  have hx := B.exec
  have hb := B.bytes
  have hr := B.returns
  have hts := atoms_spec (ws := wsX0_fits) B.pre
  have hown : s.vm.findClass RX0 = some m.cls := findClass_of_methodNamed B.named
  have hlocks := B.notSynchronized
  subst hsz
  have hD := hD0.self (sz := s.heap.size)
  generalize hAe : va_A [(q_t, .inr (0, [.ref q_t_arguments, .int t_operation, .int t_many, .int t_failed, .int t_chosen, .int t_kind, .long t_content])), (q_t_arguments, .inl (cI, 3, .inl t_arguments)), (q_a1, .inr (3, [.ref q_a1_kind, .ref q_a1_content, .ref q_a1_left, .ref q_a1_right, .ref q_a1_given, .int a1_count])), (q_a1_kind, .inl (cI, 600, .inl a1_kind))] s.heap.size = A at hD hZ ⊢
  have hA : ∀ q : Nat, s.heap.size ≤ q → A q := fun q h => by rw [← hAe]; exact Or.inr h
  have hS : va_S A s.heap s.heap [] := va_S.rf
  have hP : va_P (dC, dI) vwCl [(q_t, .inr (0, [.ref q_t_arguments, .int t_operation, .int t_many, .int t_failed, .int t_chosen, .int t_kind, .long t_content])), (q_t_arguments, .inl (cI, 3, .inl t_arguments)), (q_a1, .inr (3, [.ref q_a1_kind, .ref q_a1_content, .ref q_a1_left, .ref q_a1_right, .ref q_a1_given, .int a1_count])), (q_a1_kind, .inl (cI, 600, .inl a1_kind))] s.heap := hP
  have hl := lv_entry ([.ref q_t, .ref q_a1]) (n := 4) (Nat.le_of_ble_eq_true rfl)
  rw [lg_entry_eq]
  generalize (lg_sl ([.ref q_t, .ref q_a1]) ++ List.replicate (4 - (lg_sl ([.ref q_t, .ref q_a1])).length) Slot.unset).toArray = ls at hl ⊢
  have hl : lv_has ls 4 [(0, .ref q_t), (1, .ref q_a1)] := hl
  refine wq hP hS (fun Q hQ H locs hP hS => ?_)
  have htw : ∀ w ∈ AW, w.before _ s = true := fun w h => hts w (List.mem_cons_of_mem _ h)
  have hn0 : ∀ w ∈ wsX00, w ∈ wsX0_fits := fun w h => List.mem_cons_of_mem _ (inX0 w h)
  have hn1 : ∀ w ∈ wsX40, w ∈ wsX0_fits := fun w h => List.mem_cons_of_mem _ (inX4 w h)
  obtain ⟨q_WANTED, hz_q_WANTED, ht_q_WANTED⟩ := hZ.2.2.2.2
  have L2 : ∀ (f : Nat) (v2 : Int32) (ls : Array Slot) (H : Heap) (locs : List Loc), M_Deed_fits_2 t_operation t_many t_arguments a1_kind f v2 = some r0 → lv_has ls 4 [(0, .ref q_t), (1, .ref q_a1), (2, .int v2)] → va_P (dC, dI) vwCl [(q_t, .inr (0, [.ref q_t_arguments, .int t_operation, .int t_many, .int t_failed, .int t_chosen, .int t_kind, .long t_content])), (q_t_arguments, .inl (cI, 3, .inl t_arguments)), (q_a1, .inr (3, [.ref q_a1_kind, .ref q_a1_content, .ref q_a1_left, .ref q_a1_right, .ref q_a1_given, .int a1_count])), (q_a1_kind, .inl (cI, 600, .inl a1_kind))] H → va_D A [(q_t, .inr (0, [.ref q_t_arguments, .int t_operation, .int t_many, .int t_failed, .int t_chosen, .int t_kind, .long t_content])), (q_t_arguments, .inl (cI, 3, .inl t_arguments)), (q_a1, .inr (3, [.ref q_a1_kind, .ref q_a1_content, .ref q_a1_left, .ref q_a1_right, .ref q_a1_given, .int a1_count])), (q_a1_kind, .inl (cI, 600, .inl a1_kind))] → va_S A s.heap H locs → W p l e ({ frames := 1, cells := 0, slots := 0, locals := 21 }) s m [.ref q_t, .ref q_a1].toArray below meth c H locs 0 0 Q (F0 m 2 ls []) := by
    intro f
    induction f with
    | zero => intro v2 ls H locs hm; rw [M_Deed_fits_2] at hm; cases hm
    | succ f ih2 =>
      intro v2 ls H locs hm hl hP hD hS
      rw [M_Deed_fits_2] at hm
      refine lv_iload_n hx hb dX0_fits_2 rfl (lv_at hl 2 rfl) ?_
      refine lv_aload_n hx hb dX0_fits_3 rfl (lv_at hl 0 rfl) ?_
      refine va_get (D := (dC, dI)) (ci := 0) (v := .int t_many) (C := RX0) (T := TX0) (N := 7) hx hb hts hn0 hown hK hP 0 rfl rfl 2 (by decide) (htw _ aw_123) (fun _ h9 => h9) rfl dX0_fits_4 ?_
      refine lv_icmp_ge hx hb dX0_fits_7 rfl (fun h7 => ?_) (fun h7 => ?_)
      · rw [if_pos h7] at hm
        refine lv_iconst (v := 1) hx hb dX0_fits_57 (by decide) ?_
        obtain rfl := Option.some.inj hm
        subst hQ
        exact W.zret hx hb hr (by decide) (fun t ht hW => ⟨⟨_, (), rfl, rfl, by rw [ht]; exact hP, va_K.moved hW.alike hK, hD⟩, hS.F ht⟩) hS.2.2 dX0_fits_58
      · rw [if_neg h7] at hm
        refine va_getsN (C := "TermMachine") (n := "WANTED") (d := "[I") hx hb hz_q_WANTED hS hown (va_Nw.use rfl (nx_68 hZ.1)) (fun _ h9 => h9) dX0_fits_10 ?_
        refine lv_iconst (v := 3) hx hb dX0_fits_13 (by decide) ?_
        refine lv_aload_n hx hb dX0_fits_14 rfl (lv_at hl 0 rfl) ?_
        refine va_get (D := (dC, dI)) (ci := 0) (v := .int t_operation) (C := RX0) (T := TX0) (N := 7) hx hb hts hn0 hown hK hP 0 rfl rfl 1 (by decide) (htw _ aw_122) (fun _ h9 => h9) rfl dX0_fits_15 ?_
        refine lv_imul hx hb dX0_fits_18 ?_
        refine lv_iload_n hx hb dX0_fits_19 rfl (lv_at hl 2 rfl) ?_
        refine lv_iadd hx hb dX0_fits_20 ?_
        refine fr_i (wr := [(q_t, .inr (0, [.ref q_t_arguments, .int t_operation, .int t_many, .int t_failed, .int t_chosen, .int t_kind, .long t_content])), (q_t_arguments, .inl (cI, 3, .inl t_arguments)), (q_a1, .inr (3, [.ref q_a1_kind, .ref q_a1_content, .ref q_a1_left, .ref q_a1_right, .ref q_a1_given, .int a1_count])), (q_a1_kind, .inl (cI, 600, .inl a1_kind))]) (w2 := [(q_t, .inr (0, [.ref q_t_arguments, .int t_operation, .int t_many, .int t_failed, .int t_chosen, .int t_kind, .long t_content])), (q_t_arguments, .inl (cI, 3, .inl t_arguments)), (q_a1, .inr (3, [.ref q_a1_kind, .ref q_a1_content, .ref q_a1_left, .ref q_a1_right, .ref q_a1_given, .int a1_count])), (q_a1_kind, .inl (cI, 600, .inl a1_kind))]) (va_runSN (As := [.ref q_WANTED, .int ((3 * t_operation) + v2)]) (rest := []) ⟨hx, hb, hml, hown, hts⟩ (c_TM_atT l dC dI cI cL H.size q_WANTED 36 tb_WANTED ((3 * t_operation) + v2) (by decide)) (kSN 2 hts aw_346 rfl rfl aw_1 (nx_63 hZ.1) aw_345 (by decide +kernel) ⟨Nat.le_of_ble_eq_true rfl, Nat.le_of_ble_eq_true rfl⟩) (fr_preT hK hP hD hS hA hZ ht_q_WANTED) rfl rfl hl.1 rfl (lv_room (Nat.le_of_ble_eq_true rfl)) dX0_fits_21 ⟨Nat.le_of_ble_eq_true rfl, Nat.le_of_ble_eq_true rfl⟩) hP hD hS hA [] [0, 1, 2, 3] [0, 1, 2, 3] rfl rfl rfl (by decide) rfl rfl (fun H locs hP hD hS => ?_)
        have hP : va_P (dC, dI) vwCl [(q_t, .inr (0, [.ref q_t_arguments, .int t_operation, .int t_many, .int t_failed, .int t_chosen, .int t_kind, .long t_content])), (q_t_arguments, .inl (cI, 3, .inl t_arguments)), (q_a1, .inr (3, [.ref q_a1_kind, .ref q_a1_content, .ref q_a1_left, .ref q_a1_right, .ref q_a1_given, .int a1_count])), (q_a1_kind, .inl (cI, 600, .inl a1_kind))] H := hP
        have hD : va_D A [(q_t, .inr (0, [.ref q_t_arguments, .int t_operation, .int t_many, .int t_failed, .int t_chosen, .int t_kind, .long t_content])), (q_t_arguments, .inl (cI, 3, .inl t_arguments)), (q_a1, .inr (3, [.ref q_a1_kind, .ref q_a1_content, .ref q_a1_left, .ref q_a1_right, .ref q_a1_given, .int a1_count])), (q_a1_kind, .inl (cI, 600, .inl a1_kind))] := hD
        refine lv_istore_n (lv' := [(3, .int (at_ 36 tb_WANTED ((3 * t_operation) + v2))), (0, .ref q_t), (1, .ref q_a1), (2, .int v2)]) hx hb dX0_fits_24 rfl hl (by decide) rfl (fun ls hl => ?_)
        refine lv_iload_n hx hb dX0_fits_25 rfl (lv_at hl 0 rfl) ?_
        refine lv_iconst (v := (-1)) hx hb dX0_fits_26 (by decide) ?_
        refine lv_icmp_eq hx hb dX0_fits_27 rfl (fun h27 => ?_) (fun h27 => ?_)
        · rw [if_pos h27] at hm
          refine lv_iinc (k := 3) (v := v2 + 1) (lv' := [(2, .int (v2 + 1)), (3, .int (at_ 36 tb_WANTED ((3 * t_operation) + v2))), (0, .ref q_t), (1, .ref q_a1)]) hx hb dX0_fits_51 hl rfl rfl (by decide) rfl (fun ls hl => ?_)
          refine lv_goto hx hb dX0_fits_54 rfl ?_
          exact ih2 _ _ _ _ hm (lv_sub hl [2, 3, 0] rfl) hP hD hS
        · rw [if_neg h27] at hm
          refine lv_aload_n hx hb dX0_fits_30 rfl (lv_at hl 2 rfl) ?_
          refine va_getN (D := (dC, dI)) (ci := 3) (v := .ref q_a1_kind) (C := RX4) (T := TX4) (N := 6) hx hb hts hn1 hown hK hP 2 rfl rfl 0 (by decide) (va_Nw.use rfl (nx_6 hZ.1)) (fun _ h9 => h9) rfl dX0_fits_31 ?_
          refine lv_aload_n hx hb dX0_fits_34 rfl (lv_at hl 1 rfl) ?_
          refine va_get (D := (dC, dI)) (ci := 0) (v := .ref q_t_arguments) (C := RX0) (T := TX0) (N := 7) hx hb hts hn0 hown hK hP 0 rfl rfl 0 (by decide) (htw _ aw_121) (fun _ h9 => h9) rfl dX0_fits_35 ?_
          refine lv_iload_n hx hb dX0_fits_38 rfl (lv_at hl 3 rfl) ?_
          refine fr_i (wr := [(q_t, .inr (0, [.ref q_t_arguments, .int t_operation, .int t_many, .int t_failed, .int t_chosen, .int t_kind, .long t_content])), (q_a1, .inr (3, [.ref q_a1_kind, .ref q_a1_content, .ref q_a1_left, .ref q_a1_right, .ref q_a1_given, .int a1_count])), (q_a1_kind, .inl (cI, 600, .inl a1_kind))]) (w2 := [(q_t, .inr (0, [.ref q_t_arguments, .int t_operation, .int t_many, .int t_failed, .int t_chosen, .int t_kind, .long t_content])), (q_t_arguments, .inl (cI, 3, .inl t_arguments)), (q_a1, .inr (3, [.ref q_a1_kind, .ref q_a1_content, .ref q_a1_left, .ref q_a1_right, .ref q_a1_given, .int a1_count])), (q_a1_kind, .inl (cI, 600, .inl a1_kind))]) (va_runSN (As := [.ref q_t_arguments, .int v2]) (rest := [.ref q_a1_kind]) ⟨hx, hb, hml, hown, hts⟩ (c_TM_at l dC dI cI cL H.size q_t_arguments 3 t_arguments v2 (by decide)) (kSN 2 hts aw_346 rfl rfl aw_1 (nx_63 hZ.1) aw_345 (by decide +kernel) ⟨Nat.le_of_ble_eq_true rfl, Nat.le_of_ble_eq_true rfl⟩) (fr_preS hK hP hD hS hA hZ [1] rfl rfl) rfl rfl hl.1 rfl (lv_room (Nat.le_of_ble_eq_true rfl)) dX0_fits_39 ⟨Nat.le_of_ble_eq_true rfl, Nat.le_of_ble_eq_true rfl⟩) hP hD hS hA [1] [0, 2, 3] [0, 3, 1, 2] rfl rfl rfl (by decide) rfl rfl (fun H locs hP hD hS => ?_)
          have hP : va_P (dC, dI) vwCl [(q_t, .inr (0, [.ref q_t_arguments, .int t_operation, .int t_many, .int t_failed, .int t_chosen, .int t_kind, .long t_content])), (q_t_arguments, .inl (cI, 3, .inl t_arguments)), (q_a1, .inr (3, [.ref q_a1_kind, .ref q_a1_content, .ref q_a1_left, .ref q_a1_right, .ref q_a1_given, .int a1_count])), (q_a1_kind, .inl (cI, 600, .inl a1_kind))] H := hP
          have hD : va_D A [(q_t, .inr (0, [.ref q_t_arguments, .int t_operation, .int t_many, .int t_failed, .int t_chosen, .int t_kind, .long t_content])), (q_t_arguments, .inl (cI, 3, .inl t_arguments)), (q_a1, .inr (3, [.ref q_a1_kind, .ref q_a1_content, .ref q_a1_left, .ref q_a1_right, .ref q_a1_given, .int a1_count])), (q_a1_kind, .inl (cI, 600, .inl a1_kind))] := hD
          refine fr_i (wr := [(q_t, .inr (0, [.ref q_t_arguments, .int t_operation, .int t_many, .int t_failed, .int t_chosen, .int t_kind, .long t_content])), (q_t_arguments, .inl (cI, 3, .inl t_arguments)), (q_a1, .inr (3, [.ref q_a1_kind, .ref q_a1_content, .ref q_a1_left, .ref q_a1_right, .ref q_a1_given, .int a1_count]))]) (w2 := [(q_t, .inr (0, [.ref q_t_arguments, .int t_operation, .int t_many, .int t_failed, .int t_chosen, .int t_kind, .long t_content])), (q_t_arguments, .inl (cI, 3, .inl t_arguments)), (q_a1, .inr (3, [.ref q_a1_kind, .ref q_a1_content, .ref q_a1_left, .ref q_a1_right, .ref q_a1_given, .int a1_count])), (q_a1_kind, .inl (cI, 600, .inl a1_kind))]) (va_runSN (As := [.ref q_a1_kind, .int (at_ 3 t_arguments v2)]) (rest := []) ⟨hx, hb, hml, hown, hts⟩ (c_TM_at l dC dI cI cL H.size q_a1_kind 600 a1_kind (at_ 3 t_arguments v2) (by decide)) (kSN 2 hts aw_346 rfl rfl aw_1 (nx_63 hZ.1) aw_345 (by decide +kernel) ⟨Nat.le_of_ble_eq_true rfl, Nat.le_of_ble_eq_true rfl⟩) (fr_preS hK hP hD hS hA hZ [3] rfl rfl) rfl rfl hl.1 rfl (lv_room (Nat.le_of_ble_eq_true rfl)) dX0_fits_42 ⟨Nat.le_of_ble_eq_true rfl, Nat.le_of_ble_eq_true rfl⟩) hP hD hS hA [3] [0, 1, 2] [0, 1, 2, 3] rfl rfl rfl (by decide) rfl rfl (fun H locs hP hD hS => ?_)
          have hP : va_P (dC, dI) vwCl [(q_t, .inr (0, [.ref q_t_arguments, .int t_operation, .int t_many, .int t_failed, .int t_chosen, .int t_kind, .long t_content])), (q_t_arguments, .inl (cI, 3, .inl t_arguments)), (q_a1, .inr (3, [.ref q_a1_kind, .ref q_a1_content, .ref q_a1_left, .ref q_a1_right, .ref q_a1_given, .int a1_count])), (q_a1_kind, .inl (cI, 600, .inl a1_kind))] H := hP
          have hD : va_D A [(q_t, .inr (0, [.ref q_t_arguments, .int t_operation, .int t_many, .int t_failed, .int t_chosen, .int t_kind, .long t_content])), (q_t_arguments, .inl (cI, 3, .inl t_arguments)), (q_a1, .inr (3, [.ref q_a1_kind, .ref q_a1_content, .ref q_a1_left, .ref q_a1_right, .ref q_a1_given, .int a1_count])), (q_a1_kind, .inl (cI, 600, .inl a1_kind))] := hD
          refine lv_iload_n hx hb dX0_fits_45 rfl (lv_at hl 0 rfl) ?_
          refine lv_icmp_eq hx hb dX0_fits_46 rfl (fun h46 => ?_) (fun h46 => ?_)
          · rw [if_pos h46] at hm
            refine lv_iinc (k := 3) (v := v2 + 1) (lv' := [(2, .int (v2 + 1)), (3, .int (at_ 36 tb_WANTED ((3 * t_operation) + v2))), (0, .ref q_t), (1, .ref q_a1)]) hx hb dX0_fits_51 hl rfl rfl (by decide) rfl (fun ls hl => ?_)
            refine lv_goto hx hb dX0_fits_54 rfl ?_
            exact ih2 _ _ _ _ hm (lv_sub hl [2, 3, 0] rfl) hP hD hS
          · rw [if_neg h46] at hm
            refine lv_iconst (v := 0) hx hb dX0_fits_49 (by decide) ?_
            obtain rfl := Option.some.inj hm
            subst hQ
            exact W.zret hx hb hr (by decide) (fun t ht hW => ⟨⟨_, (), rfl, rfl, by rw [ht]; exact hP, va_K.moved hW.alike hK, hD⟩, hS.F ht⟩) hS.2.2 dX0_fits_50
  rw [M_Deed_fits] at hm
  refine lv_iconst (v := 0) hx hb dX0_fits_0 (by decide) ?_
  refine lv_istore_n (lv' := [(2, .int 0), (0, .ref q_t), (1, .ref q_a1)]) hx hb dX0_fits_1 rfl hl (by decide) rfl (fun ls hl => ?_)
  exact L2 _ _ _ _ _ hm (lv_sub hl [1, 2, 0] rfl) hP hD hS
def M_Deed_give (t_kind : Int32) (t_content : Int64) (x1 : Int32) (x2 : Int64) : Option (Int32 × Int64) :=
  some (x1, x2)
set_option maxHeartbeats 4000000 in
set_option maxRecDepth 100000 in
theorem c_Deed_give (l : Launch) (dC : Nat → ClassId) (dI : Nat → Nat → Nat) (cI cL : ClassId) (sz : Nat) (q_t q_t_arguments : Nat) (t_operation t_many t_failed t_chosen t_kind : Int32) (t_content : Int64) (x1 : Int32) (x2 : Int64) (u_t_kind : Int32) (u_t_content : Int64) (hm : M_Deed_give t_kind t_content x1 x2 = some (u_t_kind, u_t_content)) : Met l yX0_give wsX0_give ({ frames := 0, cells := 0, slots := 0, locals := 0 }) (frPc (dC, dI) vwCl [(cI, .int), (cL, .long)] [(q_t, .inr (0, [.ref q_t_arguments, .int t_operation, .int t_many, .int t_failed, .int t_chosen, .int t_kind, .long t_content]))] sz [.ref q_t, .int x1, .long x2]) (va_Qv (fun (_ : Unit) => True) (frB (dC, dI) vwCl [(cI, .int), (cL, .long)] (va_A [(q_t, .inr (0, [.ref q_t_arguments, .int t_operation, .int t_many, .int t_failed, .int t_chosen, .int t_kind, .long t_content]))] sz) [(q_t, .inr (0, [.ref q_t_arguments, .int t_operation, .int t_many, .int t_failed, .int t_chosen, .int u_t_kind, .long u_t_content]))]) (va_A [(q_t, .inr (0, [.ref q_t_arguments, .int t_operation, .int t_many, .int t_failed, .int t_chosen, .int t_kind, .long t_content]))] sz)) 0 0 (va_A [(q_t, .inr (0, [.ref q_t_arguments, .int t_operation, .int t_many, .int t_failed, .int t_chosen, .int t_kind, .long t_content]))] sz) := by
  refine Met.ofW (cc := cX0_give) (maxL := 4) (ret := none) (by decide) rfl ?_
  intro p e s m args below meth c s₁ B hml hv
  obtain ⟨rfl, hsz, hP, hK, hD0, hZ⟩ := hv
  have hx := B.exec
  have hb := B.bytes
  have hr := B.returns
  have hts := atoms_spec (ws := wsX0_give) B.pre
  have hown : s.vm.findClass RX0 = some m.cls := findClass_of_methodNamed B.named
  have hlocks := B.notSynchronized
  subst hsz
  have hD := hD0.self (sz := s.heap.size)
  generalize hAe : va_A [(q_t, .inr (0, [.ref q_t_arguments, .int t_operation, .int t_many, .int t_failed, .int t_chosen, .int t_kind, .long t_content]))] s.heap.size = A at hD hZ ⊢
  have hA : ∀ q : Nat, s.heap.size ≤ q → A q := fun q h => by rw [← hAe]; exact Or.inr h
  have hS : va_S A s.heap s.heap [] := va_S.rf
  have hP : va_P (dC, dI) vwCl [(q_t, .inr (0, [.ref q_t_arguments, .int t_operation, .int t_many, .int t_failed, .int t_chosen, .int t_kind, .long t_content]))] s.heap := hP
  have hl := lv_entry ([.ref q_t, .int x1, .long x2]) (n := 4) (Nat.le_of_ble_eq_true rfl)
  rw [lg_entry_eq]
  generalize (lg_sl ([.ref q_t, .int x1, .long x2]) ++ List.replicate (4 - (lg_sl ([.ref q_t, .int x1, .long x2])).length) Slot.unset).toArray = ls at hl ⊢
  have hl : lv_has ls 4 [(0, .ref q_t), (1, .int x1), (2, .long x2)] := hl
  refine wq hP hS (fun Q hQ H locs hP hS => ?_)
  have htw : ∀ w ∈ AW, w.before _ s = true := fun w h => hts w (List.mem_cons_of_mem _ h)
  have hn0 : ∀ w ∈ wsX00, w ∈ wsX0_give := fun w h => List.mem_cons_of_mem _ (inX0 w h)
  rw [M_Deed_give] at hm
  refine lv_aload_n hx hb dX0_give_0 rfl (lv_at hl 0 rfl) ?_
  refine lv_iload_n hx hb dX0_give_1 rfl (lv_at hl 1 rfl) ?_
  refine va_put (D := (dC, dI)) (ci := 0) (v := .int x1) (ty := .int) (C := RX0) (T := TX0) (N := 7) hx hb hts hn0 tyX0 tyX0_ok nmX0 hown hK hP hD hS 0 rfl rfl 5 (by decide) (htw _ aw_128) (fun _ h9 => h9) rfl (by decide +kernel) rfl rfl (Nat.le_of_ble_eq_true rfl) dX0_give_2 (fun H locs hP hD hS => ?_)
  have hP : va_P (dC, dI) vwCl [(q_t, .inr (0, [.ref q_t_arguments, .int t_operation, .int t_many, .int t_failed, .int t_chosen, .int x1, .long t_content]))] H := hP
  have hD : va_D A [(q_t, .inr (0, [.ref q_t_arguments, .int t_operation, .int t_many, .int t_failed, .int t_chosen, .int x1, .long t_content]))] := hD
  refine lv_aload_n hx hb dX0_give_5 rfl (lv_at hl 0 rfl) ?_
  refine lv_lload_n hx hb dX0_give_6 rfl (lv_at hl 2 rfl) ?_
  refine va_put (D := (dC, dI)) (ci := 0) (v := .long x2) (ty := .long) (C := RX0) (T := TX0) (N := 7) hx hb hts hn0 tyX0 tyX0_ok nmX0 hown hK hP hD hS 0 rfl rfl 6 (by decide) (htw _ aw_130) (fun _ h9 => h9) rfl (by decide +kernel) rfl rfl (Nat.le_of_ble_eq_true rfl) dX0_give_7 (fun H locs hP hD hS => ?_)
  have hP : va_P (dC, dI) vwCl [(q_t, .inr (0, [.ref q_t_arguments, .int t_operation, .int t_many, .int t_failed, .int t_chosen, .int x1, .long x2]))] H := hP
  have hD : va_D A [(q_t, .inr (0, [.ref q_t_arguments, .int t_operation, .int t_many, .int t_failed, .int t_chosen, .int x1, .long x2]))] := hD
  obtain ⟨rfl, rfl⟩ := ij2 hm
  subst hQ
  exact W.vret hx hb hr (fun t ht hW => ⟨⟨(), rfl, trivial, by rw [ht]; exact hP, va_K.moved hW.alike hK, hD⟩, hS.F ht⟩) hS.2.2 dX0_give_10
def M_Deed_giveNumber (t_failed : Int32) (t_kind : Int32) (t_content : Int64) (x1 : Int64) : Option (Int32 × Int32 × Int64) :=
  (if (lg_cmp x1 (-2147483648)) < 0 then
    some (1, t_kind, t_content)
  else
    (if (lg_cmp x1 2147483647) ≤ 0 then
      c2 (M_Deed_give t_kind t_content (0 : Int32) x1) (fun t_kind_27 t_content_27 =>
        some (t_failed, t_kind_27, t_content_27))
    else
      some (1, t_kind, t_content)))
set_option maxHeartbeats 4000000 in
set_option maxRecDepth 100000 in
theorem c_Deed_giveNumber (l : Launch) (dC : Nat → ClassId) (dI : Nat → Nat → Nat) (cI cL : ClassId) (sz : Nat) (q_t q_t_arguments : Nat) (t_operation t_many t_failed t_chosen t_kind : Int32) (t_content x1 : Int64) (u_t_failed u_t_kind : Int32) (u_t_content : Int64) (hm : M_Deed_giveNumber t_failed t_kind t_content x1 = some (u_t_failed, u_t_kind, u_t_content)) : Met l yX0_giveNumber wsX0_giveNumber ({ frames := 1, cells := 0, slots := 0, locals := 23 }) (frPc (dC, dI) vwCl [(cI, .int), (cL, .long)] [(q_t, .inr (0, [.ref q_t_arguments, .int t_operation, .int t_many, .int t_failed, .int t_chosen, .int t_kind, .long t_content]))] sz [.ref q_t, .long x1]) (va_Qv (fun (_ : Unit) => True) (frB (dC, dI) vwCl [(cI, .int), (cL, .long)] (va_A [(q_t, .inr (0, [.ref q_t_arguments, .int t_operation, .int t_many, .int t_failed, .int t_chosen, .int t_kind, .long t_content]))] sz) [(q_t, .inr (0, [.ref q_t_arguments, .int t_operation, .int t_many, .int u_t_failed, .int t_chosen, .int u_t_kind, .long u_t_content]))]) (va_A [(q_t, .inr (0, [.ref q_t_arguments, .int t_operation, .int t_many, .int t_failed, .int t_chosen, .int t_kind, .long t_content]))] sz)) 0 0 (va_A [(q_t, .inr (0, [.ref q_t_arguments, .int t_operation, .int t_many, .int t_failed, .int t_chosen, .int t_kind, .long t_content]))] sz) := by
  refine Met.ofW (cc := cX0_giveNumber) (maxL := 3) (ret := none) (by decide) rfl ?_
  intro p e s m args below meth c s₁ B hml hv
  obtain ⟨rfl, hsz, hP, hK, hD0, hZ⟩ := hv
  have hx := B.exec
  have hb := B.bytes
  have hr := B.returns
  have hts := atoms_spec (ws := wsX0_giveNumber) B.pre
  have hown : s.vm.findClass RX0 = some m.cls := findClass_of_methodNamed B.named
  have hlocks := B.notSynchronized
  subst hsz
  have hD := hD0.self (sz := s.heap.size)
  generalize hAe : va_A [(q_t, .inr (0, [.ref q_t_arguments, .int t_operation, .int t_many, .int t_failed, .int t_chosen, .int t_kind, .long t_content]))] s.heap.size = A at hD hZ ⊢
  have hA : ∀ q : Nat, s.heap.size ≤ q → A q := fun q h => by rw [← hAe]; exact Or.inr h
  have hS : va_S A s.heap s.heap [] := va_S.rf
  have hP : va_P (dC, dI) vwCl [(q_t, .inr (0, [.ref q_t_arguments, .int t_operation, .int t_many, .int t_failed, .int t_chosen, .int t_kind, .long t_content]))] s.heap := hP
  have hl := lv_entry ([.ref q_t, .long x1]) (n := 3) (Nat.le_of_ble_eq_true rfl)
  rw [lg_entry_eq]
  generalize (lg_sl ([.ref q_t, .long x1]) ++ List.replicate (3 - (lg_sl ([.ref q_t, .long x1])).length) Slot.unset).toArray = ls at hl ⊢
  have hl : lv_has ls 3 [(0, .ref q_t), (1, .long x1)] := hl
  refine wq hP hS (fun Q hQ H locs hP hS => ?_)
  have htw : ∀ w ∈ AW, w.before _ s = true := fun w h => hts w (List.mem_cons_of_mem _ h)
  have hn0 : ∀ w ∈ wsX00, w ∈ wsX0_giveNumber := fun w h => List.mem_cons_of_mem _ (inX0 w h)
  rw [M_Deed_giveNumber] at hm
  refine lv_lload_n hx hb dX0_giveNumber_0 rfl (lv_at hl 1 rfl) ?_
  refine lv_ldc2 (v := (-2147483648)) hx hb hown (htw _ aw_614) dX0_giveNumber_1 ?_
  refine W.lcmp hx hb dX0_giveNumber_4 ?_
  refine lv_if_lt hx hb dX0_giveNumber_5 rfl (fun h5 => ?_) (fun h5 => ?_)
  · rw [if_pos h5] at hm
    refine lv_aload_n hx hb dX0_giveNumber_16 rfl (lv_at hl 0 rfl) ?_
    refine lv_iconst (v := 1) hx hb dX0_giveNumber_17 (by decide) ?_
    refine va_put (D := (dC, dI)) (ci := 0) (v := .int 1) (ty := .boolean) (C := RX0) (T := TX0) (N := 7) hx hb hts hn0 tyX0 tyX0_ok nmX0 hown hK hP hD hS 0 rfl rfl 3 (by decide) (htw _ aw_124) (fun _ h9 => h9) rfl (by decide +kernel) rfl rfl (Nat.le_of_ble_eq_true rfl) dX0_giveNumber_18 (fun H locs hP hD hS => ?_)
    have hP : va_P (dC, dI) vwCl [(q_t, .inr (0, [.ref q_t_arguments, .int t_operation, .int t_many, .int 1, .int t_chosen, .int t_kind, .long t_content]))] H := hP
    have hD : va_D A [(q_t, .inr (0, [.ref q_t_arguments, .int t_operation, .int t_many, .int 1, .int t_chosen, .int t_kind, .long t_content]))] := hD
    refine lv_goto hx hb dX0_giveNumber_21 rfl ?_
    obtain ⟨rfl, rfl, rfl⟩ := ij3 hm
    subst hQ
    exact W.vret hx hb hr (fun t ht hW => ⟨⟨(), rfl, trivial, by rw [ht]; exact hP, va_K.moved hW.alike hK, hD⟩, hS.F ht⟩) hS.2.2 dX0_giveNumber_30
  · rw [if_neg h5] at hm
    refine lv_lload_n hx hb dX0_giveNumber_8 rfl (lv_at hl 1 rfl) ?_
    refine lv_ldc2 (v := 2147483647) hx hb hown (htw _ aw_615) dX0_giveNumber_9 ?_
    refine W.lcmp hx hb dX0_giveNumber_12 ?_
    refine lv_if_le hx hb dX0_giveNumber_13 rfl (fun h13 => ?_) (fun h13 => ?_)
    · rw [if_pos h13] at hm
      refine lv_aload_n hx hb dX0_giveNumber_24 rfl (lv_at hl 0 rfl) ?_
      refine lv_iconst (v := 0) hx hb dX0_giveNumber_25 (by decide) ?_
      refine lv_lload_n hx hb dX0_giveNumber_26 rfl (lv_at hl 1 rfl) ?_
      obtain ⟨t_kind_27, t_content_27, e27, hm⟩ := c2_inv hm
      refine fr_v (wr := []) (w2 := [(q_t, .inr (0, [.ref q_t_arguments, .int t_operation, .int t_many, .int t_failed, .int t_chosen, .int t_kind_27, .long t_content_27]))]) (va_runV (As := [.int 0, .long x1]) (rest := []) ⟨hx, hb, hml, hown, hts⟩ (c_Deed_give l dC dI cI cL H.size q_t q_t_arguments t_operation t_many t_failed t_chosen t_kind t_content (0 : Int32) x1 t_kind_27 t_content_27 e27) (kV 2 hts aw_598 rfl rfl aw_6 aw_595 aw_597 as_13 (by decide +kernel) ⟨Nat.le_of_ble_eq_true rfl, Nat.le_of_ble_eq_true rfl⟩) (fr_preV hK hP hD hS hA hZ [0] rfl rfl (ci := 0) (q0 := 0) rfl rfl) rfl rfl hl.1 rfl (lv_room (Nat.le_of_ble_eq_true rfl)) dX0_giveNumber_27 ⟨Nat.le_of_ble_eq_true rfl, Nat.le_of_ble_eq_true rfl⟩) hP hD hS hA [0] [] [0] rfl rfl rfl (by decide) rfl rfl (fun H locs hP hD hS => ?_)
      have hP : va_P (dC, dI) vwCl [(q_t, .inr (0, [.ref q_t_arguments, .int t_operation, .int t_many, .int t_failed, .int t_chosen, .int t_kind_27, .long t_content_27]))] H := hP
      have hD : va_D A [(q_t, .inr (0, [.ref q_t_arguments, .int t_operation, .int t_many, .int t_failed, .int t_chosen, .int t_kind_27, .long t_content_27]))] := hD
      obtain ⟨rfl, rfl, rfl⟩ := ij3 hm
      subst hQ
      exact W.vret hx hb hr (fun t ht hW => ⟨⟨(), rfl, trivial, by rw [ht]; exact hP, va_K.moved hW.alike hK, hD⟩, hS.F ht⟩) hS.2.2 dX0_giveNumber_30
    · rw [if_neg h13] at hm
      refine lv_aload_n hx hb dX0_giveNumber_16 rfl (lv_at hl 0 rfl) ?_
      refine lv_iconst (v := 1) hx hb dX0_giveNumber_17 (by decide) ?_
      refine va_put (D := (dC, dI)) (ci := 0) (v := .int 1) (ty := .boolean) (C := RX0) (T := TX0) (N := 7) hx hb hts hn0 tyX0 tyX0_ok nmX0 hown hK hP hD hS 0 rfl rfl 3 (by decide) (htw _ aw_124) (fun _ h9 => h9) rfl (by decide +kernel) rfl rfl (Nat.le_of_ble_eq_true rfl) dX0_giveNumber_18 (fun H locs hP hD hS => ?_)
      have hP : va_P (dC, dI) vwCl [(q_t, .inr (0, [.ref q_t_arguments, .int t_operation, .int t_many, .int 1, .int t_chosen, .int t_kind, .long t_content]))] H := hP
      have hD : va_D A [(q_t, .inr (0, [.ref q_t_arguments, .int t_operation, .int t_many, .int 1, .int t_chosen, .int t_kind, .long t_content]))] := hD
      refine lv_goto hx hb dX0_giveNumber_21 rfl ?_
      obtain ⟨rfl, rfl, rfl⟩ := ij3 hm
      subst hQ
      exact W.vret hx hb hr (fun t ht hW => ⟨⟨(), rfl, trivial, by rw [ht]; exact hP, va_K.moved hW.alike hK, hD⟩, hS.F ht⟩) hS.2.2 dX0_giveNumber_30
def M_Deed_giveTruth_11 (t_kind : Int32) (t_content : Int64) (z1 : Int32) (z2 : Int64) : Option (Int32 × Int64) :=
  c2 (M_Deed_give t_kind t_content z1 z2) (fun t_kind_11 t_content_11 =>
    some (t_kind_11, t_content_11))
def M_Deed_giveTruth (t_kind : Int32) (t_content : Int64) (x1 : Int32) : Option (Int32 × Int64) :=
  (if x1 = 0 then
    M_Deed_giveTruth_11 t_kind t_content 1 0
  else
    M_Deed_giveTruth_11 t_kind t_content 1 1)
set_option maxHeartbeats 4000000 in
set_option maxRecDepth 100000 in
theorem c_Deed_giveTruth (l : Launch) (dC : Nat → ClassId) (dI : Nat → Nat → Nat) (cI cL : ClassId) (sz : Nat) (q_t q_t_arguments : Nat) (t_operation t_many t_failed t_chosen t_kind : Int32) (t_content : Int64) (x1 u_t_kind : Int32) (u_t_content : Int64) (hm : M_Deed_giveTruth t_kind t_content x1 = some (u_t_kind, u_t_content)) : Met l yX0_giveTruth wsX0_giveTruth ({ frames := 1, cells := 0, slots := 0, locals := 23 }) (frPc (dC, dI) vwCl [(cI, .int), (cL, .long)] [(q_t, .inr (0, [.ref q_t_arguments, .int t_operation, .int t_many, .int t_failed, .int t_chosen, .int t_kind, .long t_content]))] sz [.ref q_t, .int x1]) (va_Qv (fun (_ : Unit) => True) (frB (dC, dI) vwCl [(cI, .int), (cL, .long)] (va_A [(q_t, .inr (0, [.ref q_t_arguments, .int t_operation, .int t_many, .int t_failed, .int t_chosen, .int t_kind, .long t_content]))] sz) [(q_t, .inr (0, [.ref q_t_arguments, .int t_operation, .int t_many, .int t_failed, .int t_chosen, .int u_t_kind, .long u_t_content]))]) (va_A [(q_t, .inr (0, [.ref q_t_arguments, .int t_operation, .int t_many, .int t_failed, .int t_chosen, .int t_kind, .long t_content]))] sz)) 0 0 (va_A [(q_t, .inr (0, [.ref q_t_arguments, .int t_operation, .int t_many, .int t_failed, .int t_chosen, .int t_kind, .long t_content]))] sz) := by
  refine Met.ofW (cc := cX0_giveTruth) (maxL := 2) (ret := none) (by decide) rfl ?_
  intro p e s m args below meth c s₁ B hml hv
  obtain ⟨rfl, hsz, hP, hK, hD0, hZ⟩ := hv
  have hx := B.exec
  have hb := B.bytes
  have hr := B.returns
  have hts := atoms_spec (ws := wsX0_giveTruth) B.pre
  have hown : s.vm.findClass RX0 = some m.cls := findClass_of_methodNamed B.named
  have hlocks := B.notSynchronized
  subst hsz
  have hD := hD0.self (sz := s.heap.size)
  generalize hAe : va_A [(q_t, .inr (0, [.ref q_t_arguments, .int t_operation, .int t_many, .int t_failed, .int t_chosen, .int t_kind, .long t_content]))] s.heap.size = A at hD hZ ⊢
  have hA : ∀ q : Nat, s.heap.size ≤ q → A q := fun q h => by rw [← hAe]; exact Or.inr h
  have hS : va_S A s.heap s.heap [] := va_S.rf
  have hP : va_P (dC, dI) vwCl [(q_t, .inr (0, [.ref q_t_arguments, .int t_operation, .int t_many, .int t_failed, .int t_chosen, .int t_kind, .long t_content]))] s.heap := hP
  have hl := lv_entry ([.ref q_t, .int x1]) (n := 2) (Nat.le_of_ble_eq_true rfl)
  rw [lg_entry_eq]
  generalize (lg_sl ([.ref q_t, .int x1]) ++ List.replicate (2 - (lg_sl ([.ref q_t, .int x1])).length) Slot.unset).toArray = ls at hl ⊢
  have hl : lv_has ls 2 [(0, .ref q_t), (1, .int x1)] := hl
  refine wq hP hS (fun Q hQ H locs hP hS => ?_)
  have htw : ∀ w ∈ AW, w.before _ s = true := fun w h => hts w (List.mem_cons_of_mem _ h)
  have L11 : ∀ (t_kind : Int32) (t_content : Int64) (z1 : Int32) (z2 : Int64) (ls : Array Slot) (H : Heap) (locs : List Loc), M_Deed_giveTruth_11 t_kind t_content z1 z2 = some (u_t_kind, u_t_content) → lv_has ls 2 [] → va_P (dC, dI) vwCl [(q_t, .inr (0, [.ref q_t_arguments, .int t_operation, .int t_many, .int t_failed, .int t_chosen, .int t_kind, .long t_content]))] H → va_D A [(q_t, .inr (0, [.ref q_t_arguments, .int t_operation, .int t_many, .int t_failed, .int t_chosen, .int t_kind, .long t_content]))] → va_S A s.heap H locs → W p l e ({ frames := 1, cells := 0, slots := 0, locals := 23 }) s m [.ref q_t, .int x1].toArray below meth c H locs 0 0 Q (F0 m 11 ls [.long z2, .int z1, .ref q_t]) := by
    intro t_kind t_content z1 z2 ls H locs hm hl hP hD hS
    rw [M_Deed_giveTruth_11] at hm
    obtain ⟨t_kind_11, t_content_11, e11, hm⟩ := c2_inv hm
    refine fr_v (wr := []) (w2 := [(q_t, .inr (0, [.ref q_t_arguments, .int t_operation, .int t_many, .int t_failed, .int t_chosen, .int t_kind_11, .long t_content_11]))]) (va_runV (As := [.int z1, .long z2]) (rest := []) ⟨hx, hb, hml, hown, hts⟩ (c_Deed_give l dC dI cI cL H.size q_t q_t_arguments t_operation t_many t_failed t_chosen t_kind t_content z1 z2 t_kind_11 t_content_11 e11) (kV 2 hts aw_598 rfl rfl aw_6 aw_595 aw_597 as_13 (by decide +kernel) ⟨Nat.le_of_ble_eq_true rfl, Nat.le_of_ble_eq_true rfl⟩) (fr_preV hK hP hD hS hA hZ [0] rfl rfl (ci := 0) (q0 := 0) rfl rfl) rfl rfl hl.1 rfl (lv_room (Nat.le_of_ble_eq_true rfl)) dX0_giveTruth_11 ⟨Nat.le_of_ble_eq_true rfl, Nat.le_of_ble_eq_true rfl⟩) hP hD hS hA [0] [] [0] rfl rfl rfl (by decide) rfl rfl (fun H locs hP hD hS => ?_)
    have hP : va_P (dC, dI) vwCl [(q_t, .inr (0, [.ref q_t_arguments, .int t_operation, .int t_many, .int t_failed, .int t_chosen, .int t_kind_11, .long t_content_11]))] H := hP
    have hD : va_D A [(q_t, .inr (0, [.ref q_t_arguments, .int t_operation, .int t_many, .int t_failed, .int t_chosen, .int t_kind_11, .long t_content_11]))] := hD
    obtain ⟨rfl, rfl⟩ := ij2 hm
    subst hQ
    exact W.vret hx hb hr (fun t ht hW => ⟨⟨(), rfl, trivial, by rw [ht]; exact hP, va_K.moved hW.alike hK, hD⟩, hS.F ht⟩) hS.2.2 dX0_giveTruth_14
  rw [M_Deed_giveTruth] at hm
  refine lv_aload_n hx hb dX0_giveTruth_0 rfl (lv_at hl 0 rfl) ?_
  refine lv_iconst (v := 1) hx hb dX0_giveTruth_1 (by decide) ?_
  refine lv_iload_n hx hb dX0_giveTruth_2 rfl (lv_at hl 1 rfl) ?_
  refine lv_if_eq hx hb dX0_giveTruth_3 rfl (fun h3 => ?_) (fun h3 => ?_)
  · rw [if_pos h3] at hm
    refine lv_lconst (v := 0) hx hb dX0_giveTruth_10 (by decide) ?_
    exact L11 _ _ _ _ _ _ _ hm (lv_sub hl [] rfl) hP hD hS
  · rw [if_neg h3] at hm
    refine lv_lconst (v := 1) hx hb dX0_giveTruth_6 (by decide) ?_
    refine lv_goto hx hb dX0_giveTruth_7 rfl ?_
    exact L11 _ _ _ _ _ _ _ hm (lv_sub hl [] rfl) hP hD hS
def M_Deed_workBytes_139 (t_operation : Int32) (t_failed : Int32) (t_kind : Int32) (t_content : Int64) (z1 : Int32) : Option (Int32 × Int32 × Int64) :=
  c2 (M_Deed_giveTruth t_kind t_content z1) (fun t_kind_139 t_content_139 =>
    some (t_failed, t_kind_139, t_content_139))
def M_Deed_workBytes (t_operation : Int32) (t_failed : Int32) (t_kind : Int32) (t_content : Int64) (x1 : Int64) (x3 : Int64) : Option (Int32 × Int32 × Int64) :=
  c1 (M_Packed_length x1) (fun r1 =>
    (if t_operation = 7 then
      c1 (M_Packed_length x3) (fun r47 =>
        (if (r1 + r47) ≤ 7 then
          c1 (M_Packed_joined x1 x3) (fun r68 =>
            c2 (M_Deed_give t_kind t_content (3 : Int32) r68) (fun t_kind_71 t_content_71 =>
              some (t_failed, t_kind_71, t_content_71)))
        else
          some (1, t_kind, t_content)))
    else
      (if t_operation = 8 then
        c2 (M_Deed_give t_kind t_content (0 : Int32) r1.toInt64) (fun t_kind_82 t_content_82 =>
          some (t_failed, t_kind_82, t_content_82))
      else
        (if t_operation = 9 then
          (if (lg_cmp x3 0) < 0 then
            some (1, t_kind, t_content)
          else
            (if (lg_cmp x3 r1.toInt64) < 0 then
              c1 (M_Packed_byteAt x1 r1 x3.toInt32) (fun r117 =>
                c2 (M_Deed_give t_kind t_content (0 : Int32) r117.toInt64) (fun t_kind_121 t_content_121 =>
                  some (t_failed, t_kind_121, t_content_121)))
            else
              some (1, t_kind, t_content)))
        else
          (if t_operation = 10 then
            some (t_failed, t_kind, t_content)
          else
            (if t_operation = 11 then
              (if (lg_cmp x1 x3) = 0 then
                M_Deed_workBytes_139 t_operation t_failed t_kind t_content 1
              else
                M_Deed_workBytes_139 t_operation t_failed t_kind t_content 0)
            else
              some (t_failed, t_kind, t_content)))))))
set_option maxHeartbeats 4000000 in
set_option maxRecDepth 100000 in
theorem c_Deed_workBytes (l : Launch) (dC : Nat → ClassId) (dI : Nat → Nat → Nat) (cI cL : ClassId) (sz : Nat) (q_t q_t_arguments : Nat) (t_operation t_many t_failed t_chosen t_kind : Int32) (t_content x1 x3 : Int64) (u_t_failed u_t_kind : Int32) (u_t_content : Int64) (hm : M_Deed_workBytes t_operation t_failed t_kind t_content x1 x3 = some (u_t_failed, u_t_kind, u_t_content)) : Met l yX0_workBytes wsX0_workBytes ({ frames := 2, cells := 0, slots := 0, locals := 48 }) (frPc (dC, dI) vwCl [(cI, .int), (cL, .long)] [(q_t, .inr (0, [.ref q_t_arguments, .int t_operation, .int t_many, .int t_failed, .int t_chosen, .int t_kind, .long t_content]))] sz [.ref q_t, .long x1, .long x3]) (va_Qv (fun (_ : Unit) => True) (frB (dC, dI) vwCl [(cI, .int), (cL, .long)] (va_A [(q_t, .inr (0, [.ref q_t_arguments, .int t_operation, .int t_many, .int t_failed, .int t_chosen, .int t_kind, .long t_content]))] sz) [(q_t, .inr (0, [.ref q_t_arguments, .int t_operation, .int t_many, .int u_t_failed, .int t_chosen, .int u_t_kind, .long u_t_content]))]) (va_A [(q_t, .inr (0, [.ref q_t_arguments, .int t_operation, .int t_many, .int t_failed, .int t_chosen, .int t_kind, .long t_content]))] sz)) 0 0 (va_A [(q_t, .inr (0, [.ref q_t_arguments, .int t_operation, .int t_many, .int t_failed, .int t_chosen, .int t_kind, .long t_content]))] sz) := by
  refine Met.ofW (cc := cX0_workBytes) (maxL := 6) (ret := none) (by decide) rfl ?_
  intro p e s m args below meth c s₁ B hml hv
  obtain ⟨rfl, hsz, hP, hK, hD0, hZ⟩ := hv
  have hx := B.exec
  have hb := B.bytes
  have hr := B.returns
  have hts := atoms_spec (ws := wsX0_workBytes) B.pre
  have hown : s.vm.findClass RX0 = some m.cls := findClass_of_methodNamed B.named
  have hlocks := B.notSynchronized
  subst hsz
  have hD := hD0.self (sz := s.heap.size)
  generalize hAe : va_A [(q_t, .inr (0, [.ref q_t_arguments, .int t_operation, .int t_many, .int t_failed, .int t_chosen, .int t_kind, .long t_content]))] s.heap.size = A at hD hZ ⊢
  have hA : ∀ q : Nat, s.heap.size ≤ q → A q := fun q h => by rw [← hAe]; exact Or.inr h
  have hS : va_S A s.heap s.heap [] := va_S.rf
  have hP : va_P (dC, dI) vwCl [(q_t, .inr (0, [.ref q_t_arguments, .int t_operation, .int t_many, .int t_failed, .int t_chosen, .int t_kind, .long t_content]))] s.heap := hP
  have hl := lv_entry ([.ref q_t, .long x1, .long x3]) (n := 6) (Nat.le_of_ble_eq_true rfl)
  rw [lg_entry_eq]
  generalize (lg_sl ([.ref q_t, .long x1, .long x3]) ++ List.replicate (6 - (lg_sl ([.ref q_t, .long x1, .long x3])).length) Slot.unset).toArray = ls at hl ⊢
  have hl : lv_has ls 6 [(0, .ref q_t), (1, .long x1), (3, .long x3)] := hl
  refine wq hP hS (fun Q hQ H locs hP hS => ?_)
  have htw : ∀ w ∈ AW, w.before _ s = true := fun w h => hts w (List.mem_cons_of_mem _ h)
  have hn0 : ∀ w ∈ wsX00, w ∈ wsX0_workBytes := fun w h => List.mem_cons_of_mem _ (inX0 w h)
  have L139 : ∀ (t_failed t_kind : Int32) (t_content : Int64) (z1 : Int32) (ls : Array Slot) (H : Heap) (locs : List Loc), M_Deed_workBytes_139 t_operation t_failed t_kind t_content z1 = some (u_t_failed, u_t_kind, u_t_content) → lv_has ls 6 [] → va_P (dC, dI) vwCl [(q_t, .inr (0, [.ref q_t_arguments, .int t_operation, .int t_many, .int t_failed, .int t_chosen, .int t_kind, .long t_content]))] H → va_D A [(q_t, .inr (0, [.ref q_t_arguments, .int t_operation, .int t_many, .int t_failed, .int t_chosen, .int t_kind, .long t_content]))] → va_S A s.heap H locs → W p l e ({ frames := 2, cells := 0, slots := 0, locals := 48 }) s m [.ref q_t, .long x1, .long x3].toArray below meth c H locs 0 0 Q (F0 m 139 ls [.int z1, .ref q_t]) := by
    intro t_failed t_kind t_content z1 ls H locs hm hl hP hD hS
    rw [M_Deed_workBytes_139] at hm
    obtain ⟨t_kind_139, t_content_139, e139, hm⟩ := c2_inv hm
    refine fr_v (wr := []) (w2 := [(q_t, .inr (0, [.ref q_t_arguments, .int t_operation, .int t_many, .int t_failed, .int t_chosen, .int t_kind_139, .long t_content_139]))]) (va_runV (As := [.int z1]) (rest := []) ⟨hx, hb, hml, hown, hts⟩ (c_Deed_giveTruth l dC dI cI cL H.size q_t q_t_arguments t_operation t_many t_failed t_chosen t_kind t_content z1 t_kind_139 t_content_139 e139) (kV 1 hts aw_605 rfl rfl aw_6 aw_602 aw_604 as_14 (by decide +kernel) ⟨Nat.le_of_ble_eq_true rfl, Nat.le_of_ble_eq_true rfl⟩) (fr_preV hK hP hD hS hA hZ [0] rfl rfl (ci := 0) (q0 := 0) rfl rfl) rfl rfl hl.1 rfl (lv_room (Nat.le_of_ble_eq_true rfl)) dX0_workBytes_139 ⟨Nat.le_of_ble_eq_true rfl, Nat.le_of_ble_eq_true rfl⟩) hP hD hS hA [0] [] [0] rfl rfl rfl (by decide) rfl rfl (fun H locs hP hD hS => ?_)
    have hP : va_P (dC, dI) vwCl [(q_t, .inr (0, [.ref q_t_arguments, .int t_operation, .int t_many, .int t_failed, .int t_chosen, .int t_kind_139, .long t_content_139]))] H := hP
    have hD : va_D A [(q_t, .inr (0, [.ref q_t_arguments, .int t_operation, .int t_many, .int t_failed, .int t_chosen, .int t_kind_139, .long t_content_139]))] := hD
    refine lv_goto hx hb dX0_workBytes_142 rfl ?_
    obtain ⟨rfl, rfl, rfl⟩ := ij3 hm
    subst hQ
    exact W.vret hx hb hr (fun t ht hW => ⟨⟨(), rfl, trivial, by rw [ht]; exact hP, va_K.moved hW.alike hK, hD⟩, hS.F ht⟩) hS.2.2 dX0_workBytes_145
  rw [M_Deed_workBytes] at hm
  refine lv_lload_n hx hb dX0_workBytes_0 rfl (lv_at hl 1 rfl) ?_
  obtain ⟨r1, e1, hm⟩ := c1_inv hm
  refine fr_i (wr := [(q_t, .inr (0, [.ref q_t_arguments, .int t_operation, .int t_many, .int t_failed, .int t_chosen, .int t_kind, .long t_content]))]) (w2 := [(q_t, .inr (0, [.ref q_t_arguments, .int t_operation, .int t_many, .int t_failed, .int t_chosen, .int t_kind, .long t_content]))]) (va_runS (As := [.long x1]) (rest := []) ⟨hx, hb, hml, hown, hts⟩ (c_Packed_length l dC dI cI cL H.size x1 r1 e1) (kS 1 hts aw_528 rfl rfl aw_15 aw_526 aw_527 (by decide +kernel) ⟨Nat.le_of_ble_eq_true rfl, Nat.le_of_ble_eq_true rfl⟩) (fr_preS hK hP hD hS hA hZ [] rfl rfl) rfl rfl hl.1 rfl (lv_room (Nat.le_of_ble_eq_true rfl)) dX0_workBytes_1 ⟨Nat.le_of_ble_eq_true rfl, Nat.le_of_ble_eq_true rfl⟩) hP hD hS hA [] [0] [0] rfl rfl rfl (by decide) rfl rfl (fun H locs hP hD hS => ?_)
  have hP : va_P (dC, dI) vwCl [(q_t, .inr (0, [.ref q_t_arguments, .int t_operation, .int t_many, .int t_failed, .int t_chosen, .int t_kind, .long t_content]))] H := hP
  have hD : va_D A [(q_t, .inr (0, [.ref q_t_arguments, .int t_operation, .int t_many, .int t_failed, .int t_chosen, .int t_kind, .long t_content]))] := hD
  refine lv_istore (lv' := [(5, .int r1), (0, .ref q_t), (1, .long x1), (3, .long x3)]) hx hb dX0_workBytes_4 hl (by decide) rfl (fun ls hl => ?_)
  refine lv_aload_n hx hb dX0_workBytes_6 rfl (lv_at hl 1 rfl) ?_
  refine va_get (D := (dC, dI)) (ci := 0) (v := .int t_operation) (C := RX0) (T := TX0) (N := 7) hx hb hts hn0 hown hK hP 0 rfl rfl 1 (by decide) (htw _ aw_122) (fun _ h9 => h9) rfl dX0_workBytes_7 ?_
  by_cases h10_0 : t_operation = 7
  · rw [if_pos h10_0] at hm
    refine lv_tableIn hx hb dX0_workBytes_10 (by rw [h10_0]; decide) (by rw [h10_0]; decide) (by rw [h10_0]; rfl) rfl ?_
    refine lv_iload hx hb dX0_workBytes_44 (lv_at hl 0 rfl) ?_
    refine lv_lload_n hx hb dX0_workBytes_46 rfl (lv_at hl 3 rfl) ?_
    obtain ⟨r47, e47, hm⟩ := c1_inv hm
    refine fr_i (wr := [(q_t, .inr (0, [.ref q_t_arguments, .int t_operation, .int t_many, .int t_failed, .int t_chosen, .int t_kind, .long t_content]))]) (w2 := [(q_t, .inr (0, [.ref q_t_arguments, .int t_operation, .int t_many, .int t_failed, .int t_chosen, .int t_kind, .long t_content]))]) (va_runS (As := [.long x3]) (rest := [.int r1]) ⟨hx, hb, hml, hown, hts⟩ (c_Packed_length l dC dI cI cL H.size x3 r47 e47) (kS 1 hts aw_528 rfl rfl aw_15 aw_526 aw_527 (by decide +kernel) ⟨Nat.le_of_ble_eq_true rfl, Nat.le_of_ble_eq_true rfl⟩) (fr_preS hK hP hD hS hA hZ [] rfl rfl) rfl rfl hl.1 rfl (lv_room (Nat.le_of_ble_eq_true rfl)) dX0_workBytes_47 ⟨Nat.le_of_ble_eq_true rfl, Nat.le_of_ble_eq_true rfl⟩) hP hD hS hA [] [0] [0] rfl rfl rfl (by decide) rfl rfl (fun H locs hP hD hS => ?_)
    have hP : va_P (dC, dI) vwCl [(q_t, .inr (0, [.ref q_t_arguments, .int t_operation, .int t_many, .int t_failed, .int t_chosen, .int t_kind, .long t_content]))] H := hP
    have hD : va_D A [(q_t, .inr (0, [.ref q_t_arguments, .int t_operation, .int t_many, .int t_failed, .int t_chosen, .int t_kind, .long t_content]))] := hD
    refine lv_iadd hx hb dX0_workBytes_50 ?_
    refine lv_bipush (v := 7) hx hb dX0_workBytes_51 (by decide) ?_
    refine lv_icmp_le hx hb dX0_workBytes_53 rfl (fun h53 => ?_) (fun h53 => ?_)
    · rw [if_pos h53] at hm
      refine lv_aload_n hx hb dX0_workBytes_64 rfl (lv_at hl 1 rfl) ?_
      refine lv_iconst (v := 3) hx hb dX0_workBytes_65 (by decide) ?_
      refine lv_lload_n hx hb dX0_workBytes_66 rfl (lv_at hl 2 rfl) ?_
      refine lv_lload_n hx hb dX0_workBytes_67 rfl (lv_at hl 3 rfl) ?_
      obtain ⟨r68, e68, hm⟩ := c1_inv hm
      refine fr_l (wr := [(q_t, .inr (0, [.ref q_t_arguments, .int t_operation, .int t_many, .int t_failed, .int t_chosen, .int t_kind, .long t_content]))]) (w2 := [(q_t, .inr (0, [.ref q_t_arguments, .int t_operation, .int t_many, .int t_failed, .int t_chosen, .int t_kind, .long t_content]))]) (va_runS (As := [.long x1, .long x3]) (rest := [.int 3, .ref q_t]) ⟨hx, hb, hml, hown, hts⟩ (c_Packed_joined l dC dI cI cL H.size x1 x3 r68 e68) (kS 2 hts aw_591 rfl rfl aw_15 aw_589 aw_590 (by decide +kernel) ⟨Nat.le_of_ble_eq_true rfl, Nat.le_of_ble_eq_true rfl⟩) (fr_preS hK hP hD hS hA hZ [] rfl rfl) rfl rfl hl.1 rfl (lv_room (Nat.le_of_ble_eq_true rfl)) dX0_workBytes_68 ⟨Nat.le_of_ble_eq_true rfl, Nat.le_of_ble_eq_true rfl⟩) hP hD hS hA [] [0] [0] rfl rfl rfl (by decide) rfl rfl (fun H locs hP hD hS => ?_)
      have hP : va_P (dC, dI) vwCl [(q_t, .inr (0, [.ref q_t_arguments, .int t_operation, .int t_many, .int t_failed, .int t_chosen, .int t_kind, .long t_content]))] H := hP
      have hD : va_D A [(q_t, .inr (0, [.ref q_t_arguments, .int t_operation, .int t_many, .int t_failed, .int t_chosen, .int t_kind, .long t_content]))] := hD
      obtain ⟨t_kind_71, t_content_71, e71, hm⟩ := c2_inv hm
      refine fr_v (wr := []) (w2 := [(q_t, .inr (0, [.ref q_t_arguments, .int t_operation, .int t_many, .int t_failed, .int t_chosen, .int t_kind_71, .long t_content_71]))]) (va_runV (As := [.int 3, .long r68]) (rest := []) ⟨hx, hb, hml, hown, hts⟩ (c_Deed_give l dC dI cI cL H.size q_t q_t_arguments t_operation t_many t_failed t_chosen t_kind t_content (3 : Int32) r68 t_kind_71 t_content_71 e71) (kV 2 hts aw_598 rfl rfl aw_6 aw_595 aw_597 as_13 (by decide +kernel) ⟨Nat.le_of_ble_eq_true rfl, Nat.le_of_ble_eq_true rfl⟩) (fr_preV hK hP hD hS hA hZ [0] rfl rfl (ci := 0) (q0 := 0) rfl rfl) rfl rfl hl.1 rfl (lv_room (Nat.le_of_ble_eq_true rfl)) dX0_workBytes_71 ⟨Nat.le_of_ble_eq_true rfl, Nat.le_of_ble_eq_true rfl⟩) hP hD hS hA [0] [] [0] rfl rfl rfl (by decide) rfl rfl (fun H locs hP hD hS => ?_)
      have hP : va_P (dC, dI) vwCl [(q_t, .inr (0, [.ref q_t_arguments, .int t_operation, .int t_many, .int t_failed, .int t_chosen, .int t_kind_71, .long t_content_71]))] H := hP
      have hD : va_D A [(q_t, .inr (0, [.ref q_t_arguments, .int t_operation, .int t_many, .int t_failed, .int t_chosen, .int t_kind_71, .long t_content_71]))] := hD
      refine lv_goto hx hb dX0_workBytes_74 rfl ?_
      obtain ⟨rfl, rfl, rfl⟩ := ij3 hm
      subst hQ
      exact W.vret hx hb hr (fun t ht hW => ⟨⟨(), rfl, trivial, by rw [ht]; exact hP, va_K.moved hW.alike hK, hD⟩, hS.F ht⟩) hS.2.2 dX0_workBytes_145
    · rw [if_neg h53] at hm
      refine lv_aload_n hx hb dX0_workBytes_56 rfl (lv_at hl 1 rfl) ?_
      refine lv_iconst (v := 1) hx hb dX0_workBytes_57 (by decide) ?_
      refine va_put (D := (dC, dI)) (ci := 0) (v := .int 1) (ty := .boolean) (C := RX0) (T := TX0) (N := 7) hx hb hts hn0 tyX0 tyX0_ok nmX0 hown hK hP hD hS 0 rfl rfl 3 (by decide) (htw _ aw_124) (fun _ h9 => h9) rfl (by decide +kernel) rfl rfl (Nat.le_of_ble_eq_true rfl) dX0_workBytes_58 (fun H locs hP hD hS => ?_)
      have hP : va_P (dC, dI) vwCl [(q_t, .inr (0, [.ref q_t_arguments, .int t_operation, .int t_many, .int 1, .int t_chosen, .int t_kind, .long t_content]))] H := hP
      have hD : va_D A [(q_t, .inr (0, [.ref q_t_arguments, .int t_operation, .int t_many, .int 1, .int t_chosen, .int t_kind, .long t_content]))] := hD
      refine lv_goto hx hb dX0_workBytes_61 rfl ?_
      obtain ⟨rfl, rfl, rfl⟩ := ij3 hm
      subst hQ
      exact W.vret hx hb hr (fun t ht hW => ⟨⟨(), rfl, trivial, by rw [ht]; exact hP, va_K.moved hW.alike hK, hD⟩, hS.F ht⟩) hS.2.2 dX0_workBytes_145
  · rw [if_neg h10_0] at hm
    by_cases h10_1 : t_operation = 8
    · rw [if_pos h10_1] at hm
      refine lv_tableIn hx hb dX0_workBytes_10 (by rw [h10_1]; decide) (by rw [h10_1]; decide) (by rw [h10_1]; rfl) rfl ?_
      refine lv_aload_n hx hb dX0_workBytes_77 rfl (lv_at hl 1 rfl) ?_
      refine lv_iconst (v := 0) hx hb dX0_workBytes_78 (by decide) ?_
      refine lv_iload hx hb dX0_workBytes_79 (lv_at hl 0 rfl) ?_
      refine lv_i2l (v := r1.toInt64) hx hb dX0_workBytes_81 rfl ?_
      obtain ⟨t_kind_82, t_content_82, e82, hm⟩ := c2_inv hm
      refine fr_v (wr := []) (w2 := [(q_t, .inr (0, [.ref q_t_arguments, .int t_operation, .int t_many, .int t_failed, .int t_chosen, .int t_kind_82, .long t_content_82]))]) (va_runV (As := [.int 0, .long r1.toInt64]) (rest := []) ⟨hx, hb, hml, hown, hts⟩ (c_Deed_give l dC dI cI cL H.size q_t q_t_arguments t_operation t_many t_failed t_chosen t_kind t_content (0 : Int32) r1.toInt64 t_kind_82 t_content_82 e82) (kV 2 hts aw_598 rfl rfl aw_6 aw_595 aw_597 as_13 (by decide +kernel) ⟨Nat.le_of_ble_eq_true rfl, Nat.le_of_ble_eq_true rfl⟩) (fr_preV hK hP hD hS hA hZ [0] rfl rfl (ci := 0) (q0 := 0) rfl rfl) rfl rfl hl.1 rfl (lv_room (Nat.le_of_ble_eq_true rfl)) dX0_workBytes_82 ⟨Nat.le_of_ble_eq_true rfl, Nat.le_of_ble_eq_true rfl⟩) hP hD hS hA [0] [] [0] rfl rfl rfl (by decide) rfl rfl (fun H locs hP hD hS => ?_)
      have hP : va_P (dC, dI) vwCl [(q_t, .inr (0, [.ref q_t_arguments, .int t_operation, .int t_many, .int t_failed, .int t_chosen, .int t_kind_82, .long t_content_82]))] H := hP
      have hD : va_D A [(q_t, .inr (0, [.ref q_t_arguments, .int t_operation, .int t_many, .int t_failed, .int t_chosen, .int t_kind_82, .long t_content_82]))] := hD
      refine lv_goto hx hb dX0_workBytes_85 rfl ?_
      obtain ⟨rfl, rfl, rfl⟩ := ij3 hm
      subst hQ
      exact W.vret hx hb hr (fun t ht hW => ⟨⟨(), rfl, trivial, by rw [ht]; exact hP, va_K.moved hW.alike hK, hD⟩, hS.F ht⟩) hS.2.2 dX0_workBytes_145
    · rw [if_neg h10_1] at hm
      by_cases h10_2 : t_operation = 9
      · rw [if_pos h10_2] at hm
        refine lv_tableIn hx hb dX0_workBytes_10 (by rw [h10_2]; decide) (by rw [h10_2]; decide) (by rw [h10_2]; rfl) rfl ?_
        refine lv_lload_n hx hb dX0_workBytes_88 rfl (lv_at hl 3 rfl) ?_
        refine lv_lconst (v := 0) hx hb dX0_workBytes_89 (by decide) ?_
        refine W.lcmp hx hb dX0_workBytes_90 ?_
        refine lv_if_lt hx hb dX0_workBytes_91 rfl (fun h91 => ?_) (fun h91 => ?_)
        · rw [if_pos h91] at hm
          refine lv_aload_n hx hb dX0_workBytes_102 rfl (lv_at hl 1 rfl) ?_
          refine lv_iconst (v := 1) hx hb dX0_workBytes_103 (by decide) ?_
          refine va_put (D := (dC, dI)) (ci := 0) (v := .int 1) (ty := .boolean) (C := RX0) (T := TX0) (N := 7) hx hb hts hn0 tyX0 tyX0_ok nmX0 hown hK hP hD hS 0 rfl rfl 3 (by decide) (htw _ aw_124) (fun _ h9 => h9) rfl (by decide +kernel) rfl rfl (Nat.le_of_ble_eq_true rfl) dX0_workBytes_104 (fun H locs hP hD hS => ?_)
          have hP : va_P (dC, dI) vwCl [(q_t, .inr (0, [.ref q_t_arguments, .int t_operation, .int t_many, .int 1, .int t_chosen, .int t_kind, .long t_content]))] H := hP
          have hD : va_D A [(q_t, .inr (0, [.ref q_t_arguments, .int t_operation, .int t_many, .int 1, .int t_chosen, .int t_kind, .long t_content]))] := hD
          refine lv_goto hx hb dX0_workBytes_107 rfl ?_
          obtain ⟨rfl, rfl, rfl⟩ := ij3 hm
          subst hQ
          exact W.vret hx hb hr (fun t ht hW => ⟨⟨(), rfl, trivial, by rw [ht]; exact hP, va_K.moved hW.alike hK, hD⟩, hS.F ht⟩) hS.2.2 dX0_workBytes_145
        · rw [if_neg h91] at hm
          refine lv_lload_n hx hb dX0_workBytes_94 rfl (lv_at hl 3 rfl) ?_
          refine lv_iload hx hb dX0_workBytes_95 (lv_at hl 0 rfl) ?_
          refine lv_i2l (v := r1.toInt64) hx hb dX0_workBytes_97 rfl ?_
          refine W.lcmp hx hb dX0_workBytes_98 ?_
          refine lv_if_lt hx hb dX0_workBytes_99 rfl (fun h99 => ?_) (fun h99 => ?_)
          · rw [if_pos h99] at hm
            refine lv_aload_n hx hb dX0_workBytes_110 rfl (lv_at hl 1 rfl) ?_
            refine lv_iconst (v := 0) hx hb dX0_workBytes_111 (by decide) ?_
            refine lv_lload_n hx hb dX0_workBytes_112 rfl (lv_at hl 2 rfl) ?_
            refine lv_iload hx hb dX0_workBytes_113 (lv_at hl 0 rfl) ?_
            refine lv_lload_n hx hb dX0_workBytes_115 rfl (lv_at hl 3 rfl) ?_
            refine lv_l2i (v := x3.toInt32) hx hb dX0_workBytes_116 rfl ?_
            obtain ⟨r117, e117, hm⟩ := c1_inv hm
            refine fr_i (wr := [(q_t, .inr (0, [.ref q_t_arguments, .int t_operation, .int t_many, .int t_failed, .int t_chosen, .int t_kind, .long t_content]))]) (w2 := [(q_t, .inr (0, [.ref q_t_arguments, .int t_operation, .int t_many, .int t_failed, .int t_chosen, .int t_kind, .long t_content]))]) (va_runS (As := [.long x1, .int r1, .int x3.toInt32]) (rest := [.int 0, .ref q_t]) ⟨hx, hb, hml, hown, hts⟩ (c_Packed_byteAt l dC dI cI cL H.size x1 r1 x3.toInt32 r117 e117) (kS 3 hts aw_601 rfl rfl aw_15 aw_599 aw_600 (by decide +kernel) ⟨Nat.le_of_ble_eq_true rfl, Nat.le_of_ble_eq_true rfl⟩) (fr_preS hK hP hD hS hA hZ [] rfl rfl) rfl rfl hl.1 rfl (lv_room (Nat.le_of_ble_eq_true rfl)) dX0_workBytes_117 ⟨Nat.le_of_ble_eq_true rfl, Nat.le_of_ble_eq_true rfl⟩) hP hD hS hA [] [0] [0] rfl rfl rfl (by decide) rfl rfl (fun H locs hP hD hS => ?_)
            have hP : va_P (dC, dI) vwCl [(q_t, .inr (0, [.ref q_t_arguments, .int t_operation, .int t_many, .int t_failed, .int t_chosen, .int t_kind, .long t_content]))] H := hP
            have hD : va_D A [(q_t, .inr (0, [.ref q_t_arguments, .int t_operation, .int t_many, .int t_failed, .int t_chosen, .int t_kind, .long t_content]))] := hD
            refine lv_i2l (v := r117.toInt64) hx hb dX0_workBytes_120 rfl ?_
            obtain ⟨t_kind_121, t_content_121, e121, hm⟩ := c2_inv hm
            refine fr_v (wr := []) (w2 := [(q_t, .inr (0, [.ref q_t_arguments, .int t_operation, .int t_many, .int t_failed, .int t_chosen, .int t_kind_121, .long t_content_121]))]) (va_runV (As := [.int 0, .long r117.toInt64]) (rest := []) ⟨hx, hb, hml, hown, hts⟩ (c_Deed_give l dC dI cI cL H.size q_t q_t_arguments t_operation t_many t_failed t_chosen t_kind t_content (0 : Int32) r117.toInt64 t_kind_121 t_content_121 e121) (kV 2 hts aw_598 rfl rfl aw_6 aw_595 aw_597 as_13 (by decide +kernel) ⟨Nat.le_of_ble_eq_true rfl, Nat.le_of_ble_eq_true rfl⟩) (fr_preV hK hP hD hS hA hZ [0] rfl rfl (ci := 0) (q0 := 0) rfl rfl) rfl rfl hl.1 rfl (lv_room (Nat.le_of_ble_eq_true rfl)) dX0_workBytes_121 ⟨Nat.le_of_ble_eq_true rfl, Nat.le_of_ble_eq_true rfl⟩) hP hD hS hA [0] [] [0] rfl rfl rfl (by decide) rfl rfl (fun H locs hP hD hS => ?_)
            have hP : va_P (dC, dI) vwCl [(q_t, .inr (0, [.ref q_t_arguments, .int t_operation, .int t_many, .int t_failed, .int t_chosen, .int t_kind_121, .long t_content_121]))] H := hP
            have hD : va_D A [(q_t, .inr (0, [.ref q_t_arguments, .int t_operation, .int t_many, .int t_failed, .int t_chosen, .int t_kind_121, .long t_content_121]))] := hD
            refine lv_goto hx hb dX0_workBytes_124 rfl ?_
            obtain ⟨rfl, rfl, rfl⟩ := ij3 hm
            subst hQ
            exact W.vret hx hb hr (fun t ht hW => ⟨⟨(), rfl, trivial, by rw [ht]; exact hP, va_K.moved hW.alike hK, hD⟩, hS.F ht⟩) hS.2.2 dX0_workBytes_145
          · rw [if_neg h99] at hm
            refine lv_aload_n hx hb dX0_workBytes_102 rfl (lv_at hl 1 rfl) ?_
            refine lv_iconst (v := 1) hx hb dX0_workBytes_103 (by decide) ?_
            refine va_put (D := (dC, dI)) (ci := 0) (v := .int 1) (ty := .boolean) (C := RX0) (T := TX0) (N := 7) hx hb hts hn0 tyX0 tyX0_ok nmX0 hown hK hP hD hS 0 rfl rfl 3 (by decide) (htw _ aw_124) (fun _ h9 => h9) rfl (by decide +kernel) rfl rfl (Nat.le_of_ble_eq_true rfl) dX0_workBytes_104 (fun H locs hP hD hS => ?_)
            have hP : va_P (dC, dI) vwCl [(q_t, .inr (0, [.ref q_t_arguments, .int t_operation, .int t_many, .int 1, .int t_chosen, .int t_kind, .long t_content]))] H := hP
            have hD : va_D A [(q_t, .inr (0, [.ref q_t_arguments, .int t_operation, .int t_many, .int 1, .int t_chosen, .int t_kind, .long t_content]))] := hD
            refine lv_goto hx hb dX0_workBytes_107 rfl ?_
            obtain ⟨rfl, rfl, rfl⟩ := ij3 hm
            subst hQ
            exact W.vret hx hb hr (fun t ht hW => ⟨⟨(), rfl, trivial, by rw [ht]; exact hP, va_K.moved hW.alike hK, hD⟩, hS.F ht⟩) hS.2.2 dX0_workBytes_145
      · rw [if_neg h10_2] at hm
        by_cases h10_3 : t_operation = 10
        · rw [if_pos h10_3] at hm
          refine lv_tableIn hx hb dX0_workBytes_10 (by rw [h10_3]; decide) (by rw [h10_3]; decide) (by rw [h10_3]; rfl) rfl ?_
          obtain ⟨rfl, rfl, rfl⟩ := ij3 hm
          subst hQ
          exact W.vret hx hb hr (fun t ht hW => ⟨⟨(), rfl, trivial, by rw [ht]; exact hP, va_K.moved hW.alike hK, hD⟩, hS.F ht⟩) hS.2.2 dX0_workBytes_145
        · rw [if_neg h10_3] at hm
          by_cases h10_4 : t_operation = 11
          · rw [if_pos h10_4] at hm
            refine lv_tableIn hx hb dX0_workBytes_10 (by rw [h10_4]; decide) (by rw [h10_4]; decide) (by rw [h10_4]; rfl) rfl ?_
            refine lv_aload_n hx hb dX0_workBytes_127 rfl (lv_at hl 1 rfl) ?_
            refine lv_lload_n hx hb dX0_workBytes_128 rfl (lv_at hl 2 rfl) ?_
            refine lv_lload_n hx hb dX0_workBytes_129 rfl (lv_at hl 3 rfl) ?_
            refine W.lcmp hx hb dX0_workBytes_130 ?_
            refine lv_if_ne hx hb dX0_workBytes_131 rfl (fun h131 => ?_) (fun h131 => ?_)
            · rw [if_neg h131] at hm
              refine lv_iconst (v := 0) hx hb dX0_workBytes_138 (by decide) ?_
              exact L139 _ _ _ _ _ _ _ hm (lv_sub hl [] rfl) hP hD hS
            · rw [if_pos h131] at hm
              refine lv_iconst (v := 1) hx hb dX0_workBytes_134 (by decide) ?_
              refine lv_goto hx hb dX0_workBytes_135 rfl ?_
              exact L139 _ _ _ _ _ _ _ hm (lv_sub hl [] rfl) hP hD hS
          · rw [if_neg h10_4] at hm
            refine lv_tableOut hx hb dX0_workBytes_10 (by have g10_0 := lv_neT h10_0 (show (7 : Int32).toInt = 7 from by decide); have g10_1 := lv_neT h10_1 (show (8 : Int32).toInt = 8 from by decide); have g10_2 := lv_neT h10_2 (show (9 : Int32).toInt = 9 from by decide); have g10_3 := lv_neT h10_3 (show (10 : Int32).toInt = 10 from by decide); have g10_4 := lv_neT h10_4 (show (11 : Int32).toInt = 11 from by decide); omega) rfl ?_
            obtain ⟨rfl, rfl, rfl⟩ := ij3 hm
            subst hQ
            exact W.vret hx hb hr (fun t ht hW => ⟨⟨(), rfl, trivial, by rw [ht]; exact hP, va_K.moved hW.alike hK, hD⟩, hS.F ht⟩) hS.2.2 dX0_workBytes_145
def M_Deed_workNumbers_128 (t_operation : Int32) (t_failed : Int32) (t_kind : Int32) (t_content : Int64) (z1 : Int32) : Option (Int32 × Int32 × Int64) :=
  c2 (M_Deed_giveTruth t_kind t_content z1) (fun t_kind_128 t_content_128 =>
    some (t_failed, t_kind_128, t_content_128))
def M_Deed_workNumbers_110 (t_operation : Int32) (t_failed : Int32) (t_kind : Int32) (t_content : Int64) (z1 : Int32) : Option (Int32 × Int32 × Int64) :=
  c2 (M_Deed_giveTruth t_kind t_content z1) (fun t_kind_110 t_content_110 =>
    some (t_failed, t_kind_110, t_content_110))
def M_Deed_workNumbers (t_operation : Int32) (t_failed : Int32) (t_kind : Int32) (t_content : Int64) (x1 : Int64) (x3 : Int64) : Option (Int32 × Int32 × Int64) :=
  (if t_operation = 0 then
    c3 (M_Deed_giveNumber t_failed t_kind t_content (x1 + x3)) (fun t_failed_48 t_kind_48 t_content_48 =>
      some (t_failed_48, t_kind_48, t_content_48))
  else
    (if t_operation = 1 then
      c3 (M_Deed_giveNumber t_failed t_kind t_content (x1 - x3)) (fun t_failed_58 t_kind_58 t_content_58 =>
        some (t_failed_58, t_kind_58, t_content_58))
    else
      (if t_operation = 2 then
        c3 (M_Deed_giveNumber t_failed t_kind t_content (x1 * x3)) (fun t_failed_68 t_kind_68 t_content_68 =>
          some (t_failed_68, t_kind_68, t_content_68))
      else
        (if t_operation = 3 then
          (if (lg_cmp x3 0) = 0 then
            some (1, t_kind, t_content)
          else
            chk (¬ x3 = 0) (c3 (M_Deed_giveNumber t_failed t_kind t_content (x1 / x3)) (fun t_failed_92 t_kind_92 t_content_92 =>
              some (t_failed_92, t_kind_92, t_content_92))))
        else
          (if t_operation = 4 then
            (if (lg_cmp x1 x3) = 0 then
              M_Deed_workNumbers_110 t_operation t_failed t_kind t_content 1
            else
              M_Deed_workNumbers_110 t_operation t_failed t_kind t_content 0)
          else
            (if t_operation = 5 then
              (if 0 ≤ (lg_cmp x1 x3) then
                M_Deed_workNumbers_128 t_operation t_failed t_kind t_content 0
              else
                M_Deed_workNumbers_128 t_operation t_failed t_kind t_content 1)
            else
              some (t_failed, t_kind, t_content)))))))
set_option maxHeartbeats 4000000 in
set_option maxRecDepth 100000 in
theorem c_Deed_workNumbers (l : Launch) (dC : Nat → ClassId) (dI : Nat → Nat → Nat) (cI cL : ClassId) (sz : Nat) (q_t q_t_arguments : Nat) (t_operation t_many t_failed t_chosen t_kind : Int32) (t_content x1 x3 : Int64) (u_t_failed u_t_kind : Int32) (u_t_content : Int64) (hm : M_Deed_workNumbers t_operation t_failed t_kind t_content x1 x3 = some (u_t_failed, u_t_kind, u_t_content)) : Met l yX0_workNumbers wsX0_workNumbers ({ frames := 2, cells := 0, slots := 0, locals := 45 }) (frPc (dC, dI) vwCl [(cI, .int), (cL, .long)] [(q_t, .inr (0, [.ref q_t_arguments, .int t_operation, .int t_many, .int t_failed, .int t_chosen, .int t_kind, .long t_content]))] sz [.ref q_t, .long x1, .long x3]) (va_Qv (fun (_ : Unit) => True) (frB (dC, dI) vwCl [(cI, .int), (cL, .long)] (va_A [(q_t, .inr (0, [.ref q_t_arguments, .int t_operation, .int t_many, .int t_failed, .int t_chosen, .int t_kind, .long t_content]))] sz) [(q_t, .inr (0, [.ref q_t_arguments, .int t_operation, .int t_many, .int u_t_failed, .int t_chosen, .int u_t_kind, .long u_t_content]))]) (va_A [(q_t, .inr (0, [.ref q_t_arguments, .int t_operation, .int t_many, .int t_failed, .int t_chosen, .int t_kind, .long t_content]))] sz)) 0 0 (va_A [(q_t, .inr (0, [.ref q_t_arguments, .int t_operation, .int t_many, .int t_failed, .int t_chosen, .int t_kind, .long t_content]))] sz) := by
  refine Met.ofW (cc := cX0_workNumbers) (maxL := 5) (ret := none) (by decide) rfl ?_
  intro p e s m args below meth c s₁ B hml hv
  obtain ⟨rfl, hsz, hP, hK, hD0, hZ⟩ := hv
  have hx := B.exec
  have hb := B.bytes
  have hr := B.returns
  have hts := atoms_spec (ws := wsX0_workNumbers) B.pre
  have hown : s.vm.findClass RX0 = some m.cls := findClass_of_methodNamed B.named
  have hlocks := B.notSynchronized
  subst hsz
  have hD := hD0.self (sz := s.heap.size)
  generalize hAe : va_A [(q_t, .inr (0, [.ref q_t_arguments, .int t_operation, .int t_many, .int t_failed, .int t_chosen, .int t_kind, .long t_content]))] s.heap.size = A at hD hZ ⊢
  have hA : ∀ q : Nat, s.heap.size ≤ q → A q := fun q h => by rw [← hAe]; exact Or.inr h
  have hS : va_S A s.heap s.heap [] := va_S.rf
  have hP : va_P (dC, dI) vwCl [(q_t, .inr (0, [.ref q_t_arguments, .int t_operation, .int t_many, .int t_failed, .int t_chosen, .int t_kind, .long t_content]))] s.heap := hP
  have hl := lv_entry ([.ref q_t, .long x1, .long x3]) (n := 5) (Nat.le_of_ble_eq_true rfl)
  rw [lg_entry_eq]
  generalize (lg_sl ([.ref q_t, .long x1, .long x3]) ++ List.replicate (5 - (lg_sl ([.ref q_t, .long x1, .long x3])).length) Slot.unset).toArray = ls at hl ⊢
  have hl : lv_has ls 5 [(0, .ref q_t), (1, .long x1), (3, .long x3)] := hl
  refine wq hP hS (fun Q hQ H locs hP hS => ?_)
  have htw : ∀ w ∈ AW, w.before _ s = true := fun w h => hts w (List.mem_cons_of_mem _ h)
  have hn0 : ∀ w ∈ wsX00, w ∈ wsX0_workNumbers := fun w h => List.mem_cons_of_mem _ (inX0 w h)
  have L128 : ∀ (t_failed t_kind : Int32) (t_content : Int64) (z1 : Int32) (ls : Array Slot) (H : Heap) (locs : List Loc), M_Deed_workNumbers_128 t_operation t_failed t_kind t_content z1 = some (u_t_failed, u_t_kind, u_t_content) → lv_has ls 5 [] → va_P (dC, dI) vwCl [(q_t, .inr (0, [.ref q_t_arguments, .int t_operation, .int t_many, .int t_failed, .int t_chosen, .int t_kind, .long t_content]))] H → va_D A [(q_t, .inr (0, [.ref q_t_arguments, .int t_operation, .int t_many, .int t_failed, .int t_chosen, .int t_kind, .long t_content]))] → va_S A s.heap H locs → W p l e ({ frames := 2, cells := 0, slots := 0, locals := 45 }) s m [.ref q_t, .long x1, .long x3].toArray below meth c H locs 0 0 Q (F0 m 128 ls [.int z1, .ref q_t]) := by
    intro t_failed t_kind t_content z1 ls H locs hm hl hP hD hS
    rw [M_Deed_workNumbers_128] at hm
    obtain ⟨t_kind_128, t_content_128, e128, hm⟩ := c2_inv hm
    refine fr_v (wr := []) (w2 := [(q_t, .inr (0, [.ref q_t_arguments, .int t_operation, .int t_many, .int t_failed, .int t_chosen, .int t_kind_128, .long t_content_128]))]) (va_runV (As := [.int z1]) (rest := []) ⟨hx, hb, hml, hown, hts⟩ (c_Deed_giveTruth l dC dI cI cL H.size q_t q_t_arguments t_operation t_many t_failed t_chosen t_kind t_content z1 t_kind_128 t_content_128 e128) (kV 1 hts aw_605 rfl rfl aw_6 aw_602 aw_604 as_14 (by decide +kernel) ⟨Nat.le_of_ble_eq_true rfl, Nat.le_of_ble_eq_true rfl⟩) (fr_preV hK hP hD hS hA hZ [0] rfl rfl (ci := 0) (q0 := 0) rfl rfl) rfl rfl hl.1 rfl (lv_room (Nat.le_of_ble_eq_true rfl)) dX0_workNumbers_128 ⟨Nat.le_of_ble_eq_true rfl, Nat.le_of_ble_eq_true rfl⟩) hP hD hS hA [0] [] [0] rfl rfl rfl (by decide) rfl rfl (fun H locs hP hD hS => ?_)
    have hP : va_P (dC, dI) vwCl [(q_t, .inr (0, [.ref q_t_arguments, .int t_operation, .int t_many, .int t_failed, .int t_chosen, .int t_kind_128, .long t_content_128]))] H := hP
    have hD : va_D A [(q_t, .inr (0, [.ref q_t_arguments, .int t_operation, .int t_many, .int t_failed, .int t_chosen, .int t_kind_128, .long t_content_128]))] := hD
    refine lv_goto hx hb dX0_workNumbers_131 rfl ?_
    obtain ⟨rfl, rfl, rfl⟩ := ij3 hm
    subst hQ
    exact W.vret hx hb hr (fun t ht hW => ⟨⟨(), rfl, trivial, by rw [ht]; exact hP, va_K.moved hW.alike hK, hD⟩, hS.F ht⟩) hS.2.2 dX0_workNumbers_134
  have L110 : ∀ (t_failed t_kind : Int32) (t_content : Int64) (z1 : Int32) (ls : Array Slot) (H : Heap) (locs : List Loc), M_Deed_workNumbers_110 t_operation t_failed t_kind t_content z1 = some (u_t_failed, u_t_kind, u_t_content) → lv_has ls 5 [] → va_P (dC, dI) vwCl [(q_t, .inr (0, [.ref q_t_arguments, .int t_operation, .int t_many, .int t_failed, .int t_chosen, .int t_kind, .long t_content]))] H → va_D A [(q_t, .inr (0, [.ref q_t_arguments, .int t_operation, .int t_many, .int t_failed, .int t_chosen, .int t_kind, .long t_content]))] → va_S A s.heap H locs → W p l e ({ frames := 2, cells := 0, slots := 0, locals := 45 }) s m [.ref q_t, .long x1, .long x3].toArray below meth c H locs 0 0 Q (F0 m 110 ls [.int z1, .ref q_t]) := by
    intro t_failed t_kind t_content z1 ls H locs hm hl hP hD hS
    rw [M_Deed_workNumbers_110] at hm
    obtain ⟨t_kind_110, t_content_110, e110, hm⟩ := c2_inv hm
    refine fr_v (wr := []) (w2 := [(q_t, .inr (0, [.ref q_t_arguments, .int t_operation, .int t_many, .int t_failed, .int t_chosen, .int t_kind_110, .long t_content_110]))]) (va_runV (As := [.int z1]) (rest := []) ⟨hx, hb, hml, hown, hts⟩ (c_Deed_giveTruth l dC dI cI cL H.size q_t q_t_arguments t_operation t_many t_failed t_chosen t_kind t_content z1 t_kind_110 t_content_110 e110) (kV 1 hts aw_605 rfl rfl aw_6 aw_602 aw_604 as_14 (by decide +kernel) ⟨Nat.le_of_ble_eq_true rfl, Nat.le_of_ble_eq_true rfl⟩) (fr_preV hK hP hD hS hA hZ [0] rfl rfl (ci := 0) (q0 := 0) rfl rfl) rfl rfl hl.1 rfl (lv_room (Nat.le_of_ble_eq_true rfl)) dX0_workNumbers_110 ⟨Nat.le_of_ble_eq_true rfl, Nat.le_of_ble_eq_true rfl⟩) hP hD hS hA [0] [] [0] rfl rfl rfl (by decide) rfl rfl (fun H locs hP hD hS => ?_)
    have hP : va_P (dC, dI) vwCl [(q_t, .inr (0, [.ref q_t_arguments, .int t_operation, .int t_many, .int t_failed, .int t_chosen, .int t_kind_110, .long t_content_110]))] H := hP
    have hD : va_D A [(q_t, .inr (0, [.ref q_t_arguments, .int t_operation, .int t_many, .int t_failed, .int t_chosen, .int t_kind_110, .long t_content_110]))] := hD
    refine lv_goto hx hb dX0_workNumbers_113 rfl ?_
    obtain ⟨rfl, rfl, rfl⟩ := ij3 hm
    subst hQ
    exact W.vret hx hb hr (fun t ht hW => ⟨⟨(), rfl, trivial, by rw [ht]; exact hP, va_K.moved hW.alike hK, hD⟩, hS.F ht⟩) hS.2.2 dX0_workNumbers_134
  rw [M_Deed_workNumbers] at hm
  refine lv_aload_n hx hb dX0_workNumbers_0 rfl (lv_at hl 0 rfl) ?_
  refine va_get (D := (dC, dI)) (ci := 0) (v := .int t_operation) (C := RX0) (T := TX0) (N := 7) hx hb hts hn0 hown hK hP 0 rfl rfl 1 (by decide) (htw _ aw_122) (fun _ h9 => h9) rfl dX0_workNumbers_1 ?_
  by_cases h4_0 : t_operation = 0
  · rw [if_pos h4_0] at hm
    refine lv_tableIn hx hb dX0_workNumbers_4 (by rw [h4_0]; decide) (by rw [h4_0]; decide) (by rw [h4_0]; rfl) rfl ?_
    refine lv_aload_n hx hb dX0_workNumbers_44 rfl (lv_at hl 0 rfl) ?_
    refine lv_lload_n hx hb dX0_workNumbers_45 rfl (lv_at hl 1 rfl) ?_
    refine lv_lload_n hx hb dX0_workNumbers_46 rfl (lv_at hl 2 rfl) ?_
    refine lv_ladd hx hb dX0_workNumbers_47 ?_
    obtain ⟨t_failed_48, t_kind_48, t_content_48, e48, hm⟩ := c3_inv hm
    refine fr_v (wr := []) (w2 := [(q_t, .inr (0, [.ref q_t_arguments, .int t_operation, .int t_many, .int t_failed_48, .int t_chosen, .int t_kind_48, .long t_content_48]))]) (va_runV (As := [.long (x1 + x3)]) (rest := []) ⟨hx, hb, hml, hown, hts⟩ (c_Deed_giveNumber l dC dI cI cL H.size q_t q_t_arguments t_operation t_many t_failed t_chosen t_kind t_content (x1 + x3) t_failed_48 t_kind_48 t_content_48 e48) (kV 1 hts aw_613 rfl rfl aw_6 aw_610 aw_612 as_16 (by decide +kernel) ⟨Nat.le_of_ble_eq_true rfl, Nat.le_of_ble_eq_true rfl⟩) (fr_preV hK hP hD hS hA hZ [0] rfl rfl (ci := 0) (q0 := 0) rfl rfl) rfl rfl hl.1 rfl (lv_room (Nat.le_of_ble_eq_true rfl)) dX0_workNumbers_48 ⟨Nat.le_of_ble_eq_true rfl, Nat.le_of_ble_eq_true rfl⟩) hP hD hS hA [0] [] [0] rfl rfl rfl (by decide) rfl rfl (fun H locs hP hD hS => ?_)
    have hP : va_P (dC, dI) vwCl [(q_t, .inr (0, [.ref q_t_arguments, .int t_operation, .int t_many, .int t_failed_48, .int t_chosen, .int t_kind_48, .long t_content_48]))] H := hP
    have hD : va_D A [(q_t, .inr (0, [.ref q_t_arguments, .int t_operation, .int t_many, .int t_failed_48, .int t_chosen, .int t_kind_48, .long t_content_48]))] := hD
    refine lv_goto hx hb dX0_workNumbers_51 rfl ?_
    obtain ⟨rfl, rfl, rfl⟩ := ij3 hm
    subst hQ
    exact W.vret hx hb hr (fun t ht hW => ⟨⟨(), rfl, trivial, by rw [ht]; exact hP, va_K.moved hW.alike hK, hD⟩, hS.F ht⟩) hS.2.2 dX0_workNumbers_134
  · rw [if_neg h4_0] at hm
    by_cases h4_1 : t_operation = 1
    · rw [if_pos h4_1] at hm
      refine lv_tableIn hx hb dX0_workNumbers_4 (by rw [h4_1]; decide) (by rw [h4_1]; decide) (by rw [h4_1]; rfl) rfl ?_
      refine lv_aload_n hx hb dX0_workNumbers_54 rfl (lv_at hl 0 rfl) ?_
      refine lv_lload_n hx hb dX0_workNumbers_55 rfl (lv_at hl 1 rfl) ?_
      refine lv_lload_n hx hb dX0_workNumbers_56 rfl (lv_at hl 2 rfl) ?_
      refine lv_lsub hx hb dX0_workNumbers_57 ?_
      obtain ⟨t_failed_58, t_kind_58, t_content_58, e58, hm⟩ := c3_inv hm
      refine fr_v (wr := []) (w2 := [(q_t, .inr (0, [.ref q_t_arguments, .int t_operation, .int t_many, .int t_failed_58, .int t_chosen, .int t_kind_58, .long t_content_58]))]) (va_runV (As := [.long (x1 - x3)]) (rest := []) ⟨hx, hb, hml, hown, hts⟩ (c_Deed_giveNumber l dC dI cI cL H.size q_t q_t_arguments t_operation t_many t_failed t_chosen t_kind t_content (x1 - x3) t_failed_58 t_kind_58 t_content_58 e58) (kV 1 hts aw_613 rfl rfl aw_6 aw_610 aw_612 as_16 (by decide +kernel) ⟨Nat.le_of_ble_eq_true rfl, Nat.le_of_ble_eq_true rfl⟩) (fr_preV hK hP hD hS hA hZ [0] rfl rfl (ci := 0) (q0 := 0) rfl rfl) rfl rfl hl.1 rfl (lv_room (Nat.le_of_ble_eq_true rfl)) dX0_workNumbers_58 ⟨Nat.le_of_ble_eq_true rfl, Nat.le_of_ble_eq_true rfl⟩) hP hD hS hA [0] [] [0] rfl rfl rfl (by decide) rfl rfl (fun H locs hP hD hS => ?_)
      have hP : va_P (dC, dI) vwCl [(q_t, .inr (0, [.ref q_t_arguments, .int t_operation, .int t_many, .int t_failed_58, .int t_chosen, .int t_kind_58, .long t_content_58]))] H := hP
      have hD : va_D A [(q_t, .inr (0, [.ref q_t_arguments, .int t_operation, .int t_many, .int t_failed_58, .int t_chosen, .int t_kind_58, .long t_content_58]))] := hD
      refine lv_goto hx hb dX0_workNumbers_61 rfl ?_
      obtain ⟨rfl, rfl, rfl⟩ := ij3 hm
      subst hQ
      exact W.vret hx hb hr (fun t ht hW => ⟨⟨(), rfl, trivial, by rw [ht]; exact hP, va_K.moved hW.alike hK, hD⟩, hS.F ht⟩) hS.2.2 dX0_workNumbers_134
    · rw [if_neg h4_1] at hm
      by_cases h4_2 : t_operation = 2
      · rw [if_pos h4_2] at hm
        refine lv_tableIn hx hb dX0_workNumbers_4 (by rw [h4_2]; decide) (by rw [h4_2]; decide) (by rw [h4_2]; rfl) rfl ?_
        refine lv_aload_n hx hb dX0_workNumbers_64 rfl (lv_at hl 0 rfl) ?_
        refine lv_lload_n hx hb dX0_workNumbers_65 rfl (lv_at hl 1 rfl) ?_
        refine lv_lload_n hx hb dX0_workNumbers_66 rfl (lv_at hl 2 rfl) ?_
        refine lv_lmul hx hb dX0_workNumbers_67 ?_
        obtain ⟨t_failed_68, t_kind_68, t_content_68, e68, hm⟩ := c3_inv hm
        refine fr_v (wr := []) (w2 := [(q_t, .inr (0, [.ref q_t_arguments, .int t_operation, .int t_many, .int t_failed_68, .int t_chosen, .int t_kind_68, .long t_content_68]))]) (va_runV (As := [.long (x1 * x3)]) (rest := []) ⟨hx, hb, hml, hown, hts⟩ (c_Deed_giveNumber l dC dI cI cL H.size q_t q_t_arguments t_operation t_many t_failed t_chosen t_kind t_content (x1 * x3) t_failed_68 t_kind_68 t_content_68 e68) (kV 1 hts aw_613 rfl rfl aw_6 aw_610 aw_612 as_16 (by decide +kernel) ⟨Nat.le_of_ble_eq_true rfl, Nat.le_of_ble_eq_true rfl⟩) (fr_preV hK hP hD hS hA hZ [0] rfl rfl (ci := 0) (q0 := 0) rfl rfl) rfl rfl hl.1 rfl (lv_room (Nat.le_of_ble_eq_true rfl)) dX0_workNumbers_68 ⟨Nat.le_of_ble_eq_true rfl, Nat.le_of_ble_eq_true rfl⟩) hP hD hS hA [0] [] [0] rfl rfl rfl (by decide) rfl rfl (fun H locs hP hD hS => ?_)
        have hP : va_P (dC, dI) vwCl [(q_t, .inr (0, [.ref q_t_arguments, .int t_operation, .int t_many, .int t_failed_68, .int t_chosen, .int t_kind_68, .long t_content_68]))] H := hP
        have hD : va_D A [(q_t, .inr (0, [.ref q_t_arguments, .int t_operation, .int t_many, .int t_failed_68, .int t_chosen, .int t_kind_68, .long t_content_68]))] := hD
        refine lv_goto hx hb dX0_workNumbers_71 rfl ?_
        obtain ⟨rfl, rfl, rfl⟩ := ij3 hm
        subst hQ
        exact W.vret hx hb hr (fun t ht hW => ⟨⟨(), rfl, trivial, by rw [ht]; exact hP, va_K.moved hW.alike hK, hD⟩, hS.F ht⟩) hS.2.2 dX0_workNumbers_134
      · rw [if_neg h4_2] at hm
        by_cases h4_3 : t_operation = 3
        · rw [if_pos h4_3] at hm
          refine lv_tableIn hx hb dX0_workNumbers_4 (by rw [h4_3]; decide) (by rw [h4_3]; decide) (by rw [h4_3]; rfl) rfl ?_
          refine lv_lload_n hx hb dX0_workNumbers_74 rfl (lv_at hl 2 rfl) ?_
          refine lv_lconst (v := 0) hx hb dX0_workNumbers_75 (by decide) ?_
          refine W.lcmp hx hb dX0_workNumbers_76 ?_
          refine lv_if_ne hx hb dX0_workNumbers_77 rfl (fun h77 => ?_) (fun h77 => ?_)
          · rw [if_neg h77] at hm
            refine lv_aload_n hx hb dX0_workNumbers_88 rfl (lv_at hl 0 rfl) ?_
            refine lv_lload_n hx hb dX0_workNumbers_89 rfl (lv_at hl 1 rfl) ?_
            refine lv_lload_n hx hb dX0_workNumbers_90 rfl (lv_at hl 2 rfl) ?_
            obtain ⟨h91, hm⟩ := chk_inv hm
            refine lv_ldiv hx hb dX0_workNumbers_91 h91 ?_
            obtain ⟨t_failed_92, t_kind_92, t_content_92, e92, hm⟩ := c3_inv hm
            refine fr_v (wr := []) (w2 := [(q_t, .inr (0, [.ref q_t_arguments, .int t_operation, .int t_many, .int t_failed_92, .int t_chosen, .int t_kind_92, .long t_content_92]))]) (va_runV (As := [.long (x1 / x3)]) (rest := []) ⟨hx, hb, hml, hown, hts⟩ (c_Deed_giveNumber l dC dI cI cL H.size q_t q_t_arguments t_operation t_many t_failed t_chosen t_kind t_content (x1 / x3) t_failed_92 t_kind_92 t_content_92 e92) (kV 1 hts aw_613 rfl rfl aw_6 aw_610 aw_612 as_16 (by decide +kernel) ⟨Nat.le_of_ble_eq_true rfl, Nat.le_of_ble_eq_true rfl⟩) (fr_preV hK hP hD hS hA hZ [0] rfl rfl (ci := 0) (q0 := 0) rfl rfl) rfl rfl hl.1 rfl (lv_room (Nat.le_of_ble_eq_true rfl)) dX0_workNumbers_92 ⟨Nat.le_of_ble_eq_true rfl, Nat.le_of_ble_eq_true rfl⟩) hP hD hS hA [0] [] [0] rfl rfl rfl (by decide) rfl rfl (fun H locs hP hD hS => ?_)
            have hP : va_P (dC, dI) vwCl [(q_t, .inr (0, [.ref q_t_arguments, .int t_operation, .int t_many, .int t_failed_92, .int t_chosen, .int t_kind_92, .long t_content_92]))] H := hP
            have hD : va_D A [(q_t, .inr (0, [.ref q_t_arguments, .int t_operation, .int t_many, .int t_failed_92, .int t_chosen, .int t_kind_92, .long t_content_92]))] := hD
            refine lv_goto hx hb dX0_workNumbers_95 rfl ?_
            obtain ⟨rfl, rfl, rfl⟩ := ij3 hm
            subst hQ
            exact W.vret hx hb hr (fun t ht hW => ⟨⟨(), rfl, trivial, by rw [ht]; exact hP, va_K.moved hW.alike hK, hD⟩, hS.F ht⟩) hS.2.2 dX0_workNumbers_134
          · rw [if_pos h77] at hm
            refine lv_aload_n hx hb dX0_workNumbers_80 rfl (lv_at hl 0 rfl) ?_
            refine lv_iconst (v := 1) hx hb dX0_workNumbers_81 (by decide) ?_
            refine va_put (D := (dC, dI)) (ci := 0) (v := .int 1) (ty := .boolean) (C := RX0) (T := TX0) (N := 7) hx hb hts hn0 tyX0 tyX0_ok nmX0 hown hK hP hD hS 0 rfl rfl 3 (by decide) (htw _ aw_124) (fun _ h9 => h9) rfl (by decide +kernel) rfl rfl (Nat.le_of_ble_eq_true rfl) dX0_workNumbers_82 (fun H locs hP hD hS => ?_)
            have hP : va_P (dC, dI) vwCl [(q_t, .inr (0, [.ref q_t_arguments, .int t_operation, .int t_many, .int 1, .int t_chosen, .int t_kind, .long t_content]))] H := hP
            have hD : va_D A [(q_t, .inr (0, [.ref q_t_arguments, .int t_operation, .int t_many, .int 1, .int t_chosen, .int t_kind, .long t_content]))] := hD
            refine lv_goto hx hb dX0_workNumbers_85 rfl ?_
            obtain ⟨rfl, rfl, rfl⟩ := ij3 hm
            subst hQ
            exact W.vret hx hb hr (fun t ht hW => ⟨⟨(), rfl, trivial, by rw [ht]; exact hP, va_K.moved hW.alike hK, hD⟩, hS.F ht⟩) hS.2.2 dX0_workNumbers_134
        · rw [if_neg h4_3] at hm
          by_cases h4_4 : t_operation = 4
          · rw [if_pos h4_4] at hm
            refine lv_tableIn hx hb dX0_workNumbers_4 (by rw [h4_4]; decide) (by rw [h4_4]; decide) (by rw [h4_4]; rfl) rfl ?_
            refine lv_aload_n hx hb dX0_workNumbers_98 rfl (lv_at hl 0 rfl) ?_
            refine lv_lload_n hx hb dX0_workNumbers_99 rfl (lv_at hl 1 rfl) ?_
            refine lv_lload_n hx hb dX0_workNumbers_100 rfl (lv_at hl 2 rfl) ?_
            refine W.lcmp hx hb dX0_workNumbers_101 ?_
            refine lv_if_ne hx hb dX0_workNumbers_102 rfl (fun h102 => ?_) (fun h102 => ?_)
            · rw [if_neg h102] at hm
              refine lv_iconst (v := 0) hx hb dX0_workNumbers_109 (by decide) ?_
              exact L110 _ _ _ _ _ _ _ hm (lv_sub hl [] rfl) hP hD hS
            · rw [if_pos h102] at hm
              refine lv_iconst (v := 1) hx hb dX0_workNumbers_105 (by decide) ?_
              refine lv_goto hx hb dX0_workNumbers_106 rfl ?_
              exact L110 _ _ _ _ _ _ _ hm (lv_sub hl [] rfl) hP hD hS
          · rw [if_neg h4_4] at hm
            by_cases h4_5 : t_operation = 5
            · rw [if_pos h4_5] at hm
              refine lv_tableIn hx hb dX0_workNumbers_4 (by rw [h4_5]; decide) (by rw [h4_5]; decide) (by rw [h4_5]; rfl) rfl ?_
              refine lv_aload_n hx hb dX0_workNumbers_116 rfl (lv_at hl 0 rfl) ?_
              refine lv_lload_n hx hb dX0_workNumbers_117 rfl (lv_at hl 1 rfl) ?_
              refine lv_lload_n hx hb dX0_workNumbers_118 rfl (lv_at hl 2 rfl) ?_
              refine W.lcmp hx hb dX0_workNumbers_119 ?_
              refine lv_if_ge hx hb dX0_workNumbers_120 rfl (fun h120 => ?_) (fun h120 => ?_)
              · rw [if_pos h120] at hm
                refine lv_iconst (v := 0) hx hb dX0_workNumbers_127 (by decide) ?_
                exact L128 _ _ _ _ _ _ _ hm (lv_sub hl [] rfl) hP hD hS
              · rw [if_neg h120] at hm
                refine lv_iconst (v := 1) hx hb dX0_workNumbers_123 (by decide) ?_
                refine lv_goto hx hb dX0_workNumbers_124 rfl ?_
                exact L128 _ _ _ _ _ _ _ hm (lv_sub hl [] rfl) hP hD hS
            · rw [if_neg h4_5] at hm
              refine lv_tableOut hx hb dX0_workNumbers_4 (by have g4_0 := lv_neT h4_0 (show (0 : Int32).toInt = 0 from by decide); have g4_1 := lv_neT h4_1 (show (1 : Int32).toInt = 1 from by decide); have g4_2 := lv_neT h4_2 (show (2 : Int32).toInt = 2 from by decide); have g4_3 := lv_neT h4_3 (show (3 : Int32).toInt = 3 from by decide); have g4_4 := lv_neT h4_4 (show (4 : Int32).toInt = 4 from by decide); have g4_5 := lv_neT h4_5 (show (5 : Int32).toInt = 5 from by decide); omega) rfl ?_
              obtain ⟨rfl, rfl, rfl⟩ := ij3 hm
              subst hQ
              exact W.vret hx hb hr (fun t ht hW => ⟨⟨(), rfl, trivial, by rw [ht]; exact hP, va_K.moved hW.alike hK, hD⟩, hS.F ht⟩) hS.2.2 dX0_workNumbers_134
def M_Deed_perform_69 (t_operation : Int32) (t_many : Int32) (t_arguments : Nat → Int32) (a1_kind : Nat → Int32) (a1_content : Nat → Int64) (t_failed : Int32) (t_chosen : Int32) (t_kind : Int32) (t_content : Int64) (v2 : Int64) (z0 : Int64) : Option (Int32 × Int32 × Int32 × Int64) :=
  (if t_operation = 6 then
    (if (lg_cmp v2 1) = 0 then
      chk ((0 : Int32) ≤ (1 : Int32) ∧ (1 : Int32) < 3) (some (t_failed, t_arguments (1 : Int32).toNatClampNeg, t_kind, t_content))
    else
      chk ((0 : Int32) ≤ (2 : Int32) ∧ (2 : Int32) < 3) (some (t_failed, t_arguments (2 : Int32).toNatClampNeg, t_kind, t_content)))
  else
    (if t_operation = 7 then
      c3 (M_Deed_workBytes t_operation t_failed t_kind t_content v2 z0) (fun t_failed_157 t_kind_157 t_content_157 =>
        some (t_failed_157, t_chosen, t_kind_157, t_content_157))
    else
      (if t_operation = 8 then
        c3 (M_Deed_workBytes t_operation t_failed t_kind t_content v2 z0) (fun t_failed_157 t_kind_157 t_content_157 =>
          some (t_failed_157, t_chosen, t_kind_157, t_content_157))
      else
        (if t_operation = 9 then
          c3 (M_Deed_workBytes t_operation t_failed t_kind t_content v2 z0) (fun t_failed_157 t_kind_157 t_content_157 =>
            some (t_failed_157, t_chosen, t_kind_157, t_content_157))
        else
          (if t_operation = 10 then
            chk ((0 : Int32) ≤ (1 : Int32) ∧ (1 : Int32) < 3) (some (t_failed, t_arguments (1 : Int32).toNatClampNeg, t_kind, t_content))
          else
            (if t_operation = 11 then
              c3 (M_Deed_workBytes t_operation t_failed t_kind t_content v2 z0) (fun t_failed_157 t_kind_157 t_content_157 =>
                some (t_failed_157, t_chosen, t_kind_157, t_content_157))
            else
              c3 (M_Deed_workNumbers t_operation t_failed t_kind t_content v2 z0) (fun t_failed_167 t_kind_167 t_content_167 =>
                some (t_failed_167, t_chosen, t_kind_167, t_content_167))))))))
def M_Deed_perform_14 (t_operation : Int32) (t_many : Int32) (t_arguments : Nat → Int32) (a1_kind : Nat → Int32) (a1_content : Nat → Int64) (t_failed : Int32) (t_chosen : Int32) (t_kind : Int32) (t_content : Int64) (z1 : Int32) : Option (Int32 × Int32 × Int32 × Int64) :=
  chk (z1 = 0 ∨ z1 = 1) ((if z1 = 0 then
    chk ((0 : Int32) ≤ (0 : Int32) ∧ (0 : Int32) < 3) ((if t_many ≤ 1 then
      M_Deed_perform_69 t_operation t_many t_arguments a1_kind a1_content z1 (-1) t_kind t_content (atL 600 a1_content (t_arguments (0 : Int32).toNatClampNeg)) 0
    else
      chk ((0 : Int32) ≤ (1 : Int32) ∧ (1 : Int32) < 3) (M_Deed_perform_69 t_operation t_many t_arguments a1_kind a1_content z1 (-1) t_kind t_content (atL 600 a1_content (t_arguments (0 : Int32).toNatClampNeg)) (atL 600 a1_content (t_arguments (1 : Int32).toNatClampNeg)))))
  else
    some (z1, (-1), t_kind, t_content)))
def M_Deed_perform (t_operation : Int32) (t_many : Int32) (t_failed : Int32) (t_chosen : Int32) (t_kind : Int32) (t_content : Int64) (t_arguments : Nat → Int32) (a1_kind : Nat → Int32) (a1_content : Nat → Int64) : Option (Int32 × Int32 × Int32 × Int64) :=
  c1 (M_Deed_fits t_operation t_many t_arguments a1_kind) (fun r3 =>
    (if r3 = 0 then
      M_Deed_perform_14 t_operation t_many t_arguments a1_kind a1_content t_failed t_chosen t_kind t_content 1
    else
      M_Deed_perform_14 t_operation t_many t_arguments a1_kind a1_content t_failed t_chosen t_kind t_content 0))
set_option maxHeartbeats 4000000 in
set_option maxRecDepth 100000 in
theorem c_Deed_perform (l : Launch) (dC : Nat → ClassId) (dI : Nat → Nat → Nat) (cI cL : ClassId) (sz : Nat) (q_t q_a1 q_t_arguments q_a1_kind q_a1_content q_a1_left q_a1_right q_a1_given : Nat) (t_operation t_many t_failed t_chosen t_kind : Int32) (t_content : Int64) (t_arguments : Nat → Int32) (a1_count : Int32) (a1_kind : Nat → Int32) (a1_content : Nat → Int64) (u_t_failed u_t_chosen u_t_kind : Int32) (u_t_content : Int64) (hm : M_Deed_perform t_operation t_many t_failed t_chosen t_kind t_content t_arguments a1_kind a1_content = some (u_t_failed, u_t_chosen, u_t_kind, u_t_content)) : Met l yX0_perform wsX0_perform ({ frames := 3, cells := 0, slots := 0, locals := 73 }) (frPc (dC, dI) vwCl [(cI, .int), (cL, .long)] [(q_t, .inr (0, [.ref q_t_arguments, .int t_operation, .int t_many, .int t_failed, .int t_chosen, .int t_kind, .long t_content])), (q_t_arguments, .inl (cI, 3, .inl t_arguments)), (q_a1, .inr (3, [.ref q_a1_kind, .ref q_a1_content, .ref q_a1_left, .ref q_a1_right, .ref q_a1_given, .int a1_count])), (q_a1_kind, .inl (cI, 600, .inl a1_kind)), (q_a1_content, .inl (cL, 600, .inr (.inl a1_content)))] sz [.ref q_t, .ref q_a1]) (va_Qv (fun (_ : Unit) => True) (frB (dC, dI) vwCl [(cI, .int), (cL, .long)] (va_A [(q_t, .inr (0, [.ref q_t_arguments, .int t_operation, .int t_many, .int t_failed, .int t_chosen, .int t_kind, .long t_content])), (q_t_arguments, .inl (cI, 3, .inl t_arguments)), (q_a1, .inr (3, [.ref q_a1_kind, .ref q_a1_content, .ref q_a1_left, .ref q_a1_right, .ref q_a1_given, .int a1_count])), (q_a1_kind, .inl (cI, 600, .inl a1_kind)), (q_a1_content, .inl (cL, 600, .inr (.inl a1_content)))] sz) [(q_t, .inr (0, [.ref q_t_arguments, .int t_operation, .int t_many, .int u_t_failed, .int u_t_chosen, .int u_t_kind, .long u_t_content])), (q_t_arguments, .inl (cI, 3, .inl t_arguments)), (q_a1, .inr (3, [.ref q_a1_kind, .ref q_a1_content, .ref q_a1_left, .ref q_a1_right, .ref q_a1_given, .int a1_count])), (q_a1_kind, .inl (cI, 600, .inl a1_kind)), (q_a1_content, .inl (cL, 600, .inr (.inl a1_content)))]) (va_A [(q_t, .inr (0, [.ref q_t_arguments, .int t_operation, .int t_many, .int t_failed, .int t_chosen, .int t_kind, .long t_content])), (q_t_arguments, .inl (cI, 3, .inl t_arguments)), (q_a1, .inr (3, [.ref q_a1_kind, .ref q_a1_content, .ref q_a1_left, .ref q_a1_right, .ref q_a1_given, .int a1_count])), (q_a1_kind, .inl (cI, 600, .inl a1_kind)), (q_a1_content, .inl (cL, 600, .inr (.inl a1_content)))] sz)) 0 0 (va_A [(q_t, .inr (0, [.ref q_t_arguments, .int t_operation, .int t_many, .int t_failed, .int t_chosen, .int t_kind, .long t_content])), (q_t_arguments, .inl (cI, 3, .inl t_arguments)), (q_a1, .inr (3, [.ref q_a1_kind, .ref q_a1_content, .ref q_a1_left, .ref q_a1_right, .ref q_a1_given, .int a1_count])), (q_a1_kind, .inl (cI, 600, .inl a1_kind)), (q_a1_content, .inl (cL, 600, .inr (.inl a1_content)))] sz) := by
  refine Met.ofW (cc := cX0_perform) (maxL := 6) (ret := none) (by decide) rfl ?_
  intro p e s m args below meth c s₁ B hml hv
  obtain ⟨rfl, hsz, hP, hK, hD0, hZ⟩ := hv
  have hx := B.exec
  have hb := B.bytes
  have hr := B.returns
  have hts := atoms_spec (ws := wsX0_perform) B.pre
  have hown : s.vm.findClass RX0 = some m.cls := findClass_of_methodNamed B.named
  have hlocks := B.notSynchronized
  subst hsz
  have hD := hD0.self (sz := s.heap.size)
  generalize hAe : va_A [(q_t, .inr (0, [.ref q_t_arguments, .int t_operation, .int t_many, .int t_failed, .int t_chosen, .int t_kind, .long t_content])), (q_t_arguments, .inl (cI, 3, .inl t_arguments)), (q_a1, .inr (3, [.ref q_a1_kind, .ref q_a1_content, .ref q_a1_left, .ref q_a1_right, .ref q_a1_given, .int a1_count])), (q_a1_kind, .inl (cI, 600, .inl a1_kind)), (q_a1_content, .inl (cL, 600, .inr (.inl a1_content)))] s.heap.size = A at hD hZ ⊢
  have hA : ∀ q : Nat, s.heap.size ≤ q → A q := fun q h => by rw [← hAe]; exact Or.inr h
  have hS : va_S A s.heap s.heap [] := va_S.rf
  have hP : va_P (dC, dI) vwCl [(q_t, .inr (0, [.ref q_t_arguments, .int t_operation, .int t_many, .int t_failed, .int t_chosen, .int t_kind, .long t_content])), (q_t_arguments, .inl (cI, 3, .inl t_arguments)), (q_a1, .inr (3, [.ref q_a1_kind, .ref q_a1_content, .ref q_a1_left, .ref q_a1_right, .ref q_a1_given, .int a1_count])), (q_a1_kind, .inl (cI, 600, .inl a1_kind)), (q_a1_content, .inl (cL, 600, .inr (.inl a1_content)))] s.heap := hP
  have hl := lv_entry ([.ref q_t, .ref q_a1]) (n := 6) (Nat.le_of_ble_eq_true rfl)
  rw [lg_entry_eq]
  generalize (lg_sl ([.ref q_t, .ref q_a1]) ++ List.replicate (6 - (lg_sl ([.ref q_t, .ref q_a1])).length) Slot.unset).toArray = ls at hl ⊢
  have hl : lv_has ls 6 [(0, .ref q_t), (1, .ref q_a1)] := hl
  refine wq hP hS (fun Q hQ H locs hP hS => ?_)
  have htw : ∀ w ∈ AW, w.before _ s = true := fun w h => hts w (List.mem_cons_of_mem _ h)
  have hn0 : ∀ w ∈ wsX00, w ∈ wsX0_perform := fun w h => List.mem_cons_of_mem _ (inX0 w h)
  have hn1 : ∀ w ∈ wsX40, w ∈ wsX0_perform := fun w h => List.mem_cons_of_mem _ (inX4 w h)
  have L69 : ∀ (t_failed t_chosen t_kind : Int32) (t_content v2 z0 : Int64) (ls : Array Slot) (H : Heap) (locs : List Loc), M_Deed_perform_69 t_operation t_many t_arguments a1_kind a1_content t_failed t_chosen t_kind t_content v2 z0 = some (u_t_failed, u_t_chosen, u_t_kind, u_t_content) → lv_has ls 6 [(0, .ref q_t), (2, .long v2)] → va_P (dC, dI) vwCl [(q_t, .inr (0, [.ref q_t_arguments, .int t_operation, .int t_many, .int t_failed, .int t_chosen, .int t_kind, .long t_content])), (q_t_arguments, .inl (cI, 3, .inl t_arguments)), (q_a1, .inr (3, [.ref q_a1_kind, .ref q_a1_content, .ref q_a1_left, .ref q_a1_right, .ref q_a1_given, .int a1_count])), (q_a1_kind, .inl (cI, 600, .inl a1_kind)), (q_a1_content, .inl (cL, 600, .inr (.inl a1_content)))] H → va_D A [(q_t, .inr (0, [.ref q_t_arguments, .int t_operation, .int t_many, .int t_failed, .int t_chosen, .int t_kind, .long t_content])), (q_t_arguments, .inl (cI, 3, .inl t_arguments)), (q_a1, .inr (3, [.ref q_a1_kind, .ref q_a1_content, .ref q_a1_left, .ref q_a1_right, .ref q_a1_given, .int a1_count])), (q_a1_kind, .inl (cI, 600, .inl a1_kind)), (q_a1_content, .inl (cL, 600, .inr (.inl a1_content)))] → va_S A s.heap H locs → W p l e ({ frames := 3, cells := 0, slots := 0, locals := 73 }) s m [.ref q_t, .ref q_a1].toArray below meth c H locs 0 0 Q (F0 m 69 ls [.long z0]) := by
    intro t_failed t_chosen t_kind t_content v2 z0 ls H locs hm hl hP hD hS
    rw [M_Deed_perform_69] at hm
    refine lv_lstore (lv' := [(4, .long z0), (0, .ref q_t), (2, .long v2)]) hx hb dX0_perform_69 hl (by decide) rfl (fun ls hl => ?_)
    refine lv_aload_n hx hb dX0_perform_71 rfl (lv_at hl 1 rfl) ?_
    refine va_get (D := (dC, dI)) (ci := 0) (v := .int t_operation) (C := RX0) (T := TX0) (N := 7) hx hb hts hn0 hown hK hP 0 rfl rfl 1 (by decide) (htw _ aw_122) (fun _ h9 => h9) rfl dX0_perform_72 ?_
    by_cases h75_0 : t_operation = 6
    · rw [if_pos h75_0] at hm
      refine lv_tableIn hx hb dX0_perform_75 (by rw [h75_0]; decide) (by rw [h75_0]; decide) (by rw [h75_0]; rfl) rfl ?_
      refine lv_aload_n hx hb dX0_perform_112 rfl (lv_at hl 1 rfl) ?_
      refine lv_lload_n hx hb dX0_perform_113 rfl (lv_at hl 2 rfl) ?_
      refine lv_lconst (v := 1) hx hb dX0_perform_114 (by decide) ?_
      refine W.lcmp hx hb dX0_perform_115 ?_
      refine lv_if_ne hx hb dX0_perform_116 rfl (fun h116 => ?_) (fun h116 => ?_)
      · rw [if_neg h116] at hm
        refine lv_aload_n hx hb dX0_perform_128 rfl (lv_at hl 1 rfl) ?_
        refine va_get (D := (dC, dI)) (ci := 0) (v := .ref q_t_arguments) (C := RX0) (T := TX0) (N := 7) hx hb hts hn0 hown hK hP 0 rfl rfl 0 (by decide) (htw _ aw_121) (fun _ h9 => h9) rfl dX0_perform_129 ?_
        refine lv_iconst (v := 2) hx hb dX0_perform_132 (by decide) ?_
        obtain ⟨h133, hm⟩ := chk_inv hm
        refine va_iald (D := (dC, dI)) hx hb hK hP 1 0 rfl rfl (in_of (n := 3) (by decide) h133) dX0_perform_133 ?_
        refine va_put (D := (dC, dI)) (ci := 0) (v := .int (t_arguments (2 : Int32).toNatClampNeg)) (ty := .int) (C := RX0) (T := TX0) (N := 7) hx hb hts hn0 tyX0 tyX0_ok nmX0 hown hK hP hD hS 0 rfl rfl 4 (by decide) (htw _ aw_126) (fun _ h9 => h9) rfl (by decide +kernel) rfl rfl (Nat.le_of_ble_eq_true rfl) dX0_perform_134 (fun H locs hP hD hS => ?_)
        have hP : va_P (dC, dI) vwCl [(q_t, .inr (0, [.ref q_t_arguments, .int t_operation, .int t_many, .int t_failed, .int (t_arguments (2 : Int32).toNatClampNeg), .int t_kind, .long t_content])), (q_t_arguments, .inl (cI, 3, .inl t_arguments)), (q_a1, .inr (3, [.ref q_a1_kind, .ref q_a1_content, .ref q_a1_left, .ref q_a1_right, .ref q_a1_given, .int a1_count])), (q_a1_kind, .inl (cI, 600, .inl a1_kind)), (q_a1_content, .inl (cL, 600, .inr (.inl a1_content)))] H := hP
        have hD : va_D A [(q_t, .inr (0, [.ref q_t_arguments, .int t_operation, .int t_many, .int t_failed, .int (t_arguments (2 : Int32).toNatClampNeg), .int t_kind, .long t_content])), (q_t_arguments, .inl (cI, 3, .inl t_arguments)), (q_a1, .inr (3, [.ref q_a1_kind, .ref q_a1_content, .ref q_a1_left, .ref q_a1_right, .ref q_a1_given, .int a1_count])), (q_a1_kind, .inl (cI, 600, .inl a1_kind)), (q_a1_content, .inl (cL, 600, .inr (.inl a1_content)))] := hD
        refine lv_goto hx hb dX0_perform_137 rfl ?_
        obtain ⟨rfl, rfl, rfl, rfl⟩ := ij4 hm
        subst hQ
        exact W.vret hx hb hr (fun t ht hW => ⟨⟨(), rfl, trivial, by rw [ht]; exact hP, va_K.moved hW.alike hK, hD⟩, hS.F ht⟩) hS.2.2 dX0_perform_170
      · rw [if_pos h116] at hm
        refine lv_aload_n hx hb dX0_perform_119 rfl (lv_at hl 1 rfl) ?_
        refine va_get (D := (dC, dI)) (ci := 0) (v := .ref q_t_arguments) (C := RX0) (T := TX0) (N := 7) hx hb hts hn0 hown hK hP 0 rfl rfl 0 (by decide) (htw _ aw_121) (fun _ h9 => h9) rfl dX0_perform_120 ?_
        refine lv_iconst (v := 1) hx hb dX0_perform_123 (by decide) ?_
        obtain ⟨h124, hm⟩ := chk_inv hm
        refine va_iald (D := (dC, dI)) hx hb hK hP 1 0 rfl rfl (in_of (n := 3) (by decide) h124) dX0_perform_124 ?_
        refine lv_goto hx hb dX0_perform_125 rfl ?_
        refine va_put (D := (dC, dI)) (ci := 0) (v := .int (t_arguments (1 : Int32).toNatClampNeg)) (ty := .int) (C := RX0) (T := TX0) (N := 7) hx hb hts hn0 tyX0 tyX0_ok nmX0 hown hK hP hD hS 0 rfl rfl 4 (by decide) (htw _ aw_126) (fun _ h9 => h9) rfl (by decide +kernel) rfl rfl (Nat.le_of_ble_eq_true rfl) dX0_perform_134 (fun H locs hP hD hS => ?_)
        have hP : va_P (dC, dI) vwCl [(q_t, .inr (0, [.ref q_t_arguments, .int t_operation, .int t_many, .int t_failed, .int (t_arguments (1 : Int32).toNatClampNeg), .int t_kind, .long t_content])), (q_t_arguments, .inl (cI, 3, .inl t_arguments)), (q_a1, .inr (3, [.ref q_a1_kind, .ref q_a1_content, .ref q_a1_left, .ref q_a1_right, .ref q_a1_given, .int a1_count])), (q_a1_kind, .inl (cI, 600, .inl a1_kind)), (q_a1_content, .inl (cL, 600, .inr (.inl a1_content)))] H := hP
        have hD : va_D A [(q_t, .inr (0, [.ref q_t_arguments, .int t_operation, .int t_many, .int t_failed, .int (t_arguments (1 : Int32).toNatClampNeg), .int t_kind, .long t_content])), (q_t_arguments, .inl (cI, 3, .inl t_arguments)), (q_a1, .inr (3, [.ref q_a1_kind, .ref q_a1_content, .ref q_a1_left, .ref q_a1_right, .ref q_a1_given, .int a1_count])), (q_a1_kind, .inl (cI, 600, .inl a1_kind)), (q_a1_content, .inl (cL, 600, .inr (.inl a1_content)))] := hD
        refine lv_goto hx hb dX0_perform_137 rfl ?_
        obtain ⟨rfl, rfl, rfl, rfl⟩ := ij4 hm
        subst hQ
        exact W.vret hx hb hr (fun t ht hW => ⟨⟨(), rfl, trivial, by rw [ht]; exact hP, va_K.moved hW.alike hK, hD⟩, hS.F ht⟩) hS.2.2 dX0_perform_170
    · rw [if_neg h75_0] at hm
      by_cases h75_1 : t_operation = 7
      · rw [if_pos h75_1] at hm
        refine lv_tableIn hx hb dX0_perform_75 (by rw [h75_1]; decide) (by rw [h75_1]; decide) (by rw [h75_1]; rfl) rfl ?_
        refine lv_aload_n hx hb dX0_perform_153 rfl (lv_at hl 1 rfl) ?_
        refine lv_lload_n hx hb dX0_perform_154 rfl (lv_at hl 2 rfl) ?_
        refine lv_lload hx hb dX0_perform_155 (lv_at hl 0 rfl) ?_
        obtain ⟨t_failed_157, t_kind_157, t_content_157, e157, hm⟩ := c3_inv hm
        refine fr_v (wr := [(q_t_arguments, .inl (cI, 3, .inl t_arguments)), (q_a1, .inr (3, [.ref q_a1_kind, .ref q_a1_content, .ref q_a1_left, .ref q_a1_right, .ref q_a1_given, .int a1_count])), (q_a1_kind, .inl (cI, 600, .inl a1_kind)), (q_a1_content, .inl (cL, 600, .inr (.inl a1_content)))]) (w2 := [(q_t, .inr (0, [.ref q_t_arguments, .int t_operation, .int t_many, .int t_failed_157, .int t_chosen, .int t_kind_157, .long t_content_157])), (q_t_arguments, .inl (cI, 3, .inl t_arguments)), (q_a1, .inr (3, [.ref q_a1_kind, .ref q_a1_content, .ref q_a1_left, .ref q_a1_right, .ref q_a1_given, .int a1_count])), (q_a1_kind, .inl (cI, 600, .inl a1_kind)), (q_a1_content, .inl (cL, 600, .inr (.inl a1_content)))]) (va_runV (As := [.long v2, .long z0]) (rest := []) ⟨hx, hb, hml, hown, hts⟩ (c_Deed_workBytes l dC dI cI cL H.size q_t q_t_arguments t_operation t_many t_failed t_chosen t_kind t_content v2 z0 t_failed_157 t_kind_157 t_content_157 e157) (kV 2 hts aw_588 rfl rfl aw_6 aw_585 aw_587 as_12 (by decide +kernel) ⟨Nat.le_of_ble_eq_true rfl, Nat.le_of_ble_eq_true rfl⟩) (fr_preV hK hP hD hS hA hZ [0] rfl rfl (ci := 0) (q0 := 0) rfl rfl) rfl rfl hl.1 rfl (lv_room (Nat.le_of_ble_eq_true rfl)) dX0_perform_157 ⟨Nat.le_of_ble_eq_true rfl, Nat.le_of_ble_eq_true rfl⟩) hP hD hS hA [0] [1, 2, 3, 4] [4, 0, 1, 2, 3] rfl rfl rfl (by decide) rfl rfl (fun H locs hP hD hS => ?_)
        have hP : va_P (dC, dI) vwCl [(q_t, .inr (0, [.ref q_t_arguments, .int t_operation, .int t_many, .int t_failed_157, .int t_chosen, .int t_kind_157, .long t_content_157])), (q_t_arguments, .inl (cI, 3, .inl t_arguments)), (q_a1, .inr (3, [.ref q_a1_kind, .ref q_a1_content, .ref q_a1_left, .ref q_a1_right, .ref q_a1_given, .int a1_count])), (q_a1_kind, .inl (cI, 600, .inl a1_kind)), (q_a1_content, .inl (cL, 600, .inr (.inl a1_content)))] H := hP
        have hD : va_D A [(q_t, .inr (0, [.ref q_t_arguments, .int t_operation, .int t_many, .int t_failed_157, .int t_chosen, .int t_kind_157, .long t_content_157])), (q_t_arguments, .inl (cI, 3, .inl t_arguments)), (q_a1, .inr (3, [.ref q_a1_kind, .ref q_a1_content, .ref q_a1_left, .ref q_a1_right, .ref q_a1_given, .int a1_count])), (q_a1_kind, .inl (cI, 600, .inl a1_kind)), (q_a1_content, .inl (cL, 600, .inr (.inl a1_content)))] := hD
        refine lv_goto hx hb dX0_perform_160 rfl ?_
        obtain ⟨rfl, rfl, rfl, rfl⟩ := ij4 hm
        subst hQ
        exact W.vret hx hb hr (fun t ht hW => ⟨⟨(), rfl, trivial, by rw [ht]; exact hP, va_K.moved hW.alike hK, hD⟩, hS.F ht⟩) hS.2.2 dX0_perform_170
      · rw [if_neg h75_1] at hm
        by_cases h75_2 : t_operation = 8
        · rw [if_pos h75_2] at hm
          refine lv_tableIn hx hb dX0_perform_75 (by rw [h75_2]; decide) (by rw [h75_2]; decide) (by rw [h75_2]; rfl) rfl ?_
          refine lv_aload_n hx hb dX0_perform_153 rfl (lv_at hl 1 rfl) ?_
          refine lv_lload_n hx hb dX0_perform_154 rfl (lv_at hl 2 rfl) ?_
          refine lv_lload hx hb dX0_perform_155 (lv_at hl 0 rfl) ?_
          obtain ⟨t_failed_157, t_kind_157, t_content_157, e157, hm⟩ := c3_inv hm
          refine fr_v (wr := [(q_t_arguments, .inl (cI, 3, .inl t_arguments)), (q_a1, .inr (3, [.ref q_a1_kind, .ref q_a1_content, .ref q_a1_left, .ref q_a1_right, .ref q_a1_given, .int a1_count])), (q_a1_kind, .inl (cI, 600, .inl a1_kind)), (q_a1_content, .inl (cL, 600, .inr (.inl a1_content)))]) (w2 := [(q_t, .inr (0, [.ref q_t_arguments, .int t_operation, .int t_many, .int t_failed_157, .int t_chosen, .int t_kind_157, .long t_content_157])), (q_t_arguments, .inl (cI, 3, .inl t_arguments)), (q_a1, .inr (3, [.ref q_a1_kind, .ref q_a1_content, .ref q_a1_left, .ref q_a1_right, .ref q_a1_given, .int a1_count])), (q_a1_kind, .inl (cI, 600, .inl a1_kind)), (q_a1_content, .inl (cL, 600, .inr (.inl a1_content)))]) (va_runV (As := [.long v2, .long z0]) (rest := []) ⟨hx, hb, hml, hown, hts⟩ (c_Deed_workBytes l dC dI cI cL H.size q_t q_t_arguments t_operation t_many t_failed t_chosen t_kind t_content v2 z0 t_failed_157 t_kind_157 t_content_157 e157) (kV 2 hts aw_588 rfl rfl aw_6 aw_585 aw_587 as_12 (by decide +kernel) ⟨Nat.le_of_ble_eq_true rfl, Nat.le_of_ble_eq_true rfl⟩) (fr_preV hK hP hD hS hA hZ [0] rfl rfl (ci := 0) (q0 := 0) rfl rfl) rfl rfl hl.1 rfl (lv_room (Nat.le_of_ble_eq_true rfl)) dX0_perform_157 ⟨Nat.le_of_ble_eq_true rfl, Nat.le_of_ble_eq_true rfl⟩) hP hD hS hA [0] [1, 2, 3, 4] [4, 0, 1, 2, 3] rfl rfl rfl (by decide) rfl rfl (fun H locs hP hD hS => ?_)
          have hP : va_P (dC, dI) vwCl [(q_t, .inr (0, [.ref q_t_arguments, .int t_operation, .int t_many, .int t_failed_157, .int t_chosen, .int t_kind_157, .long t_content_157])), (q_t_arguments, .inl (cI, 3, .inl t_arguments)), (q_a1, .inr (3, [.ref q_a1_kind, .ref q_a1_content, .ref q_a1_left, .ref q_a1_right, .ref q_a1_given, .int a1_count])), (q_a1_kind, .inl (cI, 600, .inl a1_kind)), (q_a1_content, .inl (cL, 600, .inr (.inl a1_content)))] H := hP
          have hD : va_D A [(q_t, .inr (0, [.ref q_t_arguments, .int t_operation, .int t_many, .int t_failed_157, .int t_chosen, .int t_kind_157, .long t_content_157])), (q_t_arguments, .inl (cI, 3, .inl t_arguments)), (q_a1, .inr (3, [.ref q_a1_kind, .ref q_a1_content, .ref q_a1_left, .ref q_a1_right, .ref q_a1_given, .int a1_count])), (q_a1_kind, .inl (cI, 600, .inl a1_kind)), (q_a1_content, .inl (cL, 600, .inr (.inl a1_content)))] := hD
          refine lv_goto hx hb dX0_perform_160 rfl ?_
          obtain ⟨rfl, rfl, rfl, rfl⟩ := ij4 hm
          subst hQ
          exact W.vret hx hb hr (fun t ht hW => ⟨⟨(), rfl, trivial, by rw [ht]; exact hP, va_K.moved hW.alike hK, hD⟩, hS.F ht⟩) hS.2.2 dX0_perform_170
        · rw [if_neg h75_2] at hm
          by_cases h75_3 : t_operation = 9
          · rw [if_pos h75_3] at hm
            refine lv_tableIn hx hb dX0_perform_75 (by rw [h75_3]; decide) (by rw [h75_3]; decide) (by rw [h75_3]; rfl) rfl ?_
            refine lv_aload_n hx hb dX0_perform_153 rfl (lv_at hl 1 rfl) ?_
            refine lv_lload_n hx hb dX0_perform_154 rfl (lv_at hl 2 rfl) ?_
            refine lv_lload hx hb dX0_perform_155 (lv_at hl 0 rfl) ?_
            obtain ⟨t_failed_157, t_kind_157, t_content_157, e157, hm⟩ := c3_inv hm
            refine fr_v (wr := [(q_t_arguments, .inl (cI, 3, .inl t_arguments)), (q_a1, .inr (3, [.ref q_a1_kind, .ref q_a1_content, .ref q_a1_left, .ref q_a1_right, .ref q_a1_given, .int a1_count])), (q_a1_kind, .inl (cI, 600, .inl a1_kind)), (q_a1_content, .inl (cL, 600, .inr (.inl a1_content)))]) (w2 := [(q_t, .inr (0, [.ref q_t_arguments, .int t_operation, .int t_many, .int t_failed_157, .int t_chosen, .int t_kind_157, .long t_content_157])), (q_t_arguments, .inl (cI, 3, .inl t_arguments)), (q_a1, .inr (3, [.ref q_a1_kind, .ref q_a1_content, .ref q_a1_left, .ref q_a1_right, .ref q_a1_given, .int a1_count])), (q_a1_kind, .inl (cI, 600, .inl a1_kind)), (q_a1_content, .inl (cL, 600, .inr (.inl a1_content)))]) (va_runV (As := [.long v2, .long z0]) (rest := []) ⟨hx, hb, hml, hown, hts⟩ (c_Deed_workBytes l dC dI cI cL H.size q_t q_t_arguments t_operation t_many t_failed t_chosen t_kind t_content v2 z0 t_failed_157 t_kind_157 t_content_157 e157) (kV 2 hts aw_588 rfl rfl aw_6 aw_585 aw_587 as_12 (by decide +kernel) ⟨Nat.le_of_ble_eq_true rfl, Nat.le_of_ble_eq_true rfl⟩) (fr_preV hK hP hD hS hA hZ [0] rfl rfl (ci := 0) (q0 := 0) rfl rfl) rfl rfl hl.1 rfl (lv_room (Nat.le_of_ble_eq_true rfl)) dX0_perform_157 ⟨Nat.le_of_ble_eq_true rfl, Nat.le_of_ble_eq_true rfl⟩) hP hD hS hA [0] [1, 2, 3, 4] [4, 0, 1, 2, 3] rfl rfl rfl (by decide) rfl rfl (fun H locs hP hD hS => ?_)
            have hP : va_P (dC, dI) vwCl [(q_t, .inr (0, [.ref q_t_arguments, .int t_operation, .int t_many, .int t_failed_157, .int t_chosen, .int t_kind_157, .long t_content_157])), (q_t_arguments, .inl (cI, 3, .inl t_arguments)), (q_a1, .inr (3, [.ref q_a1_kind, .ref q_a1_content, .ref q_a1_left, .ref q_a1_right, .ref q_a1_given, .int a1_count])), (q_a1_kind, .inl (cI, 600, .inl a1_kind)), (q_a1_content, .inl (cL, 600, .inr (.inl a1_content)))] H := hP
            have hD : va_D A [(q_t, .inr (0, [.ref q_t_arguments, .int t_operation, .int t_many, .int t_failed_157, .int t_chosen, .int t_kind_157, .long t_content_157])), (q_t_arguments, .inl (cI, 3, .inl t_arguments)), (q_a1, .inr (3, [.ref q_a1_kind, .ref q_a1_content, .ref q_a1_left, .ref q_a1_right, .ref q_a1_given, .int a1_count])), (q_a1_kind, .inl (cI, 600, .inl a1_kind)), (q_a1_content, .inl (cL, 600, .inr (.inl a1_content)))] := hD
            refine lv_goto hx hb dX0_perform_160 rfl ?_
            obtain ⟨rfl, rfl, rfl, rfl⟩ := ij4 hm
            subst hQ
            exact W.vret hx hb hr (fun t ht hW => ⟨⟨(), rfl, trivial, by rw [ht]; exact hP, va_K.moved hW.alike hK, hD⟩, hS.F ht⟩) hS.2.2 dX0_perform_170
          · rw [if_neg h75_3] at hm
            by_cases h75_4 : t_operation = 10
            · rw [if_pos h75_4] at hm
              refine lv_tableIn hx hb dX0_perform_75 (by rw [h75_4]; decide) (by rw [h75_4]; decide) (by rw [h75_4]; rfl) rfl ?_
              refine lv_aload_n hx hb dX0_perform_140 rfl (lv_at hl 1 rfl) ?_
              refine lv_aload_n hx hb dX0_perform_141 rfl (lv_at hl 1 rfl) ?_
              refine va_get (D := (dC, dI)) (ci := 0) (v := .ref q_t_arguments) (C := RX0) (T := TX0) (N := 7) hx hb hts hn0 hown hK hP 0 rfl rfl 0 (by decide) (htw _ aw_121) (fun _ h9 => h9) rfl dX0_perform_142 ?_
              refine lv_iconst (v := 1) hx hb dX0_perform_145 (by decide) ?_
              obtain ⟨h146, hm⟩ := chk_inv hm
              refine va_iald (D := (dC, dI)) hx hb hK hP 1 0 rfl rfl (in_of (n := 3) (by decide) h146) dX0_perform_146 ?_
              refine va_put (D := (dC, dI)) (ci := 0) (v := .int (t_arguments (1 : Int32).toNatClampNeg)) (ty := .int) (C := RX0) (T := TX0) (N := 7) hx hb hts hn0 tyX0 tyX0_ok nmX0 hown hK hP hD hS 0 rfl rfl 4 (by decide) (htw _ aw_126) (fun _ h9 => h9) rfl (by decide +kernel) rfl rfl (Nat.le_of_ble_eq_true rfl) dX0_perform_147 (fun H locs hP hD hS => ?_)
              have hP : va_P (dC, dI) vwCl [(q_t, .inr (0, [.ref q_t_arguments, .int t_operation, .int t_many, .int t_failed, .int (t_arguments (1 : Int32).toNatClampNeg), .int t_kind, .long t_content])), (q_t_arguments, .inl (cI, 3, .inl t_arguments)), (q_a1, .inr (3, [.ref q_a1_kind, .ref q_a1_content, .ref q_a1_left, .ref q_a1_right, .ref q_a1_given, .int a1_count])), (q_a1_kind, .inl (cI, 600, .inl a1_kind)), (q_a1_content, .inl (cL, 600, .inr (.inl a1_content)))] H := hP
              have hD : va_D A [(q_t, .inr (0, [.ref q_t_arguments, .int t_operation, .int t_many, .int t_failed, .int (t_arguments (1 : Int32).toNatClampNeg), .int t_kind, .long t_content])), (q_t_arguments, .inl (cI, 3, .inl t_arguments)), (q_a1, .inr (3, [.ref q_a1_kind, .ref q_a1_content, .ref q_a1_left, .ref q_a1_right, .ref q_a1_given, .int a1_count])), (q_a1_kind, .inl (cI, 600, .inl a1_kind)), (q_a1_content, .inl (cL, 600, .inr (.inl a1_content)))] := hD
              refine lv_goto hx hb dX0_perform_150 rfl ?_
              obtain ⟨rfl, rfl, rfl, rfl⟩ := ij4 hm
              subst hQ
              exact W.vret hx hb hr (fun t ht hW => ⟨⟨(), rfl, trivial, by rw [ht]; exact hP, va_K.moved hW.alike hK, hD⟩, hS.F ht⟩) hS.2.2 dX0_perform_170
            · rw [if_neg h75_4] at hm
              by_cases h75_5 : t_operation = 11
              · rw [if_pos h75_5] at hm
                refine lv_tableIn hx hb dX0_perform_75 (by rw [h75_5]; decide) (by rw [h75_5]; decide) (by rw [h75_5]; rfl) rfl ?_
                refine lv_aload_n hx hb dX0_perform_153 rfl (lv_at hl 1 rfl) ?_
                refine lv_lload_n hx hb dX0_perform_154 rfl (lv_at hl 2 rfl) ?_
                refine lv_lload hx hb dX0_perform_155 (lv_at hl 0 rfl) ?_
                obtain ⟨t_failed_157, t_kind_157, t_content_157, e157, hm⟩ := c3_inv hm
                refine fr_v (wr := [(q_t_arguments, .inl (cI, 3, .inl t_arguments)), (q_a1, .inr (3, [.ref q_a1_kind, .ref q_a1_content, .ref q_a1_left, .ref q_a1_right, .ref q_a1_given, .int a1_count])), (q_a1_kind, .inl (cI, 600, .inl a1_kind)), (q_a1_content, .inl (cL, 600, .inr (.inl a1_content)))]) (w2 := [(q_t, .inr (0, [.ref q_t_arguments, .int t_operation, .int t_many, .int t_failed_157, .int t_chosen, .int t_kind_157, .long t_content_157])), (q_t_arguments, .inl (cI, 3, .inl t_arguments)), (q_a1, .inr (3, [.ref q_a1_kind, .ref q_a1_content, .ref q_a1_left, .ref q_a1_right, .ref q_a1_given, .int a1_count])), (q_a1_kind, .inl (cI, 600, .inl a1_kind)), (q_a1_content, .inl (cL, 600, .inr (.inl a1_content)))]) (va_runV (As := [.long v2, .long z0]) (rest := []) ⟨hx, hb, hml, hown, hts⟩ (c_Deed_workBytes l dC dI cI cL H.size q_t q_t_arguments t_operation t_many t_failed t_chosen t_kind t_content v2 z0 t_failed_157 t_kind_157 t_content_157 e157) (kV 2 hts aw_588 rfl rfl aw_6 aw_585 aw_587 as_12 (by decide +kernel) ⟨Nat.le_of_ble_eq_true rfl, Nat.le_of_ble_eq_true rfl⟩) (fr_preV hK hP hD hS hA hZ [0] rfl rfl (ci := 0) (q0 := 0) rfl rfl) rfl rfl hl.1 rfl (lv_room (Nat.le_of_ble_eq_true rfl)) dX0_perform_157 ⟨Nat.le_of_ble_eq_true rfl, Nat.le_of_ble_eq_true rfl⟩) hP hD hS hA [0] [1, 2, 3, 4] [4, 0, 1, 2, 3] rfl rfl rfl (by decide) rfl rfl (fun H locs hP hD hS => ?_)
                have hP : va_P (dC, dI) vwCl [(q_t, .inr (0, [.ref q_t_arguments, .int t_operation, .int t_many, .int t_failed_157, .int t_chosen, .int t_kind_157, .long t_content_157])), (q_t_arguments, .inl (cI, 3, .inl t_arguments)), (q_a1, .inr (3, [.ref q_a1_kind, .ref q_a1_content, .ref q_a1_left, .ref q_a1_right, .ref q_a1_given, .int a1_count])), (q_a1_kind, .inl (cI, 600, .inl a1_kind)), (q_a1_content, .inl (cL, 600, .inr (.inl a1_content)))] H := hP
                have hD : va_D A [(q_t, .inr (0, [.ref q_t_arguments, .int t_operation, .int t_many, .int t_failed_157, .int t_chosen, .int t_kind_157, .long t_content_157])), (q_t_arguments, .inl (cI, 3, .inl t_arguments)), (q_a1, .inr (3, [.ref q_a1_kind, .ref q_a1_content, .ref q_a1_left, .ref q_a1_right, .ref q_a1_given, .int a1_count])), (q_a1_kind, .inl (cI, 600, .inl a1_kind)), (q_a1_content, .inl (cL, 600, .inr (.inl a1_content)))] := hD
                refine lv_goto hx hb dX0_perform_160 rfl ?_
                obtain ⟨rfl, rfl, rfl, rfl⟩ := ij4 hm
                subst hQ
                exact W.vret hx hb hr (fun t ht hW => ⟨⟨(), rfl, trivial, by rw [ht]; exact hP, va_K.moved hW.alike hK, hD⟩, hS.F ht⟩) hS.2.2 dX0_perform_170
              · rw [if_neg h75_5] at hm
                refine lv_tableOut hx hb dX0_perform_75 (by have g75_0 := lv_neT h75_0 (show (6 : Int32).toInt = 6 from by decide); have g75_1 := lv_neT h75_1 (show (7 : Int32).toInt = 7 from by decide); have g75_2 := lv_neT h75_2 (show (8 : Int32).toInt = 8 from by decide); have g75_3 := lv_neT h75_3 (show (9 : Int32).toInt = 9 from by decide); have g75_4 := lv_neT h75_4 (show (10 : Int32).toInt = 10 from by decide); have g75_5 := lv_neT h75_5 (show (11 : Int32).toInt = 11 from by decide); omega) rfl ?_
                refine lv_aload_n hx hb dX0_perform_163 rfl (lv_at hl 1 rfl) ?_
                refine lv_lload_n hx hb dX0_perform_164 rfl (lv_at hl 2 rfl) ?_
                refine lv_lload hx hb dX0_perform_165 (lv_at hl 0 rfl) ?_
                obtain ⟨t_failed_167, t_kind_167, t_content_167, e167, hm⟩ := c3_inv hm
                refine fr_v (wr := [(q_t_arguments, .inl (cI, 3, .inl t_arguments)), (q_a1, .inr (3, [.ref q_a1_kind, .ref q_a1_content, .ref q_a1_left, .ref q_a1_right, .ref q_a1_given, .int a1_count])), (q_a1_kind, .inl (cI, 600, .inl a1_kind)), (q_a1_content, .inl (cL, 600, .inr (.inl a1_content)))]) (w2 := [(q_t, .inr (0, [.ref q_t_arguments, .int t_operation, .int t_many, .int t_failed_167, .int t_chosen, .int t_kind_167, .long t_content_167])), (q_t_arguments, .inl (cI, 3, .inl t_arguments)), (q_a1, .inr (3, [.ref q_a1_kind, .ref q_a1_content, .ref q_a1_left, .ref q_a1_right, .ref q_a1_given, .int a1_count])), (q_a1_kind, .inl (cI, 600, .inl a1_kind)), (q_a1_content, .inl (cL, 600, .inr (.inl a1_content)))]) (va_runV (As := [.long v2, .long z0]) (rest := []) ⟨hx, hb, hml, hown, hts⟩ (c_Deed_workNumbers l dC dI cI cL H.size q_t q_t_arguments t_operation t_many t_failed t_chosen t_kind t_content v2 z0 t_failed_167 t_kind_167 t_content_167 e167) (kV 2 hts aw_609 rfl rfl aw_6 aw_606 aw_608 as_15 (by decide +kernel) ⟨Nat.le_of_ble_eq_true rfl, Nat.le_of_ble_eq_true rfl⟩) (fr_preV hK hP hD hS hA hZ [0] rfl rfl (ci := 0) (q0 := 0) rfl rfl) rfl rfl hl.1 rfl (lv_room (Nat.le_of_ble_eq_true rfl)) dX0_perform_167 ⟨Nat.le_of_ble_eq_true rfl, Nat.le_of_ble_eq_true rfl⟩) hP hD hS hA [0] [1, 2, 3, 4] [4, 0, 1, 2, 3] rfl rfl rfl (by decide) rfl rfl (fun H locs hP hD hS => ?_)
                have hP : va_P (dC, dI) vwCl [(q_t, .inr (0, [.ref q_t_arguments, .int t_operation, .int t_many, .int t_failed_167, .int t_chosen, .int t_kind_167, .long t_content_167])), (q_t_arguments, .inl (cI, 3, .inl t_arguments)), (q_a1, .inr (3, [.ref q_a1_kind, .ref q_a1_content, .ref q_a1_left, .ref q_a1_right, .ref q_a1_given, .int a1_count])), (q_a1_kind, .inl (cI, 600, .inl a1_kind)), (q_a1_content, .inl (cL, 600, .inr (.inl a1_content)))] H := hP
                have hD : va_D A [(q_t, .inr (0, [.ref q_t_arguments, .int t_operation, .int t_many, .int t_failed_167, .int t_chosen, .int t_kind_167, .long t_content_167])), (q_t_arguments, .inl (cI, 3, .inl t_arguments)), (q_a1, .inr (3, [.ref q_a1_kind, .ref q_a1_content, .ref q_a1_left, .ref q_a1_right, .ref q_a1_given, .int a1_count])), (q_a1_kind, .inl (cI, 600, .inl a1_kind)), (q_a1_content, .inl (cL, 600, .inr (.inl a1_content)))] := hD
                obtain ⟨rfl, rfl, rfl, rfl⟩ := ij4 hm
                subst hQ
                exact W.vret hx hb hr (fun t ht hW => ⟨⟨(), rfl, trivial, by rw [ht]; exact hP, va_K.moved hW.alike hK, hD⟩, hS.F ht⟩) hS.2.2 dX0_perform_170
  have L14 : ∀ (t_failed t_chosen t_kind : Int32) (t_content : Int64) (z1 : Int32) (ls : Array Slot) (H : Heap) (locs : List Loc), M_Deed_perform_14 t_operation t_many t_arguments a1_kind a1_content t_failed t_chosen t_kind t_content z1 = some (u_t_failed, u_t_chosen, u_t_kind, u_t_content) → lv_has ls 6 [(0, .ref q_t), (1, .ref q_a1)] → va_P (dC, dI) vwCl [(q_t, .inr (0, [.ref q_t_arguments, .int t_operation, .int t_many, .int t_failed, .int t_chosen, .int t_kind, .long t_content])), (q_t_arguments, .inl (cI, 3, .inl t_arguments)), (q_a1, .inr (3, [.ref q_a1_kind, .ref q_a1_content, .ref q_a1_left, .ref q_a1_right, .ref q_a1_given, .int a1_count])), (q_a1_kind, .inl (cI, 600, .inl a1_kind)), (q_a1_content, .inl (cL, 600, .inr (.inl a1_content)))] H → va_D A [(q_t, .inr (0, [.ref q_t_arguments, .int t_operation, .int t_many, .int t_failed, .int t_chosen, .int t_kind, .long t_content])), (q_t_arguments, .inl (cI, 3, .inl t_arguments)), (q_a1, .inr (3, [.ref q_a1_kind, .ref q_a1_content, .ref q_a1_left, .ref q_a1_right, .ref q_a1_given, .int a1_count])), (q_a1_kind, .inl (cI, 600, .inl a1_kind)), (q_a1_content, .inl (cL, 600, .inr (.inl a1_content)))] → va_S A s.heap H locs → W p l e ({ frames := 3, cells := 0, slots := 0, locals := 73 }) s m [.ref q_t, .ref q_a1].toArray below meth c H locs 0 0 Q (F0 m 14 ls [.int z1, .ref q_t]) := by
    intro t_failed t_chosen t_kind t_content z1 ls H locs hm hl hP hD hS
    rw [M_Deed_perform_14] at hm
    obtain ⟨h14, hm⟩ := chk_inv hm
    refine va_put (D := (dC, dI)) (ci := 0) (v := .int z1) (ty := .boolean) (C := RX0) (T := TX0) (N := 7) hx hb hts hn0 tyX0 tyX0_ok nmX0 hown hK hP hD hS 0 rfl rfl 3 (by decide) (htw _ aw_124) (fun _ h9 => h9) rfl (by decide +kernel) (zn h14) (zf h14) (Nat.le_of_ble_eq_true rfl) dX0_perform_14 (fun H locs hP hD hS => ?_)
    have hP : va_P (dC, dI) vwCl [(q_t, .inr (0, [.ref q_t_arguments, .int t_operation, .int t_many, .int z1, .int t_chosen, .int t_kind, .long t_content])), (q_t_arguments, .inl (cI, 3, .inl t_arguments)), (q_a1, .inr (3, [.ref q_a1_kind, .ref q_a1_content, .ref q_a1_left, .ref q_a1_right, .ref q_a1_given, .int a1_count])), (q_a1_kind, .inl (cI, 600, .inl a1_kind)), (q_a1_content, .inl (cL, 600, .inr (.inl a1_content)))] H := hP
    have hD : va_D A [(q_t, .inr (0, [.ref q_t_arguments, .int t_operation, .int t_many, .int z1, .int t_chosen, .int t_kind, .long t_content])), (q_t_arguments, .inl (cI, 3, .inl t_arguments)), (q_a1, .inr (3, [.ref q_a1_kind, .ref q_a1_content, .ref q_a1_left, .ref q_a1_right, .ref q_a1_given, .int a1_count])), (q_a1_kind, .inl (cI, 600, .inl a1_kind)), (q_a1_content, .inl (cL, 600, .inr (.inl a1_content)))] := hD
    refine lv_aload_n hx hb dX0_perform_17 rfl (lv_at hl 0 rfl) ?_
    refine lv_iconst (v := (-1)) hx hb dX0_perform_18 (by decide) ?_
    refine va_put (D := (dC, dI)) (ci := 0) (v := .int (-1)) (ty := .int) (C := RX0) (T := TX0) (N := 7) hx hb hts hn0 tyX0 tyX0_ok nmX0 hown hK hP hD hS 0 rfl rfl 4 (by decide) (htw _ aw_126) (fun _ h9 => h9) rfl (by decide +kernel) rfl rfl (Nat.le_of_ble_eq_true rfl) dX0_perform_19 (fun H locs hP hD hS => ?_)
    have hP : va_P (dC, dI) vwCl [(q_t, .inr (0, [.ref q_t_arguments, .int t_operation, .int t_many, .int z1, .int (-1), .int t_kind, .long t_content])), (q_t_arguments, .inl (cI, 3, .inl t_arguments)), (q_a1, .inr (3, [.ref q_a1_kind, .ref q_a1_content, .ref q_a1_left, .ref q_a1_right, .ref q_a1_given, .int a1_count])), (q_a1_kind, .inl (cI, 600, .inl a1_kind)), (q_a1_content, .inl (cL, 600, .inr (.inl a1_content)))] H := hP
    have hD : va_D A [(q_t, .inr (0, [.ref q_t_arguments, .int t_operation, .int t_many, .int z1, .int (-1), .int t_kind, .long t_content])), (q_t_arguments, .inl (cI, 3, .inl t_arguments)), (q_a1, .inr (3, [.ref q_a1_kind, .ref q_a1_content, .ref q_a1_left, .ref q_a1_right, .ref q_a1_given, .int a1_count])), (q_a1_kind, .inl (cI, 600, .inl a1_kind)), (q_a1_content, .inl (cL, 600, .inr (.inl a1_content)))] := hD
    refine lv_aload_n hx hb dX0_perform_22 rfl (lv_at hl 0 rfl) ?_
    refine va_get (D := (dC, dI)) (ci := 0) (v := .int z1) (C := RX0) (T := TX0) (N := 7) hx hb hts hn0 hown hK hP 0 rfl rfl 3 (by decide) (htw _ aw_124) (fun _ h9 => h9) rfl dX0_perform_23 ?_
    refine lv_if_eq hx hb dX0_perform_26 rfl (fun h26 => ?_) (fun h26 => ?_)
    · rw [if_pos h26] at hm
      refine lv_aload_n hx hb dX0_perform_30 rfl (lv_at hl 1 rfl) ?_
      refine va_getN (D := (dC, dI)) (ci := 3) (v := .ref q_a1_content) (C := RX4) (T := TX4) (N := 6) hx hb hts hn1 hown hK hP 2 rfl rfl 1 (by decide) (va_Nw.use rfl (nx_9 hZ.1)) (fun _ h9 => h9) rfl dX0_perform_31 ?_
      refine lv_aload_n hx hb dX0_perform_34 rfl (lv_at hl 0 rfl) ?_
      refine va_get (D := (dC, dI)) (ci := 0) (v := .ref q_t_arguments) (C := RX0) (T := TX0) (N := 7) hx hb hts hn0 hown hK hP 0 rfl rfl 0 (by decide) (htw _ aw_121) (fun _ h9 => h9) rfl dX0_perform_35 ?_
      refine lv_iconst (v := 0) hx hb dX0_perform_38 (by decide) ?_
      obtain ⟨h39, hm⟩ := chk_inv hm
      refine va_iald (D := (dC, dI)) hx hb hK hP 1 0 rfl rfl (in_of (n := 3) (by decide) h39) dX0_perform_39 ?_
      refine fr_l (wr := [(q_t, .inr (0, [.ref q_t_arguments, .int t_operation, .int t_many, .int z1, .int (-1), .int t_kind, .long t_content])), (q_t_arguments, .inl (cI, 3, .inl t_arguments)), (q_a1, .inr (3, [.ref q_a1_kind, .ref q_a1_content, .ref q_a1_left, .ref q_a1_right, .ref q_a1_given, .int a1_count])), (q_a1_kind, .inl (cI, 600, .inl a1_kind))]) (w2 := [(q_t, .inr (0, [.ref q_t_arguments, .int t_operation, .int t_many, .int z1, .int (-1), .int t_kind, .long t_content])), (q_t_arguments, .inl (cI, 3, .inl t_arguments)), (q_a1, .inr (3, [.ref q_a1_kind, .ref q_a1_content, .ref q_a1_left, .ref q_a1_right, .ref q_a1_given, .int a1_count])), (q_a1_kind, .inl (cI, 600, .inl a1_kind)), (q_a1_content, .inl (cL, 600, .inr (.inl a1_content)))]) (va_runSN (As := [.ref q_a1_content, .int (t_arguments (0 : Int32).toNatClampNeg)]) (rest := []) ⟨hx, hb, hml, hown, hts⟩ (c_TM_longAt l dC dI cI cL H.size q_a1_content 600 a1_content (t_arguments (0 : Int32).toNatClampNeg) (by decide)) (kSN 2 hts aw_502 rfl rfl aw_1 (nx_65 hZ.1) aw_501 (by decide +kernel) ⟨Nat.le_of_ble_eq_true rfl, Nat.le_of_ble_eq_true rfl⟩) (fr_preS hK hP hD hS hA hZ [4] rfl rfl) rfl rfl hl.1 rfl (lv_room (Nat.le_of_ble_eq_true rfl)) dX0_perform_40 ⟨Nat.le_of_ble_eq_true rfl, Nat.le_of_ble_eq_true rfl⟩) hP hD hS hA [4] [0, 1, 2, 3] [0, 1, 2, 3, 4] rfl rfl rfl (by decide) rfl rfl (fun H locs hP hD hS => ?_)
      have hP : va_P (dC, dI) vwCl [(q_t, .inr (0, [.ref q_t_arguments, .int t_operation, .int t_many, .int z1, .int (-1), .int t_kind, .long t_content])), (q_t_arguments, .inl (cI, 3, .inl t_arguments)), (q_a1, .inr (3, [.ref q_a1_kind, .ref q_a1_content, .ref q_a1_left, .ref q_a1_right, .ref q_a1_given, .int a1_count])), (q_a1_kind, .inl (cI, 600, .inl a1_kind)), (q_a1_content, .inl (cL, 600, .inr (.inl a1_content)))] H := hP
      have hD : va_D A [(q_t, .inr (0, [.ref q_t_arguments, .int t_operation, .int t_many, .int z1, .int (-1), .int t_kind, .long t_content])), (q_t_arguments, .inl (cI, 3, .inl t_arguments)), (q_a1, .inr (3, [.ref q_a1_kind, .ref q_a1_content, .ref q_a1_left, .ref q_a1_right, .ref q_a1_given, .int a1_count])), (q_a1_kind, .inl (cI, 600, .inl a1_kind)), (q_a1_content, .inl (cL, 600, .inr (.inl a1_content)))] := hD
      refine lv_lstore_n (lv' := [(2, .long (atL 600 a1_content (t_arguments (0 : Int32).toNatClampNeg))), (0, .ref q_t), (1, .ref q_a1)]) hx hb dX0_perform_43 rfl hl (by decide) rfl (fun ls hl => ?_)
      refine lv_aload_n hx hb dX0_perform_44 rfl (lv_at hl 1 rfl) ?_
      refine va_get (D := (dC, dI)) (ci := 0) (v := .int t_many) (C := RX0) (T := TX0) (N := 7) hx hb hts hn0 hown hK hP 0 rfl rfl 2 (by decide) (htw _ aw_123) (fun _ h9 => h9) rfl dX0_perform_45 ?_
      refine lv_iconst (v := 1) hx hb dX0_perform_48 (by decide) ?_
      refine lv_icmp_le hx hb dX0_perform_49 rfl (fun h49 => ?_) (fun h49 => ?_)
      · rw [if_pos h49] at hm
        refine lv_lconst (v := 0) hx hb dX0_perform_68 (by decide) ?_
        exact L69 _ _ _ _ _ _ _ _ _ hm (lv_sub hl [1, 0] rfl) hP hD hS
      · rw [if_neg h49] at hm
        refine lv_aload_n hx hb dX0_perform_52 rfl (lv_at hl 2 rfl) ?_
        refine va_getN (D := (dC, dI)) (ci := 3) (v := .ref q_a1_content) (C := RX4) (T := TX4) (N := 6) hx hb hts hn1 hown hK hP 2 rfl rfl 1 (by decide) (va_Nw.use rfl (nx_9 hZ.1)) (fun _ h9 => h9) rfl dX0_perform_53 ?_
        refine lv_aload_n hx hb dX0_perform_56 rfl (lv_at hl 1 rfl) ?_
        refine va_get (D := (dC, dI)) (ci := 0) (v := .ref q_t_arguments) (C := RX0) (T := TX0) (N := 7) hx hb hts hn0 hown hK hP 0 rfl rfl 0 (by decide) (htw _ aw_121) (fun _ h9 => h9) rfl dX0_perform_57 ?_
        refine lv_iconst (v := 1) hx hb dX0_perform_60 (by decide) ?_
        obtain ⟨h61, hm⟩ := chk_inv hm
        refine va_iald (D := (dC, dI)) hx hb hK hP 1 0 rfl rfl (in_of (n := 3) (by decide) h61) dX0_perform_61 ?_
        refine fr_l (wr := [(q_t, .inr (0, [.ref q_t_arguments, .int t_operation, .int t_many, .int z1, .int (-1), .int t_kind, .long t_content])), (q_t_arguments, .inl (cI, 3, .inl t_arguments)), (q_a1, .inr (3, [.ref q_a1_kind, .ref q_a1_content, .ref q_a1_left, .ref q_a1_right, .ref q_a1_given, .int a1_count])), (q_a1_kind, .inl (cI, 600, .inl a1_kind))]) (w2 := [(q_t, .inr (0, [.ref q_t_arguments, .int t_operation, .int t_many, .int z1, .int (-1), .int t_kind, .long t_content])), (q_t_arguments, .inl (cI, 3, .inl t_arguments)), (q_a1, .inr (3, [.ref q_a1_kind, .ref q_a1_content, .ref q_a1_left, .ref q_a1_right, .ref q_a1_given, .int a1_count])), (q_a1_kind, .inl (cI, 600, .inl a1_kind)), (q_a1_content, .inl (cL, 600, .inr (.inl a1_content)))]) (va_runSN (As := [.ref q_a1_content, .int (t_arguments (1 : Int32).toNatClampNeg)]) (rest := []) ⟨hx, hb, hml, hown, hts⟩ (c_TM_longAt l dC dI cI cL H.size q_a1_content 600 a1_content (t_arguments (1 : Int32).toNatClampNeg) (by decide)) (kSN 2 hts aw_502 rfl rfl aw_1 (nx_65 hZ.1) aw_501 (by decide +kernel) ⟨Nat.le_of_ble_eq_true rfl, Nat.le_of_ble_eq_true rfl⟩) (fr_preS hK hP hD hS hA hZ [4] rfl rfl) rfl rfl hl.1 rfl (lv_room (Nat.le_of_ble_eq_true rfl)) dX0_perform_62 ⟨Nat.le_of_ble_eq_true rfl, Nat.le_of_ble_eq_true rfl⟩) hP hD hS hA [4] [0, 1, 2, 3] [0, 1, 2, 3, 4] rfl rfl rfl (by decide) rfl rfl (fun H locs hP hD hS => ?_)
        have hP : va_P (dC, dI) vwCl [(q_t, .inr (0, [.ref q_t_arguments, .int t_operation, .int t_many, .int z1, .int (-1), .int t_kind, .long t_content])), (q_t_arguments, .inl (cI, 3, .inl t_arguments)), (q_a1, .inr (3, [.ref q_a1_kind, .ref q_a1_content, .ref q_a1_left, .ref q_a1_right, .ref q_a1_given, .int a1_count])), (q_a1_kind, .inl (cI, 600, .inl a1_kind)), (q_a1_content, .inl (cL, 600, .inr (.inl a1_content)))] H := hP
        have hD : va_D A [(q_t, .inr (0, [.ref q_t_arguments, .int t_operation, .int t_many, .int z1, .int (-1), .int t_kind, .long t_content])), (q_t_arguments, .inl (cI, 3, .inl t_arguments)), (q_a1, .inr (3, [.ref q_a1_kind, .ref q_a1_content, .ref q_a1_left, .ref q_a1_right, .ref q_a1_given, .int a1_count])), (q_a1_kind, .inl (cI, 600, .inl a1_kind)), (q_a1_content, .inl (cL, 600, .inr (.inl a1_content)))] := hD
        refine lv_goto hx hb dX0_perform_65 rfl ?_
        exact L69 _ _ _ _ _ _ _ _ _ hm (lv_sub hl [1, 0] rfl) hP hD hS
    · rw [if_neg h26] at hm
      obtain ⟨rfl, rfl, rfl, rfl⟩ := ij4 hm
      subst hQ
      exact W.vret hx hb hr (fun t ht hW => ⟨⟨(), rfl, trivial, by rw [ht]; exact hP, va_K.moved hW.alike hK, hD⟩, hS.F ht⟩) hS.2.2 dX0_perform_29
  rw [M_Deed_perform] at hm
  refine lv_aload_n hx hb dX0_perform_0 rfl (lv_at hl 0 rfl) ?_
  refine lv_aload_n hx hb dX0_perform_1 rfl (lv_at hl 0 rfl) ?_
  refine lv_aload_n hx hb dX0_perform_2 rfl (lv_at hl 1 rfl) ?_
  obtain ⟨r3, e3, hm⟩ := c1_inv hm
  refine fr_i (wr := [(q_a1_content, .inl (cL, 600, .inr (.inl a1_content)))]) (w2 := [(q_t, .inr (0, [.ref q_t_arguments, .int t_operation, .int t_many, .int t_failed, .int t_chosen, .int t_kind, .long t_content])), (q_t_arguments, .inl (cI, 3, .inl t_arguments)), (q_a1, .inr (3, [.ref q_a1_kind, .ref q_a1_content, .ref q_a1_left, .ref q_a1_right, .ref q_a1_given, .int a1_count])), (q_a1_kind, .inl (cI, 600, .inl a1_kind)), (q_a1_content, .inl (cL, 600, .inr (.inl a1_content)))]) (va_runV (As := [.ref q_a1]) (rest := [.ref q_t]) ⟨hx, hb, hml, hown, hts⟩ (c_Deed_fits l dC dI cI cL H.size q_t q_a1 q_t_arguments q_a1_kind q_a1_content q_a1_left q_a1_right q_a1_given t_operation t_many t_failed t_chosen t_kind t_content t_arguments a1_count a1_kind r3 e3) (kV 1 hts aw_582 rfl rfl aw_6 aw_579 aw_581 as_11 (by decide +kernel) ⟨Nat.le_of_ble_eq_true rfl, Nat.le_of_ble_eq_true rfl⟩) (fr_preV hK hP hD hS hA hZ [0, 1, 2, 3] rfl rfl (ci := 0) (q0 := 0) rfl rfl) rfl rfl hl.1 rfl (lv_room (Nat.le_of_ble_eq_true rfl)) dX0_perform_3 ⟨Nat.le_of_ble_eq_true rfl, Nat.le_of_ble_eq_true rfl⟩) hP hD hS hA [0, 1, 2, 3] [4] [1, 2, 3, 4, 0] rfl rfl rfl (by decide) rfl rfl (fun H locs hP hD hS => ?_)
  have hP : va_P (dC, dI) vwCl [(q_t, .inr (0, [.ref q_t_arguments, .int t_operation, .int t_many, .int t_failed, .int t_chosen, .int t_kind, .long t_content])), (q_t_arguments, .inl (cI, 3, .inl t_arguments)), (q_a1, .inr (3, [.ref q_a1_kind, .ref q_a1_content, .ref q_a1_left, .ref q_a1_right, .ref q_a1_given, .int a1_count])), (q_a1_kind, .inl (cI, 600, .inl a1_kind)), (q_a1_content, .inl (cL, 600, .inr (.inl a1_content)))] H := hP
  have hD : va_D A [(q_t, .inr (0, [.ref q_t_arguments, .int t_operation, .int t_many, .int t_failed, .int t_chosen, .int t_kind, .long t_content])), (q_t_arguments, .inl (cI, 3, .inl t_arguments)), (q_a1, .inr (3, [.ref q_a1_kind, .ref q_a1_content, .ref q_a1_left, .ref q_a1_right, .ref q_a1_given, .int a1_count])), (q_a1_kind, .inl (cI, 600, .inl a1_kind)), (q_a1_content, .inl (cL, 600, .inr (.inl a1_content)))] := hD
  refine lv_if_ne hx hb dX0_perform_6 rfl (fun h6 => ?_) (fun h6 => ?_)
  · rw [if_neg h6] at hm
    refine lv_iconst (v := 0) hx hb dX0_perform_13 (by decide) ?_
    exact L14 _ _ _ _ _ _ _ _ hm (lv_sub hl [0, 1] rfl) hP hD hS
  · rw [if_pos h6] at hm
    refine lv_iconst (v := 1) hx hb dX0_perform_9 (by decide) ?_
    refine lv_goto hx hb dX0_perform_10 rfl ?_
    exact L14 _ _ _ _ _ _ _ _ hm (lv_sub hl [0, 1] rfl) hP hD hS
def M_Deed_prepare_37 (a1_content : Nat → Int64) (a1_left : Nat → Int32) (a1_right : Nat → Int32) : Nat → Int32 → Int32 → (Nat → Int32) → Int32 → Int32 → Int32 → Option (Int32 × Int32 × (Nat → Int32))
  | 0, _, _, _, _, _, _ => none
  | f + 1, t_operation, t_many, t_arguments, v4, v5, v6 =>
    (if v6 < 0 then
      some (t_operation, t_many, t_arguments)
    else
      (if 3 ≤ v6 then
        some (t_operation, t_many, t_arguments)
      else
        chk ((0 : Int32) ≤ v6 ∧ v6 < 3) (M_Deed_prepare_37 a1_content a1_left a1_right f t_operation t_many (upd t_arguments v6.toNatClampNeg v4) (at_ 600 a1_left v5) (at_ 600 a1_right v5) (v6 + (-1)))))
def M_Deed_prepare (t_operation : Int32) (t_many : Int32) (t_arguments : Nat → Int32) (a1_content : Nat → Int64) (a1_left : Nat → Int32) (a1_right : Nat → Int32) (x2 : Int32) (x3 : Int32) : Option (Int32 × Int32 × (Nat → Int32)) :=
  c1 (M_Store_operationOf a1_content x2) (fun r3 =>
    M_Deed_prepare_37 a1_content a1_left a1_right 1000 r3 (at_ 12 tb_ARGUMENTS r3) t_arguments x3 x2 ((at_ 12 tb_ARGUMENTS r3) - 1))
set_option maxHeartbeats 4000000 in
set_option maxRecDepth 100000 in
theorem c_Deed_prepare (l : Launch) (dC : Nat → ClassId) (dI : Nat → Nat → Nat) (cI cL : ClassId) (sz : Nat) (q_t q_a1 q_t_arguments q_a1_kind q_a1_content q_a1_left q_a1_right q_a1_given : Nat) (t_operation t_many t_failed t_chosen t_kind : Int32) (t_content : Int64) (t_arguments : Nat → Int32) (a1_count : Int32) (a1_content : Nat → Int64) (a1_left a1_right : Nat → Int32) (x2 x3 u_t_operation u_t_many : Int32) (u_t_arguments : Nat → Int32) (hm : M_Deed_prepare t_operation t_many t_arguments a1_content a1_left a1_right x2 x3 = some (u_t_operation, u_t_many, u_t_arguments)) : Met l yX0_prepare wsX0_prepare ({ frames := 2, cells := 0, slots := 0, locals := 42 }) (frPc (dC, dI) vwCl [(cI, .int), (cL, .long)] [(q_t, .inr (0, [.ref q_t_arguments, .int t_operation, .int t_many, .int t_failed, .int t_chosen, .int t_kind, .long t_content])), (q_t_arguments, .inl (cI, 3, .inl t_arguments)), (q_a1, .inr (3, [.ref q_a1_kind, .ref q_a1_content, .ref q_a1_left, .ref q_a1_right, .ref q_a1_given, .int a1_count])), (q_a1_content, .inl (cL, 600, .inr (.inl a1_content))), (q_a1_left, .inl (cI, 600, .inl a1_left)), (q_a1_right, .inl (cI, 600, .inl a1_right))] sz [.ref q_t, .ref q_a1, .int x2, .int x3]) (va_Qv (fun (_ : Unit) => True) (frB (dC, dI) vwCl [(cI, .int), (cL, .long)] (va_A [(q_t, .inr (0, [.ref q_t_arguments, .int t_operation, .int t_many, .int t_failed, .int t_chosen, .int t_kind, .long t_content])), (q_t_arguments, .inl (cI, 3, .inl t_arguments)), (q_a1, .inr (3, [.ref q_a1_kind, .ref q_a1_content, .ref q_a1_left, .ref q_a1_right, .ref q_a1_given, .int a1_count])), (q_a1_content, .inl (cL, 600, .inr (.inl a1_content))), (q_a1_left, .inl (cI, 600, .inl a1_left)), (q_a1_right, .inl (cI, 600, .inl a1_right))] sz) [(q_t, .inr (0, [.ref q_t_arguments, .int u_t_operation, .int u_t_many, .int t_failed, .int t_chosen, .int t_kind, .long t_content])), (q_t_arguments, .inl (cI, 3, .inl u_t_arguments)), (q_a1, .inr (3, [.ref q_a1_kind, .ref q_a1_content, .ref q_a1_left, .ref q_a1_right, .ref q_a1_given, .int a1_count])), (q_a1_content, .inl (cL, 600, .inr (.inl a1_content))), (q_a1_left, .inl (cI, 600, .inl a1_left)), (q_a1_right, .inl (cI, 600, .inl a1_right))]) (va_A [(q_t, .inr (0, [.ref q_t_arguments, .int t_operation, .int t_many, .int t_failed, .int t_chosen, .int t_kind, .long t_content])), (q_t_arguments, .inl (cI, 3, .inl t_arguments)), (q_a1, .inr (3, [.ref q_a1_kind, .ref q_a1_content, .ref q_a1_left, .ref q_a1_right, .ref q_a1_given, .int a1_count])), (q_a1_content, .inl (cL, 600, .inr (.inl a1_content))), (q_a1_left, .inl (cI, 600, .inl a1_left)), (q_a1_right, .inl (cI, 600, .inl a1_right))] sz)) 0 0 (va_A [(q_t, .inr (0, [.ref q_t_arguments, .int t_operation, .int t_many, .int t_failed, .int t_chosen, .int t_kind, .long t_content])), (q_t_arguments, .inl (cI, 3, .inl t_arguments)), (q_a1, .inr (3, [.ref q_a1_kind, .ref q_a1_content, .ref q_a1_left, .ref q_a1_right, .ref q_a1_given, .int a1_count])), (q_a1_content, .inl (cL, 600, .inr (.inl a1_content))), (q_a1_left, .inl (cI, 600, .inl a1_left)), (q_a1_right, .inl (cI, 600, .inl a1_right))] sz) := by
  refine Met.ofW (cc := cX0_prepare) (maxL := 7) (ret := none) (by decide) rfl ?_
  intro p e s m args below meth c s₁ B hml hv
  obtain ⟨rfl, hsz, hP, hK, hD0, hZ⟩ := hv
  have hx := B.exec
  have hb := B.bytes
  have hr := B.returns
  have hts := atoms_spec (ws := wsX0_prepare) B.pre
  have hown : s.vm.findClass RX0 = some m.cls := findClass_of_methodNamed B.named
  have hlocks := B.notSynchronized
  subst hsz
  have hD := hD0.self (sz := s.heap.size)
  generalize hAe : va_A [(q_t, .inr (0, [.ref q_t_arguments, .int t_operation, .int t_many, .int t_failed, .int t_chosen, .int t_kind, .long t_content])), (q_t_arguments, .inl (cI, 3, .inl t_arguments)), (q_a1, .inr (3, [.ref q_a1_kind, .ref q_a1_content, .ref q_a1_left, .ref q_a1_right, .ref q_a1_given, .int a1_count])), (q_a1_content, .inl (cL, 600, .inr (.inl a1_content))), (q_a1_left, .inl (cI, 600, .inl a1_left)), (q_a1_right, .inl (cI, 600, .inl a1_right))] s.heap.size = A at hD hZ ⊢
  have hA : ∀ q : Nat, s.heap.size ≤ q → A q := fun q h => by rw [← hAe]; exact Or.inr h
  have hS : va_S A s.heap s.heap [] := va_S.rf
  have hP : va_P (dC, dI) vwCl [(q_t, .inr (0, [.ref q_t_arguments, .int t_operation, .int t_many, .int t_failed, .int t_chosen, .int t_kind, .long t_content])), (q_t_arguments, .inl (cI, 3, .inl t_arguments)), (q_a1, .inr (3, [.ref q_a1_kind, .ref q_a1_content, .ref q_a1_left, .ref q_a1_right, .ref q_a1_given, .int a1_count])), (q_a1_content, .inl (cL, 600, .inr (.inl a1_content))), (q_a1_left, .inl (cI, 600, .inl a1_left)), (q_a1_right, .inl (cI, 600, .inl a1_right))] s.heap := hP
  have hl := lv_entry ([.ref q_t, .ref q_a1, .int x2, .int x3]) (n := 7) (Nat.le_of_ble_eq_true rfl)
  rw [lg_entry_eq]
  generalize (lg_sl ([.ref q_t, .ref q_a1, .int x2, .int x3]) ++ List.replicate (7 - (lg_sl ([.ref q_t, .ref q_a1, .int x2, .int x3])).length) Slot.unset).toArray = ls at hl ⊢
  have hl : lv_has ls 7 [(0, .ref q_t), (1, .ref q_a1), (2, .int x2), (3, .int x3)] := hl
  refine wq hP hS (fun Q hQ H locs hP hS => ?_)
  have htw : ∀ w ∈ AW, w.before _ s = true := fun w h => hts w (List.mem_cons_of_mem _ h)
  have hn0 : ∀ w ∈ wsX00, w ∈ wsX0_prepare := fun w h => List.mem_cons_of_mem _ (inX0 w h)
  have hn1 : ∀ w ∈ wsX40, w ∈ wsX0_prepare := fun w h => List.mem_cons_of_mem _ (inX4 w h)
  obtain ⟨q_ARGUMENTS, hz_q_ARGUMENTS, ht_q_ARGUMENTS⟩ := hZ.2.2.1
  have L37 : ∀ (f : Nat) (t_operation t_many : Int32) (t_arguments : Nat → Int32) (v4 v5 v6 : Int32) (ls : Array Slot) (H : Heap) (locs : List Loc), M_Deed_prepare_37 a1_content a1_left a1_right f t_operation t_many t_arguments v4 v5 v6 = some (u_t_operation, u_t_many, u_t_arguments) → lv_has ls 7 [(0, .ref q_t), (1, .ref q_a1), (4, .int v4), (5, .int v5), (6, .int v6)] → va_P (dC, dI) vwCl [(q_t, .inr (0, [.ref q_t_arguments, .int t_operation, .int t_many, .int t_failed, .int t_chosen, .int t_kind, .long t_content])), (q_t_arguments, .inl (cI, 3, .inl t_arguments)), (q_a1, .inr (3, [.ref q_a1_kind, .ref q_a1_content, .ref q_a1_left, .ref q_a1_right, .ref q_a1_given, .int a1_count])), (q_a1_content, .inl (cL, 600, .inr (.inl a1_content))), (q_a1_left, .inl (cI, 600, .inl a1_left)), (q_a1_right, .inl (cI, 600, .inl a1_right))] H → va_D A [(q_t, .inr (0, [.ref q_t_arguments, .int t_operation, .int t_many, .int t_failed, .int t_chosen, .int t_kind, .long t_content])), (q_t_arguments, .inl (cI, 3, .inl t_arguments)), (q_a1, .inr (3, [.ref q_a1_kind, .ref q_a1_content, .ref q_a1_left, .ref q_a1_right, .ref q_a1_given, .int a1_count])), (q_a1_content, .inl (cL, 600, .inr (.inl a1_content))), (q_a1_left, .inl (cI, 600, .inl a1_left)), (q_a1_right, .inl (cI, 600, .inl a1_right))] → va_S A s.heap H locs → W p l e ({ frames := 2, cells := 0, slots := 0, locals := 42 }) s m [.ref q_t, .ref q_a1, .int x2, .int x3].toArray below meth c H locs 0 0 Q (F0 m 37 ls []) := by
    intro f
    induction f with
    | zero => intro t_operation t_many t_arguments v4 v5 v6 ls H locs hm; rw [M_Deed_prepare_37] at hm; cases hm
    | succ f ih37 =>
      intro t_operation t_many t_arguments v4 v5 v6 ls H locs hm hl hP hD hS
      rw [M_Deed_prepare_37] at hm
      refine lv_iload hx hb dX0_prepare_37 (lv_at hl 4 rfl) ?_
      refine lv_if_lt hx hb dX0_prepare_39 rfl (fun h39 => ?_) (fun h39 => ?_)
      · rw [if_pos h39] at hm
        obtain ⟨rfl, rfl, rfl⟩ := ij3 hm
        subst hQ
        exact W.vret hx hb hr (fun t ht hW => ⟨⟨(), rfl, trivial, by rw [ht]; exact hP, va_K.moved hW.alike hK, hD⟩, hS.F ht⟩) hS.2.2 dX0_prepare_85
      · rw [if_neg h39] at hm
        refine lv_iload hx hb dX0_prepare_42 (lv_at hl 4 rfl) ?_
        refine lv_iconst (v := 3) hx hb dX0_prepare_44 (by decide) ?_
        refine lv_icmp_ge hx hb dX0_prepare_45 rfl (fun h45 => ?_) (fun h45 => ?_)
        · rw [if_pos h45] at hm
          obtain ⟨rfl, rfl, rfl⟩ := ij3 hm
          subst hQ
          exact W.vret hx hb hr (fun t ht hW => ⟨⟨(), rfl, trivial, by rw [ht]; exact hP, va_K.moved hW.alike hK, hD⟩, hS.F ht⟩) hS.2.2 dX0_prepare_85
        · rw [if_neg h45] at hm
          refine lv_aload_n hx hb dX0_prepare_48 rfl (lv_at hl 0 rfl) ?_
          refine va_get (D := (dC, dI)) (ci := 0) (v := .ref q_t_arguments) (C := RX0) (T := TX0) (N := 7) hx hb hts hn0 hown hK hP 0 rfl rfl 0 (by decide) (htw _ aw_121) (fun _ h9 => h9) rfl dX0_prepare_49 ?_
          refine lv_iload hx hb dX0_prepare_52 (lv_at hl 4 rfl) ?_
          refine lv_iload hx hb dX0_prepare_54 (lv_at hl 2 rfl) ?_
          obtain ⟨h56, hm⟩ := chk_inv hm
          refine va_iast (D := (dC, dI)) hx hb hK hP hD hS 1 0 rfl rfl (in_of (n := 3) (by decide) h56) dX0_prepare_56 (fun H locs hP hD hS => ?_)
          have hP : va_P (dC, dI) vwCl [(q_t, .inr (0, [.ref q_t_arguments, .int t_operation, .int t_many, .int t_failed, .int t_chosen, .int t_kind, .long t_content])), (q_t_arguments, .inl (cI, 3, .inl (upd t_arguments v6.toNatClampNeg v4))), (q_a1, .inr (3, [.ref q_a1_kind, .ref q_a1_content, .ref q_a1_left, .ref q_a1_right, .ref q_a1_given, .int a1_count])), (q_a1_content, .inl (cL, 600, .inr (.inl a1_content))), (q_a1_left, .inl (cI, 600, .inl a1_left)), (q_a1_right, .inl (cI, 600, .inl a1_right))] H := hP
          have hD : va_D A [(q_t, .inr (0, [.ref q_t_arguments, .int t_operation, .int t_many, .int t_failed, .int t_chosen, .int t_kind, .long t_content])), (q_t_arguments, .inl (cI, 3, .inl (upd t_arguments v6.toNatClampNeg v4))), (q_a1, .inr (3, [.ref q_a1_kind, .ref q_a1_content, .ref q_a1_left, .ref q_a1_right, .ref q_a1_given, .int a1_count])), (q_a1_content, .inl (cL, 600, .inr (.inl a1_content))), (q_a1_left, .inl (cI, 600, .inl a1_left)), (q_a1_right, .inl (cI, 600, .inl a1_right))] := hD
          refine lv_aload_n hx hb dX0_prepare_57 rfl (lv_at hl 1 rfl) ?_
          refine va_getN (D := (dC, dI)) (ci := 3) (v := .ref q_a1_left) (C := RX4) (T := TX4) (N := 6) hx hb hts hn1 hown hK hP 2 rfl rfl 2 (by decide) (va_Nw.use rfl (nx_11 hZ.1)) (fun _ h9 => h9) rfl dX0_prepare_58 ?_
          refine lv_iload hx hb dX0_prepare_61 (lv_at hl 3 rfl) ?_
          refine fr_i (wr := [(q_t, .inr (0, [.ref q_t_arguments, .int t_operation, .int t_many, .int t_failed, .int t_chosen, .int t_kind, .long t_content])), (q_t_arguments, .inl (cI, 3, .inl (upd t_arguments v6.toNatClampNeg v4))), (q_a1, .inr (3, [.ref q_a1_kind, .ref q_a1_content, .ref q_a1_left, .ref q_a1_right, .ref q_a1_given, .int a1_count])), (q_a1_content, .inl (cL, 600, .inr (.inl a1_content))), (q_a1_right, .inl (cI, 600, .inl a1_right))]) (w2 := [(q_t, .inr (0, [.ref q_t_arguments, .int t_operation, .int t_many, .int t_failed, .int t_chosen, .int t_kind, .long t_content])), (q_t_arguments, .inl (cI, 3, .inl (upd t_arguments v6.toNatClampNeg v4))), (q_a1, .inr (3, [.ref q_a1_kind, .ref q_a1_content, .ref q_a1_left, .ref q_a1_right, .ref q_a1_given, .int a1_count])), (q_a1_content, .inl (cL, 600, .inr (.inl a1_content))), (q_a1_left, .inl (cI, 600, .inl a1_left)), (q_a1_right, .inl (cI, 600, .inl a1_right))]) (va_runSN (As := [.ref q_a1_left, .int v5]) (rest := []) ⟨hx, hb, hml, hown, hts⟩ (c_TM_at l dC dI cI cL H.size q_a1_left 600 a1_left v5 (by decide)) (kSN 2 hts aw_346 rfl rfl aw_1 (nx_63 hZ.1) aw_345 (by decide +kernel) ⟨Nat.le_of_ble_eq_true rfl, Nat.le_of_ble_eq_true rfl⟩) (fr_preS hK hP hD hS hA hZ [4] rfl rfl) rfl rfl hl.1 rfl (lv_room (Nat.le_of_ble_eq_true rfl)) dX0_prepare_63 ⟨Nat.le_of_ble_eq_true rfl, Nat.le_of_ble_eq_true rfl⟩) hP hD hS hA [4] [0, 1, 2, 3, 5] [0, 1, 2, 3, 5, 4] rfl rfl rfl (by decide) rfl rfl (fun H locs hP hD hS => ?_)
          have hP : va_P (dC, dI) vwCl [(q_t, .inr (0, [.ref q_t_arguments, .int t_operation, .int t_many, .int t_failed, .int t_chosen, .int t_kind, .long t_content])), (q_t_arguments, .inl (cI, 3, .inl (upd t_arguments v6.toNatClampNeg v4))), (q_a1, .inr (3, [.ref q_a1_kind, .ref q_a1_content, .ref q_a1_left, .ref q_a1_right, .ref q_a1_given, .int a1_count])), (q_a1_content, .inl (cL, 600, .inr (.inl a1_content))), (q_a1_left, .inl (cI, 600, .inl a1_left)), (q_a1_right, .inl (cI, 600, .inl a1_right))] H := hP
          have hD : va_D A [(q_t, .inr (0, [.ref q_t_arguments, .int t_operation, .int t_many, .int t_failed, .int t_chosen, .int t_kind, .long t_content])), (q_t_arguments, .inl (cI, 3, .inl (upd t_arguments v6.toNatClampNeg v4))), (q_a1, .inr (3, [.ref q_a1_kind, .ref q_a1_content, .ref q_a1_left, .ref q_a1_right, .ref q_a1_given, .int a1_count])), (q_a1_content, .inl (cL, 600, .inr (.inl a1_content))), (q_a1_left, .inl (cI, 600, .inl a1_left)), (q_a1_right, .inl (cI, 600, .inl a1_right))] := hD
          refine lv_istore (lv' := [(4, .int (at_ 600 a1_left v5)), (0, .ref q_t), (1, .ref q_a1), (5, .int v5), (6, .int v6)]) hx hb dX0_prepare_66 hl (by decide) rfl (fun ls hl => ?_)
          refine lv_aload_n hx hb dX0_prepare_68 rfl (lv_at hl 2 rfl) ?_
          refine va_getN (D := (dC, dI)) (ci := 3) (v := .ref q_a1_right) (C := RX4) (T := TX4) (N := 6) hx hb hts hn1 hown hK hP 2 rfl rfl 3 (by decide) (va_Nw.use rfl (nx_14 hZ.1)) (fun _ h9 => h9) rfl dX0_prepare_69 ?_
          refine lv_iload hx hb dX0_prepare_72 (lv_at hl 3 rfl) ?_
          refine fr_i (wr := [(q_t, .inr (0, [.ref q_t_arguments, .int t_operation, .int t_many, .int t_failed, .int t_chosen, .int t_kind, .long t_content])), (q_t_arguments, .inl (cI, 3, .inl (upd t_arguments v6.toNatClampNeg v4))), (q_a1, .inr (3, [.ref q_a1_kind, .ref q_a1_content, .ref q_a1_left, .ref q_a1_right, .ref q_a1_given, .int a1_count])), (q_a1_content, .inl (cL, 600, .inr (.inl a1_content))), (q_a1_left, .inl (cI, 600, .inl a1_left))]) (w2 := [(q_t, .inr (0, [.ref q_t_arguments, .int t_operation, .int t_many, .int t_failed, .int t_chosen, .int t_kind, .long t_content])), (q_t_arguments, .inl (cI, 3, .inl (upd t_arguments v6.toNatClampNeg v4))), (q_a1, .inr (3, [.ref q_a1_kind, .ref q_a1_content, .ref q_a1_left, .ref q_a1_right, .ref q_a1_given, .int a1_count])), (q_a1_content, .inl (cL, 600, .inr (.inl a1_content))), (q_a1_left, .inl (cI, 600, .inl a1_left)), (q_a1_right, .inl (cI, 600, .inl a1_right))]) (va_runSN (As := [.ref q_a1_right, .int v5]) (rest := []) ⟨hx, hb, hml, hown, hts⟩ (c_TM_at l dC dI cI cL H.size q_a1_right 600 a1_right v5 (by decide)) (kSN 2 hts aw_346 rfl rfl aw_1 (nx_63 hZ.1) aw_345 (by decide +kernel) ⟨Nat.le_of_ble_eq_true rfl, Nat.le_of_ble_eq_true rfl⟩) (fr_preS hK hP hD hS hA hZ [5] rfl rfl) rfl rfl hl.1 rfl (lv_room (Nat.le_of_ble_eq_true rfl)) dX0_prepare_74 ⟨Nat.le_of_ble_eq_true rfl, Nat.le_of_ble_eq_true rfl⟩) hP hD hS hA [5] [0, 1, 2, 3, 4] [0, 1, 2, 3, 4, 5] rfl rfl rfl (by decide) rfl rfl (fun H locs hP hD hS => ?_)
          have hP : va_P (dC, dI) vwCl [(q_t, .inr (0, [.ref q_t_arguments, .int t_operation, .int t_many, .int t_failed, .int t_chosen, .int t_kind, .long t_content])), (q_t_arguments, .inl (cI, 3, .inl (upd t_arguments v6.toNatClampNeg v4))), (q_a1, .inr (3, [.ref q_a1_kind, .ref q_a1_content, .ref q_a1_left, .ref q_a1_right, .ref q_a1_given, .int a1_count])), (q_a1_content, .inl (cL, 600, .inr (.inl a1_content))), (q_a1_left, .inl (cI, 600, .inl a1_left)), (q_a1_right, .inl (cI, 600, .inl a1_right))] H := hP
          have hD : va_D A [(q_t, .inr (0, [.ref q_t_arguments, .int t_operation, .int t_many, .int t_failed, .int t_chosen, .int t_kind, .long t_content])), (q_t_arguments, .inl (cI, 3, .inl (upd t_arguments v6.toNatClampNeg v4))), (q_a1, .inr (3, [.ref q_a1_kind, .ref q_a1_content, .ref q_a1_left, .ref q_a1_right, .ref q_a1_given, .int a1_count])), (q_a1_content, .inl (cL, 600, .inr (.inl a1_content))), (q_a1_left, .inl (cI, 600, .inl a1_left)), (q_a1_right, .inl (cI, 600, .inl a1_right))] := hD
          refine lv_istore (lv' := [(5, .int (at_ 600 a1_right v5)), (4, .int (at_ 600 a1_left v5)), (0, .ref q_t), (1, .ref q_a1), (6, .int v6)]) hx hb dX0_prepare_77 hl (by decide) rfl (fun ls hl => ?_)
          refine lv_iinc (k := 4) (v := v6 + (-1)) (lv' := [(6, .int (v6 + (-1))), (5, .int (at_ 600 a1_right v5)), (4, .int (at_ 600 a1_left v5)), (0, .ref q_t), (1, .ref q_a1)]) hx hb dX0_prepare_79 hl rfl rfl (by decide) rfl (fun ls hl => ?_)
          refine lv_goto hx hb dX0_prepare_82 rfl ?_
          exact ih37 _ _ _ _ _ _ _ _ _ hm (lv_sub hl [3, 4, 2, 1, 0] rfl) hP hD hS
  rw [M_Deed_prepare] at hm
  refine lv_aload_n hx hb dX0_prepare_0 rfl (lv_at hl 0 rfl) ?_
  refine lv_aload_n hx hb dX0_prepare_1 rfl (lv_at hl 1 rfl) ?_
  refine lv_iload_n hx hb dX0_prepare_2 rfl (lv_at hl 2 rfl) ?_
  obtain ⟨r3, e3, hm⟩ := c1_inv hm
  refine fr_i (wr := [(q_t, .inr (0, [.ref q_t_arguments, .int t_operation, .int t_many, .int t_failed, .int t_chosen, .int t_kind, .long t_content])), (q_t_arguments, .inl (cI, 3, .inl t_arguments)), (q_a1_left, .inl (cI, 600, .inl a1_left)), (q_a1_right, .inl (cI, 600, .inl a1_right))]) (w2 := [(q_t, .inr (0, [.ref q_t_arguments, .int t_operation, .int t_many, .int t_failed, .int t_chosen, .int t_kind, .long t_content])), (q_t_arguments, .inl (cI, 3, .inl t_arguments)), (q_a1, .inr (3, [.ref q_a1_kind, .ref q_a1_content, .ref q_a1_left, .ref q_a1_right, .ref q_a1_given, .int a1_count])), (q_a1_content, .inl (cL, 600, .inr (.inl a1_content))), (q_a1_left, .inl (cI, 600, .inl a1_left)), (q_a1_right, .inl (cI, 600, .inl a1_right))]) (va_runV (As := [.int x2]) (rest := [.ref q_t]) ⟨hx, hb, hml, hown, hts⟩ (c_Store_operationOf l dC dI cI cL H.size q_a1 q_a1_kind q_a1_content q_a1_left q_a1_right q_a1_given a1_count a1_content x2 r3 e3) (kV 1 hts aw_499 rfl rfl aw_4 aw_516 aw_497 aw_498 (by decide +kernel) ⟨Nat.le_of_ble_eq_true rfl, Nat.le_of_ble_eq_true rfl⟩) (fr_preV hK hP hD hS hA hZ [2, 3] rfl rfl (ci := 3) (q0 := 0) rfl rfl) rfl rfl hl.1 rfl (lv_room (Nat.le_of_ble_eq_true rfl)) dX0_prepare_3 ⟨Nat.le_of_ble_eq_true rfl, Nat.le_of_ble_eq_true rfl⟩) hP hD hS hA [2, 3] [0, 1, 4, 5] [0, 1, 4, 5, 2, 3] rfl rfl rfl (by decide) rfl rfl (fun H locs hP hD hS => ?_)
  have hP : va_P (dC, dI) vwCl [(q_t, .inr (0, [.ref q_t_arguments, .int t_operation, .int t_many, .int t_failed, .int t_chosen, .int t_kind, .long t_content])), (q_t_arguments, .inl (cI, 3, .inl t_arguments)), (q_a1, .inr (3, [.ref q_a1_kind, .ref q_a1_content, .ref q_a1_left, .ref q_a1_right, .ref q_a1_given, .int a1_count])), (q_a1_content, .inl (cL, 600, .inr (.inl a1_content))), (q_a1_left, .inl (cI, 600, .inl a1_left)), (q_a1_right, .inl (cI, 600, .inl a1_right))] H := hP
  have hD : va_D A [(q_t, .inr (0, [.ref q_t_arguments, .int t_operation, .int t_many, .int t_failed, .int t_chosen, .int t_kind, .long t_content])), (q_t_arguments, .inl (cI, 3, .inl t_arguments)), (q_a1, .inr (3, [.ref q_a1_kind, .ref q_a1_content, .ref q_a1_left, .ref q_a1_right, .ref q_a1_given, .int a1_count])), (q_a1_content, .inl (cL, 600, .inr (.inl a1_content))), (q_a1_left, .inl (cI, 600, .inl a1_left)), (q_a1_right, .inl (cI, 600, .inl a1_right))] := hD
  refine va_put (D := (dC, dI)) (ci := 0) (v := .int r3) (ty := .int) (C := RX0) (T := TX0) (N := 7) hx hb hts hn0 tyX0 tyX0_ok nmX0 hown hK hP hD hS 0 rfl rfl 1 (by decide) (htw _ aw_122) (fun _ h9 => h9) rfl (by decide +kernel) rfl rfl (Nat.le_of_ble_eq_true rfl) dX0_prepare_6 (fun H locs hP hD hS => ?_)
  have hP : va_P (dC, dI) vwCl [(q_t, .inr (0, [.ref q_t_arguments, .int r3, .int t_many, .int t_failed, .int t_chosen, .int t_kind, .long t_content])), (q_t_arguments, .inl (cI, 3, .inl t_arguments)), (q_a1, .inr (3, [.ref q_a1_kind, .ref q_a1_content, .ref q_a1_left, .ref q_a1_right, .ref q_a1_given, .int a1_count])), (q_a1_content, .inl (cL, 600, .inr (.inl a1_content))), (q_a1_left, .inl (cI, 600, .inl a1_left)), (q_a1_right, .inl (cI, 600, .inl a1_right))] H := hP
  have hD : va_D A [(q_t, .inr (0, [.ref q_t_arguments, .int r3, .int t_many, .int t_failed, .int t_chosen, .int t_kind, .long t_content])), (q_t_arguments, .inl (cI, 3, .inl t_arguments)), (q_a1, .inr (3, [.ref q_a1_kind, .ref q_a1_content, .ref q_a1_left, .ref q_a1_right, .ref q_a1_given, .int a1_count])), (q_a1_content, .inl (cL, 600, .inr (.inl a1_content))), (q_a1_left, .inl (cI, 600, .inl a1_left)), (q_a1_right, .inl (cI, 600, .inl a1_right))] := hD
  refine lv_aload_n hx hb dX0_prepare_9 rfl (lv_at hl 0 rfl) ?_
  refine va_getsN (C := "TermMachine") (n := "ARGUMENTS") (d := "[I") hx hb hz_q_ARGUMENTS hS hown (va_Nw.use rfl (nx_62 hZ.1)) (fun _ h9 => h9) dX0_prepare_10 ?_
  refine lv_aload_n hx hb dX0_prepare_13 rfl (lv_at hl 0 rfl) ?_
  refine va_get (D := (dC, dI)) (ci := 0) (v := .int r3) (C := RX0) (T := TX0) (N := 7) hx hb hts hn0 hown hK hP 0 rfl rfl 1 (by decide) (htw _ aw_122) (fun _ h9 => h9) rfl dX0_prepare_14 ?_
  refine fr_i (wr := [(q_t, .inr (0, [.ref q_t_arguments, .int r3, .int t_many, .int t_failed, .int t_chosen, .int t_kind, .long t_content])), (q_t_arguments, .inl (cI, 3, .inl t_arguments)), (q_a1, .inr (3, [.ref q_a1_kind, .ref q_a1_content, .ref q_a1_left, .ref q_a1_right, .ref q_a1_given, .int a1_count])), (q_a1_content, .inl (cL, 600, .inr (.inl a1_content))), (q_a1_left, .inl (cI, 600, .inl a1_left)), (q_a1_right, .inl (cI, 600, .inl a1_right))]) (w2 := [(q_t, .inr (0, [.ref q_t_arguments, .int r3, .int t_many, .int t_failed, .int t_chosen, .int t_kind, .long t_content])), (q_t_arguments, .inl (cI, 3, .inl t_arguments)), (q_a1, .inr (3, [.ref q_a1_kind, .ref q_a1_content, .ref q_a1_left, .ref q_a1_right, .ref q_a1_given, .int a1_count])), (q_a1_content, .inl (cL, 600, .inr (.inl a1_content))), (q_a1_left, .inl (cI, 600, .inl a1_left)), (q_a1_right, .inl (cI, 600, .inl a1_right))]) (va_runSN (As := [.ref q_ARGUMENTS, .int r3]) (rest := [.ref q_t]) ⟨hx, hb, hml, hown, hts⟩ (c_TM_atT l dC dI cI cL H.size q_ARGUMENTS 12 tb_ARGUMENTS r3 (by decide)) (kSN 2 hts aw_346 rfl rfl aw_1 (nx_63 hZ.1) aw_345 (by decide +kernel) ⟨Nat.le_of_ble_eq_true rfl, Nat.le_of_ble_eq_true rfl⟩) (fr_preT hK hP hD hS hA hZ ht_q_ARGUMENTS) rfl rfl hl.1 rfl (lv_room (Nat.le_of_ble_eq_true rfl)) dX0_prepare_17 ⟨Nat.le_of_ble_eq_true rfl, Nat.le_of_ble_eq_true rfl⟩) hP hD hS hA [] [0, 1, 2, 3, 4, 5] [0, 1, 2, 3, 4, 5] rfl rfl rfl (by decide) rfl rfl (fun H locs hP hD hS => ?_)
  have hP : va_P (dC, dI) vwCl [(q_t, .inr (0, [.ref q_t_arguments, .int r3, .int t_many, .int t_failed, .int t_chosen, .int t_kind, .long t_content])), (q_t_arguments, .inl (cI, 3, .inl t_arguments)), (q_a1, .inr (3, [.ref q_a1_kind, .ref q_a1_content, .ref q_a1_left, .ref q_a1_right, .ref q_a1_given, .int a1_count])), (q_a1_content, .inl (cL, 600, .inr (.inl a1_content))), (q_a1_left, .inl (cI, 600, .inl a1_left)), (q_a1_right, .inl (cI, 600, .inl a1_right))] H := hP
  have hD : va_D A [(q_t, .inr (0, [.ref q_t_arguments, .int r3, .int t_many, .int t_failed, .int t_chosen, .int t_kind, .long t_content])), (q_t_arguments, .inl (cI, 3, .inl t_arguments)), (q_a1, .inr (3, [.ref q_a1_kind, .ref q_a1_content, .ref q_a1_left, .ref q_a1_right, .ref q_a1_given, .int a1_count])), (q_a1_content, .inl (cL, 600, .inr (.inl a1_content))), (q_a1_left, .inl (cI, 600, .inl a1_left)), (q_a1_right, .inl (cI, 600, .inl a1_right))] := hD
  refine va_put (D := (dC, dI)) (ci := 0) (v := .int (at_ 12 tb_ARGUMENTS r3)) (ty := .int) (C := RX0) (T := TX0) (N := 7) hx hb hts hn0 tyX0 tyX0_ok nmX0 hown hK hP hD hS 0 rfl rfl 2 (by decide) (htw _ aw_123) (fun _ h9 => h9) rfl (by decide +kernel) rfl rfl (Nat.le_of_ble_eq_true rfl) dX0_prepare_20 (fun H locs hP hD hS => ?_)
  have hP : va_P (dC, dI) vwCl [(q_t, .inr (0, [.ref q_t_arguments, .int r3, .int (at_ 12 tb_ARGUMENTS r3), .int t_failed, .int t_chosen, .int t_kind, .long t_content])), (q_t_arguments, .inl (cI, 3, .inl t_arguments)), (q_a1, .inr (3, [.ref q_a1_kind, .ref q_a1_content, .ref q_a1_left, .ref q_a1_right, .ref q_a1_given, .int a1_count])), (q_a1_content, .inl (cL, 600, .inr (.inl a1_content))), (q_a1_left, .inl (cI, 600, .inl a1_left)), (q_a1_right, .inl (cI, 600, .inl a1_right))] H := hP
  have hD : va_D A [(q_t, .inr (0, [.ref q_t_arguments, .int r3, .int (at_ 12 tb_ARGUMENTS r3), .int t_failed, .int t_chosen, .int t_kind, .long t_content])), (q_t_arguments, .inl (cI, 3, .inl t_arguments)), (q_a1, .inr (3, [.ref q_a1_kind, .ref q_a1_content, .ref q_a1_left, .ref q_a1_right, .ref q_a1_given, .int a1_count])), (q_a1_content, .inl (cL, 600, .inr (.inl a1_content))), (q_a1_left, .inl (cI, 600, .inl a1_left)), (q_a1_right, .inl (cI, 600, .inl a1_right))] := hD
  refine lv_iload_n hx hb dX0_prepare_23 rfl (lv_at hl 3 rfl) ?_
  refine lv_istore (lv' := [(4, .int x3), (0, .ref q_t), (1, .ref q_a1), (2, .int x2), (3, .int x3)]) hx hb dX0_prepare_24 hl (by decide) rfl (fun ls hl => ?_)
  refine lv_iload_n hx hb dX0_prepare_26 rfl (lv_at hl 3 rfl) ?_
  refine lv_istore (lv' := [(5, .int x2), (4, .int x3), (0, .ref q_t), (1, .ref q_a1), (2, .int x2), (3, .int x3)]) hx hb dX0_prepare_27 hl (by decide) rfl (fun ls hl => ?_)
  refine lv_aload_n hx hb dX0_prepare_29 rfl (lv_at hl 2 rfl) ?_
  refine va_get (D := (dC, dI)) (ci := 0) (v := .int (at_ 12 tb_ARGUMENTS r3)) (C := RX0) (T := TX0) (N := 7) hx hb hts hn0 hown hK hP 0 rfl rfl 2 (by decide) (htw _ aw_123) (fun _ h9 => h9) rfl dX0_prepare_30 ?_
  refine lv_iconst (v := 1) hx hb dX0_prepare_33 (by decide) ?_
  refine lv_isub hx hb dX0_prepare_34 ?_
  refine lv_istore (lv' := [(6, .int ((at_ 12 tb_ARGUMENTS r3) - 1)), (5, .int x2), (4, .int x3), (0, .ref q_t), (1, .ref q_a1), (2, .int x2), (3, .int x3)]) hx hb dX0_prepare_35 hl (by decide) rfl (fun ls hl => ?_)
  exact L37 _ _ _ _ _ _ _ _ _ _ hm (lv_sub hl [3, 4, 2, 1, 0] rfl) hP hD hS
def M_Deed_valuesMade (t_failed : Int32) (t_chosen : Int32) : Option (Int32) :=
  (if t_failed = 0 then
    (if t_chosen = (-1) then
      some 2
    else
      some 1)
  else
    some 1)
set_option maxHeartbeats 4000000 in
set_option maxRecDepth 100000 in
theorem c_Deed_valuesMade (l : Launch) (dC : Nat → ClassId) (dI : Nat → Nat → Nat) (cI cL : ClassId) (sz : Nat) (q_t q_t_arguments : Nat) (t_operation t_many t_failed t_chosen t_kind : Int32) (t_content : Int64) (r0 : Int32) (hm : M_Deed_valuesMade t_failed t_chosen = some r0) : Met l yX0_valuesMade wsX0_valuesMade ({ frames := 0, cells := 0, slots := 0, locals := 0 }) (frPc (dC, dI) vwCl [(cI, .int), (cL, .long)] [(q_t, .inr (0, [.ref q_t_arguments, .int t_operation, .int t_many, .int t_failed, .int t_chosen, .int t_kind, .long t_content]))] sz [.ref q_t]) (va_Qi (fun (r : Int32) (_ : Unit) => r = r0) (frB (dC, dI) vwCl [(cI, .int), (cL, .long)] (va_A [(q_t, .inr (0, [.ref q_t_arguments, .int t_operation, .int t_many, .int t_failed, .int t_chosen, .int t_kind, .long t_content]))] sz) [(q_t, .inr (0, [.ref q_t_arguments, .int t_operation, .int t_many, .int t_failed, .int t_chosen, .int t_kind, .long t_content]))]) (va_A [(q_t, .inr (0, [.ref q_t_arguments, .int t_operation, .int t_many, .int t_failed, .int t_chosen, .int t_kind, .long t_content]))] sz)) 0 0 (va_A [(q_t, .inr (0, [.ref q_t_arguments, .int t_operation, .int t_many, .int t_failed, .int t_chosen, .int t_kind, .long t_content]))] sz) := by
  refine Met.ofW (cc := cX0_valuesMade) (maxL := 1) (ret := (some .int)) (by decide) rfl ?_
  intro p e s m args below meth c s₁ B hml hv
  obtain ⟨rfl, hsz, hP, hK, hD0, hZ⟩ := hv
  have hx := B.exec
  have hb := B.bytes
  have hr := B.returns
  have hts := atoms_spec (ws := wsX0_valuesMade) B.pre
  have hown : s.vm.findClass RX0 = some m.cls := findClass_of_methodNamed B.named
  have hlocks := B.notSynchronized
  subst hsz
  have hD := hD0.self (sz := s.heap.size)
  generalize hAe : va_A [(q_t, .inr (0, [.ref q_t_arguments, .int t_operation, .int t_many, .int t_failed, .int t_chosen, .int t_kind, .long t_content]))] s.heap.size = A at hD hZ ⊢
  have hA : ∀ q : Nat, s.heap.size ≤ q → A q := fun q h => by rw [← hAe]; exact Or.inr h
  have hS : va_S A s.heap s.heap [] := va_S.rf
  have hP : va_P (dC, dI) vwCl [(q_t, .inr (0, [.ref q_t_arguments, .int t_operation, .int t_many, .int t_failed, .int t_chosen, .int t_kind, .long t_content]))] s.heap := hP
  have hl := lv_entry ([.ref q_t]) (n := 1) (Nat.le_of_ble_eq_true rfl)
  rw [lg_entry_eq]
  generalize (lg_sl ([.ref q_t]) ++ List.replicate (1 - (lg_sl ([.ref q_t])).length) Slot.unset).toArray = ls at hl ⊢
  have hl : lv_has ls 1 [(0, .ref q_t)] := hl
  refine wq hP hS (fun Q hQ H locs hP hS => ?_)
  have htw : ∀ w ∈ AW, w.before _ s = true := fun w h => hts w (List.mem_cons_of_mem _ h)
  have hn0 : ∀ w ∈ wsX00, w ∈ wsX0_valuesMade := fun w h => List.mem_cons_of_mem _ (inX0 w h)
  rw [M_Deed_valuesMade] at hm
  refine lv_aload_n hx hb dX0_valuesMade_0 rfl (lv_at hl 0 rfl) ?_
  refine va_get (D := (dC, dI)) (ci := 0) (v := .int t_failed) (C := RX0) (T := TX0) (N := 7) hx hb hts hn0 hown hK hP 0 rfl rfl 3 (by decide) (htw _ aw_124) (fun _ h9 => h9) rfl dX0_valuesMade_1 ?_
  refine lv_if_ne hx hb dX0_valuesMade_4 rfl (fun h4 => ?_) (fun h4 => ?_)
  · rw [if_neg h4] at hm
    refine lv_iconst (v := 1) hx hb dX0_valuesMade_15 (by decide) ?_
    refine lv_goto hx hb dX0_valuesMade_16 rfl ?_
    obtain rfl := Option.some.inj hm
    subst hQ
    exact W.iret hx hb hr (fun t ht hW => ⟨⟨_, (), rfl, rfl, by rw [ht]; exact hP, va_K.moved hW.alike hK, hD⟩, hS.F ht⟩) hS.2.2 dX0_valuesMade_20
  · rw [if_pos h4] at hm
    refine lv_aload_n hx hb dX0_valuesMade_7 rfl (lv_at hl 0 rfl) ?_
    refine va_get (D := (dC, dI)) (ci := 0) (v := .int t_chosen) (C := RX0) (T := TX0) (N := 7) hx hb hts hn0 hown hK hP 0 rfl rfl 4 (by decide) (htw _ aw_126) (fun _ h9 => h9) rfl dX0_valuesMade_8 ?_
    refine lv_iconst (v := (-1)) hx hb dX0_valuesMade_11 (by decide) ?_
    refine lv_icmp_eq hx hb dX0_valuesMade_12 rfl (fun h12 => ?_) (fun h12 => ?_)
    · rw [if_pos h12] at hm
      refine lv_iconst (v := 2) hx hb dX0_valuesMade_19 (by decide) ?_
      obtain rfl := Option.some.inj hm
      subst hQ
      exact W.iret hx hb hr (fun t ht hW => ⟨⟨_, (), rfl, rfl, by rw [ht]; exact hP, va_K.moved hW.alike hK, hD⟩, hS.F ht⟩) hS.2.2 dX0_valuesMade_20
    · rw [if_neg h12] at hm
      refine lv_iconst (v := 1) hx hb dX0_valuesMade_15 (by decide) ?_
      refine lv_goto hx hb dX0_valuesMade_16 rfl ?_
      obtain rfl := Option.some.inj hm
      subst hQ
      exact W.iret hx hb hr (fun t ht hW => ⟨⟨_, (), rfl, rfl, by rw [ht]; exact hP, va_K.moved hW.alike hK, hD⟩, hS.F ht⟩) hS.2.2 dX0_valuesMade_20
