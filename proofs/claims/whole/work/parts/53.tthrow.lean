abbrev xPc (D : va_G) (cl : List vw_C) (TY : List (ClassId × FieldType)) (wc : va_W) (sz : Nat) (av : List Value) : Array Value → State → Prop := va_Pc av (fun U => U.heap.size = sz ∧ va_P D cl wc U.heap ∧ va_K D cl TY U ∧ va_D (fun _ => True) wc ∧ stt (va_A wc sz) U U.heap ∧ x_ok (va_A wc sz) U U.heap)
theorem x_ok.same {A : Nat → Prop} {s U : State} {H : Heap} (hv : U.vm = s.vm) (h : x_ok A s H) : x_ok A U H := by
  have hW : s.WarmedH U.vm := by rw [hv]; exact State.WarmedH.refl s
  exact h.warm hW (fun _ _ _ => rfl) (fun _ h => h)
section
variable {s : State} {H : Heap} {locs : List Loc} {D : va_G} {cl : List vw_C} {TY : List (ClassId × FieldType)} {A : Nat → Prop} {ws wc : va_W}
theorem x_preS {As : List Value} (hK : va_K D cl TY s) (hP : va_P D cl ws H) (hD : va_D A ws) (hS : va_S A s.heap H locs) (hA : ∀ q, s.heap.size ≤ q → A q) (hZ : stt A s s.heap) (hX : x_ok A s s.heap) (isC : List Nat) (hC : isC.map (fun i => ws[i]?) = wc.map some) (hnC : va_nd isC = true) : PreS s H (xPc D cl TY wc H.size As) As := by
  have hPc := hP.sub isC (fm_of hC)
  have hF := va_free hD hS hA isC hC
  refine ⟨fun a U g mk q => ?_, fun U hU hW => ⟨rfl, by rw [hU], by rw [hU]; exact hPc, va_K.moved hW.alike hK, (hD.sub isC hnC hC).weaken (fun _ _ _ _ => trivial), hZ.call hW hU hS hF, by rw [hU]; exact hX.warm hW hS.2.1 hF⟩⟩
  obtain ⟨q0, q1, qP, qK, qD, qZ, qX⟩ := q
  exact ⟨q0, q1, qP, va_K.moved (u := U) (U := U.calling g mk a) (Vm.Alike.refl U.vm) qK, qD, stt.same (s := U) (H := U.heap) rfl qZ, x_ok.same (s := U) (H := U.heap) rfl qX⟩
theorem x_preV {As : List Value} {b ci q0 : Nat} {C : String} {T : u_T} {N : Nat} {fs : List Value} (hK : va_K D cl TY s) (hP : va_P D cl ws H) (hD : va_D A ws) (hS : va_S A s.heap H locs) (hA : ∀ q, s.heap.size ≤ q → A q) (hZ : stt A s s.heap) (hX : x_ok A s s.heap) (isC : List Nat) (hC : isC.map (fun i => ws[i]?) = wc.map some) (hnC : va_nd isC = true) (hc : cl[ci]? = some (C, T, N)) (he : wc[q0]? = some (b, .inr (ci, fs))) : PreV s H C b (xPc D cl TY wc H.size (.ref b :: As)) As :=
  ⟨(x_preS (As := .ref b :: As) hK hP hD hS hA hZ hX isC hC hnC).1, va_recv hK (hP.sub isC (fm_of hC)) hc he, (x_preS (As := .ref b :: As) hK hP hD hS hA hZ hX isC hC hnC).2⟩
end
theorem x_blk {p : Program} {l : Launch} {e : Env} {R : Room} {s : State} {m : MethodId} {args : Array Value} {below : List Frame} {meth : Method} {c : Code} {pc : Nat} {ls : Array Slot} {cc : ByteArray} (hl : l.stackTraces = false) (hx : p.tables.exec = Jvm.exec) (hb : c.code = cc) (hml : ls.size = c.maxLocals) {cls tx : String} {iN iS ic q : Nat} (hown : s.vm.findClass "TermMachine" = some m.cls) (hcls : Bundle.fit cls = true) (h : ∀ a ∈ Bundle.ownAtoms "TermMachine" ic cls xUp, a.before args s = true) (hL : (Cond.classLink "TermMachine" iN cls).before args s = true) (hI : (Cond.instantiable cls 6).before args s = true) (hin : (Cond.initialized cls).before args s = true) (hZ : vk_R "TermMachine" iS tx q s)
    (d0 : decode cc pc = .ok (.new iN, 3)) (d3 : decode cc (pc + 3) = .ok (.dup, 1)) (d4 : decode cc (pc + 3 + 1) = .ok (.ldc iS, 2)) (d6 : decode cc (pc + 3 + 1 + 2) = .ok (.invokespecial ic, 3)) (d9 : decode cc (pc + 3 + 1 + 2 + 3) = .ok (.athrow, 1)) (hout : ∀ x ∈ c.exceptionTable.toList, covers x (pc + 3 + 1 + 2 + 3) = false) (hR1 : 5 < R.frames) (hR2 : 100 ≤ R.locals) (hR3 : 1 ≤ R.cells) (hR4 : 6 ≤ R.slots) (hlocks : meth.locks = false) :
    W p l e R s m args below meth c s.heap [] 0 0 (MQT below cls s) (F0 m pc ls []) := by
  refine W.newc hx hb hown hL hI hin rfl d0 (by omega) (by omega) (fun cC kC h1 h2 _ h4 => ?_)
  refine W.eq (g2 := F0 m (pc + 3) ls [.ref s.heap.size]) rfl ?_
  refine lv_dup hx hb d3 rfl ?_
  refine va_ldcS hx hb hown hZ d4 ?_
  exact W_throwS hl hx hb hml hown hcls h h1 h2 (by simp) (Nat.le_refl _) d6 d9 hout hR1 hR2 hlocks
set_option maxHeartbeats 1000000 in
theorem t_TM_text1 (l : Launch) (htr : l.stackTraces = false) (dC : Nat → ClassId) (dI : Nat → Nat → Nat) (cI cL : ClassId) (sz : Nat) (q_t q_i : Nat) (v1 v2 v3 b0 b1 b2 : Value) (ln x1 x2 : Int32) (hc : x2 < 1 ∨ ¬ x2 ≤ 4) : MetT l yX8_text wsX8_text ({ frames := 6, cells := 1, slots := 6, locals := 100 } : Room) (xPc (dC, dI) vwCl [(cI, .int), (cL, .long)] [(q_t, .inr (7, [.ref q_i, v1, v2, v3])), (q_i, .inr (5, [b0, .int ln, b1, b2]))] sz [.ref q_t, .int x1, .int x2]) xIA := by
  refine MetT.ofW (cc := cX8_text) (maxL := 4) (ret := some .int) (by decide) rfl ?_
  intro p e s m args below meth c s₁ B hml hv
  obtain ⟨rfl, hsz, hP, hK, hD0, hZ, hX⟩ := hv
  have hx := B.exec
  have hb := B.bytes
  have hts := atoms_spec (ws := wsX8_text) B.pre
  have hown : s.vm.findClass RX8 = some m.cls := findClass_of_methodNamed B.named
  have hlocks := B.notSynchronized
  subst hsz
  have hl := lv_entry ([.ref q_t, .int x1, .int x2]) (n := 4) (Nat.le_of_ble_eq_true rfl)
  rw [lg_entry_eq]
  generalize (lg_sl ([.ref q_t, .int x1, .int x2]) ++ List.replicate (4 - (lg_sl ([.ref q_t, .int x1, .int x2])).length) Slot.unset).toArray = ls at hl ⊢
  have hl : lv_has ls 4 [(0, .ref q_t), (1, .int x1), (2, .int x2)] := hl
  have htw : ∀ w ∈ AW, w.before _ s = true := fun w h => hts w (List.mem_cons_of_mem _ h)
  have hn0 : ∀ w ∈ wsX80, w ∈ wsX8_text := fun w h => List.mem_cons_of_mem _ (inX8 w h)
  have hn1 : ∀ w ∈ wsX60, w ∈ wsX8_text := fun w h => List.mem_cons_of_mem _ (inX6 w h)
  have hn2 : ∀ w ∈ wsX30, w ∈ wsX8_text := fun w h => List.mem_cons_of_mem _ (inX3 w h)
  have hn3 : ∀ w ∈ wsX70, w ∈ wsX8_text := fun w h => List.mem_cons_of_mem _ (inX7 w h)
  have hout : ∀ pc, ∀ x ∈ c.exceptionTable.toList, covers x pc = false := fun pc => covers_of_empty (B.noHandlers (hts _ List.mem_cons_self)) pc
  obtain ⟨-, -, -, -, ⟨q, hq⟩, -, -, -, -, -⟩ := id hX
  refine lv_iload_n hx hb dX8_text_0 rfl (lv_at hl 2 rfl) ?_
  refine lv_iconst (v := 1) hx hb dX8_text_1 (by decide) ?_
  refine lv_icmp_lt hx hb dX8_text_2 rfl (fun h2 => ?_) (fun h2 => ?_)
  · exact x_blk htr hx hb (hl.1.trans hml.symm) hown (by decide +kernel) (x_atoms x_own1 hX htw) (htw _ aw_360) (htw _ aw_361) (htw _ aw_13) hq dX8_text_10 dX8_text_13 dX8_text_14 dX8_text_16 dX8_text_19 (hout _) (by decide) (by decide) (by decide) (by decide) hlocks
  · refine lv_iload_n hx hb dX8_text_5 rfl (lv_at hl 2 rfl) ?_
    refine lv_iconst (v := 4) hx hb dX8_text_6 (by decide) ?_
    refine lv_icmp_le hx hb dX8_text_7 rfl (fun h7 => ?_) (fun h7 => ?_)
    · exact absurd hc (by rintro (h | h); exact h2 h; exact h h7)
    · exact x_blk htr hx hb (hl.1.trans hml.symm) hown (by decide +kernel) (x_atoms x_own1 hX htw) (htw _ aw_360) (htw _ aw_361) (htw _ aw_13) hq dX8_text_10 dX8_text_13 dX8_text_14 dX8_text_16 dX8_text_19 (hout _) (by decide) (by decide) (by decide) (by decide) hlocks
set_option maxHeartbeats 1000000 in
theorem t_TM_text2 (l : Launch) (htr : l.stackTraces = false) (dC : Nat → ClassId) (dI : Nat → Nat → Nat) (cI cL : ClassId) (sz : Nat) (q_t q_i : Nat) (v1 v2 v3 b0 b1 b2 : Value) (ln x1 x2 : Int32) (hc1 : ¬ x2 < 1) (hc2 : x2 ≤ 4) (hc3 : ¬ ln + x2 ≤ 80) : MetT l yX8_text wsX8_text ({ frames := 6, cells := 1, slots := 6, locals := 100 } : Room) (xPc (dC, dI) vwCl [(cI, .int), (cL, .long)] [(q_t, .inr (7, [.ref q_i, v1, v2, v3])), (q_i, .inr (5, [b0, .int ln, b1, b2]))] sz [.ref q_t, .int x1, .int x2]) xIS := by
  refine MetT.ofW (cc := cX8_text) (maxL := 4) (ret := some .int) (by decide) rfl ?_
  intro p e s m args below meth c s₁ B hml hv
  obtain ⟨rfl, hsz, hP, hK, hD0, hZ, hX⟩ := hv
  have hx := B.exec
  have hb := B.bytes
  have hts := atoms_spec (ws := wsX8_text) B.pre
  have hown : s.vm.findClass RX8 = some m.cls := findClass_of_methodNamed B.named
  have hlocks := B.notSynchronized
  subst hsz
  have hl := lv_entry ([.ref q_t, .int x1, .int x2]) (n := 4) (Nat.le_of_ble_eq_true rfl)
  rw [lg_entry_eq]
  generalize (lg_sl ([.ref q_t, .int x1, .int x2]) ++ List.replicate (4 - (lg_sl ([.ref q_t, .int x1, .int x2])).length) Slot.unset).toArray = ls at hl ⊢
  have hl : lv_has ls 4 [(0, .ref q_t), (1, .int x1), (2, .int x2)] := hl
  have htw : ∀ w ∈ AW, w.before _ s = true := fun w h => hts w (List.mem_cons_of_mem _ h)
  have hn0 : ∀ w ∈ wsX80, w ∈ wsX8_text := fun w h => List.mem_cons_of_mem _ (inX8 w h)
  have hn1 : ∀ w ∈ wsX60, w ∈ wsX8_text := fun w h => List.mem_cons_of_mem _ (inX6 w h)
  have hn2 : ∀ w ∈ wsX30, w ∈ wsX8_text := fun w h => List.mem_cons_of_mem _ (inX3 w h)
  have hn3 : ∀ w ∈ wsX70, w ∈ wsX8_text := fun w h => List.mem_cons_of_mem _ (inX7 w h)
  have hout : ∀ pc, ∀ x ∈ c.exceptionTable.toList, covers x pc = false := fun pc => covers_of_empty (B.noHandlers (hts _ List.mem_cons_self)) pc
  obtain ⟨-, -, -, -, -, ⟨q, hq⟩, -, -, -, -⟩ := id hX
  refine lv_iload_n hx hb dX8_text_0 rfl (lv_at hl 2 rfl) ?_
  refine lv_iconst (v := 1) hx hb dX8_text_1 (by decide) ?_
  refine lv_icmp_lt hx hb dX8_text_2 rfl (fun h2 => absurd h2 hc1) (fun h2 => ?_)
  refine lv_iload_n hx hb dX8_text_5 rfl (lv_at hl 2 rfl) ?_
  refine lv_iconst (v := 4) hx hb dX8_text_6 (by decide) ?_
  refine lv_icmp_le hx hb dX8_text_7 rfl (fun h7 => ?_) (fun h7 => absurd hc2 h7)
  refine lv_aload_n hx hb dX8_text_20 rfl (lv_at hl 0 rfl) ?_
  refine va_get (D := (dC, dI)) (ci := 7) (v := .ref q_i) (C := RX8) (T := TX8) (N := 4) hx hb hts hn0 hown hK hP 0 rfl rfl 0 (by decide) (htw _ aw_249) (fun _ h9 => h9) rfl dX8_text_21 ?_
  refine va_getN (D := (dC, dI)) (ci := 5) (v := .int ln) (C := RX6) (T := TX6) (N := 4) hx hb hts hn1 hown hK hP 1 rfl rfl 1 (by decide) (va_Nw.use rfl (nx_1 hZ.1)) (fun _ h9 => h9) rfl dX8_text_24 ?_
  refine lv_iload_n hx hb dX8_text_27 rfl (lv_at hl 2 rfl) ?_
  refine lv_iadd hx hb dX8_text_28 ?_
  refine lv_bipush (v := 80) hx hb dX8_text_29 (by decide) ?_
  refine lv_icmp_le hx hb dX8_text_31 rfl (fun h31 => absurd h31 hc3) (fun h31 => ?_)
  exact x_blk htr hx hb (hl.1.trans hml.symm) hown (by decide +kernel) (x_atoms x_own2 hX htw) (htw _ aw_427) (htw _ aw_428) (htw _ aw_14) hq dX8_text_34 dX8_text_37 dX8_text_38 dX8_text_40 dX8_text_43 (hout _) (by decide) (by decide) (by decide) (by decide) hlocks
set_option maxHeartbeats 1000000 in
theorem t_TM_begin1 (l : Launch) (htr : l.stackTraces = false) (dC : Nat → ClassId) (dI : Nat → Nat → Nat) (cI cL : ClassId) (sz : Nat) (q_t q_p : Nat) (v0 v1 v3 b0 b1 b2 b3 b5 : Value) (cn x1 : Int32) (hc : x1 < 0 ∨ ¬ x1 ≤ 100000) : MetT l yX8_begin wsX8_begin ({ frames := 6, cells := 1, slots := 6, locals := 100 } : Room) (xPc (dC, dI) vwCl [(cI, .int), (cL, .long)] [(q_t, .inr (7, [v0, v1, .ref q_p, v3])), (q_p, .inr (2, [b0, b1, b2, b3, .int cn, b5]))] sz [.ref q_t, .int x1]) xIA := by
  refine MetT.ofW (cc := cX8_begin) (maxL := 2) (ret := some .boolean) (by decide) rfl ?_
  intro p e s m args below meth c s₁ B hml hv
  obtain ⟨rfl, hsz, hP, hK, hD0, hZ, hX⟩ := hv
  have hx := B.exec
  have hb := B.bytes
  have hts := atoms_spec (ws := wsX8_begin) B.pre
  have hown : s.vm.findClass RX8 = some m.cls := findClass_of_methodNamed B.named
  have hlocks := B.notSynchronized
  subst hsz
  have hl := lv_entry ([.ref q_t, .int x1]) (n := 2) (Nat.le_of_ble_eq_true rfl)
  rw [lg_entry_eq]
  generalize (lg_sl ([.ref q_t, .int x1]) ++ List.replicate (2 - (lg_sl ([.ref q_t, .int x1])).length) Slot.unset).toArray = ls at hl ⊢
  have hl : lv_has ls 2 [(0, .ref q_t), (1, .int x1)] := hl
  have htw : ∀ w ∈ AW, w.before _ s = true := fun w h => hts w (List.mem_cons_of_mem _ h)
  have hn0 : ∀ w ∈ wsX80, w ∈ wsX8_begin := fun w h => List.mem_cons_of_mem _ (inX8 w h)
  have hn1 : ∀ w ∈ wsX60, w ∈ wsX8_begin := fun w h => List.mem_cons_of_mem _ (inX6 w h)
  have hn2 : ∀ w ∈ wsX30, w ∈ wsX8_begin := fun w h => List.mem_cons_of_mem _ (inX3 w h)
  have hn3 : ∀ w ∈ wsX70, w ∈ wsX8_begin := fun w h => List.mem_cons_of_mem _ (inX7 w h)
  have hout : ∀ pc, ∀ x ∈ c.exceptionTable.toList, covers x pc = false := fun pc => covers_of_empty (B.noHandlers (hts _ List.mem_cons_self)) pc
  obtain ⟨-, -, -, -, -, -, ⟨q, hq⟩, -, -, -⟩ := id hX
  refine lv_iload_n hx hb dX8_begin_0 rfl (lv_at hl 1 rfl) ?_
  refine lv_if_lt hx hb dX8_begin_1 rfl (fun h1 => ?_) (fun h1 => ?_)
  · exact x_blk htr hx hb (hl.1.trans hml.symm) hown (by decide +kernel) (x_atoms x_own1 hX htw) (htw _ aw_360) (htw _ aw_361) (htw _ aw_13) hq dX8_begin_10 dX8_begin_13 dX8_begin_14 dX8_begin_16 dX8_begin_19 (hout _) (by decide) (by decide) (by decide) (by decide) hlocks
  · refine lv_iload_n hx hb dX8_begin_4 rfl (lv_at hl 1 rfl) ?_
    refine lv_ldc (v := 100000) hx hb hown (htw _ aw_454) dX8_begin_5 ?_
    refine lv_icmp_le hx hb dX8_begin_7 rfl (fun h7 => ?_) (fun h7 => ?_)
    · exact absurd hc (by rintro (h | h); exact h1 h; exact h h7)
    · exact x_blk htr hx hb (hl.1.trans hml.symm) hown (by decide +kernel) (x_atoms x_own1 hX htw) (htw _ aw_360) (htw _ aw_361) (htw _ aw_13) hq dX8_begin_10 dX8_begin_13 dX8_begin_14 dX8_begin_16 dX8_begin_19 (hout _) (by decide) (by decide) (by decide) (by decide) hlocks
set_option maxHeartbeats 1000000 in
theorem t_TM_begin2 (l : Launch) (htr : l.stackTraces = false) (dC : Nat → ClassId) (dI : Nat → Nat → Nat) (cI cL : ClassId) (sz : Nat) (q_t q_p : Nat) (v0 v1 v3 b0 b1 b2 b3 b5 : Value) (cn x1 : Int32) (hc1 : ¬ x1 < 0) (hc2 : x1 ≤ 100000) (hc3 : cn = 0) : MetT l yX8_begin wsX8_begin ({ frames := 6, cells := 1, slots := 6, locals := 100 } : Room) (xPc (dC, dI) vwCl [(cI, .int), (cL, .long)] [(q_t, .inr (7, [v0, v1, .ref q_p, v3])), (q_p, .inr (2, [b0, b1, b2, b3, .int cn, b5]))] sz [.ref q_t, .int x1]) xIS := by
  refine MetT.ofW (cc := cX8_begin) (maxL := 2) (ret := some .boolean) (by decide) rfl ?_
  intro p e s m args below meth c s₁ B hml hv
  obtain ⟨rfl, hsz, hP, hK, hD0, hZ, hX⟩ := hv
  have hx := B.exec
  have hb := B.bytes
  have hts := atoms_spec (ws := wsX8_begin) B.pre
  have hown : s.vm.findClass RX8 = some m.cls := findClass_of_methodNamed B.named
  have hlocks := B.notSynchronized
  subst hsz
  have hl := lv_entry ([.ref q_t, .int x1]) (n := 2) (Nat.le_of_ble_eq_true rfl)
  rw [lg_entry_eq]
  generalize (lg_sl ([.ref q_t, .int x1]) ++ List.replicate (2 - (lg_sl ([.ref q_t, .int x1])).length) Slot.unset).toArray = ls at hl ⊢
  have hl : lv_has ls 2 [(0, .ref q_t), (1, .int x1)] := hl
  have htw : ∀ w ∈ AW, w.before _ s = true := fun w h => hts w (List.mem_cons_of_mem _ h)
  have hn0 : ∀ w ∈ wsX80, w ∈ wsX8_begin := fun w h => List.mem_cons_of_mem _ (inX8 w h)
  have hn1 : ∀ w ∈ wsX60, w ∈ wsX8_begin := fun w h => List.mem_cons_of_mem _ (inX6 w h)
  have hn2 : ∀ w ∈ wsX30, w ∈ wsX8_begin := fun w h => List.mem_cons_of_mem _ (inX3 w h)
  have hn3 : ∀ w ∈ wsX70, w ∈ wsX8_begin := fun w h => List.mem_cons_of_mem _ (inX7 w h)
  have hout : ∀ pc, ∀ x ∈ c.exceptionTable.toList, covers x pc = false := fun pc => covers_of_empty (B.noHandlers (hts _ List.mem_cons_self)) pc
  obtain ⟨-, -, -, -, -, -, -, ⟨q, hq⟩, -, -⟩ := id hX
  refine lv_iload_n hx hb dX8_begin_0 rfl (lv_at hl 1 rfl) ?_
  refine lv_if_lt hx hb dX8_begin_1 rfl (fun h1 => absurd h1 hc1) (fun h1 => ?_)
  refine lv_iload_n hx hb dX8_begin_4 rfl (lv_at hl 1 rfl) ?_
  refine lv_ldc (v := 100000) hx hb hown (htw _ aw_454) dX8_begin_5 ?_
  refine lv_icmp_le hx hb dX8_begin_7 rfl (fun h7 => ?_) (fun h7 => absurd hc2 h7)
  refine lv_aload_n hx hb dX8_begin_20 rfl (lv_at hl 0 rfl) ?_
  refine va_get (D := (dC, dI)) (ci := 7) (v := .ref q_p) (C := RX8) (T := TX8) (N := 4) hx hb hts hn0 hown hK hP 0 rfl rfl 2 (by decide) (htw _ aw_251) (fun _ h9 => h9) rfl dX8_begin_21 ?_
  refine va_getN (D := (dC, dI)) (ci := 2) (v := .int cn) (C := RX3) (T := TX3) (N := 6) hx hb hts hn2 hown hK hP 1 rfl rfl 4 (by decide) (va_Nw.use rfl (nx_46 hZ.1)) (fun _ h9 => h9) rfl dX8_begin_24 ?_
  refine lv_if_ne hx hb dX8_begin_27 rfl (fun h27 => absurd hc3 h27) (fun h27 => ?_)
  exact x_blk htr hx hb (hl.1.trans hml.symm) hown (by decide +kernel) (x_atoms x_own2 hX htw) (htw _ aw_427) (htw _ aw_428) (htw _ aw_14) hq dX8_begin_30 dX8_begin_33 dX8_begin_34 dX8_begin_36 dX8_begin_39 (hout _) (by decide) (by decide) (by decide) (by decide) hlocks
set_option maxHeartbeats 1000000 in
theorem t_TM_run1 (l : Launch) (htr : l.stackTraces = false) (dC : Nat → ClassId) (dI : Nat → Nat → Nat) (cI cL : ClassId) (sz : Nat) (q_t q_w : Nat) (v0 v2 v3 b0 b1 b2 b3 b4 b6 b7 b8 b9 b10 : Value) (st x1 : Int32) (hc : x1 < 1 ∨ ¬ x1 ≤ 100) : MetT l yX8_run wsX8_run ({ frames := 6, cells := 1, slots := 6, locals := 100 } : Room) (xPc (dC, dI) vwCl [(cI, .int), (cL, .long)] [(q_t, .inr (7, [v0, .ref q_w, v2, v3])), (q_w, .inr (6, [b0, b1, b2, b3, b4, .int st, b6, b7, b8, b9, b10]))] sz [.ref q_t, .int x1]) xIA := by
  refine MetT.ofW (cc := cX8_run) (maxL := 3) (ret := some .int) (by decide) rfl ?_
  intro p e s m args below meth c s₁ B hml hv
  obtain ⟨rfl, hsz, hP, hK, hD0, hZ, hX⟩ := hv
  have hx := B.exec
  have hb := B.bytes
  have hts := atoms_spec (ws := wsX8_run) B.pre
  have hown : s.vm.findClass RX8 = some m.cls := findClass_of_methodNamed B.named
  have hlocks := B.notSynchronized
  subst hsz
  have hl := lv_entry ([.ref q_t, .int x1]) (n := 3) (Nat.le_of_ble_eq_true rfl)
  rw [lg_entry_eq]
  generalize (lg_sl ([.ref q_t, .int x1]) ++ List.replicate (3 - (lg_sl ([.ref q_t, .int x1])).length) Slot.unset).toArray = ls at hl ⊢
  have hl : lv_has ls 3 [(0, .ref q_t), (1, .int x1)] := hl
  have htw : ∀ w ∈ AW, w.before _ s = true := fun w h => hts w (List.mem_cons_of_mem _ h)
  have hn0 : ∀ w ∈ wsX80, w ∈ wsX8_run := fun w h => List.mem_cons_of_mem _ (inX8 w h)
  have hn1 : ∀ w ∈ wsX60, w ∈ wsX8_run := fun w h => List.mem_cons_of_mem _ (inX6 w h)
  have hn2 : ∀ w ∈ wsX30, w ∈ wsX8_run := fun w h => List.mem_cons_of_mem _ (inX3 w h)
  have hn3 : ∀ w ∈ wsX70, w ∈ wsX8_run := fun w h => List.mem_cons_of_mem _ (inX7 w h)
  have hout : ∀ pc, ∀ x ∈ c.exceptionTable.toList, covers x pc = false := fun pc => covers_of_empty (B.noHandlers (hts _ List.mem_cons_self)) pc
  obtain ⟨-, -, -, -, -, -, -, -, ⟨q, hq⟩, -⟩ := id hX
  refine lv_iload_n hx hb dX8_run_0 rfl (lv_at hl 1 rfl) ?_
  refine lv_iconst (v := 1) hx hb dX8_run_1 (by decide) ?_
  refine lv_icmp_lt hx hb dX8_run_2 rfl (fun h2 => ?_) (fun h2 => ?_)
  · exact x_blk htr hx hb (hl.1.trans hml.symm) hown (by decide +kernel) (x_atoms x_own1 hX htw) (htw _ aw_360) (htw _ aw_361) (htw _ aw_13) hq dX8_run_11 dX8_run_14 dX8_run_15 dX8_run_17 dX8_run_20 (hout _) (by decide) (by decide) (by decide) (by decide) hlocks
  · refine lv_iload_n hx hb dX8_run_5 rfl (lv_at hl 1 rfl) ?_
    refine lv_bipush (v := 100) hx hb dX8_run_6 (by decide) ?_
    refine lv_icmp_le hx hb dX8_run_8 rfl (fun h7 => ?_) (fun h7 => ?_)
    · exact absurd hc (by rintro (h | h); exact h2 h; exact h h7)
    · exact x_blk htr hx hb (hl.1.trans hml.symm) hown (by decide +kernel) (x_atoms x_own1 hX htw) (htw _ aw_360) (htw _ aw_361) (htw _ aw_13) hq dX8_run_11 dX8_run_14 dX8_run_15 dX8_run_17 dX8_run_20 (hout _) (by decide) (by decide) (by decide) (by decide) hlocks
set_option maxHeartbeats 1000000 in
theorem t_TM_run2 (l : Launch) (htr : l.stackTraces = false) (dC : Nat → ClassId) (dI : Nat → Nat → Nat) (cI cL : ClassId) (sz : Nat) (q_t q_w : Nat) (v0 v2 v3 b0 b1 b2 b3 b4 b6 b7 b8 b9 b10 : Value) (st x1 : Int32) (hc1 : ¬ x1 < 1) (hc2 : x1 ≤ 100) (hc3 : st = 0) : MetT l yX8_run wsX8_run ({ frames := 6, cells := 1, slots := 6, locals := 100 } : Room) (xPc (dC, dI) vwCl [(cI, .int), (cL, .long)] [(q_t, .inr (7, [v0, .ref q_w, v2, v3])), (q_w, .inr (6, [b0, b1, b2, b3, b4, .int st, b6, b7, b8, b9, b10]))] sz [.ref q_t, .int x1]) xIS := by
  refine MetT.ofW (cc := cX8_run) (maxL := 3) (ret := some .int) (by decide) rfl ?_
  intro p e s m args below meth c s₁ B hml hv
  obtain ⟨rfl, hsz, hP, hK, hD0, hZ, hX⟩ := hv
  have hx := B.exec
  have hb := B.bytes
  have hts := atoms_spec (ws := wsX8_run) B.pre
  have hown : s.vm.findClass RX8 = some m.cls := findClass_of_methodNamed B.named
  have hlocks := B.notSynchronized
  subst hsz
  have hl := lv_entry ([.ref q_t, .int x1]) (n := 3) (Nat.le_of_ble_eq_true rfl)
  rw [lg_entry_eq]
  generalize (lg_sl ([.ref q_t, .int x1]) ++ List.replicate (3 - (lg_sl ([.ref q_t, .int x1])).length) Slot.unset).toArray = ls at hl ⊢
  have hl : lv_has ls 3 [(0, .ref q_t), (1, .int x1)] := hl
  have htw : ∀ w ∈ AW, w.before _ s = true := fun w h => hts w (List.mem_cons_of_mem _ h)
  have hn0 : ∀ w ∈ wsX80, w ∈ wsX8_run := fun w h => List.mem_cons_of_mem _ (inX8 w h)
  have hn1 : ∀ w ∈ wsX60, w ∈ wsX8_run := fun w h => List.mem_cons_of_mem _ (inX6 w h)
  have hn2 : ∀ w ∈ wsX30, w ∈ wsX8_run := fun w h => List.mem_cons_of_mem _ (inX3 w h)
  have hn3 : ∀ w ∈ wsX70, w ∈ wsX8_run := fun w h => List.mem_cons_of_mem _ (inX7 w h)
  have hout : ∀ pc, ∀ x ∈ c.exceptionTable.toList, covers x pc = false := fun pc => covers_of_empty (B.noHandlers (hts _ List.mem_cons_self)) pc
  obtain ⟨-, -, -, -, -, -, -, -, -, ⟨q, hq⟩⟩ := id hX
  refine lv_iload_n hx hb dX8_run_0 rfl (lv_at hl 1 rfl) ?_
  refine lv_iconst (v := 1) hx hb dX8_run_1 (by decide) ?_
  refine lv_icmp_lt hx hb dX8_run_2 rfl (fun h2 => absurd h2 hc1) (fun h2 => ?_)
  refine lv_iload_n hx hb dX8_run_5 rfl (lv_at hl 1 rfl) ?_
  refine lv_bipush (v := 100) hx hb dX8_run_6 (by decide) ?_
  refine lv_icmp_le hx hb dX8_run_8 rfl (fun h7 => ?_) (fun h7 => absurd hc2 h7)
  refine lv_aload_n hx hb dX8_run_21 rfl (lv_at hl 0 rfl) ?_
  refine va_get (D := (dC, dI)) (ci := 7) (v := .ref q_w) (C := RX8) (T := TX8) (N := 4) hx hb hts hn0 hown hK hP 0 rfl rfl 1 (by decide) (htw _ aw_250) (fun _ h9 => h9) rfl dX8_run_22 ?_
  refine va_getN (D := (dC, dI)) (ci := 6) (v := .int st) (C := RX7) (T := TX7) (N := 11) hx hb hts hn3 hown hK hP 1 rfl rfl 5 (by decide) (va_Nw.use rfl (nx_34 hZ.1)) (fun _ h9 => h9) rfl dX8_run_25 ?_
  refine lv_if_ne hx hb dX8_run_28 rfl (fun h27 => absurd hc3 h27) (fun h27 => ?_)
  exact x_blk htr hx hb (hl.1.trans hml.symm) hown (by decide +kernel) (x_atoms x_own2 hX htw) (htw _ aw_427) (htw _ aw_428) (htw _ aw_14) hq dX8_run_31 dX8_run_34 dX8_run_35 dX8_run_37 dX8_run_40 (hout _) (by decide) (by decide) (by decide) (by decide) hlocks
