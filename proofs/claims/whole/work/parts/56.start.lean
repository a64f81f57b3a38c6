theorem l_ai {s : State} {args : Array Value} (h : (Cond.arrayClass .int).before args s = true) : ∃ c, ArrOfT s c .int ∧ va_RA s c .int := by
  obtain ⟨c, k, comp, h1, h2, h3⟩ := Cond.arrayClass_spec h
  exact ⟨c, fun n z => ⟨fun k h => (by cases h), k, h2, comp, h3⟩, h1⟩
theorem l_al {s : State} {args : Array Value} (h : (Cond.arrayClass .long).before args s = true) : ∃ c, ArrOfT s c .long ∧ va_RA s c .long := by
  obtain ⟨c, k, comp, h1, h2, h3⟩ := Cond.arrayClass_spec h
  exact ⟨c, fun n z => ⟨fun k h => (by cases h), k, h2, comp, h3⟩, h1⟩
theorem l_K {s : State} {args : Array Value} (hts : ∀ w ∈ AW, w.before args s = true) : ∃ (dC : Nat → ClassId) (dI : Nat → Nat → Nat) (cI cL : ClassId), va_K (dC, dI) vwCl [(cI, .int), (cL, .long)] s := by
  obtain ⟨c0, i0, k0⟩ := u_known hts inX0 (hts _ aw_116)
  obtain ⟨c1, i1, k1⟩ := u_known hts inX1 (hts _ aw_95)
  obtain ⟨c2, i2, k2⟩ := u_known hts inX3 (hts _ aw_215)
  obtain ⟨c3, i3, k3⟩ := u_known hts inX4 (hts _ aw_55)
  obtain ⟨c4, i4, k4⟩ := u_known hts inX5 (hts _ aw_148)
  obtain ⟨c5, i5, k5⟩ := u_known hts inX6 (hts _ aw_26)
  obtain ⟨c6, i6, k6⟩ := u_known hts inX7 (hts _ aw_49)
  obtain ⟨c7, i7, k7⟩ := u_known hts inX8 (hts _ aw_18)
  obtain ⟨c8, i8, k8⟩ := u_known hts inX9 (hts _ aw_708)
  obtain ⟨cI, a1, a2⟩ := l_ai (hts _ aw_47)
  obtain ⟨cL, b1, b2⟩ := l_al (hts _ aw_93)
  refine ⟨fun c => match c with | 0 => c0 | 1 => c1 | 2 => c2 | 3 => c3 | 4 => c4 | 5 => c5 | 6 => c6 | 7 => c7 | _ => c8, fun c => match c with | 0 => i0 | 1 => i1 | 2 => i2 | 3 => i3 | 4 => i4 | 5 => i5 | 6 => i6 | 7 => i7 | _ => i8, cI, cL, fun c q hq => ?_, fun k q hq => ?_⟩
  · rcases c with _ | _ | _ | _ | _ | _ | _ | _ | _ | c
    · cases hq; exact k0
    · cases hq; exact k1
    · cases hq; exact k2
    · cases hq; exact k3
    · cases hq; exact k4
    · cases hq; exact k5
    · cases hq; exact k6
    · cases hq; exact k7
    · cases hq; exact k8
    · cases hq
  · rcases k with _ | _ | k
    · cases hq; exact ⟨a1, a2⟩
    · cases hq; exact ⟨b1, b2⟩
    · cases hq
theorem l_ztb {args : Array Value} {s : State} {n : String} {N : Nat} {f : Nat → Int32} {A : Nat → Prop} (hN : N < 2 ^ 31) (hl : (Cond.laysStatic "TermMachine" n "[I").before args s = true) (hini : (Cond.initialized "TermMachine").before args s = true) (harr : (Cond.arrayOf (.static "TermMachine" n "[I") .int).before args s = true) (hlen : (Cond.eq (.length (.static "TermMachine" n "[I")) (.int (Int32.ofNat N))).before args s = true)
    (hel : ∀ j : Nat, j < N → (Cond.eq (.elem (.static "TermMachine" n "[I") (.int (Int32.ofNat j))) (.int (f j))).before args s = true) (hA : ∀ a : Nat, a < s.heap.size → ¬ A a) : ztb "TermMachine" n "[I" N f A s s.heap := by
  obtain ⟨t, h1, h2⟩ := va_Tof (f := fun j => .int (f j)) hN harr (va_eqt hlen) (fun j hj => va_eqt (hel j hj)) hA
  exact ⟨t, va_Zof hl hini h1 hA, h2⟩
def l_gv : List Cond := flatC (Jvm.Cond.and given_1 narrow_1)
set_option maxRecDepth 100000 in
theorem l_f1 : ∀ j : Nat, j < 12 → Cond.eq (.elem (.static "TermMachine" "FORCES" "[I") (.int (Int32.ofNat j))) (.int (tb_FORCES j)) ∈ l_gv := by decide +kernel
set_option maxRecDepth 100000 in
theorem l_f2 : ∀ j : Nat, j < 12 → Cond.eq (.elem (.static "TermMachine" "ARGUMENTS" "[I") (.int (Int32.ofNat j))) (.int (tb_ARGUMENTS j)) ∈ l_gv := by decide +kernel
set_option maxRecDepth 100000 in
theorem l_f3 : ∀ j : Nat, j < 12 → Cond.eq (.elem (.static "TermMachine" "COSTS" "[I") (.int (Int32.ofNat j))) (.int (tb_COSTS j)) ∈ l_gv := by decide +kernel
set_option maxRecDepth 100000 in
theorem l_f4 : ∀ j : Nat, j < 36 → Cond.eq (.elem (.static "TermMachine" "WANTED" "[I") (.int (Int32.ofNat j))) (.int (tb_WANTED j)) ∈ l_gv := by decide +kernel
def l_gw : List Cond := [.arrayOf (.static "TermMachine" "FORCES" "[I") .int, .arrayOf (.static "TermMachine" "ARGUMENTS" "[I") .int, .arrayOf (.static "TermMachine" "COSTS" "[I") .int, .arrayOf (.static "TermMachine" "WANTED" "[I") .int, .eq (.length (.static "TermMachine" "FORCES" "[I")) (.int (Int32.ofNat 12)), .eq (.length (.static "TermMachine" "ARGUMENTS" "[I")) (.int (Int32.ofNat 12)), .eq (.length (.static "TermMachine" "COSTS" "[I")) (.int (Int32.ofNat 12)), .eq (.length (.static "TermMachine" "WANTED" "[I")) (.int (Int32.ofNat 36)),
  .isRef (.static Bundle.tN "UNASSIGNED_STACK" Bundle.steD), .isRef (.static Bundle.tN "SUPPRESSED_SENTINEL" Bundle.listD), .not (.castable xIS xIA), .exactly (.string "TermMachine" 35) "java/lang/String", .exactly (.string "TermMachine" 46) "java/lang/String", .exactly (.string "TermMachine" 67) "java/lang/String", .exactly (.string "TermMachine" 69) "java/lang/String", .exactly (.string "TermMachine" 74) "java/lang/String", .exactly (.string "TermMachine" 79) "java/lang/String"]
set_option maxRecDepth 100000 in
theorem l_gi : ∀ w ∈ l_gw, w ∈ l_gv := by decide +kernel
def l_tw : List Cond := [.laysStatic "TermMachine" "FORCES" "[I", .laysStatic "TermMachine" "ARGUMENTS" "[I", .laysStatic "TermMachine" "COSTS" "[I", .laysStatic "TermMachine" "WANTED" "[I", .laysStatic Bundle.tN "UNASSIGNED_STACK" Bundle.steD, .laysStatic Bundle.tN "SUPPRESSED_SENTINEL" Bundle.listD, .stringRef "TermMachine" 35 "n is not 1 .. 4", .stringRef "TermMachine" 46 "the text would be too long", .stringRef "TermMachine" 67 "the budget is not 0 .. 100000", .stringRef "TermMachine" 69 "there is no program", .stringRef "TermMachine" 74 "n is not 1 .. 100", .stringRef "TermMachine" 79 "nothing was begun"] ++ xW
set_option maxRecDepth 100000 in
theorem l_ti : ∀ w ∈ l_tw, w ∈ tables_1 := by decide +kernel
set_option maxRecDepth 100000 in
theorem l_ni : ∀ w ∈ nwL, w ∈ tables_1 := by decide +kernel
theorem l_no : ∀ w ∈ nwL, w.onTables = true := by decide +kernel
theorem l_wo : ∀ w ∈ xW, w.onTables = true := by decide +kernel
theorem l_Z {args : Array Value} {s : State} {A : Nat → Prop} (hts : ∀ w ∈ lw_tbl, w.before args s = true) (hg : (Jvm.Cond.and given_1 narrow_1).before args s = true) (hA : ∀ a : Nat, a < s.heap.size → ¬ A a) : stt A s s.heap := by
  have hs : ∀ w ∈ l_gv, w.before args s = true := flat_of_before _ hg
  have hw : ∀ k : Nat, ∀ w, l_gw[k]? = some w → w.before args s = true := fun k w h => hs w (l_gi w (List.mem_of_getElem? h))
  have ht : ∀ k : Nat, ∀ w, l_tw[k]? = some w → w.before args s = true := fun k w h => hts w (List.mem_append_right _ (l_ti w (List.mem_of_getElem? h)))
  have hini : (Cond.initialized "TermMachine").before args s = true := hts _ (aw_tbl aw_1)
  exact ⟨fun w h => va_Nw.of (l_no w h) (hts w (List.mem_append_right _ (l_ni w h))),
    l_ztb (by decide) (ht 0 _ rfl) hini (hw 0 _ rfl) (hw 4 _ rfl) (fun j hj => hs _ (l_f1 j hj)) hA,
    l_ztb (by decide) (ht 1 _ rfl) hini (hw 1 _ rfl) (hw 5 _ rfl) (fun j hj => hs _ (l_f2 j hj)) hA,
    l_ztb (by decide) (ht 2 _ rfl) hini (hw 2 _ rfl) (hw 6 _ rfl) (fun j hj => hs _ (l_f3 j hj)) hA,
    l_ztb (by decide) (ht 3 _ rfl) hini (hw 3 _ rfl) (hw 7 _ rfl) (fun j hj => hs _ (l_f4 j hj)) hA⟩
theorem l_str {args : Array Value} {s : State} {k : Nat} {tx : String} (h1 : (Cond.stringRef "TermMachine" k tx).before args s = true) (h2 : (Cond.exactly (.string "TermMachine" k) "java/lang/String").before args s = true) : ∃ q : Nat, vk_R "TermMachine" k tx q s := by
  obtain ⟨a, c, cell, k', h3, -⟩ := Cond.exactly_spec h2
  exact ⟨a, vk_R.of h1 h3⟩
theorem l_X {args : Array Value} {s : State} {A : Nat → Prop} (hts : ∀ w ∈ lw_tbl, w.before args s = true) (hg : (Jvm.Cond.and given_1 narrow_1).before args s = true) (hA : ∀ a : Nat, a < s.heap.size → ¬ A a) : x_ok A s s.heap := by
  have hs : ∀ w ∈ l_gv, w.before args s = true := flat_of_before _ hg
  have hw : ∀ k : Nat, ∀ w, l_gw[k]? = some w → w.before args s = true := fun k w h => hs w (l_gi w (List.mem_of_getElem? h))
  have ht : ∀ k : Nat, ∀ w, l_tw[k]? = some w → w.before args s = true := fun k w h => hts w (List.mem_append_right _ (l_ti w (List.mem_of_getElem? h)))
  exact ⟨x_st.of (ht 4 _ rfl) (hw 8 _ rfl) hA, x_st.of (ht 5 _ rfl) (hw 9 _ rfl) hA,
    fun w h => va_Nw.of (l_wo w h) (hts w (List.mem_append_right _ (l_ti w (List.mem_append_right _ h)))), va_Nc.of (hw 10 _ rfl),
    l_str (ht 6 _ rfl) (hw 11 _ rfl), l_str (ht 7 _ rfl) (hw 12 _ rfl), l_str (ht 8 _ rfl) (hw 13 _ rfl), l_str (ht 9 _ rfl) (hw 14 _ rfl), l_str (ht 10 _ rfl) (hw 15 _ rfl), l_str (ht 11 _ rfl) (hw 16 _ rfl)⟩
theorem aw_353 : (.codeWith yL_text cL_text 5 (some .int) [(0, 10, 13, 13), (0, 10, 17, 15)] : Cond) ∈ AW := aw_tb (tb_2 (List.mem_of_getElem? (i := 113) rfl)) rfl
theorem aw_449 : (.codeWith yL_begin cL_begin 4 (some .int) [(0, 16, 19, 13), (0, 16, 22, 15)] : Cond) ∈ AW := aw_tb (tb_2 (List.mem_of_getElem? (i := 209) rfl)) rfl
theorem aw_468 : (.codeWith yL_run cL_run 4 (some .int) [(0, 9, 12, 13), (0, 9, 15, 15)] : Cond) ∈ AW := aw_tb (tb_2 (List.mem_of_getElem? (i := 228) rfl)) rfl
theorem x_runS {p : Program} {l : Launch} {e : Env} {R : Room} {s : State} {m : MethodId} {args : Array Value} {below : List Frame} {meth : Method} {c : Code} {H : Heap} {locs : List Loc} {cells slots : Nat} {y : MethodName} {bytes cc : ByteArray} {maxL nL mc ms n index : Nat} {ret : Option FieldType} {hh : List (Nat × Nat × Nat × Nat)} {X0 : Cond} {rm : Room} {Pc : Array Value → State → Prop} {Qc : Array Value → State → Outcome → State → Prop} {free : Addr → Prop} {own : String} {As rest : List Value} {g : JFrame}
    (S : CallFix p m c cc nL s args (X0 :: AW) own) (hM : Met l y (Cond.codeWith y bytes maxL ret hh :: AW) rm Pc Qc mc ms free) (hcw : Cond.codeWith y bytes maxL ret hh ∈ AW) (hrc : rm.cells = mc) (hrs : rm.slots = ms) (hini : Cond.initialized y.cls ∈ AW) (hl : Cond.methodLink own index y ∈ AW) (hstt : Cond.static y ∈ AW)
    (hd : y.cls ≠ "java/lang/invoke/MethodHandle" ∧ y.cls ≠ "java/lang/invoke/VarHandle" ∧ (parseMethodDescriptor y.desc).map (fun d => d.parameters.length) = some n) (hR : rm.frames + 1 ≤ R.frames ∧ 8 + (maxL + 11) + rm.locals ≤ R.locals) (hp : PreS s H Pc As)
    (hg : g.method = m) (hn : As.length = n) (hsize : g.locals.size = nL) (hstack : g.stack = As.reverse ++ rest) (hW : 2 * g.monitorRoom + (rest.map fun v => v.category).sum ≤ 8) (hdg : decode cc g.pc = .ok (.invokestatic index, 3)) (hf : cells + mc ≤ R.cells ∧ slots + ms ≤ R.slots) :
    va_Run p l e R s m args below meth c H locs cells slots mc ms g rest (Qc As.toArray) free := by
  obtain ⟨hx, hb, hml, ho, hts⟩ := S
  have htw : ∀ w ∈ AW, w.before args s = true := fun w h => hts w (List.mem_cons_of_mem _ h)
  have hws := pay_in hts (gAW (c := X0) hcw)
  have hK : Back l R p e below s args y 3 8 (PreOf R mc ms Pc) (PostOf Qc mc ms free) := va_backW (hh := hh) (bytes := bytes) (maxL := maxL) (ret := ret) hM hp.1 hrc hrs hR.1 hR.2 hws List.mem_cons_self (fun a' U hW => word_at hW (Or.inl (by first | rfl | simp [Cond.onTables, Cond.keeps, Cond.steady])) (htw _ hini))
  intro T hT X
  obtain ⟨mk, methM, cM, hnamed, hmethM, -, -, -, -, -, -, hsigM⟩ := Cond.codeWith_spec (htw _ hcw)
  have hstatic : methM.isStatic = true := Cond.static_spec hnamed hmethM (htw _ hstt)
  obtain ⟨kP, hkP, -⟩ := className_of_methodNamed hnamed
  have hinitP : kP.init = .initialized := Cond.initialized_spec (findClass_of_methodNamed hnamed) hkP (htw _ hini)
  have hlen : As.length = methM.sig.parameters.length := by
    have h2 := hd.2.2
    rw [hsigM] at h2
    exact hn.trans (Option.some.inj h2).symm
  have hdg' : decode c.code g.pc = .ok (.invokestatic index, 3) := by rw [hb]; exact hdg
  obtain ⟨vm₁, X₁, hstep₁⟩ := X.invokestatic hx ho (htw _ hl) hnamed hmethM hstatic hkP hinitP ⟨hd.1, hd.2.1⟩ (g := g) hg (argsL := As) (rest := rest) hlen hstack hdg'
  obtain ⟨v, ⟨U', l2, c2, s2⟩, X', ⟨g', mk', t, L, e1, e2, hq, h1, hL, h2, h3⟩, hsteps⟩ := hK m meth c ⟨T.setVm vm₁, locs, cells, slots⟩ { g with stack := rest } (.invokestatic index) mk As.toArray X₁ hg (hsize.trans hml.symm) hdg' hW (X₁.named hnamed) ⟨hf.1, hf.2, hp.2 (T.setVm vm₁) hT X₁.warmed⟩
  dsimp only [Pt.U, Pt.locs, Pt.cells, Pt.slots] at X' e1 e2 h1 h2 h3 hsteps
  subst h1; subst h2; subst h3
  exact ⟨v, (T.setVm vm₁).calling g' mk' As.toArray, t, U', L, hT, X', hL, e1, e2, hq, fun target h => hstep₁ _ fun acts => by rw [doInvoke_state]; exact hsteps.trans h⟩
