def xIA : String := "java/lang/IllegalArgumentException"
def xIS : String := "java/lang/IllegalStateException"
def xUp : List String := ["java/lang/RuntimeException", "java/lang/Exception"]
def x_st (n d : String) (A : Nat → Prop) (U : State) (H : Heap) : Prop := ∃ (c : ClassId) (k : Class) (i : Nat) (f : Field) (a : Nat) (cell : Cell) (v : Value), U.vm.findClass Bundle.tN = some c ∧ U.fieldFound? Bundle.tN n d = some (c, k, i, f) ∧ f.isStatic = true ∧ k.statics = some a ∧ H[a]? = some cell ∧ cell.vm.isStatics = true ∧ cell.cls = c ∧ f.slot < cell.slots.size ∧ k.staticTypes[f.slot]? = some f.type ∧ cell.slots[f.slot]? = some v ∧ v.isRef = true ∧ ¬ A a
theorem x_st.moved {n d : String} {A : Nat → Prop} {u U : State} {H : Heap} (hvm : u.vm.Alike U.vm) (h : x_st n d A u H) : x_st n d A U H := by
  obtain ⟨c, k, i, f, a, cell, v, h0, h1, h2, h3, h4, h5, h6, h7, h8, h9⟩ := h
  obtain ⟨k', hi', he⟩ := State.fieldFound?_setVm hvm h1
  exact ⟨c, k', i, f, a, cell, v, by rw [hvm.findClass]; exact h0, hi', h2, by rw [he]; exact h3, h4, h5, h6, h7, by rw [he]; exact h8, h9⟩
theorem x_st.kept {n d : String} {A : Nat → Prop} {U : State} {H H1 : Heap} (h : x_st n d A U H) (hq : ∀ a : Nat, a < H.size → ¬ A a → H1[a]? = H[a]?) : x_st n d A U H1 := by
  obtain ⟨c, k, i, f, a, cell, v, h0, h1, h2, h3, h4, h5, h6, h7, h8, h9, h10, h11⟩ := h
  exact ⟨c, k, i, f, a, cell, v, h0, h1, h2, h3, by rw [hq a (Array.getElem?_eq_some_iff.mp h4).1 h11]; exact h4, h5, h6, h7, h8, h9, h10, h11⟩
theorem x_st.narrow {n d : String} {A B : Nat → Prop} {U : State} {H : Heap} (h : x_st n d A U H) (hAB : ∀ q, B q → A q) : x_st n d B U H := by
  obtain ⟨c, k, i, f, a, cell, v, h0, h1, h2, h3, h4, h5, h6, h7, h8, h9, h10, h11⟩ := h
  exact ⟨c, k, i, f, a, cell, v, h0, h1, h2, h3, h4, h5, h6, h7, h8, h9, h10, fun z => h11 (hAB a z)⟩
theorem x_st.lays {n d : String} {A : Nat → Prop} {U : State} {args : Array Value} (h : x_st n d A U U.heap) : (Cond.laysStatic Bundle.tN n d).before args U = true := by
  obtain ⟨c, k, i, f, a, cell, v, h0, h1, h2, h3, h4, h5, h6, h7, h8, h9, h10, h11⟩ := h
  exact Cond.laysStatic_of h0 h1 h2 h3 h4 h5 h6 h7 h8
theorem x_st.isRef {n d : String} {A : Nat → Prop} {U : State} {args : Array Value} (h : x_st n d A U U.heap) : (Cond.isRef (.static Bundle.tN n d)).before args U = true := by
  obtain ⟨c, k, i, f, a, cell, v, h0, h1, h2, h3, h4, h5, h6, h7, h8, h9, h10, h11⟩ := h
  have he : (Term.static Bundle.tN n d).eval args U none [] U = some v := Term.static_eval h1 h2 h3 h4 h5 h9
  simp only [Cond.before, Cond.holds, Cond.value, he]
  cases v <;> simp_all [Value.isRef]
theorem x_st.of {n d : String} {A : Nat → Prop} {s : State} {args : Array Value} (h1 : (Cond.laysStatic Bundle.tN n d).before args s = true) (h2 : (Cond.isRef (.static Bundle.tN n d)).before args s = true) (hA : ∀ a : Nat, a < s.heap.size → ¬ A a) : x_st n d A s s.heap := by
  obtain ⟨c, k, i, f, a, cell, hc, hi, hst, ha, hcell, hs, hcls, hlt, hty⟩ := Cond.laysStatic_spec h1
  cases hv : (Term.static Bundle.tN n d).eval args s none [] s with
  | none => simp [Cond.before, Cond.holds, Cond.value, hv] at h2
  | some v =>
    obtain ⟨hst', a', cell', ha', hcell', -, hslot⟩ := Term.static_spec hi hv
    cases ha.symm.trans ha'
    cases hcell.symm.trans hcell'
    refine ⟨c, k, i, f, a, cell, v, hc, hi, hst, ha, hcell, hs, hcls, hlt, hty, hslot, ?_, hA a (Array.getElem?_eq_some_iff.mp hcell).1⟩
    simp only [Cond.before, Cond.holds, Cond.value, hv] at h2
    cases v <;> simp_all [Value.isRef]
def xW : List Cond := [.castable xIA xIA, .castable xIS xIS, .declares (Bundle.initS "java/lang/RuntimeException"), .declares (Bundle.initS "java/lang/Exception"), .declares (Bundle.initS Bundle.tN)]
def x_ok (A : Nat → Prop) (U : State) (H : Heap) : Prop := x_st "UNASSIGNED_STACK" Bundle.steD A U H ∧ x_st "SUPPRESSED_SENTINEL" Bundle.listD A U H ∧ (∀ w ∈ xW, va_Nw w U) ∧ va_Nc xIS xIA U ∧
  (∃ q : Nat, vk_R "TermMachine" 35 "n is not 1 .. 4" q U) ∧ (∃ q : Nat, vk_R "TermMachine" 46 "the text would be too long" q U) ∧ (∃ q : Nat, vk_R "TermMachine" 67 "the budget is not 0 .. 100000" q U) ∧ (∃ q : Nat, vk_R "TermMachine" 69 "there is no program" q U) ∧ (∃ q : Nat, vk_R "TermMachine" 74 "n is not 1 .. 100" q U) ∧ (∃ q : Nat, vk_R "TermMachine" 79 "nothing was begun" q U)
theorem xW_warm {w : Cond} {s U : State} (hw : w ∈ xW) (hW : s.WarmedH U.vm) (h : va_Nw w s) : va_Nw w U := by
  simp only [xW, List.mem_cons, List.not_mem_nil, or_false] at hw
  rcases hw with rfl | rfl | rfl | rfl | rfl
  · exact h.warmC hW
  · exact h.warmC hW
  · exact h.warmD hW
  · exact h.warmD hW
  · exact h.warmD hW
theorem x_ok.warm {A B : Nat → Prop} {s U : State} {H H1 : Heap} (hW : s.WarmedH U.vm) (hq : ∀ a : Nat, a < H.size → ¬ A a → H1[a]? = H[a]?) (hF : ∀ q, B q → A q) (h : x_ok A s H) : x_ok B U H1 := by
  obtain ⟨h1, h2, h3, h4, ⟨q1, h5⟩, ⟨q2, h6⟩, ⟨q3, h7⟩, ⟨q4, h8⟩, ⟨q5, h9⟩, ⟨q6, h10⟩⟩ := h
  exact ⟨((h1.moved hW.alike).kept hq).narrow hF, ((h2.moved hW.alike).kept hq).narrow hF, fun w hw => xW_warm hw hW (h3 w hw), h4.moved hW.alike, ⟨q1, h5.warm hW⟩, ⟨q2, h6.warm hW⟩, ⟨q3, h7.warm hW⟩, ⟨q4, h8.warm hW⟩, ⟨q5, h9.warm hW⟩, ⟨q6, h10.warm hW⟩⟩
def xEx : List Cond := xW ++ [.laysStatic Bundle.tN "UNASSIGNED_STACK" Bundle.steD, .laysStatic Bundle.tN "SUPPRESSED_SENTINEL" Bundle.listD, .isRef (.static Bundle.tN "UNASSIGNED_STACK" Bundle.steD), .isRef (.static Bundle.tN "SUPPRESSED_SENTINEL" Bundle.listD)]
theorem x_ex {A : Nat → Prop} {U : State} {args : Array Value} (h : x_ok A U U.heap) : ∀ w ∈ xEx, w.before args U = true := by
  obtain ⟨h1, h2, h3, -⟩ := h
  intro w hw
  rcases List.mem_append.mp hw with hw | hw
  · have := h3 w hw
    simp only [xW, List.mem_cons, List.not_mem_nil, or_false] at hw
    rcases hw with rfl | rfl | rfl | rfl | rfl <;> exact va_Nw.use rfl this
  · simp only [List.mem_cons, List.not_mem_nil, or_false] at hw
    rcases hw with rfl | rfl | rfl | rfl
    · exact h1.lays
    · exact h2.lays
    · exact h1.isRef
    · exact h2.isRef
theorem x_inA {a : Cond} (h : (decide (a ∈ tables_1) && goodWord a) = true) : a ∈ AW := by
  simp only [Bool.and_eq_true, decide_eq_true_eq] at h
  exact aw_tb h.1 h.2
set_option maxRecDepth 100000 in
theorem x_own1 : (Bundle.ownAtoms "TermMachine" 37 xIA xUp).all (fun a => (decide (a ∈ tables_1) && goodWord a) || decide (a ∈ xEx) || (decide (a ∈ k2_sels lw_privs) && goodWord a)) = true := by decide +kernel
set_option maxRecDepth 100000 in
theorem x_own2 : (Bundle.ownAtoms "TermMachine" 48 xIS xUp).all (fun a => (decide (a ∈ tables_1) && goodWord a) || decide (a ∈ xEx) || (decide (a ∈ k2_sels lw_privs) && goodWord a)) = true := by decide +kernel
theorem x_atoms {L : List Cond} (hL : L.all (fun a => (decide (a ∈ tables_1) && goodWord a) || decide (a ∈ xEx) || (decide (a ∈ k2_sels lw_privs) && goodWord a)) = true) {A : Nat → Prop} {U : State} {args : Array Value} (h : x_ok A U U.heap) (hw : ∀ w ∈ AW, w.before args U = true) : ∀ a ∈ L, a.before args U = true := by
  intro a ha
  have h1 := List.all_eq_true.mp hL a ha
  simp only [Bool.or_eq_true] at h1
  rcases h1 with (h1 | h1) | h1
  · exact hw a (x_inA h1)
  · exact x_ex h a (of_decide_eq_true h1)
  · simp only [Bool.and_eq_true, decide_eq_true_eq] at h1
    exact hw a (aw_sl h1.1 h1.2)
def x_T (E : String) (st : State) (x : Addr) (t : State) : Prop := ∃ ce : Cell, t.heap[x]? = some ce ∧ st.vm.findClass E = some ce.cls ∧ st.vm.assignable ce.cls ce.cls = true ∧ ce.vm = .none ∧ st.heap.size ≤ x
def MetT (l : Launch) (y : MethodName) (ws : List Cond) (rm : Room) (Pc : Array Value → State → Prop) (E : String) : Prop :=
  MetFree l y (headSpec ws rm) Pc (fun _ _ _ _ _ => True) (fun _ st o t => ∃ x, o = .threw x ∧ x_T E st x t ∧ st.WarmedH t.vm ∧ st.sameButNew ({ t with vm := st.vm } : State) [] 1 6)
def MQT (below : List Frame) (E : String) (s : State) : State → Prop := fun t => ∃ x, t.status = .running ∧ Ended t below (.threw x) ∧ x_T E s x t ∧ s.WarmedH t.vm ∧ s.sameButNew ({ t with vm := s.vm } : State) [] 1 6
theorem MetT.ofW {l : Launch} {y : MethodName} {ws ws' : List Cond} {rm : Room} {Pc : Array Value → State → Prop} {E : String} {cc : ByteArray} {maxL : Nat} {ret : Option FieldType}
    (hy : plainName y.cls = true) (hw : ws = Cond.code y cc maxL ret :: ws')
    (body : ∀ p e s m args below meth c s₁, BodyLoose p l y (headSpec ws rm) cc maxL ret e s m args below meth c s₁ → c.maxLocals = maxL → Pc args s →
      W p l e (headSpec ws rm).room s m args below meth c s.heap [] 0 0 (MQT below E s) (entryFrame m args maxL)) : MetT l y ws rm Pc E := by
  refine MetFree.of_bodyS (code := cc) (maxLocals := maxL) (ret := ret) hy ?_ ?_
  · intro args s m h hn
    obtain ⟨meth, c, h1, h2, h3, h4, h5, h6, -, -⟩ := Cond.code_spec hn (atoms_spec (ws := ws) h _ (by rw [hw]; exact List.mem_cons_self))
    exact ⟨meth, c, h1, h2, h3, h4, h5, h6⟩
  · intro p e s m args below meth c s₁ B hml hP _
    have hh0 : s₁.heap = s.heap := by rw [B.state]; rfl
    obtain ⟨t, a1, x, b1, b2, b3⟩ := body p e s m args below meth c s₁ B hml hP s₁ hh0 (Stand.of_body B)
    exact ⟨t, .threw x, a1, b1, b2, x, rfl, b3⟩
theorem W_throwS {p : Program} {l : Launch} {e : Env} {R : Room} {s : State} {m : MethodId} {args : Array Value} {below : List Frame} {meth : Method} {c : Code} {H : Heap} {pc : Nat} {ls : Array Slot} {cc : ByteArray} (hl : l.stackTraces = false) (hx : p.tables.exec = Jvm.exec) (hb : c.code = cc) (hml : ls.size = c.maxLocals) {own cls : String} {ic : Nat} (hown : s.vm.findClass own = some m.cls) (hcls : Bundle.fit cls = true) (h : ∀ a ∈ Bundle.ownAtoms own ic cls xUp, a.before args s = true)
    {a : Addr} {cX : ClassId} {kX : Class} (hf : s.vm.findClass cls = some cX) (hk : s.vm.classes[cX]? = some kX) (hcell : H[a]? = some { cls := cX, slots := kX.instanceTypes.map defaultValue, vm := .none }) (hnew : s.heap.size ≤ a) {q : Nat}
    (hd6 : decode cc pc = .ok (.invokespecial ic, 3)) (hd9 : decode cc (pc + 3) = .ok (.athrow, 1)) (hout : ∀ x ∈ c.exceptionTable.toList, covers x (pc + 3) = false) (hR1 : 5 < R.frames) (hR2 : 100 ≤ R.locals) (hlocks : meth.locks = false) :
    W p l e R s m args below meth c H [] 1 6 (MQT below cls s) (F0 m pc ls [.ref q, .ref a, .ref a]) := by
  intro T hT X
  have htr : e.platform.stackTraces = false := by rw [X.admits.platform]; exact hl
  obtain ⟨U, hsteps, hrun, hend, hW, hsame, ce, hce, K⟩ := X.ctorThrowS hx htr hown hcls (by decide +kernel) h (fun y hy => by cases hy) hf hk (by rw [hT]; exact hcell) hnew (msg := .ref q) rfl (g := F0 m pc ls [.ref q, .ref a, .ref a]) rfl hml rfl rfl (rest := []) rfl (by rw [hb]; exact hd6) (by rw [hb]; exact hd9) hout (by simpa [xUp] using hR1) (by simp [xUp, Value.category, JFrame.monitorRoom]; omega) hlocks
  exact ⟨U, hsteps, a, hrun, hend, ⟨ce, hce, K.cls, K.self, K.vm, hnew⟩, hW, hsame⟩
