/-! the one throw of the class: its words, the row that throws, the row that calls it and catches -/
def pg_own : List Cond := Bundle.ownAtoms "BookChecks" 100 "java/lang/IndexOutOfBoundsException" ["java/lang/RuntimeException", "java/lang/Exception"]
def pg_tab : List Cond := pg_own.filter (fun w => w.onTables && w.keepsFace)
def pg_four : List Cond := [.laysStatic Bundle.tN "UNASSIGNED_STACK" Bundle.steD, .isRef (.static Bundle.tN "UNASSIGNED_STACK" Bundle.steD), .laysStatic Bundle.tN "SUPPRESSED_SENTINEL" Bundle.listD, .isRef (.static Bundle.tN "SUPPRESSED_SENTINEL" Bundle.listD)]
theorem pg_cut : ∀ w ∈ pg_own, w ∈ pg_tab ∨ w ∈ pg_four := by decide +kernel
/-- a static field's two words, in a state with warmer tables and the same old cells -/
theorem pg_sta {n d : String} {s U : State} {a0 : Array Value} (hW : s.WarmedH U.vm) (hH : ∀ q : Nat, q < s.heap.size → U.heap[q]? = s.heap[q]?) (h1 : (Cond.laysStatic Bundle.tN n d).before a0 s = true) (h2 : (Cond.isRef (.static Bundle.tN n d)).before a0 s = true) (a : Array Value) :
    (Cond.laysStatic Bundle.tN n d).before a U = true ∧ (Cond.isRef (.static Bundle.tN n d)).before a U = true := by
  obtain ⟨c, k, i, f, q, cell, e1, e2, e3, e4, e5, e6, e7, e8, e9⟩ := Cond.laysStatic_spec (show (Cond.laysStatic Bundle.tN n d).holds a0 s none s [] = true from h1)
  obtain ⟨k', g2, he⟩ := State.fieldFound?_setVm hW.alike e2
  replace g2 : U.fieldFound? Bundle.tN n d = some (c, k', i, f) := g2
  have g4 : k'.statics = some q := by rw [he]; exact e4
  have g5 : U.heap[q]? = some cell := by rw [hH q (Array.getElem?_eq_some_iff.mp e5).1]; exact e5
  have g9 : k'.staticTypes[f.slot]? = some f.type := by rw [he]; exact e9
  obtain ⟨v, hv⟩ : ∃ v, cell.slots[f.slot]? = some v := ⟨_, Array.getElem?_eq_getElem e8⟩
  have t1 : (Term.static Bundle.tN n d).eval a0 s none [] s = some v := by simp [Term.eval, State.fieldNamed?, e2, e3, e4, e5, e6, hv]
  have t2 : (Term.static Bundle.tN n d).eval a U none [] U = some v := by simp [Term.eval, State.fieldNamed?, g2, e3, g4, g5, e6, hv]
  refine ⟨Cond.laysStatic_of (by rw [hW.alike.findClass]; exact e1) g2 e3 g4 g5 e6 e7 e8 g9, ?_⟩
  have h3 : (Cond.isRef (.static Bundle.tN n d)).holds a0 s none s [] = true := h2
  show (Cond.isRef (.static Bundle.tN n d)).holds a U none U [] = true
  simp only [Cond.holds, Cond.value, t1] at h3
  simp only [Cond.holds, Cond.value, t2]
  exact h3
/-- what a throw asks of the state -/
def pg_thr (U : State) : Prop := (∀ w ∈ pg_tab, ∀ a : Array Value, w.before a U = true) ∧ (∀ a : Array Value, (Cond.stringRef "BookChecks" 98 "there is no such page").before a U = true) ∧
  (∀ a : Array Value, (Cond.laysStatic Bundle.tN "UNASSIGNED_STACK" Bundle.steD).before a U = true ∧ (Cond.isRef (.static Bundle.tN "UNASSIGNED_STACK" Bundle.steD)).before a U = true) ∧
  (∀ a : Array Value, (Cond.laysStatic Bundle.tN "SUPPRESSED_SENTINEL" Bundle.listD).before a U = true ∧ (Cond.isRef (.static Bundle.tN "SUPPRESSED_SENTINEL" Bundle.listD)).before a U = true)
theorem pg_thr_of {s U : State} {a0 : Array Value} (hW : s.WarmedH U.vm) (hH : ∀ q : Nat, q < s.heap.size → U.heap[q]? = s.heap[q]?) (h1 : ∀ w ∈ pg_tab, w.before a0 s = true) (h2 : (Cond.stringRef "BookChecks" 98 "there is no such page").before a0 s = true) (h3 : ∀ w ∈ pg_four, w.before a0 s = true) : pg_thr U := by
  refine ⟨fun w hw a => ?_, fun a => ?_, pg_sta hW hH (h3 _ (List.mem_of_getElem? (i := 0) rfl)) (h3 _ (List.mem_of_getElem? (i := 1) rfl)), pg_sta hW hH (h3 _ (List.mem_of_getElem? (i := 2) rfl)) (h3 _ (List.mem_of_getElem? (i := 3) rfl))⟩
  · have hg := (List.mem_filter.mp hw).2
    simp only [Bool.and_eq_true] at hg
    exact va_tabs hg.1 (u := s.setVm U.vm) (U := U) rfl (Cond.before_shiftedFace (State.Shifted.of_warmed hW) w hg.2 (h1 w hw))
  · exact Cond.stringRef_warmed hW h2
theorem pg_thr_move {s U : State} (hW : s.WarmedH U.vm) (hH : ∀ q : Nat, q < s.heap.size → U.heap[q]? = s.heap[q]?) (h : pg_thr s) : pg_thr U :=
  pg_thr_of (a0 := #[]) hW hH (fun w hw => h.1 w hw _) (h.2.1 _) (fun w hw => by
    simp only [pg_four, List.mem_cons, List.not_mem_nil, or_false] at hw
    rcases hw with rfl | rfl | rfl | rfl
    · exact (h.2.2.1 _).1
    · exact (h.2.2.1 _).2
    · exact (h.2.2.2 _).1
    · exact (h.2.2.2 _).2)
theorem pg_words {s : State} (h : pg_thr s) (a : Array Value) : ∀ w ∈ pg_own, w.before a s = true := fun w hw => by
  rcases pg_cut w hw with g | g
  · exact h.1 w g a
  · simp only [pg_four, List.mem_cons, List.not_mem_nil, or_false] at g
    rcases g with rfl | rfl | rfl | rfl
    · exact (h.2.2.1 _).1
    · exact (h.2.2.1 _).2
    · exact (h.2.2.2 _).1
    · exact (h.2.2.2 _).2
/-- how pageAt ends where there is no such page: thrown, one cell more -/
def pg_Q (_ : Array Value) (st : State) (o : Outcome) (t : State) : Prop := ∃ (q : Addr) (ce : Cell), o = .threw q ∧ t.heap[q]? = some ce ∧ ce.vm = .none ∧ st.vm.findClass "java/lang/IndexOutOfBoundsException" = some ce.cls ∧ st.WarmedH t.vm ∧ st.sameButNew ({ t with vm := st.vm } : State) [] 1 6
def pg_E (below : List Frame) (a : Array Value) (s : State) : State → Prop := fun t => ∃ o, t.status = .running ∧ Ended t below o ∧ pg_Q a s o t
section PGT
variable {p : Program} {l : Launch} {e : Env} {R : Room} {s : State} {m : MethodId} {args : Array Value} {below : List Frame} {meth : Method} {c : Code} {ls : Array Slot}
theorem pg_ctor (hx : p.tables.exec = Jvm.exec) (hb : c.code = b_B_pageAt) (hlt : l.stackTraces = false) (hown : s.vm.findClass "BookChecks" = some m.cls) (hth : pg_thr s) (hsize : ls.size = c.maxLocals) (hout : ∀ x ∈ c.exceptionTable.toList, False) (hlocks : meth.locks = false) (hf : 5 < R.frames) (hlo : 83 ≤ R.locals)
    {H : Heap} {a sa : Addr} {cX : ClassId} {kX : Class} (hfX : s.vm.findClass "java/lang/IndexOutOfBoundsException" = some cX) (hkX : s.vm.classes[cX]? = some kX) (hcell : H[a]? = some (freshCell cX kX)) (hnew : s.heap.size ≤ a) :
    W p l e R s m args below meth c H [] 1 6 (pg_E below args s) (F0 m 17 ls [.ref sa, .ref a, .ref a]) := by
  intro T hT X
  have htr : e.platform.stackTraces = false := (show e.platform.stackTraces = l.stackTraces by rw [X.admits.platform]).trans hlt
  obtain ⟨U, hsteps, hrun, hend, hW, hsame, ce, hce, hO⟩ := X.ctorThrowS hx htr (own := "BookChecks") (cls := "java/lang/IndexOutOfBoundsException") (names := ["java/lang/RuntimeException", "java/lang/Exception"]) (ic := 100) hown (by decide +kernel) (by decide +kernel) (pg_words hth args)
    (fun x h => nomatch h) hfX hkX (by rw [hT]; exact hcell) hnew (msg := .ref sa) rfl (g := F0 m 17 ls [.ref sa, .ref a, .ref a]) rfl hsize rfl rfl (rest := []) rfl
    (by rw [hb]; exact d_B_pageAt_17) (by rw [hb]; exact d_B_pageAt_20) (fun x h => (hout x h).elim) hf (show 82 ≤ R.locals by omega) hlocks
  exact ⟨U, hsteps, .threw a, hrun, hend, a, ce, rfl, hce, hO.vm, hO.cls, hW, hsame⟩
theorem pg_throw (hx : p.tables.exec = Jvm.exec) (hb : c.code = b_B_pageAt) (hlt : l.stackTraces = false) (hown : s.vm.findClass "BookChecks" = some m.cls) (hth : pg_thr s) (hk : (Cond.classLink "BookChecks" 96 "java/lang/IndexOutOfBoundsException").before args s = true) (hin : (Cond.instantiable "java/lang/IndexOutOfBoundsException" 6).before args s = true) (hini : (Cond.initialized "java/lang/IndexOutOfBoundsException").before args s = true)
    (hsize : ls.size = c.maxLocals) (hout : ∀ x ∈ c.exceptionTable.toList, False) (hlocks : meth.locks = false) (hf : 5 < R.frames) (hlo : 83 ≤ R.locals) (hc : 1 ≤ R.cells) (hs : 6 ≤ R.slots) :
    W p l e R s m args below meth c s.heap [] 0 0 (pg_E below args s) (F0 m 11 ls []) := by
  intro T hT X
  obtain ⟨vm₁, cX, kX, hfX, hkX, -, -, X₁, st1⟩ := X.newCold hx (own := "BookChecks") (C := "java/lang/IndexOutOfBoundsException") (index := 96) (n := 6) hown hk hin hini (g := F0 m 11 ls []) rfl (by rw [hb]; exact d_B_pageAt_11) (by omega) (by omega)
  obtain ⟨k9, cf9, i9, sa, -, -, -, -, -, hev⟩ := Cond.stringRef_spec hown (hth.2.1 #[])
  have hcellA : ((T.setVm vm₁).pushCell { cls := cX, slots := kX.instanceTypes.map defaultValue, vm := .none }).heap[T.heap.size]? = some (freshCell cX kX) := State.heap_pushCell_size _ _
  have k : W p l e R s m args below meth c ((T.setVm vm₁).pushCell { cls := cX, slots := kX.instanceTypes.map defaultValue, vm := .none }).heap [] 1 6 (pg_E below args s) (F0 m 14 ls [.ref T.heap.size]) := by
    refine lv_dup hx hb d_B_pageAt_14 rfl ?_
    refine va_ldcS hx hb (own := "BookChecks") (tx := "there is no such page") (index := 98) (q := sa) hown ⟨hth.2.1 #[], hev⟩ d_B_pageAt_15 ?_
    exact pg_ctor hx hb hlt hown hth hsize hout hlocks hf hlo hfX hkX hcellA (by rw [hT]; exact Nat.le_refl _)
  obtain ⟨t, a1, b1⟩ := k _ rfl X₁
  exact ⟨t, st1 t a1, b1⟩
/-- the search in a table of one row whose class is that of the thrown cell -/
theorem pg_find {S : State} {g : JFrame} {a : Addr} (hm : S.vm.method? g.method = some meth) (hc : meth.code = some c) {x : ExceptionTableEntry} (htab : c.exceptionTable.toList = [x]) (hcov : covers x g.pc = true) (h0 : x.catchType ≠ 0) {cell : Cell}
    (hL : S.vm.ClassLinks e.platform g.method.cls x.catchType cell.cls) (hcell : S.heap[a]? = some cell) (hv : cell.vm = .none) {kc : Class} (hk : S.vm.classes[cell.cls]? = some kc) (hfit : S.vm.assignable cell.cls cell.cls = true) (r : List Frame) :
    (stepThrowing e S a (.java g :: r)).1 = (S.setVm (S.vm.noted g.method.cls x.catchType (.cls cell.cls))).setFrames (.java { g with pc := x.handlerPc, stack := [.ref a] } :: r) := by
  obtain ⟨ha, ht⟩ := (resolveClass_links e.toSetting hL).op (op := VmOp.resolveClass g.method.cls x.catchType) rfl
  have hal : S.vm.Alike (S.vm.noted g.method.cls x.catchType (.cls cell.cls)) := (Vm.Alike.refl S.vm).noted _ _ _
  obtain ⟨kc', hk', -⟩ := hal.2.2 _ _ hk
  have hfit' : (S.vm.noted g.method.cls x.catchType (.cls cell.cls)).assignable cell.cls cell.cls = true := by rw [hal.assignable]; exact hfit
  have hobj : ∀ k, cell.vm ≠ .statics k := fun k h => by rw [hv] at h; cases h
  have hf : ∀ Q E d acts, wp (findHandler g a) Q E e d acts S ↔ Q (.found x.handlerPc) d acts (S.setVm (S.vm.noted g.method.cls x.catchType (.cls cell.cls))) := by
    intro Q E d acts
    rw [Jvm.W.findHandler_eq hm hc, htab]
    simp only [covers] at hcov
    simp [findHandler.go, hcov, h0, ha, ht, hcell, hobj, hk', hfit', VmOp.dirties, VmOp.acts]
  simp only [stepThrowing, searchFrame, vmDo]
  generalize hr : Sem.go _ e false [] S = res
  obtain ⟨as, rfl, -⟩ := Sem.eq_ok_of hr (a := Handler.found x.handlerPc) (s' := S.setVm (S.vm.noted g.method.cls x.catchType (.cls cell.cls))) (acts' := []) (by simp [hf _ _ _ _])
  rfl
theorem pg_catch {T : State} {locs : List Loc} {cells slots : Nat} (X : Stand p l e R s m args below meth c T locs cells slots) {g : JFrame} (hg : g.method = m) {a : Addr} {cell : Cell} (hcell : T.heap[a]? = some cell) (hv : cell.vm = .none) {x : ExceptionTableEntry} (htab : c.exceptionTable.toList = [x]) (hcov : covers x g.pc = true) (h0 : x.catchType ≠ 0)
    {own name : String} (hown : s.vm.findClass own = some m.cls) (hlink : (Cond.classLink own x.catchType name).before args s = true) (hcast : (Cond.castable name name).before args s = true) (hcl : s.vm.findClass name = some cell.cls) :
    ∃ vm', Stand p l e R s m args below meth c (T.setVm vm') locs cells slots ∧ ∀ target, Steps p.tables e below ((T.setVm vm').setTop { g with pc := x.handlerPc, stack := [.ref a] }) target → Steps p.tables e below ((T.setTop g).pushFrame (.throwing a)) target := by
  subst hg
  have hpl : e.platform.magicAccessors = ({} : Platform).magicAccessors := by rw [X.admits.platform]
  obtain ⟨c1, hc1, hL⟩ := Cond.classLink_spec hown hlink e.platform hpl
  cases hcl.symm.trans hc1
  obtain ⟨c3, c4, hc3, hc4, hfit⟩ := Cond.castable_spec hcast
  cases hcl.symm.trans hc3
  cases hcl.symm.trans hc4
  obtain ⟨dk, _, _, kt, hd, _, _, _, _, hkt, _, hopen⟩ := hL.here
  obtain ⟨kt', hkt', -⟩ := X.warmed.alike.2.2 _ _ hkt
  have hfitT : T.vm.assignable cell.cls cell.cls = true := by rw [X.warmed.alike.assignable]; exact hfit
  refine ⟨_, X.noted (X.warmed.noted hd hopen (State.rightAt_cls hL)), fun target hrest => ?_⟩
  obtain ⟨g₀, hfr⟩ := X.frames_eq
  obtain ⟨hgo, hw⟩ := X.here.throwing a
  refine Steps.head hgo hw ?_
  rw [stepThread_throwing (frames_entered X.here.top _), pg_find (S := (T.setTop g).pushFrame (.throwing a)) (meth := meth) (c := c) X.method' X.code htab hcov h0 (X.warmed.classLinks hL) hcell hv hkt' hfitT]
  have e1 : (((T.setTop g).pushFrame (.throwing a)).setVm (T.vm.noted g.method.cls x.catchType (.cls cell.cls))).setFrames (.java { g with pc := x.handlerPc, stack := [.ref a] } :: T.frames.tail) = (T.setVm (T.vm.noted g.method.cls x.catchType (.cls cell.cls))).setTop { g with pc := x.handlerPc, stack := [.ref a] } := by
    rw [State.setTop_of_frames (s := T.setVm (T.vm.noted g.method.cls x.catchType (.cls cell.cls))) _ (show (T.setVm (T.vm.noted g.method.cls x.catchType (.cls cell.cls))).frames = .java g₀ :: below from hfr), hfr, State.pushFrame, State.setTop_of_frames _ hfr, State.setFrames_setFrames]
    exact State.setFrames_setFrames (T.setVm (T.vm.noted g.method.cls x.catchType (.cls cell.cls))) _ _
  show Steps p.tables e below ((((T.setTop g).pushFrame (.throwing a)).setVm (T.vm.noted g.method.cls x.catchType (.cls cell.cls))).setFrames (.java { g with pc := x.handlerPc, stack := [.ref a] } :: T.frames.tail)) target
  rw [e1]
  exact hrest
theorem pg_frame {T U : State} {k n : Nat} (h : T.sameButNew (U.setVm T.vm) [] k n) : T.heap.size ≤ U.heap.size ∧ ∀ q : Nat, q < T.heap.size → U.heap[q]? = T.heap[q]? := by
  obtain ⟨-, h2, -, -, -, h6⟩ := h
  refine ⟨h2, fun q hq => ?_⟩
  obtain ⟨c9, e1, e2, -, e4⟩ := h6 q _ (Array.getElem?_eq_getElem hq)
  have hs : c9.slots = (T.heap[q]).slots := Array.ext_getElem? fun i => e4 i (fun z => nomatch z)
  have h9 : c9 = T.heap[q] := by rw [hs] at e2; exact e2
  have e5 : U.heap[q]? = some c9 := e1
  rw [e5, h9, Array.getElem?_eq_getElem hq]
/-- the law's call of a pageAt that throws: it goes on at the law's own handler -/
theorem pg_call {H : Heap} {locs : List Loc} {cells slots : Nat} {Q : State → Prop} {rest : List Value} {b : Addr} {xv : Value} {Pc : Array Value → State → Prop} {rm : Room}
    (hM : MetFree l y_B_pageAt (headSpec ws_B_pageAt rm) Pc (fun _ _ _ _ _ => True) pg_Q) (hblind : FrameBlind Pc) (hrc : rm.cells = 1) (hrs : rm.slots = 6) (hfr : rm.frames + 1 ≤ R.frames) (hlo : 8 + (2 + 11) + rm.locals ≤ R.locals)
    (hx : p.tables.exec = Jvm.exec) (hb : c.code = b_Lw_pageAt) (hown : s.vm.findClass "BookChecksLaw" = some m.cls) (htg : ∀ w ∈ gW, w.before args s = true) (hcast : (Cond.castable "java/lang/IndexOutOfBoundsException" "java/lang/IndexOutOfBoundsException").before args s = true)
    (htab : c.exceptionTable.toList = [⟨0, 8, 11, 13⟩]) (hsize : ls.size = c.maxLocals) (hroom : (rest.map fun v => v.category).sum ≤ 8) (hc : cells + 1 ≤ R.cells) (hs : slots + 6 ≤ R.slots)
    (hrecv : ∃ cellB : Cell, H[b]? = some cellB ∧ cellB.vm.isStatics = false ∧ s.vm.findClass "BookChecks" = some cellB.cls) (hPc : ∀ U : State, U.heap = H → s.WarmedH U.vm → Pc [.ref b, xv].toArray U)
    (k : ∀ (q9 : Addr) (H1 : Heap), H.size ≤ H1.size → (∀ q : Nat, q < H.size → H1[q]? = H[q]?) → W p l e R s m args below meth c H1 locs (cells + 1) (slots + 6) Q (F0 m 11 ls [.ref q9])) :
    W p l e R s m args below meth c H locs cells slots Q (F0 m 4 ls (xv :: .ref b :: rest)) := by
  intro T hT X
  obtain ⟨cellB, hcB, hoB, hclB⟩ := hrecv
  have hy : y_B_pageAt.cls ≠ "java/lang/invoke/MethodHandle" ∧ y_B_pageAt.cls ≠ "java/lang/invoke/VarHandle" := by decide +kernel
  obtain ⟨mk, methM, hnamed, hmethM, hstM, habM⟩ := Cond.instanceMethod_spec (htg _ k2_216)
  obtain ⟨methM', cM, hmM', -, -, -, -, -, -, hsigM⟩ := Cond.code_spec hnamed (htg _ kc_B_pageAt)
  cases hmethM.symm.trans hmM'
  obtain ⟨c2, r2, m2, q1, q2, q3, q4, kP, hkP, hkPi⟩ := Cond.selects_spec (htg _ k2_217)
  cases hclB.symm.trans q1
  cases (State.methodFound?_of_named hnamed hy).symm.trans q2
  cases hnamed.symm.trans q3
  have hselP : selectMethod e.platform s.vm cellB.cls mk = .method mk := by rw [Launch.admits_selectMethod X.admits]; exact q4
  have hlen : ([xv] : List Value).length = methM.sig.parameters.length := by
    have h9 : parseMethodDescriptor y_B_pageAt.desc = some ⟨[.int], some .long⟩ := by decide +kernel
    have h8 : parseMethodDescriptor y_B_pageAt.desc = some methM.sig := hsigM
    rw [h9] at h8
    rw [← Option.some.inj h8]; rfl
  obtain ⟨vm₁, X₁, st1⟩ := X.invokevirtual hx hown (htg _ k2_215) hnamed hmethM hstM hkP hkPi hy (a := b) (cell := cellB) (by rw [hT]; exact hcB) (fun z h => by rw [h] at hoB; cases hoB) hselP hmethM habM hkP hkPi
    (g := F0 m 4 ls (xv :: .ref b :: rest)) rfl (argsL := [xv]) (rest := rest) hlen rfl (by rw [hb]; exact d_Lw_pageAt_4)
  have hn1 : (T.setVm vm₁).methodNamed? y_B_pageAt = some mk := X₁.named hnamed
  have hgd : ∀ w ∈ ws_B_pageAt, ∀ a' : Array Value, w.before a' (T.setVm vm₁) = true := fun w hw a' => word_at X₁.warmed ((gd kc_B_pageAt) w hw).2 (htg w ((gd kc_B_pageAt) w hw).1)
  obtain ⟨methY, cY, hmY, hcY, -, hlY, -, -, -, -⟩ := Cond.code_spec hn1 (hgd _ List.mem_cons_self #[])
  obtain ⟨kY, hkY, -⟩ := className_of_methodNamed hn1
  have hinitY : kY.init = .initialized := Cond.initialized_spec (findClass_of_methodNamed hn1) hkY (hgd _ (List.mem_cons_of_mem _ k1_1) #[])
  have happ : (headSpec ws_B_pageAt rm).appliesLoose y_B_pageAt e.platform ((T.setVm vm₁).calling (F0 m 4 ls rest) mk [.ref b, xv].toArray) = true :=
    Spec.appliesLoose_calling (g := F0 m 4 ls rest) X₁.here (by rw [hb]; exact d_Lw_pageAt_4) hn1 hkY hinitY
      (X₁.room_calling (g := F0 m 4 ls rest) (R' := rm) hsize hmY hcY hfr (by rw [hlY]; show 2 * 0 + (rest.map fun v => v.category).sum + (2 + 11) + rm.locals ≤ R.locals; omega) (by rw [hrc]; exact hc) (by rw [hrs]; exact hs))
      (atoms_intro fun w hw => hgd w hw _)
  have hframes : ((T.setVm vm₁).setTop (F0 m 4 ls rest)).frames = .java (F0 m 4 ls rest) :: below := by rw [State.frames_setTop' _ X₁.here.top, X₁.tail]
  obtain ⟨o, t, hsteps, -, hend, q, ce, rfl, hce, hcv, hcl, hWt, hsame⟩ := Steps.callFree hM p X₁.admits X₁.cas X₁.clock (acts := []) (mid := [.java (F0 m 4 ls rest)]) hframes happ (hblind _ _ _ _ (hPc _ hT X₁.warmed)) trivial
  rw [hframes] at hend
  obtain ⟨T', X', hW', hsm, rfl⟩ := X₁.outOfThrown (g := F0 m 4 ls rest) rfl hend hWt hsame
  rw [List.append_nil] at X'
  obtain ⟨z1, z2⟩ := pg_frame hsm
  have hcl' : s.vm.findClass "java/lang/IndexOutOfBoundsException" = some ce.cls := by
    have h9 : vm₁.findClass "java/lang/IndexOutOfBoundsException" = some ce.cls := hcl
    have h8 : s.vm.Alike vm₁ := X₁.warmed.alike
    rw [h8.findClass] at h9
    exact h9
  obtain ⟨vm', X'', st2⟩ := pg_catch X' (g := F0 m 4 ls rest) rfl (a := q) (cell := ce) (by rw [Stand.throwing_heap] at hce; exact hce) hcv htab rfl (by decide) hown (htg _ k2_214) hcast hcl'
  obtain ⟨t2, a1, b1⟩ := k q T'.heap (by rw [← hT]; exact z1) (fun q9 h9 => by rw [← hT] at h9 ⊢; exact z2 q9 h9) (T'.setVm vm') rfl X''
  refine ⟨t2, st1 _ fun acts => ?_, b1⟩
  rw [doInvoke_state]
  exact hsteps.trans (st2 t2 a1)
end PGT
