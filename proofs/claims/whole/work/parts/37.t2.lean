theorem kc_Lw_pageAt : Cond.codeWith y_Lw_pageAt b_Lw_pageAt 4 (some .int) [(0, 8, 11, 13)] ∈ gW := gW_in (in2 (List.mem_of_getElem? (i := 213) rfl)) (by decide +kernel)
def ws_Lw_pageAt : List Cond := Cond.codeWith y_Lw_pageAt b_Lw_pageAt 4 (some .int) [(0, 8, 11, 13)] :: gW
theorem pg_blind {av : List Value} {D : va_G} {cl : List vw_C} {tys : List (ClassId × FieldType)} {ws : va_W} : FrameBlind (fun a U => va_Pc av (rdP D cl tys ws) a U ∧ pg_thr U) := fun a U g mk q => ⟨bk_blind a U g mk q.1, pg_thr_move (U := U.calling g mk a) (State.WarmedH.refl U) (fun _ _ => rfl) q.2⟩
theorem pg_blindW {av : List Value} {D : va_G} {cl : List vw_C} {tys : List (ClassId × FieldType)} {ws : va_W} {sz : Nat} : FrameBlind (fun a U => va_Pc av (wrP D cl tys ws sz) a U ∧ pg_thr U) := fun a U g mk q => ⟨bk_blindW a U g mk q.1, pg_thr_move (U := U.calling g mk a) (State.WarmedH.refl U) (fun _ _ => rfl) q.2⟩
/-- the law's call of its own pageAt, which has a table -/
theorem pg_runS {p : Program} {l : Launch} {e : Env} {R : Room} {s : State} {m : MethodId} {args : Array Value} {below : List Frame} {meth : Method} {c : Code} {H : Heap} {locs : List Loc} {cells slots nL : Nat} {cc : ByteArray} {rm : Room} {Pc : Array Value → State → Prop} {Qc : Array Value → State → Outcome → State → Prop} {free : Addr → Prop} {As rest : List Value} {g : JFrame}
    (S : CallFix p m c cc nL s args gW R_Lw) (hM : Met l y_Lw_pageAt ws_Lw_pageAt rm Pc Qc 1 6 free) (hrc : rm.cells = 1) (hrs : rm.slots = 6) (hfr : rm.frames + 1 ≤ R.frames) (hlo : 8 + (4 + 11) + rm.locals ≤ R.locals) (hp : PreS s H Pc As)
    (hg : g.method = m) (hn : As.length = 3) (hsize : g.locals.size = nL) (hstack : g.stack = As.reverse ++ rest) (hW : 2 * g.monitorRoom + (rest.map fun v => v.category).sum ≤ 8) (hdg : decode cc g.pc = .ok (.invokestatic 61, 3)) (hf : cells + 1 ≤ R.cells ∧ slots + 6 ≤ R.slots) :
    va_Run p l e R s m args below meth c H locs cells slots 1 6 g rest (Qc As.toArray) free := by
  obtain ⟨hx, hb, hml, ho, ht⟩ := S
  have hK : Back l R p e below s args y_Lw_pageAt 3 8 (PreOf R 1 6 Pc) (PostOf Qc 1 6 free) := va_backW (hh := [(0, 8, 11, 13)]) (bytes := b_Lw_pageAt) (maxL := 4) (ret := some .int) hM hp.1 hrc hrs hfr hlo (pay_in ht (gd kc_Lw_pageAt)) List.mem_cons_self (fun a' U hW9 => word_at hW9 (good_of_word (List.mem_filter.mp k1_0).2) (ht _ k1_0))
  have hy : y_Lw_pageAt.cls ≠ "java/lang/invoke/MethodHandle" ∧ y_Lw_pageAt.cls ≠ "java/lang/invoke/VarHandle" := by decide +kernel
  intro T hT X
  obtain ⟨mk, methM, cM, hnamed, hmethM, -, -, -, -, -, -, hsigM⟩ := Cond.codeWith_spec (ht _ kc_Lw_pageAt)
  have hstatic : methM.isStatic = true := Cond.static_spec hnamed hmethM (ht _ k2_212)
  obtain ⟨kP, hkP, -⟩ := className_of_methodNamed hnamed
  have hini : kP.init = .initialized := Cond.initialized_spec (findClass_of_methodNamed hnamed) hkP (ht _ k1_0)
  have hlen : As.length = methM.sig.parameters.length := by
    have h9 : (parseMethodDescriptor y_Lw_pageAt.desc).map (fun d => d.parameters.length) = some 3 := by decide +kernel
    rw [hsigM] at h9
    rw [hn]; exact (Option.some.inj h9).symm
  obtain ⟨vm₁, X₁, st1⟩ := X.invokestatic hx ho (ht _ k2_211) hnamed hmethM hstatic hkP hini hy (g := g) hg (argsL := As) (rest := rest) hlen hstack (by rw [hb]; exact hdg)
  obtain ⟨v, ⟨U', l2, c2, s2⟩, X', ⟨g', mk', t, L, e1, e2, hq, h1, hL, h2, h3⟩, st2⟩ := hK m meth c ⟨T.setVm vm₁, locs, cells, slots⟩ { g with stack := rest } (.invokestatic 61) mk As.toArray X₁ hg (hsize.trans hml.symm) (by rw [hb]; exact hdg) hW (X₁.named hnamed) ⟨hf.1, hf.2, hp.2 (T.setVm vm₁) hT X₁.warmed⟩
  dsimp only [Pt.U, Pt.locs, Pt.cells, Pt.slots] at X' e1 e2 h1 h2 h3 st2
  subst h1; subst h2; subst h3
  exact ⟨v, (T.setVm vm₁).calling g' mk' As.toArray, t, U', L, hT, X', hL, e1, e2, hq, fun target h => st1 _ fun acts => by rw [doInvoke_state]; exact st2.trans h⟩
set_option maxHeartbeats 4000000 in
set_option maxRecDepth 100000 in
theorem c_B_pageAt_ok (l : Launch) (dC : Nat → ClassId) (dI : Nat → Nat → Nat) (cI cL cZ : ClassId) (xo up us uj ul uk ut uq uw uc : Nat) (sd : Int64) (b1 b2 b3 b4 n : Nat) (gr : Nat → Nat) (j : Nat) (hn : n ≤ 30) (hj : j < n) : Met l y_B_pageAt ws_B_pageAt { frames := 2, cells := 0, slots := 0, locals := 42 } (va_Pc [.ref xo, .int (nI j)] (rdP (dC, dI) vwCl [(cI, .int), (cL, .long), (cZ, .boolean)] [(xo, .inr (0, [.long sd, .ref up, .ref us, .ref uj, .ref ul, .ref uk, .ref ut, .ref uq, .ref uw, .ref uc])), (up, .inr (1, [.ref b1, .ref b2, .ref b3, .ref b4, .int (nI n)])), (b4, .inl (cL, 30, .inr (.inl (aL gr))))])) (vp_Sl (fun r => r = lN (gr j))) 0 0 (fun _ => False) := by
  refine Met.ofW (cc := b_B_pageAt) (maxL := 2) (ret := (some .long)) (by decide) rfl ?_
  intro pr en s m args below meth c s₁ B hml hv
  obtain ⟨rfl, hN, hP, hK⟩ := hv
  have hx := B.exec
  have hb := B.bytes
  have hr := B.returns
  have hts := atoms_spec (ws := ws_B_pageAt) B.pre
  have htg : ∀ w ∈ gW, w.before _ s = true := fun w h => hts w (List.mem_cons_of_mem _ h)
  have hown : s.vm.findClass R_B = some m.cls := findClass_of_methodNamed B.named
  have hlocks := B.notSynchronized
  have hl := lv_entry ([.ref xo, .int (nI j)]) (n := 2) (Nat.le_of_ble_eq_true rfl)
  rw [lg_entry_eq]
  generalize (lg_sl ([.ref xo, .int (nI j)]) ++ List.replicate (2 - (lg_sl ([.ref xo, .int (nI j)])).length) Slot.unset).toArray = ls at hl ⊢
  have hl : lv_has ls 2 [(0, .ref xo), (1, .int (nI j))] := hl
  refine lv_aload_n hx hb d_B_pageAt_0 rfl (lv_at hl 0 rfl) ?_
  refine va_get (D := (dC, dI)) (ci := 0) (v := .ref up) (C := R_B) (T := F_B) (N := 10) hx hb htg iw_B hown hK hP 0 rfl rfl 1 (by decide) (htg _ k1_158) (fun _ h9 => h9) rfl d_B_pageAt_1 ?_
  refine lv_iload_n hx hb d_B_pageAt_4 rfl (lv_at hl 1 rfl) ?_
  refine vp_callSi (va_runV (As := [.int (nI j)]) (rest := []) ⟨hx, hb, hml, hown, htg⟩ (c_Bk_has l dC dI cI cL cZ up b1 b2 b3 b4 n (nI j) (by omega)) (cwV 1 htg (gdV k2_219 k1_231 k1_232 k1_2 kc_Bk_has) rfl rfl rfl (by decide +kernel) ⟨Nat.le_of_ble_eq_true rfl, Nat.le_of_ble_eq_true rfl⟩) ⟨bk_blind, va_recv hK hP (ci := 1) (q0 := 1) rfl rfl, fun U hU hW => ⟨rfl, nw_warm hW hN, by rw [hU]; exact hP.sub [1] rfl, va_K.moved hW.alike hK⟩⟩ rfl rfl hl.1 rfl (lv_room (Nat.le_of_ble_eq_true rfl)) d_B_pageAt_5 ⟨Nat.le_of_ble_eq_true rfl, Nat.le_of_ble_eq_true rfl⟩).run (fun r5 e5 => ?_)
  rcases e5 with ⟨⟨j5, hj5, hx5⟩, rfl⟩ | ⟨n5, rfl⟩
  · refine bk_if_ne (a := 1) (tgt := 21) hx hb (by omega) d_B_pageAt_8 (by decide) (fun c8 => ?_) (fun c8 => absurd c8 (by decide))
    refine lv_aload_n hx hb d_B_pageAt_21 rfl (lv_at hl 0 rfl) ?_
    refine va_get (D := (dC, dI)) (ci := 0) (v := .ref up) (C := R_B) (T := F_B) (N := 10) hx hb htg iw_B hown hK hP 0 rfl rfl 1 (by decide) (htg _ k1_158) (fun _ h9 => h9) rfl d_B_pageAt_22 ?_
    refine lv_iload_n hx hb d_B_pageAt_25 rfl (lv_at hl 1 rfl) ?_
    refine vp_callSl (va_runV (As := [.int (nI j)]) (rest := []) ⟨hx, hb, hml, hown, htg⟩ (c_Bk_gramsOf l dC dI cI cL cZ up b1 b2 b3 b4 n gr (nI j) (by omega)) (cwV 1 htg (gdV k2_24 k2_25 k2_26 k1_2 kc_Bk_gramsOf) rfl rfl rfl (by decide +kernel) ⟨Nat.le_of_ble_eq_true rfl, Nat.le_of_ble_eq_true rfl⟩) ⟨bk_blind, va_recv hK hP (ci := 1) (q0 := 1) rfl rfl, fun U hU hW => ⟨rfl, nw_warm hW hN, by rw [hU]; exact hP.sub [1, 2] rfl, va_K.moved hW.alike hK⟩⟩ rfl rfl hl.1 rfl (lv_room (Nat.le_of_ble_eq_true rfl)) d_B_pageAt_26 ⟨Nat.le_of_ble_eq_true rfl, Nat.le_of_ble_eq_true rfl⟩).run (fun r26 e26 => ?_)
    obtain ⟨q26, uq26, hx26, rfl⟩ := e26.resolve_right (fun z9 => z9.1 ⟨j, hj, rfl⟩)
    have hq26 : j = q26 := (nI_eq (by omega) (by omega)).mp hx26
    rw [← hq26]
    exact W.lret (v := lN (gr j)) hx hb hr (fun t9 ht9 hW9 => ⟨lN (gr j), rfl, rfl, ht9⟩) (fun q h => nomatch h) d_B_pageAt_29
  · refine bk_if_ne (a := 0) (tgt := 21) hx hb (by omega) d_B_pageAt_8 (by decide) (fun c8 => absurd c8 (by decide)) (fun c8 => ?_)
    exact absurd ⟨j, hj, rfl⟩ n5
set_option maxHeartbeats 4000000 in
set_option maxRecDepth 100000 in
theorem c_B_pageAt_no (l : Launch) (hlt : l.stackTraces = false) (dC : Nat → ClassId) (dI : Nat → Nat → Nat) (cI cL cZ : ClassId) (xo up us uj ul uk ut uq uw uc : Nat) (sd : Int64) (b1 b2 b3 b4 n : Nat) (gr : Nat → Nat) (x : Int32) (hn : n ≤ 30) (hno : ¬ inR n x) : MetFree l y_B_pageAt (headSpec ws_B_pageAt { frames := 6, cells := 1, slots := 6, locals := 90 }) (fun a U => va_Pc [.ref xo, .int x] (rdP (dC, dI) vwCl [(cI, .int), (cL, .long), (cZ, .boolean)] [(xo, .inr (0, [.long sd, .ref up, .ref us, .ref uj, .ref ul, .ref uk, .ref ut, .ref uq, .ref uw, .ref uc])), (up, .inr (1, [.ref b1, .ref b2, .ref b3, .ref b4, .int (nI n)])), (b4, .inl (cL, 30, .inr (.inl (aL gr))))]) a U ∧ pg_thr U) (fun _ _ _ _ _ => True) pg_Q := by
  refine MetFree.of_bodyS (code := b_B_pageAt) (maxLocals := 2) (ret := (some .long)) (by decide) ?_ ?_
  · intro args s m h hn9
    obtain ⟨meth, c, h1, h2, h3, h4, h5, h6, -, -⟩ := Cond.code_spec hn9 (atoms_spec (ws := ws_B_pageAt) h _ List.mem_cons_self)
    exact ⟨meth, c, h1, h2, h3, h4, h5, h6⟩
  · intro pr en s m args below meth c s₁ B hml hv _
    have hh0 : s₁.heap = s.heap := by rw [B.state]; rfl
    suffices hW9 : W pr l en (headSpec ws_B_pageAt { frames := 6, cells := 1, slots := 6, locals := 90 }).room s m args below meth c s.heap [] 0 0 (pg_E below args s) (entryFrame m args 2) by
      obtain ⟨t, a1, o, q1, q2, q3⟩ := hW9 s₁ hh0 (Stand.of_body B)
      exact ⟨t, o, a1, q1, q2, q3⟩
    obtain ⟨⟨rfl, hN, hP, hK⟩, hth⟩ := hv
    have hout : ∀ x ∈ c.exceptionTable.toList, False := by
      obtain ⟨meth9, c9, g1, g2, -, -, -, -, g7, -⟩ := Cond.code_spec B.named (atoms_spec (ws := ws_B_pageAt) B.pre _ List.mem_cons_self)
      cases Option.some.inj (g1.symm.trans B.method)
      cases Option.some.inj (g2.symm.trans (Stand.of_body B).code)
      intro x9 hx9
      rw [Array.isEmpty_iff.mp g7] at hx9
      cases hx9
    have hx := B.exec
    have hb := B.bytes
    have hr := B.returns
    have hts := atoms_spec (ws := ws_B_pageAt) B.pre
    have htg : ∀ w ∈ gW, w.before _ s = true := fun w h => hts w (List.mem_cons_of_mem _ h)
    have hown : s.vm.findClass R_B = some m.cls := findClass_of_methodNamed B.named
    have hlocks := B.notSynchronized
    have hl := lv_entry ([.ref xo, .int x]) (n := 2) (Nat.le_of_ble_eq_true rfl)
    rw [lg_entry_eq]
    generalize (lg_sl ([.ref xo, .int x]) ++ List.replicate (2 - (lg_sl ([.ref xo, .int x])).length) Slot.unset).toArray = ls at hl ⊢
    have hl : lv_has ls 2 [(0, .ref xo), (1, .int x)] := hl
    refine lv_aload_n hx hb d_B_pageAt_0 rfl (lv_at hl 0 rfl) ?_
    refine va_get (D := (dC, dI)) (ci := 0) (v := .ref up) (C := R_B) (T := F_B) (N := 10) hx hb htg iw_B hown hK hP 0 rfl rfl 1 (by decide) (htg _ k1_158) (fun _ h9 => h9) rfl d_B_pageAt_1 ?_
    refine lv_iload_n hx hb d_B_pageAt_4 rfl (lv_at hl 1 rfl) ?_
    refine vp_callSi (va_runV (As := [.int x]) (rest := []) ⟨hx, hb, hml, hown, htg⟩ (c_Bk_has l dC dI cI cL cZ up b1 b2 b3 b4 n x (by omega)) (cwV 1 htg (gdV k2_219 k1_231 k1_232 k1_2 kc_Bk_has) rfl rfl rfl (by decide +kernel) ⟨Nat.le_of_ble_eq_true rfl, Nat.le_of_ble_eq_true rfl⟩) ⟨bk_blind, va_recv hK hP (ci := 1) (q0 := 1) rfl rfl, fun U hU hW => ⟨rfl, nw_warm hW hN, by rw [hU]; exact hP.sub [1] rfl, va_K.moved hW.alike hK⟩⟩ rfl rfl hl.1 rfl (lv_room (Nat.le_of_ble_eq_true rfl)) d_B_pageAt_5 ⟨Nat.le_of_ble_eq_true rfl, Nat.le_of_ble_eq_true rfl⟩).run (fun r5 e5 => ?_)
    rcases e5 with ⟨⟨j5, hj5, hx5⟩, rfl⟩ | ⟨n5, rfl⟩
    · refine bk_if_ne (a := 1) (tgt := 21) hx hb (by omega) d_B_pageAt_8 (by decide) (fun c8 => ?_) (fun c8 => absurd c8 (by decide))
      exact absurd ⟨j5, hj5, hx5⟩ hno
    · refine bk_if_ne (a := 0) (tgt := 21) hx hb (by omega) d_B_pageAt_8 (by decide) (fun c8 => absurd c8 (by decide)) (fun c8 => ?_)
      exact pg_throw hx hb hlt hown hth (htg _ k2_220) (htg _ k2_221) (htg _ k1_14) (by rw [hml]; exact hl.1) hout hlocks (Nat.le_of_ble_eq_true rfl) (Nat.le_of_ble_eq_true rfl) (Nat.le_of_ble_eq_true rfl) (Nat.le_of_ble_eq_true rfl)

set_option maxHeartbeats 4000000 in
set_option maxRecDepth 100000 in
theorem c_Lw_pageAt (l : Launch) (dC : Nat → ClassId) (dI : Nat → Nat → Nat) (cI cL cZ : ClassId) (sz : Nat) (xo up us uj ul uk ut uq uw uc : Nat) (sd : Int64) (b1 b2 b3 b4 n : Nat) (gr : Nat → Nat) (wo : Nat) (ov : Nat → Nat) (x : Int32) (hn : n ≤ 30) (hlt : l.stackTraces = false) : Met l y_Lw_pageAt ws_Lw_pageAt { frames := 7, cells := 1, slots := 6, locals := 120 } (fun a U => va_Pc [.ref xo, .int x, .ref wo] (wrP (dC, dI) vwCl [(cI, .int), (cL, .long), (cZ, .boolean)] [(xo, .inr (0, [.long sd, .ref up, .ref us, .ref uj, .ref ul, .ref uk, .ref ut, .ref uq, .ref uw, .ref uc])), (up, .inr (1, [.ref b1, .ref b2, .ref b3, .ref b4, .int (nI n)])), (b4, .inl (cL, 30, .inr (.inl (aL gr)))), (wo, .inl (cL, 1, .inr (.inl (aL ov))))] sz) a U ∧ pg_thr U) (va_Qi (fun (r : Int32) (u : Nat → Nat) => (∃ j, j < n ∧ x = nI j ∧ r = nI 0 ∧ u = va_up ov 0 (gr j)) ∨ (¬ inR n x ∧ r = nI 1 ∧ ov = u)) (fun (u : Nat → Nat) => wrQ (dC, dI) vwCl [(cI, .int), (cL, .long), (cZ, .boolean)] (va_A [(xo, .inr (0, [.long sd, .ref up, .ref us, .ref uj, .ref ul, .ref uk, .ref ut, .ref uq, .ref uw, .ref uc])), (up, .inr (1, [.ref b1, .ref b2, .ref b3, .ref b4, .int (nI n)])), (b4, .inl (cL, 30, .inr (.inl (aL gr)))), (wo, .inl (cL, 1, .inr (.inl (aL ov))))] sz) [(xo, .inr (0, [.long sd, .ref up, .ref us, .ref uj, .ref ul, .ref uk, .ref ut, .ref uq, .ref uw, .ref uc])), (up, .inr (1, [.ref b1, .ref b2, .ref b3, .ref b4, .int (nI n)])), (b4, .inl (cL, 30, .inr (.inl (aL gr)))), (wo, .inl (cL, 1, .inr (.inl (aL u))))]) (va_A [(xo, .inr (0, [.long sd, .ref up, .ref us, .ref uj, .ref ul, .ref uk, .ref ut, .ref uq, .ref uw, .ref uc])), (up, .inr (1, [.ref b1, .ref b2, .ref b3, .ref b4, .int (nI n)])), (b4, .inl (cL, 30, .inr (.inl (aL gr)))), (wo, .inl (cL, 1, .inr (.inl (aL ov))))] sz)) 1 6 (va_A [(xo, .inr (0, [.long sd, .ref up, .ref us, .ref uj, .ref ul, .ref uk, .ref ut, .ref uq, .ref uw, .ref uc])), (up, .inr (1, [.ref b1, .ref b2, .ref b3, .ref b4, .int (nI n)])), (b4, .inl (cL, 30, .inr (.inl (aL gr)))), (wo, .inl (cL, 1, .inr (.inl (aL ov))))] sz) := by
  refine va_MetW (hh := [(0, 8, 11, 13)]) (cc := b_Lw_pageAt) (maxL := 4) (ret := (some .int)) (by decide) rfl ?_
  intro pr en s m args below meth c s₁ B hml hv
  obtain ⟨⟨rfl, hN, hsz, hP, hK, hD0⟩, hth⟩ := hv
  have hx := B.exec
  have hb := B.bytes
  have hr := B.returns
  have hts := atoms_spec (ws := ws_Lw_pageAt) B.pre
  have htg : ∀ w ∈ gW, w.before _ s = true := fun w h => hts w (List.mem_cons_of_mem _ h)
  have htab : c.exceptionTable.toList = [⟨0, 8, 11, 13⟩] := by
    obtain ⟨m9, meth9, c9, hn9, g1, g2, -, -, g6, -⟩ := Cond.codeWith_spec (hts _ List.mem_cons_self)
    cases Option.some.inj (hn9.symm.trans B.named)
    cases Option.some.inj (g1.symm.trans B.method)
    cases Option.some.inj (g2.symm.trans (Stand.of_body B).code)
    rw [← table_eq c.exceptionTable.toList, g6]
    rfl
  have hown : s.vm.findClass R_Lw = some m.cls := findClass_of_methodNamed B.named
  have hlocks := B.notSynchronized
  subst hsz
  have hD := hD0.self (sz := s.heap.size)
  generalize hAe : va_A [(xo, .inr (0, [.long sd, .ref up, .ref us, .ref uj, .ref ul, .ref uk, .ref ut, .ref uq, .ref uw, .ref uc])), (up, .inr (1, [.ref b1, .ref b2, .ref b3, .ref b4, .int (nI n)])), (b4, .inl (cL, 30, .inr (.inl (aL gr)))), (wo, .inl (cL, 1, .inr (.inl (aL ov))))] s.heap.size = A at hD ⊢
  have hA : ∀ q : Nat, s.heap.size ≤ q → A q := fun q h => by rw [← hAe]; exact Or.inr h
  have hS : va_S A s.heap s.heap [] := va_S.rf
  have hP : va_P (dC, dI) vwCl [(xo, .inr (0, [.long sd, .ref up, .ref us, .ref uj, .ref ul, .ref uk, .ref ut, .ref uq, .ref uw, .ref uc])), (up, .inr (1, [.ref b1, .ref b2, .ref b3, .ref b4, .int (nI n)])), (b4, .inl (cL, 30, .inr (.inl (aL gr)))), (wo, .inl (cL, 1, .inr (.inl (aL ov))))] s.heap := hP
  have hl := lv_entry ([.ref xo, .int x, .ref wo]) (n := 4) (Nat.le_of_ble_eq_true rfl)
  rw [lg_entry_eq]
  generalize (lg_sl ([.ref xo, .int x, .ref wo]) ++ List.replicate (4 - (lg_sl ([.ref xo, .int x, .ref wo])).length) Slot.unset).toArray = ls at hl ⊢
  have hl : lv_has ls 4 [(0, .ref xo), (1, .int x), (2, .ref wo)] := hl
  refine lv_aload_n hx hb d_Lw_pageAt_0 rfl (lv_at hl 2 rfl) ?_
  refine lv_iconst (v := nI 0) hx hb d_Lw_pageAt_1 (by decide +kernel) ?_
  refine lv_aload_n hx hb d_Lw_pageAt_2 rfl (lv_at hl 0 rfl) ?_
  refine lv_iload_n hx hb d_Lw_pageAt_3 rfl (lv_at hl 1 rfl) ?_
  by_cases hin : inR n x
  · obtain ⟨j, hj, hxj⟩ := hin
    refine bk_topi (y := nI j) hxj ?_
    refine vp_callSl (va_runV (As := [.int (nI j)]) (rest := [.int (nI 0), .ref wo]) ⟨hx, hb, hml, hown, htg⟩ (c_B_pageAt_ok l dC dI cI cL cZ xo up us uj ul uk ut uq uw uc sd b1 b2 b3 b4 n gr j (by omega) (by omega)) (cwV 1 htg (gdV k2_215 k2_216 k2_217 k1_1 kc_B_pageAt) rfl rfl rfl (by decide +kernel) ⟨Nat.le_of_ble_eq_true rfl, Nat.le_of_ble_eq_true rfl⟩) ⟨bk_blind, va_recv hK hP (ci := 0) (q0 := 0) rfl rfl, fun U hU hW => ⟨rfl, nw_warm hW hN, by rw [hU]; exact hP.sub [0, 1, 2] rfl, va_K.moved hW.alike hK⟩⟩ rfl rfl hl.1 rfl (lv_room (Nat.le_of_ble_eq_true rfl)) d_Lw_pageAt_4 ⟨Nat.le_of_ble_eq_true rfl, Nat.le_of_ble_eq_true rfl⟩).run (fun r4 e4 => ?_)
    subst e4
    refine bk_last (x := lN (gr j)) (f2 := aL (va_up ov 0 (gr j))) hx hb hK hP hD hS 3 1 rfl rfl (by omega) (by decide) (aL_up _ _ _) d_Lw_pageAt_7 (fun H locs hP hD hS => ?_)
    have hP : va_P (dC, dI) vwCl [(xo, .inr (0, [.long sd, .ref up, .ref us, .ref uj, .ref ul, .ref uk, .ref ut, .ref uq, .ref uw, .ref uc])), (up, .inr (1, [.ref b1, .ref b2, .ref b3, .ref b4, .int (nI n)])), (b4, .inl (cL, 30, .inr (.inl (aL gr)))), (wo, .inl (cL, 1, .inr (.inl (aL (va_up ov 0 (gr j))))))] H := hP
    have hD : va_D A [(xo, .inr (0, [.long sd, .ref up, .ref us, .ref uj, .ref ul, .ref uk, .ref ut, .ref uq, .ref uw, .ref uc])), (up, .inr (1, [.ref b1, .ref b2, .ref b3, .ref b4, .int (nI n)])), (b4, .inl (cL, 30, .inr (.inl (aL gr)))), (wo, .inl (cL, 1, .inr (.inl (aL (va_up ov 0 (gr j))))))] := hD
    refine lv_goto (tgt := 14) hx hb d_Lw_pageAt_8 (by decide) ?_
    refine lv_iconst (v := nI 0) hx hb d_Lw_pageAt_14 (by decide +kernel) ?_
    refine W.widen (k := 1) (n := 6) (by decide) (by decide) ?_
    have hP9 := hP.sub (ws' := [(xo, .inr (0, [.long sd, .ref up, .ref us, .ref uj, .ref ul, .ref uk, .ref ut, .ref uq, .ref uw, .ref uc])), (up, .inr (1, [.ref b1, .ref b2, .ref b3, .ref b4, .int (nI n)])), (b4, .inl (cL, 30, .inr (.inl (aL gr)))), (wo, .inl (cL, 1, .inr (.inl (aL (va_up ov 0 (gr j))))))]) [0, 1, 2, 3] rfl
    have hD9 := hD.sub (ws' := [(xo, .inr (0, [.long sd, .ref up, .ref us, .ref uj, .ref ul, .ref uk, .ref ut, .ref uq, .ref uw, .ref uc])), (up, .inr (1, [.ref b1, .ref b2, .ref b3, .ref b4, .int (nI n)])), (b4, .inl (cL, 30, .inr (.inl (aL gr)))), (wo, .inl (cL, 1, .inr (.inl (aL (va_up ov 0 (gr j))))))]) [0, 1, 2, 3] (by decide) rfl
    exact W.iret (v := nI 0) hx hb hr (fun t9 ht9 hW9 => ⟨⟨nI 0, (va_up ov 0 (gr j)), rfl, Or.inl ⟨j, hj, hxj, rfl, rfl⟩, by rw [ht9]; exact hP9, va_K.moved hW9.alike hK, hD9⟩, hS.F ht9⟩) hS.2.2 d_Lw_pageAt_15
  · refine pg_call (rm := { frames := 6, cells := 1, slots := 6, locals := 90 }) (c_B_pageAt_no l hlt dC dI cI cL cZ xo up us uj ul uk ut uq uw uc sd b1 b2 b3 b4 n gr x hn hin) pg_blind rfl rfl (Nat.le_of_ble_eq_true rfl) (Nat.le_of_ble_eq_true rfl) hx hb hown htg (pg_words hth _ _ (by decide +kernel)) htab (by rw [hml]; exact hl.1) (Nat.le_of_ble_eq_true rfl) (Nat.le_of_ble_eq_true rfl) (Nat.le_of_ble_eq_true rfl) (va_recv hK hP (ci := 0) (q0 := 0) rfl rfl) (fun U hU hW => ⟨⟨rfl, nw_warm hW hN, by rw [hU]; exact hP.sub [0, 1, 2] rfl, va_K.moved hW.alike hK⟩, pg_thr_move hW (fun q _ => by rw [hU]) hth⟩) (fun q9 H1 hz1 hk1 => ?_)
    have hS : va_S A s.heap H1 [] := ⟨hz1, fun q h _ => hk1 q h, fun _ h => nomatch h⟩
    have hP : va_P (dC, dI) vwCl [(xo, .inr (0, [.long sd, .ref up, .ref us, .ref uj, .ref ul, .ref uk, .ref ut, .ref uq, .ref uw, .ref uc])), (up, .inr (1, [.ref b1, .ref b2, .ref b3, .ref b4, .int (nI n)])), (b4, .inl (cL, 30, .inr (.inl (aL gr)))), (wo, .inl (cL, 1, .inr (.inl (aL ov))))] H1 := hP.kept (fun k9 q9 h9 => hk1 q9.1 (hP k9 q9 h9).lt)
    refine lv_astore_n (lv' := [(3, .ref q9), (0, .ref xo), (1, .int x), (2, .ref wo)]) hx hb d_Lw_pageAt_11 rfl hl (by decide) rfl (fun ls hl => ?_)
    refine lv_iconst (v := nI 1) hx hb d_Lw_pageAt_12 (by decide +kernel) ?_
    have hP9 := hP.sub (ws' := [(xo, .inr (0, [.long sd, .ref up, .ref us, .ref uj, .ref ul, .ref uk, .ref ut, .ref uq, .ref uw, .ref uc])), (up, .inr (1, [.ref b1, .ref b2, .ref b3, .ref b4, .int (nI n)])), (b4, .inl (cL, 30, .inr (.inl (aL gr)))), (wo, .inl (cL, 1, .inr (.inl (aL ov))))]) [0, 1, 2, 3] rfl
    have hD9 := hD.sub (ws' := [(xo, .inr (0, [.long sd, .ref up, .ref us, .ref uj, .ref ul, .ref uk, .ref ut, .ref uq, .ref uw, .ref uc])), (up, .inr (1, [.ref b1, .ref b2, .ref b3, .ref b4, .int (nI n)])), (b4, .inl (cL, 30, .inr (.inl (aL gr)))), (wo, .inl (cL, 1, .inr (.inl (aL ov))))]) [0, 1, 2, 3] (by decide) rfl
    exact W.iret (v := nI 1) hx hb hr (fun t9 ht9 hW9 => ⟨⟨nI 1, (ov), rfl, Or.inr ⟨hin, rfl, rfl⟩, by rw [ht9]; exact hP9, va_K.moved hW9.alike hK, hD9⟩, hS.F ht9⟩) hS.2.2 d_Lw_pageAt_13
