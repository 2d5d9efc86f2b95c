set_option maxHeartbeats 4000000 in
set_option maxRecDepth 100000 in
theorem c_Ro_begin (l : Launch) (dC : Nat → ClassId) (dI : Nat → Nat → Nat) (cI cL cZ : ClassId) (sz : Nat) (h a1 c0 as0 : Nat) (tk : Nat → Nat) (k : Nat) : Met l y_Ro_begin ws_Ro_begin { frames := 0, cells := 0, slots := 0, locals := 0 } (va_Pc [.ref h, .int (nI k)] (wrP (dC, dI) vwCl [(cI, .int), (cL, .long), (cZ, .boolean)] [(h, .inr (5, [.ref a1, .int (nI c0), .int (nI as0)])), (a1, .inl (cI, 30, .inl (aI tk)))] sz)) (va_Qv (fun (u : Unit) => True) (fun (u : Unit) => wrQ (dC, dI) vwCl [(cI, .int), (cL, .long), (cZ, .boolean)] (va_A [(h, .inr (5, [.ref a1, .int (nI c0), .int (nI as0)])), (a1, .inl (cI, 30, .inl (aI tk)))] sz) [(h, .inr (5, [.ref a1, .int (nI 0), .int (nI k)])), (a1, .inl (cI, 30, .inl (aI tk)))]) (va_A [(h, .inr (5, [.ref a1, .int (nI c0), .int (nI as0)])), (a1, .inl (cI, 30, .inl (aI tk)))] sz)) 0 0 (va_A [(h, .inr (5, [.ref a1, .int (nI c0), .int (nI as0)])), (a1, .inl (cI, 30, .inl (aI tk)))] sz) := by
  refine Met.ofW (cc := b_Ro_begin) (maxL := 2) (ret := none) (by decide) rfl ?_
  intro pr en s m args below meth c s₁ B hml hv
  obtain ⟨rfl, hN, hsz, hP, hK, hD0⟩ := hv
  have hx := B.exec
  have hb := B.bytes
  have hr := B.returns
  have hts := atoms_spec (ws := ws_Ro_begin) B.pre
  have htg : ∀ w ∈ gW, w.before _ s = true := fun w h => hts w (List.mem_cons_of_mem _ h)
  have hown : s.vm.findClass R_Ro = some m.cls := findClass_of_methodNamed B.named
  have hlocks := B.notSynchronized
  subst hsz
  have hD := hD0.self (sz := s.heap.size)
  generalize hAe : va_A [(h, .inr (5, [.ref a1, .int (nI c0), .int (nI as0)])), (a1, .inl (cI, 30, .inl (aI tk)))] s.heap.size = A at hD ⊢
  have hA : ∀ q : Nat, s.heap.size ≤ q → A q := fun q h => by rw [← hAe]; exact Or.inr h
  have hS : va_S A s.heap s.heap [] := va_S.rf
  have hP : va_P (dC, dI) vwCl [(h, .inr (5, [.ref a1, .int (nI c0), .int (nI as0)])), (a1, .inl (cI, 30, .inl (aI tk)))] s.heap := hP
  have hl := lv_entry ([.ref h, .int (nI k)]) (n := 2) (Nat.le_of_ble_eq_true rfl)
  rw [lg_entry_eq]
  generalize (lg_sl ([.ref h, .int (nI k)]) ++ List.replicate (2 - (lg_sl ([.ref h, .int (nI k)])).length) Slot.unset).toArray = ls at hl ⊢
  have hl : lv_has ls 2 [(0, .ref h), (1, .int (nI k))] := hl
  refine lv_aload_n hx hb d_Ro_begin_0 rfl (lv_at hl 0 rfl) ?_
  refine lv_iconst (v := nI 0) hx hb d_Ro_begin_1 (by decide +kernel) ?_
  refine va_put (D := (dC, dI)) (ci := 5) (v := .int (nI 0)) (ty := (t_Ro 1)) (C := R_Ro) (T := F_Ro) (N := 3) hx hb htg iw_Ro t_Ro tk_Ro nm_Ro hown hK hP hD hS 0 rfl rfl 1 (by decide) (htg _ k1_118) (fun _ h9 => h9) rfl (by decide +kernel) rfl rfl (Nat.le_of_ble_eq_true rfl) d_Ro_begin_2 (fun H locs hP hD hS => ?_)
  have hP : va_P (dC, dI) vwCl [(h, .inr (5, [.ref a1, .int (nI 0), .int (nI as0)])), (a1, .inl (cI, 30, .inl (aI tk)))] H := hP
  have hD : va_D A [(h, .inr (5, [.ref a1, .int (nI 0), .int (nI as0)])), (a1, .inl (cI, 30, .inl (aI tk)))] := hD
  refine lv_aload_n hx hb d_Ro_begin_5 rfl (lv_at hl 0 rfl) ?_
  refine lv_iload_n hx hb d_Ro_begin_6 rfl (lv_at hl 1 rfl) ?_
  refine va_put (D := (dC, dI)) (ci := 5) (v := .int (nI k)) (ty := (t_Ro 2)) (C := R_Ro) (T := F_Ro) (N := 3) hx hb htg iw_Ro t_Ro tk_Ro nm_Ro hown hK hP hD hS 0 rfl rfl 2 (by decide) (htg _ k1_120) (fun _ h9 => h9) rfl (by decide +kernel) rfl rfl (Nat.le_of_ble_eq_true rfl) d_Ro_begin_7 (fun H locs hP hD hS => ?_)
  have hP : va_P (dC, dI) vwCl [(h, .inr (5, [.ref a1, .int (nI 0), .int (nI k)])), (a1, .inl (cI, 30, .inl (aI tk)))] H := hP
  have hD : va_D A [(h, .inr (5, [.ref a1, .int (nI 0), .int (nI k)])), (a1, .inl (cI, 30, .inl (aI tk)))] := hD
  have hP9 := hP.sub (ws' := [(h, .inr (5, [.ref a1, .int (nI 0), .int (nI k)])), (a1, .inl (cI, 30, .inl (aI tk)))]) [0, 1] rfl
  have hD9 := hD.sub (ws' := [(h, .inr (5, [.ref a1, .int (nI 0), .int (nI k)])), (a1, .inl (cI, 30, .inl (aI tk)))]) [0, 1] (by decide) rfl
  exact W.vret hx hb hr (fun t9 ht9 hW9 => ⟨⟨(), rfl, trivial, by rw [ht9]; exact hP9, va_K.moved hW9.alike hK, hD9⟩, hS.F ht9⟩) hS.2.2 d_Ro_begin_10
set_option maxHeartbeats 4000000 in
set_option maxRecDepth 100000 in
theorem c_Ro_append (l : Launch) (dC : Nat → ClassId) (dI : Nat → Nat → Nat) (cI cL cZ : ClassId) (sz : Nat) (h a1 c0 as0 : Nat) (tk : Nat → Nat) (k : Nat) (hc : c0 < 30) : Met l y_Ro_append ws_Ro_append { frames := 0, cells := 0, slots := 0, locals := 0 } (va_Pc [.ref h, .int (nI k)] (wrP (dC, dI) vwCl [(cI, .int), (cL, .long), (cZ, .boolean)] [(h, .inr (5, [.ref a1, .int (nI c0), .int (nI as0)])), (a1, .inl (cI, 30, .inl (aI tk)))] sz)) (va_Qv (fun (u : Unit) => True) (fun (u : Unit) => wrQ (dC, dI) vwCl [(cI, .int), (cL, .long), (cZ, .boolean)] (va_A [(h, .inr (5, [.ref a1, .int (nI c0), .int (nI as0)])), (a1, .inl (cI, 30, .inl (aI tk)))] sz) [(h, .inr (5, [.ref a1, .int (nI (c0 + 1)), .int (nI as0)])), (a1, .inl (cI, 30, .inl (aI (va_up tk c0 k))))]) (va_A [(h, .inr (5, [.ref a1, .int (nI c0), .int (nI as0)])), (a1, .inl (cI, 30, .inl (aI tk)))] sz)) 0 0 (va_A [(h, .inr (5, [.ref a1, .int (nI c0), .int (nI as0)])), (a1, .inl (cI, 30, .inl (aI tk)))] sz) := by
  refine Met.ofW (cc := b_Ro_append) (maxL := 2) (ret := none) (by decide) rfl ?_
  intro pr en s m args below meth c s₁ B hml hv
  obtain ⟨rfl, hN, hsz, hP, hK, hD0⟩ := hv
  have hx := B.exec
  have hb := B.bytes
  have hr := B.returns
  have hts := atoms_spec (ws := ws_Ro_append) B.pre
  have htg : ∀ w ∈ gW, w.before _ s = true := fun w h => hts w (List.mem_cons_of_mem _ h)
  have hown : s.vm.findClass R_Ro = some m.cls := findClass_of_methodNamed B.named
  have hlocks := B.notSynchronized
  subst hsz
  have hD := hD0.self (sz := s.heap.size)
  generalize hAe : va_A [(h, .inr (5, [.ref a1, .int (nI c0), .int (nI as0)])), (a1, .inl (cI, 30, .inl (aI tk)))] s.heap.size = A at hD ⊢
  have hA : ∀ q : Nat, s.heap.size ≤ q → A q := fun q h => by rw [← hAe]; exact Or.inr h
  have hS : va_S A s.heap s.heap [] := va_S.rf
  have hP : va_P (dC, dI) vwCl [(h, .inr (5, [.ref a1, .int (nI c0), .int (nI as0)])), (a1, .inl (cI, 30, .inl (aI tk)))] s.heap := hP
  have hl := lv_entry ([.ref h, .int (nI k)]) (n := 2) (Nat.le_of_ble_eq_true rfl)
  rw [lg_entry_eq]
  generalize (lg_sl ([.ref h, .int (nI k)]) ++ List.replicate (2 - (lg_sl ([.ref h, .int (nI k)])).length) Slot.unset).toArray = ls at hl ⊢
  have hl : lv_has ls 2 [(0, .ref h), (1, .int (nI k))] := hl
  refine lv_aload_n hx hb d_Ro_append_0 rfl (lv_at hl 0 rfl) ?_
  refine va_get (D := (dC, dI)) (ci := 5) (v := .int (nI c0)) (C := R_Ro) (T := F_Ro) (N := 3) hx hb htg iw_Ro hown hK hP 0 rfl rfl 1 (by decide) (htg _ k1_118) (fun _ h9 => h9) rfl d_Ro_append_1 ?_
  refine lv_bipush (v := nI 30) hx hb d_Ro_append_4 (by decide +kernel) ?_
  refine bk_icmp_ge (a := c0) (b := 30) (tgt := 29) hx hb (by omega) (by omega) d_Ro_append_6 (by decide) (fun c6 => by exfalso; omega) (fun c6 => ?_)
  refine lv_aload_n hx hb d_Ro_append_9 rfl (lv_at hl 0 rfl) ?_
  refine va_get (D := (dC, dI)) (ci := 5) (v := .ref a1) (C := R_Ro) (T := F_Ro) (N := 3) hx hb htg iw_Ro hown hK hP 0 rfl rfl 0 (by decide) (htg _ k1_117) (fun _ h9 => h9) rfl d_Ro_append_10 ?_
  refine lv_aload_n hx hb d_Ro_append_13 rfl (lv_at hl 0 rfl) ?_
  refine va_get (D := (dC, dI)) (ci := 5) (v := .int (nI c0)) (C := R_Ro) (T := F_Ro) (N := 3) hx hb htg iw_Ro hown hK hP 0 rfl rfl 1 (by decide) (htg _ k1_118) (fun _ h9 => h9) rfl d_Ro_append_14 ?_
  refine lv_iload_n hx hb d_Ro_append_17 rfl (lv_at hl 1 rfl) ?_
  refine bk_iast (x := nI k) (f2 := aI (va_up tk c0 k)) hx hb hK hP hD hS 1 0 rfl rfl (by omega) (by decide) (aI_up _ _ _) d_Ro_append_18 (fun H locs hP hD hS => ?_)
  have hP : va_P (dC, dI) vwCl [(h, .inr (5, [.ref a1, .int (nI c0), .int (nI as0)])), (a1, .inl (cI, 30, .inl (aI (va_up tk c0 k))))] H := hP
  have hD : va_D A [(h, .inr (5, [.ref a1, .int (nI c0), .int (nI as0)])), (a1, .inl (cI, 30, .inl (aI (va_up tk c0 k))))] := hD
  refine lv_aload_n hx hb d_Ro_append_19 rfl (lv_at hl 0 rfl) ?_
  refine lv_dup hx hb d_Ro_append_20 rfl ?_
  refine va_get (D := (dC, dI)) (ci := 5) (v := .int (nI c0)) (C := R_Ro) (T := F_Ro) (N := 3) hx hb htg iw_Ro hown hK hP 0 rfl rfl 1 (by decide) (htg _ k1_118) (fun _ h9 => h9) rfl d_Ro_append_21 ?_
  refine lv_iconst (v := nI 1) hx hb d_Ro_append_24 (by decide +kernel) ?_
  refine bk_iadd hx hb d_Ro_append_25 ?_
  refine va_put (D := (dC, dI)) (ci := 5) (v := .int (nI (c0 + 1))) (ty := (t_Ro 1)) (C := R_Ro) (T := F_Ro) (N := 3) hx hb htg iw_Ro t_Ro tk_Ro nm_Ro hown hK hP hD hS 0 rfl rfl 1 (by decide) (htg _ k1_118) (fun _ h9 => h9) rfl (by decide +kernel) rfl rfl (Nat.le_of_ble_eq_true rfl) d_Ro_append_26 (fun H locs hP hD hS => ?_)
  have hP : va_P (dC, dI) vwCl [(h, .inr (5, [.ref a1, .int (nI (c0 + 1)), .int (nI as0)])), (a1, .inl (cI, 30, .inl (aI (va_up tk c0 k))))] H := hP
  have hD : va_D A [(h, .inr (5, [.ref a1, .int (nI (c0 + 1)), .int (nI as0)])), (a1, .inl (cI, 30, .inl (aI (va_up tk c0 k))))] := hD
  have hP9 := hP.sub (ws' := [(h, .inr (5, [.ref a1, .int (nI (c0 + 1)), .int (nI as0)])), (a1, .inl (cI, 30, .inl (aI (va_up tk c0 k))))]) [0, 1] rfl
  have hD9 := hD.sub (ws' := [(h, .inr (5, [.ref a1, .int (nI (c0 + 1)), .int (nI as0)])), (a1, .inl (cI, 30, .inl (aI (va_up tk c0 k))))]) [0, 1] (by decide) rfl
  exact W.vret hx hb hr (fun t9 ht9 hW9 => ⟨⟨(), rfl, trivial, by rw [ht9]; exact hP9, va_K.moved hW9.alike hK, hD9⟩, hS.F ht9⟩) hS.2.2 d_Ro_append_29
set_option maxHeartbeats 4000000 in
set_option maxRecDepth 100000 in
theorem c_Ro_at (l : Launch) (dC : Nat → ClassId) (dI : Nat → Nat → Nat) (cI cL cZ : ClassId) (h a1 c0 as0 : Nat) (tk : Nat → Nat) (x : Int32) (hc : c0 ≤ 30) : Met l y_Ro_at ws_Ro_at { frames := 0, cells := 0, slots := 0, locals := 0 } (va_Pc [.ref h, .int x] (rdP (dC, dI) vwCl [(cI, .int), (cL, .long), (cZ, .boolean)] [(h, .inr (5, [.ref a1, .int (nI c0), .int (nI as0)])), (a1, .inl (cI, 30, .inl (aI tk)))])) (vp_Si (fun r => (∃ j, j < c0 ∧ x = nI j ∧ r = nI (tk j)) ∨ (¬ inR c0 x ∧ r = oI none))) 0 0 (fun _ => False) := by
  refine Met.ofW (cc := b_Ro_at) (maxL := 2) (ret := (some .int)) (by decide) rfl ?_
  intro pr en s m args below meth c s₁ B hml hv
  obtain ⟨rfl, hN, hP, hK⟩ := hv
  have hx := B.exec
  have hb := B.bytes
  have hr := B.returns
  have hts := atoms_spec (ws := ws_Ro_at) B.pre
  have htg : ∀ w ∈ gW, w.before _ s = true := fun w h => hts w (List.mem_cons_of_mem _ h)
  have hown : s.vm.findClass R_Ro = some m.cls := findClass_of_methodNamed B.named
  have hlocks := B.notSynchronized
  have hl := lv_entry ([.ref h, .int x]) (n := 2) (Nat.le_of_ble_eq_true rfl)
  rw [lg_entry_eq]
  generalize (lg_sl ([.ref h, .int x]) ++ List.replicate (2 - (lg_sl ([.ref h, .int x])).length) Slot.unset).toArray = ls at hl ⊢
  have hl : lv_has ls 2 [(0, .ref h), (1, .int x)] := hl
  refine lv_iload_n hx hb d_Ro_at_0 rfl (lv_at hl 1 rfl) ?_
  refine lv_if_lt (x := x) (tgt := 21) hx hb d_Ro_at_1 (by decide) (fun c1 => ?_) (fun c1 => ?_)
  · refine lv_iconst (v := oI none) hx hb d_Ro_at_21 (by decide +kernel) ?_
    exact W.iret (v := oI none) hx hb hr (fun t9 ht9 hW9 => ⟨oI none, rfl, Or.inr ⟨by first | exact inR_neg (by omega) (by assumption) | exact inR_big (by omega) (by assumption), rfl⟩, ht9⟩) (fun q h => nomatch h) d_Ro_at_22
  · refine lv_iload_n hx hb d_Ro_at_4 rfl (lv_at hl 1 rfl) ?_
    refine lv_aload_n hx hb d_Ro_at_5 rfl (lv_at hl 0 rfl) ?_
    refine va_get (D := (dC, dI)) (ci := 5) (v := .int (nI c0)) (C := R_Ro) (T := F_Ro) (N := 3) hx hb htg iw_Ro hown hK hP 0 rfl rfl 1 (by decide) (htg _ k1_118) (fun _ h9 => h9) rfl d_Ro_at_6 ?_
    refine lv_icmp_ge (x := x) (y := nI c0) (tgt := 21) hx hb d_Ro_at_9 (by decide) (fun c9 => ?_) (fun c9 => ?_)
    · refine lv_iconst (v := oI none) hx hb d_Ro_at_21 (by decide +kernel) ?_
      exact W.iret (v := oI none) hx hb hr (fun t9 ht9 hW9 => ⟨oI none, rfl, Or.inr ⟨by first | exact inR_neg (by omega) (by assumption) | exact inR_big (by omega) (by assumption), rfl⟩, ht9⟩) (fun q h => nomatch h) d_Ro_at_22
    · obtain ⟨j, hj, hxj⟩ := inR_of (n := c0) (by omega) c1 c9
      refine lv_aload_n hx hb d_Ro_at_12 rfl (lv_at hl 0 rfl) ?_
      refine va_get (D := (dC, dI)) (ci := 5) (v := .ref a1) (C := R_Ro) (T := F_Ro) (N := 3) hx hb htg iw_Ro hown hK hP 0 rfl rfl 0 (by decide) (htg _ k1_117) (fun _ h9 => h9) rfl d_Ro_at_13 ?_
      refine lv_iload_n hx hb d_Ro_at_16 rfl (lv_at hl 1 rfl) ?_
      refine bk_topi (y := nI j) hxj ?_
      refine bk_iald (v := nI (tk j)) hx hb hK hP 1 0 rfl rfl (by omega) (by decide) rfl d_Ro_at_17 ?_
      refine lv_goto (tgt := 22) hx hb d_Ro_at_18 (by decide) ?_
      exact W.iret (v := nI (tk j)) hx hb hr (fun t9 ht9 hW9 => ⟨nI (tk j), rfl, Or.inl ⟨j, hj, hxj, rfl⟩, ht9⟩) (fun q h => nomatch h) d_Ro_at_22
set_option maxHeartbeats 4000000 in
set_option maxRecDepth 100000 in
theorem c_Ro_equalTo (l : Launch) (dC : Nat → ClassId) (dI : Nat → Nat → Nat) (cI cL cZ : ClassId) (h a1 c0 as0 : Nat) (tk : Nat → Nat) (h2 a2 c2 as2 : Nat) (tk2 : Nat → Nat) (hc : c0 ≤ 30) (hc2 : c2 ≤ 30) (hb1 : ∀ j, j < c0 → tk j < 30) (hb2 : ∀ j, j < c2 → tk2 j < 30) : Met l y_Ro_equalTo ws_Ro_equalTo { frames := 0, cells := 0, slots := 0, locals := 0 } (va_Pc [.ref h, .ref h2] (rdP (dC, dI) vwCl [(cI, .int), (cL, .long), (cZ, .boolean)] [(h, .inr (5, [.ref a1, .int (nI c0), .int (nI as0)])), (a1, .inl (cI, 30, .inl (aI tk))), (h2, .inr (5, [.ref a2, .int (nI c2), .int (nI as2)])), (a2, .inl (cI, 30, .inl (aI tk2)))])) (vp_Si (fun r => ((c0 = c2 ∧ ∀ j, j < c0 → tk j = tk2 j) ∧ r = nI 1) ∨ (¬ (c0 = c2 ∧ ∀ j, j < c0 → tk j = tk2 j) ∧ r = nI 0))) 0 0 (fun _ => False) := by
  refine Met.ofW (cc := b_Ro_equalTo) (maxL := 3) (ret := (some .boolean)) (by decide) rfl ?_
  intro pr en s m args below meth c s₁ B hml hv
  obtain ⟨rfl, hN, hP, hK⟩ := hv
  have hx := B.exec
  have hb := B.bytes
  have hr := B.returns
  have hts := atoms_spec (ws := ws_Ro_equalTo) B.pre
  have htg : ∀ w ∈ gW, w.before _ s = true := fun w h => hts w (List.mem_cons_of_mem _ h)
  have hown : s.vm.findClass R_Ro = some m.cls := findClass_of_methodNamed B.named
  have hlocks := B.notSynchronized
  have hl := lv_entry ([.ref h, .ref h2]) (n := 3) (Nat.le_of_ble_eq_true rfl)
  rw [lg_entry_eq]
  generalize (lg_sl ([.ref h, .ref h2]) ++ List.replicate (3 - (lg_sl ([.ref h, .ref h2])).length) Slot.unset).toArray = ls at hl ⊢
  have hl : lv_has ls 3 [(0, .ref h), (1, .ref h2)] := hl
  refine lv_aload_n hx hb d_Ro_equalTo_0 rfl (lv_at hl 0 rfl) ?_
  refine va_get (D := (dC, dI)) (ci := 5) (v := .int (nI c0)) (C := R_Ro) (T := F_Ro) (N := 3) hx hb htg iw_Ro hown hK hP 0 rfl rfl 1 (by decide) (htg _ k1_118) (fun _ h9 => h9) rfl d_Ro_equalTo_1 ?_
  refine lv_aload_n hx hb d_Ro_equalTo_4 rfl (lv_at hl 1 rfl) ?_
  refine va_get (D := (dC, dI)) (ci := 5) (v := .int (nI c2)) (C := R_Ro) (T := F_Ro) (N := 3) hx hb htg iw_Ro hown hK hP 2 rfl rfl 1 (by decide) (htg _ k1_118) (fun _ h9 => h9) rfl d_Ro_equalTo_5 ?_
  refine bk_icmp_eq (a := c0) (b := c2) (tgt := 13) hx hb (by omega) (by omega) d_Ro_equalTo_8 (by decide) (fun c8 => ?_) (fun c8 => ?_)
  · refine lv_iconst (v := nI 0) hx hb d_Ro_equalTo_13 (by decide +kernel) ?_
    refine lv_istore_n (lv' := [(2, .int (nI 0)), (0, .ref h), (1, .ref h2)]) hx hb d_Ro_equalTo_14 rfl hl (by decide) rfl (fun ls hl => ?_)
    have J15 : ∀ (k : Nat) (i : Nat), (i + k = c0) → (∀ j, j < i → tk j = tk2 j) → ∀ (ls : Array Slot), lv_has ls 3 [(0, .ref h), (1, .ref h2), (2, .int (nI i))] → W pr l en (headSpec ws_Ro_equalTo { frames := 0, cells := 0, slots := 0, locals := 0 }).room s m ([.ref h, .ref h2] : List Value).toArray below meth c s.heap [] 0 0 (MQ below (vp_Si (fun r => ((c0 = c2 ∧ ∀ j, j < c0 → tk j = tk2 j) ∧ r = nI 1) ∨ (¬ (c0 = c2 ∧ ∀ j, j < c0 → tk j = tk2 j) ∧ r = nI 0))) ([.ref h, .ref h2] : List Value).toArray s 0 0 (fun _ => False)) (F0 m 15 ls []) := by
      intro k
      induction k with
      | zero =>
        intro i hk heq ls hl
        refine lv_iload_n hx hb d_Ro_equalTo_15 rfl (lv_at hl 2 rfl) ?_
        refine lv_aload_n hx hb d_Ro_equalTo_16 rfl (lv_at hl 0 rfl) ?_
        refine va_get (D := (dC, dI)) (ci := 5) (v := .int (nI c0)) (C := R_Ro) (T := F_Ro) (N := 3) hx hb htg iw_Ro hown hK hP 0 rfl rfl 1 (by decide) (htg _ k1_118) (fun _ h9 => h9) rfl d_Ro_equalTo_17 ?_
        refine bk_icmp_ge (a := i) (b := c0) (tgt := 46) hx hb (by omega) (by omega) d_Ro_equalTo_20 (by decide) (fun c20 => ?_) (fun c20 => by exfalso; omega)
        refine lv_iconst (v := nI 1) hx hb d_Ro_equalTo_46 (by decide +kernel) ?_
        exact W.zret (v := nI 1) (ty := .boolean) hx hb hr rfl (fun t9 ht9 hW9 => ⟨nI 1, rfl, Or.inl ⟨⟨c8, by rw [show i = c0 by omega] at heq; exact heq⟩, rfl⟩, ht9⟩) (fun q h => nomatch h) d_Ro_equalTo_47
      | succ k ih15 =>
        intro i hk heq ls hl
        have f1 := hb1 i (by omega)
        have f2 := hb2 i (by omega)
        refine lv_iload_n hx hb d_Ro_equalTo_15 rfl (lv_at hl 2 rfl) ?_
        refine lv_aload_n hx hb d_Ro_equalTo_16 rfl (lv_at hl 0 rfl) ?_
        refine va_get (D := (dC, dI)) (ci := 5) (v := .int (nI c0)) (C := R_Ro) (T := F_Ro) (N := 3) hx hb htg iw_Ro hown hK hP 0 rfl rfl 1 (by decide) (htg _ k1_118) (fun _ h9 => h9) rfl d_Ro_equalTo_17 ?_
        refine bk_icmp_ge (a := i) (b := c0) (tgt := 46) hx hb (by omega) (by omega) d_Ro_equalTo_20 (by decide) (fun c20 => by exfalso; omega) (fun c20 => ?_)
        refine lv_aload_n hx hb d_Ro_equalTo_23 rfl (lv_at hl 0 rfl) ?_
        refine va_get (D := (dC, dI)) (ci := 5) (v := .ref a1) (C := R_Ro) (T := F_Ro) (N := 3) hx hb htg iw_Ro hown hK hP 0 rfl rfl 0 (by decide) (htg _ k1_117) (fun _ h9 => h9) rfl d_Ro_equalTo_24 ?_
        refine lv_iload_n hx hb d_Ro_equalTo_27 rfl (lv_at hl 2 rfl) ?_
        refine bk_iald (v := nI (tk i)) hx hb hK hP 1 0 rfl rfl (by omega) (by decide) rfl d_Ro_equalTo_28 ?_
        refine lv_aload_n hx hb d_Ro_equalTo_29 rfl (lv_at hl 1 rfl) ?_
        refine va_get (D := (dC, dI)) (ci := 5) (v := .ref a2) (C := R_Ro) (T := F_Ro) (N := 3) hx hb htg iw_Ro hown hK hP 2 rfl rfl 0 (by decide) (htg _ k1_117) (fun _ h9 => h9) rfl d_Ro_equalTo_30 ?_
        refine lv_iload_n hx hb d_Ro_equalTo_33 rfl (lv_at hl 2 rfl) ?_
        refine bk_iald (v := nI (tk2 i)) hx hb hK hP 3 0 rfl rfl (by omega) (by decide) rfl d_Ro_equalTo_34 ?_
        refine bk_icmp_eq (a := tk i) (b := tk2 i) (tgt := 40) hx hb (by omega) (by omega) d_Ro_equalTo_35 (by decide) (fun c35 => ?_) (fun c35 => ?_)
        · refine lv_iinc (v := nI (i + 1)) (lv' := [(2, .int (nI (i + 1))), (0, .ref h), (1, .ref h2)]) hx hb d_Ro_equalTo_40 hl (k := 2) rfl (bk_inc i) (by decide) rfl (fun ls hl => ?_)
          refine lv_goto (tgt := 15) hx hb d_Ro_equalTo_43 (by decide) ?_
          exact ih15 (i + 1) (by omega) (lt_s heq c35) ls (lv_sub hl [1, 2, 0] rfl)
        · refine lv_iconst (v := nI 0) hx hb d_Ro_equalTo_38 (by decide +kernel) ?_
          exact W.zret (v := nI 0) (ty := .boolean) hx hb hr rfl (fun t9 ht9 hW9 => ⟨nI 0, rfl, Or.inr ⟨fun z9 => c35 (z9.2 i (by omega)), rfl⟩, ht9⟩) (fun q h => nomatch h) d_Ro_equalTo_39
    exact J15 c0 0 (by omega) (fun j hj => absurd hj (by omega)) ls (lv_sub hl [1, 2, 0] rfl)
  · refine lv_iconst (v := nI 0) hx hb d_Ro_equalTo_11 (by decide +kernel) ?_
    exact W.zret (v := nI 0) (ty := .boolean) hx hb hr rfl (fun t9 ht9 hW9 => ⟨nI 0, rfl, Or.inr ⟨fun z9 => c8 z9.1, rfl⟩, ht9⟩) (fun q h => nomatch h) d_Ro_equalTo_12
set_option maxHeartbeats 4000000 in
set_option maxRecDepth 100000 in
theorem c_Ac_after (l : Launch) (dC : Nat → ClassId) (dI : Nat → Nat → Nat) (cI cL cZ : ClassId) (now : Nat) (ev : Int32) (hnow : now ≤ 3) : Met l y_Ac_after ws_Ac_after { frames := 0, cells := 0, slots := 0, locals := 0 } (va_Pc [.int (nI now), .int ev] (fun _ => True)) (vp_Si (fun r => r = oI (aft now ev))) 0 0 (fun _ => False) := by
  refine Met.ofW (cc := b_Ac_after) (maxL := 2) (ret := (some .int)) (by decide) rfl ?_
  intro pr en s m args below meth c s₁ B hml hv
  obtain ⟨rfl, -⟩ := hv
  have hx := B.exec
  have hb := B.bytes
  have hr := B.returns
  have hts := atoms_spec (ws := ws_Ac_after) B.pre
  have htg : ∀ w ∈ gW, w.before _ s = true := fun w h => hts w (List.mem_cons_of_mem _ h)
  have hown : s.vm.findClass R_Ac = some m.cls := findClass_of_methodNamed B.named
  have hlocks := B.notSynchronized
  have hl := lv_entry ([.int (nI now), .int ev]) (n := 2) (Nat.le_of_ble_eq_true rfl)
  rw [lg_entry_eq]
  generalize (lg_sl ([.int (nI now), .int ev]) ++ List.replicate (2 - (lg_sl ([.int (nI now), .int ev])).length) Slot.unset).toArray = ls at hl ⊢
  have hl : lv_has ls 2 [(0, .int (nI now)), (1, .int ev)] := hl
  refine lv_iload_n hx hb d_Ac_after_0 rfl (lv_at hl 1 rfl) ?_
  rcases pk_ix ev (n := 4) (by decide) with t1 | t1 | ⟨jt, hjt, t1⟩
  · refine lv_tableOut (tgt := 78) hx hb d_Ac_after_1 (Or.inl (by rw [Int32.lt_iff_toInt_lt] at t1; exact t1)) (by decide) ?_
    refine lv_iconst (v := oI none) hx hb d_Ac_after_78 (by decide +kernel) ?_
    exact W.iret (v := oI none) hx hb hr (fun t9 ht9 hW9 => ⟨oI none, rfl, (by rw [aft_out (inR_neg (by decide) t1)]), ht9⟩) (fun q h => nomatch h) d_Ac_after_79
  · refine lv_tableOut (tgt := 78) hx hb d_Ac_after_1 (Or.inr (by rw [Int32.le_iff_toInt_le, nI_toInt (by decide)] at t1; omega)) (by decide) ?_
    refine lv_iconst (v := oI none) hx hb d_Ac_after_78 (by decide +kernel) ?_
    exact W.iret (v := oI none) hx hb hr (fun t9 ht9 hW9 => ⟨oI none, rfl, (by rw [aft_out (inR_big (by decide) t1)]), ht9⟩) (fun q h => nomatch h) d_Ac_after_79
  · rcases (show jt = 0 ∨ jt = 1 ∨ jt = 2 ∨ jt = 3 by omega) with rfl | rfl | rfl | rfl
    · refine bk_topi (y := nI 0) t1 ?_
      refine lv_tableIn (off := 31) (tgt := 32) hx hb d_Ac_after_1 (by decide) (by decide) (by decide) (by decide) ?_
      refine lv_iload_n hx hb d_Ac_after_32 rfl (lv_at hl 0 rfl) ?_
      refine lv_iconst (v := nI 3) hx hb d_Ac_after_33 (by decide +kernel) ?_
      refine bk_icmp_ge (a := now) (b := 3) (tgt := 43) hx hb (by omega) (by omega) d_Ac_after_34 (by decide) (fun c34 => ?_) (fun c34 => ?_)
      · refine lv_iconst (v := oI none) hx hb d_Ac_after_43 (by decide +kernel) ?_
        exact W.iret (v := oI none) hx hb hr (fun t9 ht9 hW9 => ⟨oI none, rfl, (by rw [t1, aft_0]; first | (rw [if_pos (by omega)]; done) | (rw [if_pos (by omega)]; rfl) | (rw [if_neg (by omega)]; done) | (rw [if_neg (by omega)]; rfl)), ht9⟩) (fun q h => nomatch h) d_Ac_after_44
      · refine lv_iload_n hx hb d_Ac_after_37 rfl (lv_at hl 0 rfl) ?_
        refine lv_iconst (v := nI 1) hx hb d_Ac_after_38 (by decide +kernel) ?_
        refine bk_iadd hx hb d_Ac_after_39 ?_
        refine lv_goto (tgt := 44) hx hb d_Ac_after_40 (by decide) ?_
        exact W.iret (v := nI (now + 1)) hx hb hr (fun t9 ht9 hW9 => ⟨nI (now + 1), rfl, (by rw [t1, aft_0]; first | (rw [if_pos (by omega)]; done) | (rw [if_pos (by omega)]; rfl) | (rw [if_neg (by omega)]; done) | (rw [if_neg (by omega)]; rfl)), ht9⟩) (fun q h => nomatch h) d_Ac_after_44
    · refine bk_topi (y := nI 1) t1 ?_
      refine lv_tableIn (off := 44) (tgt := 45) hx hb d_Ac_after_1 (by decide) (by decide) (by decide) (by decide) ?_
      refine lv_iload_n hx hb d_Ac_after_45 rfl (lv_at hl 0 rfl) ?_
      refine lv_iconst (v := nI 2) hx hb d_Ac_after_46 (by decide +kernel) ?_
      refine bk_icmp_ne (a := now) (b := 2) (tgt := 54) hx hb (by omega) (by omega) d_Ac_after_47 (by decide) (fun c47 => ?_) (fun c47 => ?_)
      · refine lv_iconst (v := oI none) hx hb d_Ac_after_54 (by decide +kernel) ?_
        exact W.iret (v := oI none) hx hb hr (fun t9 ht9 hW9 => ⟨oI none, rfl, (by rw [t1, aft_1]; first | (rw [if_pos (by omega)]; done) | (rw [if_pos (by omega)]; rfl) | (rw [if_neg (by omega)]; done) | (rw [if_neg (by omega)]; rfl)), ht9⟩) (fun q h => nomatch h) d_Ac_after_55
      · refine lv_iconst (v := nI 1) hx hb d_Ac_after_50 (by decide +kernel) ?_
        refine lv_goto (tgt := 55) hx hb d_Ac_after_51 (by decide) ?_
        exact W.iret (v := nI 1) hx hb hr (fun t9 ht9 hW9 => ⟨nI 1, rfl, (by rw [t1, aft_1]; first | (rw [if_pos (by omega)]; done) | (rw [if_pos (by omega)]; rfl) | (rw [if_neg (by omega)]; done) | (rw [if_neg (by omega)]; rfl)), ht9⟩) (fun q h => nomatch h) d_Ac_after_55
    · refine bk_topi (y := nI 2) t1 ?_
      refine lv_tableIn (off := 55) (tgt := 56) hx hb d_Ac_after_1 (by decide) (by decide) (by decide) (by decide) ?_
      refine lv_iload_n hx hb d_Ac_after_56 rfl (lv_at hl 0 rfl) ?_
      refine lv_iconst (v := nI 3) hx hb d_Ac_after_57 (by decide +kernel) ?_
      refine bk_icmp_ne (a := now) (b := 3) (tgt := 65) hx hb (by omega) (by omega) d_Ac_after_58 (by decide) (fun c58 => ?_) (fun c58 => ?_)
      · refine lv_iconst (v := oI none) hx hb d_Ac_after_65 (by decide +kernel) ?_
        exact W.iret (v := oI none) hx hb hr (fun t9 ht9 hW9 => ⟨oI none, rfl, (by rw [t1, aft_2]; first | (rw [if_pos (by omega)]; done) | (rw [if_pos (by omega)]; rfl) | (rw [if_neg (by omega)]; done) | (rw [if_neg (by omega)]; rfl)), ht9⟩) (fun q h => nomatch h) d_Ac_after_66
      · refine lv_iconst (v := nI 2) hx hb d_Ac_after_61 (by decide +kernel) ?_
        refine lv_goto (tgt := 66) hx hb d_Ac_after_62 (by decide) ?_
        exact W.iret (v := nI 2) hx hb hr (fun t9 ht9 hW9 => ⟨nI 2, rfl, (by rw [t1, aft_2]; first | (rw [if_pos (by omega)]; done) | (rw [if_pos (by omega)]; rfl) | (rw [if_neg (by omega)]; done) | (rw [if_neg (by omega)]; rfl)), ht9⟩) (fun q h => nomatch h) d_Ac_after_66
    · refine bk_topi (y := nI 3) t1 ?_
      refine lv_tableIn (off := 66) (tgt := 67) hx hb d_Ac_after_1 (by decide) (by decide) (by decide) (by decide) ?_
      refine lv_iload_n hx hb d_Ac_after_67 rfl (lv_at hl 0 rfl) ?_
      refine lv_iconst (v := nI 1) hx hb d_Ac_after_68 (by decide +kernel) ?_
      refine bk_icmp_ne (a := now) (b := 1) (tgt := 76) hx hb (by omega) (by omega) d_Ac_after_69 (by decide) (fun c69 => ?_) (fun c69 => ?_)
      · refine lv_iconst (v := oI none) hx hb d_Ac_after_76 (by decide +kernel) ?_
        exact W.iret (v := oI none) hx hb hr (fun t9 ht9 hW9 => ⟨oI none, rfl, (by rw [t1, aft_3]; first | (rw [if_pos (by omega)]; done) | (rw [if_pos (by omega)]; rfl) | (rw [if_neg (by omega)]; done) | (rw [if_neg (by omega)]; rfl)), ht9⟩) (fun q h => nomatch h) d_Ac_after_77
      · refine lv_iconst (v := nI 0) hx hb d_Ac_after_72 (by decide +kernel) ?_
        refine lv_goto (tgt := 77) hx hb d_Ac_after_73 (by decide) ?_
        exact W.iret (v := nI 0) hx hb hr (fun t9 ht9 hW9 => ⟨nI 0, rfl, (by rw [t1, aft_3]; first | (rw [if_pos (by omega)]; done) | (rw [if_pos (by omega)]; rfl) | (rw [if_neg (by omega)]; done) | (rw [if_neg (by omega)]; rfl)), ht9⟩) (fun q h => nomatch h) d_Ac_after_77
set_option maxHeartbeats 4000000 in
set_option maxRecDepth 100000 in
theorem c_Ac_tell (l : Launch) (dC : Nat → ClassId) (dI : Nat → Nat → Nat) (cI cL cZ : ClassId) (sz : Nat) (h a1 a2 a3 : Nat) (sa wr : Nat → Nat) (pe : Nat → Option Nat) (x1 x2 x3 : Int32) (hsa : ∀ j, j < 10 → sa j ≤ 3) (hpe : ∀ j k, pe j = some k → k < 100) : Met l y_Ac_tell ws_Ac_tell { frames := 1, cells := 0, slots := 0, locals := 21 } (va_Pc [.ref h, .int x1, .int x2, .int x3] (wrP (dC, dI) vwCl [(cI, .int), (cL, .long), (cZ, .boolean)] [(h, .inr (7, [.ref a1, .ref a2, .ref a3])), (a1, .inl (cI, 10, .inl (aI sa))), (a2, .inl (cI, 10, .inl (aI wr))), (a3, .inl (cI, 10, .inl (aO pe)))] sz)) (va_Qi (fun (r : Int32) (u : (Nat → Nat) × (Nat → Nat) × (Nat → Option Nat)) => (∃ to, actOk sa pe x1 x2 x3 to ∧ r = nI to ∧ u = (va_up sa (tn x1) to, (if x2 = nI 0 then va_up wr (tn x1) (wr (tn x1) + 1) else wr), va_up pe (tn x1) (some (tn x3)))) ∨ ((∀ to, ¬ actOk sa pe x1 x2 x3 to) ∧ r = oI none ∧ u = (sa, wr, pe))) (fun (u : (Nat → Nat) × (Nat → Nat) × (Nat → Option Nat)) => wrQ (dC, dI) vwCl [(cI, .int), (cL, .long), (cZ, .boolean)] (va_A [(h, .inr (7, [.ref a1, .ref a2, .ref a3])), (a1, .inl (cI, 10, .inl (aI sa))), (a2, .inl (cI, 10, .inl (aI wr))), (a3, .inl (cI, 10, .inl (aO pe)))] sz) [(h, .inr (7, [.ref a1, .ref a2, .ref a3])), (a1, .inl (cI, 10, .inl (aI u.1))), (a2, .inl (cI, 10, .inl (aI u.2.1))), (a3, .inl (cI, 10, .inl (aO u.2.2)))]) (va_A [(h, .inr (7, [.ref a1, .ref a2, .ref a3])), (a1, .inl (cI, 10, .inl (aI sa))), (a2, .inl (cI, 10, .inl (aI wr))), (a3, .inl (cI, 10, .inl (aO pe)))] sz)) 0 0 (va_A [(h, .inr (7, [.ref a1, .ref a2, .ref a3])), (a1, .inl (cI, 10, .inl (aI sa))), (a2, .inl (cI, 10, .inl (aI wr))), (a3, .inl (cI, 10, .inl (aO pe)))] sz) := by
  refine Met.ofW (cc := b_Ac_tell) (maxL := 5) (ret := (some .int)) (by decide) rfl ?_
  intro pr en s m args below meth c s₁ B hml hv
  obtain ⟨rfl, hN, hsz, hP, hK, hD0⟩ := hv
  have hx := B.exec
  have hb := B.bytes
  have hr := B.returns
  have hts := atoms_spec (ws := ws_Ac_tell) B.pre
  have htg : ∀ w ∈ gW, w.before _ s = true := fun w h => hts w (List.mem_cons_of_mem _ h)
  have hown : s.vm.findClass R_Ac = some m.cls := findClass_of_methodNamed B.named
  have hlocks := B.notSynchronized
  subst hsz
  have hD := hD0.self (sz := s.heap.size)
  generalize hAe : va_A [(h, .inr (7, [.ref a1, .ref a2, .ref a3])), (a1, .inl (cI, 10, .inl (aI sa))), (a2, .inl (cI, 10, .inl (aI wr))), (a3, .inl (cI, 10, .inl (aO pe)))] s.heap.size = A at hD ⊢
  have hA : ∀ q : Nat, s.heap.size ≤ q → A q := fun q h => by rw [← hAe]; exact Or.inr h
  have hS : va_S A s.heap s.heap [] := va_S.rf
  have hP : va_P (dC, dI) vwCl [(h, .inr (7, [.ref a1, .ref a2, .ref a3])), (a1, .inl (cI, 10, .inl (aI sa))), (a2, .inl (cI, 10, .inl (aI wr))), (a3, .inl (cI, 10, .inl (aO pe)))] s.heap := hP
  have hl := lv_entry ([.ref h, .int x1, .int x2, .int x3]) (n := 5) (Nat.le_of_ble_eq_true rfl)
  rw [lg_entry_eq]
  generalize (lg_sl ([.ref h, .int x1, .int x2, .int x3]) ++ List.replicate (5 - (lg_sl ([.ref h, .int x1, .int x2, .int x3])).length) Slot.unset).toArray = ls at hl ⊢
  have hl : lv_has ls 5 [(0, .ref h), (1, .int x1), (2, .int x2), (3, .int x3)] := hl
  refine lv_iload_n hx hb d_Ac_tell_0 rfl (lv_at hl 1 rfl) ?_
  refine vp_callSi (va_runSN (As := [.int x1]) (rest := []) ⟨hx, hb, hml, hown, htg⟩ (c_B_isShip l dC dI cI cL cZ x1 ) ⟨va_cnB 1 htg (gd kc_B_isShip) rfl rfl rfl (hN _ (List.mem_of_getElem? (i := 11) rfl)) (htg _ k1_1) (by decide +kernel) ⟨Nat.le_of_ble_eq_true rfl, Nat.le_of_ble_eq_true rfl⟩, htg _ k1_197, trivial⟩ ⟨bk_blind0, fun U hU hW => ⟨rfl, trivial⟩⟩ rfl rfl hl.1 rfl (lv_room (Nat.le_of_ble_eq_true rfl)) d_Ac_tell_1 ⟨Nat.le_of_ble_eq_true rfl, Nat.le_of_ble_eq_true rfl⟩).run (fun r1 e1 => ?_)
  rcases e1 with ⟨⟨j1, hj1, hx1⟩, rfl⟩ | ⟨n1, rfl⟩
  · refine bk_if_eq (a := 1) (tgt := 27) hx hb (by omega) d_Ac_tell_4 (by decide) (fun c4 => absurd c4 (by decide)) (fun c4 => ?_)
    refine lv_iload_n hx hb d_Ac_tell_7 rfl (lv_at hl 3 rfl) ?_
    refine lv_if_lt (x := x3) (tgt := 27) hx hb d_Ac_tell_8 (by decide) (fun c8 => ?_) (fun c8 => ?_)
    · refine lv_iconst (v := oI none) hx hb d_Ac_tell_27 (by decide +kernel) ?_
      have hP9 := hP.sub (ws' := [(h, .inr (7, [.ref a1, .ref a2, .ref a3])), (a1, .inl (cI, 10, .inl (aI sa))), (a2, .inl (cI, 10, .inl (aI wr))), (a3, .inl (cI, 10, .inl (aO pe)))]) [0, 1, 2, 3] rfl
      have hD9 := hD.sub (ws' := [(h, .inr (7, [.ref a1, .ref a2, .ref a3])), (a1, .inl (cI, 10, .inl (aI sa))), (a2, .inl (cI, 10, .inl (aI wr))), (a3, .inl (cI, 10, .inl (aO pe)))]) [0, 1, 2, 3] (by decide) rfl
      exact W.iret (v := oI none) hx hb hr (fun t9 ht9 hW9 => ⟨⟨oI none, (sa, wr, pe), rfl, Or.inr ⟨fun to z9 => by obtain ⟨y1, y2, y3, y4⟩ := z9; first | exact n1 y1 | exact absurd y2 (inR_neg (by decide) c8) | exact absurd y2 (inR_big (by decide) c14) | (rw [hx1, hxq, tn_nI (by omega), tn_nI (by omega)] at y3; exact y3 c24) | (rw [hx1, tn_nI (by omega), hto] at y4; cases y4), rfl, rfl⟩, by rw [ht9]; exact hP9, va_K.moved hW9.alike hK, hD9⟩, hS.F ht9⟩) hS.2.2 d_Ac_tell_28
    · refine lv_iload_n hx hb d_Ac_tell_11 rfl (lv_at hl 3 rfl) ?_
      refine lv_bipush (v := nI 100) hx hb d_Ac_tell_12 (by decide +kernel) ?_
      refine lv_icmp_ge (x := x3) (y := nI 100) (tgt := 27) hx hb d_Ac_tell_14 (by decide) (fun c14 => ?_) (fun c14 => ?_)
      · refine lv_iconst (v := oI none) hx hb d_Ac_tell_27 (by decide +kernel) ?_
        have hP9 := hP.sub (ws' := [(h, .inr (7, [.ref a1, .ref a2, .ref a3])), (a1, .inl (cI, 10, .inl (aI sa))), (a2, .inl (cI, 10, .inl (aI wr))), (a3, .inl (cI, 10, .inl (aO pe)))]) [0, 1, 2, 3] rfl
        have hD9 := hD.sub (ws' := [(h, .inr (7, [.ref a1, .ref a2, .ref a3])), (a1, .inl (cI, 10, .inl (aI sa))), (a2, .inl (cI, 10, .inl (aI wr))), (a3, .inl (cI, 10, .inl (aO pe)))]) [0, 1, 2, 3] (by decide) rfl
        exact W.iret (v := oI none) hx hb hr (fun t9 ht9 hW9 => ⟨⟨oI none, (sa, wr, pe), rfl, Or.inr ⟨fun to z9 => by obtain ⟨y1, y2, y3, y4⟩ := z9; first | exact n1 y1 | exact absurd y2 (inR_neg (by decide) c8) | exact absurd y2 (inR_big (by decide) c14) | (rw [hx1, hxq, tn_nI (by omega), tn_nI (by omega)] at y3; exact y3 c24) | (rw [hx1, tn_nI (by omega), hto] at y4; cases y4), rfl, rfl⟩, by rw [ht9]; exact hP9, va_K.moved hW9.alike hK, hD9⟩, hS.F ht9⟩) hS.2.2 d_Ac_tell_28
      · obtain ⟨q, hq, hxq⟩ := inR_of (n := 100) (by decide) c8 c14
        have hs1 := hsa j1 hj1
        refine lv_aload_n hx hb d_Ac_tell_17 rfl (lv_at hl 0 rfl) ?_
        refine va_get (D := (dC, dI)) (ci := 7) (v := .ref a3) (C := R_Ac) (T := F_Ac) (N := 3) hx hb htg iw_Ac hown hK hP 0 rfl rfl 2 (by decide) (htg _ k1_149) (fun _ h9 => h9) rfl d_Ac_tell_18 ?_
        refine lv_iload_n hx hb d_Ac_tell_21 rfl (lv_at hl 1 rfl) ?_
        refine bk_topi (y := nI j1) hx1 ?_
        refine bk_iald (v := oI (pe j1)) hx hb hK hP 3 0 rfl rfl (by omega) (by decide) rfl d_Ac_tell_22 ?_
        refine lv_iload_n hx hb d_Ac_tell_23 rfl (lv_at hl 3 rfl) ?_
        refine bk_topi (y := nI q) hxq ?_
        refine bk_ocmpn_ne (r := pe j1) (k := q) (tgt := 29) hx hb (fun k h => by have := hpe _ k h; omega) (by omega) d_Ac_tell_24 (by decide) (fun c24 => ?_) (fun c24 => ?_)
        · refine lv_aload_n hx hb d_Ac_tell_29 rfl (lv_at hl 0 rfl) ?_
          refine va_get (D := (dC, dI)) (ci := 7) (v := .ref a1) (C := R_Ac) (T := F_Ac) (N := 3) hx hb htg iw_Ac hown hK hP 0 rfl rfl 0 (by decide) (htg _ k1_145) (fun _ h9 => h9) rfl d_Ac_tell_30 ?_
          refine lv_iload_n hx hb d_Ac_tell_33 rfl (lv_at hl 1 rfl) ?_
          refine bk_topi (y := nI j1) hx1 ?_
          refine bk_iald (v := nI (sa j1)) hx hb hK hP 1 0 rfl rfl (by omega) (by decide) rfl d_Ac_tell_34 ?_
          refine lv_iload_n hx hb d_Ac_tell_35 rfl (lv_at hl 2 rfl) ?_
          refine vp_callSi (va_runS (As := [.int (nI (sa j1)), .int x2]) (rest := []) ⟨hx, hb, hml, hown, htg⟩ (c_Ac_after l dC dI cI cL cZ (sa j1) x2 hs1) (va_cwS 2 htg (gdS k2_196 k2_197 k1_8 kc_Ac_after) rfl rfl rfl (by decide +kernel) ⟨Nat.le_of_ble_eq_true rfl, Nat.le_of_ble_eq_true rfl⟩) ⟨bk_blind0, fun U hU hW => ⟨rfl, trivial⟩⟩ rfl rfl hl.1 rfl (lv_room (Nat.le_of_ble_eq_true rfl)) d_Ac_tell_36 ⟨Nat.le_of_ble_eq_true rfl, Nat.le_of_ble_eq_true rfl⟩).run (fun r36 e36 => ?_)
          subst e36
          rcases hto : aft (sa j1) x2 with _ | to
          · refine lv_istore (lv' := [(4, .int (oI none)), (0, .ref h), (1, .int x1), (2, .int x2), (3, .int x3)]) hx hb d_Ac_tell_39 hl (by decide) rfl (fun ls hl => ?_)
            refine lv_iload hx hb d_Ac_tell_41 (lv_at hl 0 rfl) ?_
            refine lv_iconst (v := oI none) hx hb d_Ac_tell_43 (by decide +kernel) ?_
            refine bk_ocmp_ne (r := none) (tgt := 49) hx hb (by intro k h; cases h) d_Ac_tell_44 (by decide) (fun c44 => absurd rfl c44) (fun c44 => ?_)
            refine lv_iconst (v := oI none) hx hb d_Ac_tell_47 (by decide +kernel) ?_
            have hP9 := hP.sub (ws' := [(h, .inr (7, [.ref a1, .ref a2, .ref a3])), (a1, .inl (cI, 10, .inl (aI sa))), (a2, .inl (cI, 10, .inl (aI wr))), (a3, .inl (cI, 10, .inl (aO pe)))]) [0, 1, 2, 3] rfl
            have hD9 := hD.sub (ws' := [(h, .inr (7, [.ref a1, .ref a2, .ref a3])), (a1, .inl (cI, 10, .inl (aI sa))), (a2, .inl (cI, 10, .inl (aI wr))), (a3, .inl (cI, 10, .inl (aO pe)))]) [0, 1, 2, 3] (by decide) rfl
            exact W.iret (v := oI none) hx hb hr (fun t9 ht9 hW9 => ⟨⟨oI none, (sa, wr, pe), rfl, Or.inr ⟨fun to z9 => by obtain ⟨y1, y2, y3, y4⟩ := z9; first | exact n1 y1 | exact absurd y2 (inR_neg (by decide) c8) | exact absurd y2 (inR_big (by decide) c14) | (rw [hx1, hxq, tn_nI (by omega), tn_nI (by omega)] at y3; exact y3 c24) | (rw [hx1, tn_nI (by omega), hto] at y4; cases y4), rfl, rfl⟩, by rw [ht9]; exact hP9, va_K.moved hW9.alike hK, hD9⟩, hS.F ht9⟩) hS.2.2 d_Ac_tell_48
          · have hle := aft_le hto
            refine bk_topi (y := nI to) rfl ?_
            refine lv_istore (lv' := [(4, .int (nI to)), (0, .ref h), (1, .int x1), (2, .int x2), (3, .int x3)]) hx hb d_Ac_tell_39 hl (by decide) rfl (fun ls hl => ?_)
            refine lv_iload hx hb d_Ac_tell_41 (lv_at hl 0 rfl) ?_
            refine lv_iconst (v := oI none) hx hb d_Ac_tell_43 (by decide +kernel) ?_
            refine bk_ocmp_ne (r := some to) (tgt := 49) hx hb (by intro k h; cases h; omega) d_Ac_tell_44 (by decide) (fun c44 => ?_) (fun c44 => nomatch c44)
            refine lv_aload_n hx hb d_Ac_tell_49 rfl (lv_at hl 1 rfl) ?_
            refine va_get (D := (dC, dI)) (ci := 7) (v := .ref a1) (C := R_Ac) (T := F_Ac) (N := 3) hx hb htg iw_Ac hown hK hP 0 rfl rfl 0 (by decide) (htg _ k1_145) (fun _ h9 => h9) rfl d_Ac_tell_50 ?_
            refine lv_iload_n hx hb d_Ac_tell_53 rfl (lv_at hl 2 rfl) ?_
            refine bk_topi (y := nI j1) hx1 ?_
            refine lv_iload hx hb d_Ac_tell_54 (lv_at hl 0 rfl) ?_
            refine bk_iast (x := nI to) (f2 := aI (va_up sa j1 to)) hx hb hK hP hD hS 1 0 rfl rfl (by omega) (by decide) (aI_up _ _ _) d_Ac_tell_56 (fun H locs hP hD hS => ?_)
            have hP : va_P (dC, dI) vwCl [(h, .inr (7, [.ref a1, .ref a2, .ref a3])), (a1, .inl (cI, 10, .inl (aI (va_up sa j1 to)))), (a2, .inl (cI, 10, .inl (aI wr))), (a3, .inl (cI, 10, .inl (aO pe)))] H := hP
            have hD : va_D A [(h, .inr (7, [.ref a1, .ref a2, .ref a3])), (a1, .inl (cI, 10, .inl (aI (va_up sa j1 to)))), (a2, .inl (cI, 10, .inl (aI wr))), (a3, .inl (cI, 10, .inl (aO pe)))] := hD
            refine lv_aload_n hx hb d_Ac_tell_57 rfl (lv_at hl 1 rfl) ?_
            refine va_get (D := (dC, dI)) (ci := 7) (v := .ref a3) (C := R_Ac) (T := F_Ac) (N := 3) hx hb htg iw_Ac hown hK hP 0 rfl rfl 2 (by decide) (htg _ k1_149) (fun _ h9 => h9) rfl d_Ac_tell_58 ?_
            refine lv_iload_n hx hb d_Ac_tell_61 rfl (lv_at hl 2 rfl) ?_
            refine bk_topi (y := nI j1) hx1 ?_
            refine lv_iload_n hx hb d_Ac_tell_62 rfl (lv_at hl 4 rfl) ?_
            refine bk_topi (y := nI q) hxq ?_
            refine bk_iast (x := nI q) (f2 := aO (va_up pe j1 (some q))) hx hb hK hP hD hS 3 0 rfl rfl (by omega) (by decide) (aO_up _ _ (some q)) d_Ac_tell_63 (fun H locs hP hD hS => ?_)
            have hP : va_P (dC, dI) vwCl [(h, .inr (7, [.ref a1, .ref a2, .ref a3])), (a1, .inl (cI, 10, .inl (aI (va_up sa j1 to)))), (a2, .inl (cI, 10, .inl (aI wr))), (a3, .inl (cI, 10, .inl (aO (va_up pe j1 (some q)))))] H := hP
            have hD : va_D A [(h, .inr (7, [.ref a1, .ref a2, .ref a3])), (a1, .inl (cI, 10, .inl (aI (va_up sa j1 to)))), (a2, .inl (cI, 10, .inl (aI wr))), (a3, .inl (cI, 10, .inl (aO (va_up pe j1 (some q)))))] := hD
            refine lv_iload_n hx hb d_Ac_tell_64 rfl (lv_at hl 3 rfl) ?_
            refine lv_if_ne (x := x2) (tgt := 78) hx hb d_Ac_tell_65 (by decide) (fun c65 => ?_) (fun c65 => ?_)
            · refine lv_iload hx hb d_Ac_tell_78 (lv_at hl 0 rfl) ?_
              have e1 : tn x1 = j1 := by rw [hx1, tn_nI (by omega)]
              have e3 : tn x3 = q := by rw [hxq, tn_nI (by omega)]
              have hP9 := hP.sub (ws' := [(h, .inr (7, [.ref a1, .ref a2, .ref a3])), (a1, .inl (cI, 10, .inl (aI (va_up sa j1 to)))), (a2, .inl (cI, 10, .inl (aI wr))), (a3, .inl (cI, 10, .inl (aO (va_up pe j1 (some q)))))]) [0, 1, 2, 3] rfl
              have hD9 := hD.sub (ws' := [(h, .inr (7, [.ref a1, .ref a2, .ref a3])), (a1, .inl (cI, 10, .inl (aI (va_up sa j1 to)))), (a2, .inl (cI, 10, .inl (aI wr))), (a3, .inl (cI, 10, .inl (aO (va_up pe j1 (some q)))))]) [0, 1, 2, 3] (by decide) rfl
              exact W.iret (v := nI to) hx hb hr (fun t9 ht9 hW9 => ⟨⟨nI to, (va_up sa j1 to, wr, va_up pe j1 (some q)), rfl, Or.inl ⟨to, ⟨⟨j1, hj1, hx1⟩, ⟨q, hq, hxq⟩, by rw [e1, e3]; exact c24, by rw [e1]; exact hto⟩, rfl, by rw [e1, e3]; first | (rw [if_pos (show x2 = nI 0 from c65)]; done) | (rw [if_neg (show ¬ x2 = nI 0 from c65)]; done)⟩, by rw [ht9]; exact hP9, va_K.moved hW9.alike hK, hD9⟩, hS.F ht9⟩) hS.2.2 d_Ac_tell_80
            · refine lv_aload_n hx hb d_Ac_tell_68 rfl (lv_at hl 1 rfl) ?_
              refine va_get (D := (dC, dI)) (ci := 7) (v := .ref a2) (C := R_Ac) (T := F_Ac) (N := 3) hx hb htg iw_Ac hown hK hP 0 rfl rfl 1 (by decide) (htg _ k1_147) (fun _ h9 => h9) rfl d_Ac_tell_69 ?_
              refine lv_iload_n hx hb d_Ac_tell_72 rfl (lv_at hl 2 rfl) ?_
              refine bk_topi (y := nI j1) hx1 ?_
              refine lv_dup2_11 hx hb d_Ac_tell_73 rfl rfl ?_
              refine bk_iald (v := nI (wr j1)) hx hb hK hP 2 0 rfl rfl (by omega) (by decide) rfl d_Ac_tell_74 ?_
              refine lv_iconst (v := nI 1) hx hb d_Ac_tell_75 (by decide +kernel) ?_
              refine bk_iadd hx hb d_Ac_tell_76 ?_
              refine bk_iast (x := nI ((wr j1) + 1)) (f2 := aI (va_up wr j1 ((wr j1) + 1))) hx hb hK hP hD hS 2 0 rfl rfl (by omega) (by decide) (aI_up _ _ _) d_Ac_tell_77 (fun H locs hP hD hS => ?_)
              have hP : va_P (dC, dI) vwCl [(h, .inr (7, [.ref a1, .ref a2, .ref a3])), (a1, .inl (cI, 10, .inl (aI (va_up sa j1 to)))), (a2, .inl (cI, 10, .inl (aI (va_up wr j1 ((wr j1) + 1))))), (a3, .inl (cI, 10, .inl (aO (va_up pe j1 (some q)))))] H := hP
              have hD : va_D A [(h, .inr (7, [.ref a1, .ref a2, .ref a3])), (a1, .inl (cI, 10, .inl (aI (va_up sa j1 to)))), (a2, .inl (cI, 10, .inl (aI (va_up wr j1 ((wr j1) + 1))))), (a3, .inl (cI, 10, .inl (aO (va_up pe j1 (some q)))))] := hD
              refine lv_iload hx hb d_Ac_tell_78 (lv_at hl 0 rfl) ?_
              have e1 : tn x1 = j1 := by rw [hx1, tn_nI (by omega)]
              have e3 : tn x3 = q := by rw [hxq, tn_nI (by omega)]
              have hP9 := hP.sub (ws' := [(h, .inr (7, [.ref a1, .ref a2, .ref a3])), (a1, .inl (cI, 10, .inl (aI (va_up sa j1 to)))), (a2, .inl (cI, 10, .inl (aI (va_up wr j1 ((wr j1) + 1))))), (a3, .inl (cI, 10, .inl (aO (va_up pe j1 (some q)))))]) [0, 1, 2, 3] rfl
              have hD9 := hD.sub (ws' := [(h, .inr (7, [.ref a1, .ref a2, .ref a3])), (a1, .inl (cI, 10, .inl (aI (va_up sa j1 to)))), (a2, .inl (cI, 10, .inl (aI (va_up wr j1 ((wr j1) + 1))))), (a3, .inl (cI, 10, .inl (aO (va_up pe j1 (some q)))))]) [0, 1, 2, 3] (by decide) rfl
              exact W.iret (v := nI to) hx hb hr (fun t9 ht9 hW9 => ⟨⟨nI to, (va_up sa j1 to, va_up wr j1 ((wr j1) + 1), va_up pe j1 (some q)), rfl, Or.inl ⟨to, ⟨⟨j1, hj1, hx1⟩, ⟨q, hq, hxq⟩, by rw [e1, e3]; exact c24, by rw [e1]; exact hto⟩, rfl, by rw [e1, e3]; first | (rw [if_pos (show x2 = nI 0 from c65)]; done) | (rw [if_neg (show ¬ x2 = nI 0 from c65)]; done)⟩, by rw [ht9]; exact hP9, va_K.moved hW9.alike hK, hD9⟩, hS.F ht9⟩) hS.2.2 d_Ac_tell_80
        · refine lv_iconst (v := oI none) hx hb d_Ac_tell_27 (by decide +kernel) ?_
          have hP9 := hP.sub (ws' := [(h, .inr (7, [.ref a1, .ref a2, .ref a3])), (a1, .inl (cI, 10, .inl (aI sa))), (a2, .inl (cI, 10, .inl (aI wr))), (a3, .inl (cI, 10, .inl (aO pe)))]) [0, 1, 2, 3] rfl
          have hD9 := hD.sub (ws' := [(h, .inr (7, [.ref a1, .ref a2, .ref a3])), (a1, .inl (cI, 10, .inl (aI sa))), (a2, .inl (cI, 10, .inl (aI wr))), (a3, .inl (cI, 10, .inl (aO pe)))]) [0, 1, 2, 3] (by decide) rfl
          exact W.iret (v := oI none) hx hb hr (fun t9 ht9 hW9 => ⟨⟨oI none, (sa, wr, pe), rfl, Or.inr ⟨fun to z9 => by obtain ⟨y1, y2, y3, y4⟩ := z9; first | exact n1 y1 | exact absurd y2 (inR_neg (by decide) c8) | exact absurd y2 (inR_big (by decide) c14) | (rw [hx1, hxq, tn_nI (by omega), tn_nI (by omega)] at y3; exact y3 c24) | (rw [hx1, tn_nI (by omega), hto] at y4; cases y4), rfl, rfl⟩, by rw [ht9]; exact hP9, va_K.moved hW9.alike hK, hD9⟩, hS.F ht9⟩) hS.2.2 d_Ac_tell_28
  · refine bk_if_eq (a := 0) (tgt := 27) hx hb (by omega) d_Ac_tell_4 (by decide) (fun c4 => ?_) (fun c4 => absurd c4 (by decide))
    refine lv_iconst (v := oI none) hx hb d_Ac_tell_27 (by decide +kernel) ?_
    have hP9 := hP.sub (ws' := [(h, .inr (7, [.ref a1, .ref a2, .ref a3])), (a1, .inl (cI, 10, .inl (aI sa))), (a2, .inl (cI, 10, .inl (aI wr))), (a3, .inl (cI, 10, .inl (aO pe)))]) [0, 1, 2, 3] rfl
    have hD9 := hD.sub (ws' := [(h, .inr (7, [.ref a1, .ref a2, .ref a3])), (a1, .inl (cI, 10, .inl (aI sa))), (a2, .inl (cI, 10, .inl (aI wr))), (a3, .inl (cI, 10, .inl (aO pe)))]) [0, 1, 2, 3] (by decide) rfl
    exact W.iret (v := oI none) hx hb hr (fun t9 ht9 hW9 => ⟨⟨oI none, (sa, wr, pe), rfl, Or.inr ⟨fun to z9 => by obtain ⟨y1, y2, y3, y4⟩ := z9; first | exact n1 y1 | exact absurd y2 (inR_neg (by decide) c8) | exact absurd y2 (inR_big (by decide) c14) | (rw [hx1, hxq, tn_nI (by omega), tn_nI (by omega)] at y3; exact y3 c24) | (rw [hx1, tn_nI (by omega), hto] at y4; cases y4), rfl, rfl⟩, by rw [ht9]; exact hP9, va_K.moved hW9.alike hK, hD9⟩, hS.F ht9⟩) hS.2.2 d_Ac_tell_28
set_option maxHeartbeats 4000000 in
set_option maxRecDepth 100000 in
theorem c_Ri_set (l : Launch) (dC : Nat → ClassId) (dI : Nat → Nat → Nat) (cI cL cZ : ClassId) (sz : Nat) (h a1 a2 : Nat) (wt : Nat → Nat) (x1 x2 x3 : Int32) : Met l y_Ri_set ws_Ri_set { frames := 1, cells := 0, slots := 0, locals := 20 } (va_Pc [.ref h, .int x1, .int x2, .int x3] (wrP (dC, dI) vwCl [(cI, .int), (cL, .long), (cZ, .boolean)] [(h, .inr (4, [.ref a1, .ref a2])), (a1, .inl (cI, 10, .inl (aI wt)))] sz)) (va_Qi (fun (r : Int32) (u : (Nat → Nat) × Nat) => (setOk x1 x2 x3 ∧ r = nI 1 ∧ u = (va_up wt (tn x1) (2520 / tn x3 * tn x2), 0)) ∨ (¬ setOk x1 x2 x3 ∧ r = nI 0 ∧ u = (wt, 0))) (fun (u : (Nat → Nat) × Nat) => wrQ (dC, dI) vwCl [(cI, .int), (cL, .long), (cZ, .boolean)] (va_A [(h, .inr (4, [.ref a1, .ref a2])), (a1, .inl (cI, 10, .inl (aI wt)))] sz) [(h, .inr (4, [.ref a1, .ref a2])), (a1, .inl (cI, 10, .inl (aI u.1)))]) (va_A [(h, .inr (4, [.ref a1, .ref a2])), (a1, .inl (cI, 10, .inl (aI wt)))] sz)) 0 0 (va_A [(h, .inr (4, [.ref a1, .ref a2])), (a1, .inl (cI, 10, .inl (aI wt)))] sz) := by
  refine Met.ofW (cc := b_Ri_set) (maxL := 4) (ret := (some .boolean)) (by decide) rfl ?_
  intro pr en s m args below meth c s₁ B hml hv
  obtain ⟨rfl, hN, hsz, hP, hK, hD0⟩ := hv
  have hx := B.exec
  have hb := B.bytes
  have hr := B.returns
  have hts := atoms_spec (ws := ws_Ri_set) B.pre
  have htg : ∀ w ∈ gW, w.before _ s = true := fun w h => hts w (List.mem_cons_of_mem _ h)
  have hown : s.vm.findClass R_Ri = some m.cls := findClass_of_methodNamed B.named
  have hlocks := B.notSynchronized
  subst hsz
  have hD := hD0.self (sz := s.heap.size)
  generalize hAe : va_A [(h, .inr (4, [.ref a1, .ref a2])), (a1, .inl (cI, 10, .inl (aI wt)))] s.heap.size = A at hD ⊢
  have hA : ∀ q : Nat, s.heap.size ≤ q → A q := fun q h => by rw [← hAe]; exact Or.inr h
  have hS : va_S A s.heap s.heap [] := va_S.rf
  have hP : va_P (dC, dI) vwCl [(h, .inr (4, [.ref a1, .ref a2])), (a1, .inl (cI, 10, .inl (aI wt)))] s.heap := hP
  have hl := lv_entry ([.ref h, .int x1, .int x2, .int x3]) (n := 4) (Nat.le_of_ble_eq_true rfl)
  rw [lg_entry_eq]
  generalize (lg_sl ([.ref h, .int x1, .int x2, .int x3]) ++ List.replicate (4 - (lg_sl ([.ref h, .int x1, .int x2, .int x3])).length) Slot.unset).toArray = ls at hl ⊢
  have hl : lv_has ls 4 [(0, .ref h), (1, .int x1), (2, .int x2), (3, .int x3)] := hl
  refine lv_iload_n hx hb d_Ri_set_0 rfl (lv_at hl 1 rfl) ?_
  refine vp_callSi (va_runSN (As := [.int x1]) (rest := []) ⟨hx, hb, hml, hown, htg⟩ (c_B_isShip l dC dI cI cL cZ x1 ) ⟨va_cnB 1 htg (gd kc_B_isShip) rfl rfl rfl (hN _ (List.mem_of_getElem? (i := 10) rfl)) (htg _ k1_1) (by decide +kernel) ⟨Nat.le_of_ble_eq_true rfl, Nat.le_of_ble_eq_true rfl⟩, htg _ k1_197, trivial⟩ ⟨bk_blind0, fun U hU hW => ⟨rfl, trivial⟩⟩ rfl rfl hl.1 rfl (lv_room (Nat.le_of_ble_eq_true rfl)) d_Ri_set_1 ⟨Nat.le_of_ble_eq_true rfl, Nat.le_of_ble_eq_true rfl⟩).run (fun r1 e1 => ?_)
  rcases e1 with ⟨⟨j1, hj1, hx1⟩, rfl⟩ | ⟨n1, rfl⟩
  · refine bk_if_eq (a := 1) (tgt := 27) hx hb (by omega) d_Ri_set_4 (by decide) (fun c4 => absurd c4 (by decide)) (fun c4 => ?_)
    refine lv_iload_n hx hb d_Ri_set_7 rfl (lv_at hl 3 rfl) ?_
    refine lv_iconst (v := nI 1) hx hb d_Ri_set_8 (by decide +kernel) ?_
    refine lv_icmp_lt (x := x3) (y := nI 1) (tgt := 27) hx hb d_Ri_set_9 (by decide) (fun c9 => ?_) (fun c9 => ?_)
    · refine lv_iconst (v := nI 0) hx hb d_Ri_set_27 (by decide +kernel) ?_
      have hP9 := hP.sub (ws' := [(h, .inr (4, [.ref a1, .ref a2])), (a1, .inl (cI, 10, .inl (aI wt)))]) [0, 1] rfl
      have hD9 := hD.sub (ws' := [(h, .inr (4, [.ref a1, .ref a2])), (a1, .inl (cI, 10, .inl (aI wt)))]) [0, 1] (by decide) rfl
      exact W.zret (v := nI 0) (ty := .boolean) hx hb hr rfl (fun t9 ht9 hW9 => ⟨⟨nI 0, (wt, 0), rfl, Or.inr ⟨fun z9 => by obtain ⟨y1, a, b, y2, y3, y4, y5, y6⟩ := z9; first | exact n1 y1 | exact no_lt1 y6 y2 (by omega) c9 | exact no_gt y6 (by omega) (by decide) (by omega) c15 | exact (by rw [y5] at c19; exact nI_pos (by omega) c19) | exact (by rw [y5, y6] at c24; exact c24 (nI_le y4 (by omega))), rfl, rfl⟩, by rw [ht9]; exact hP9, va_K.moved hW9.alike hK, hD9⟩, hS.F ht9⟩) hS.2.2 d_Ri_set_28
    · refine lv_iload_n hx hb d_Ri_set_12 rfl (lv_at hl 3 rfl) ?_
      refine lv_bipush (v := nI 10) hx hb d_Ri_set_13 (by decide +kernel) ?_
      refine lv_icmp_gt (x := x3) (y := nI 10) (tgt := 27) hx hb d_Ri_set_15 (by decide) (fun c15 => ?_) (fun c15 => ?_)
      · refine lv_iconst (v := nI 0) hx hb d_Ri_set_27 (by decide +kernel) ?_
        have hP9 := hP.sub (ws' := [(h, .inr (4, [.ref a1, .ref a2])), (a1, .inl (cI, 10, .inl (aI wt)))]) [0, 1] rfl
        have hD9 := hD.sub (ws' := [(h, .inr (4, [.ref a1, .ref a2])), (a1, .inl (cI, 10, .inl (aI wt)))]) [0, 1] (by decide) rfl
        exact W.zret (v := nI 0) (ty := .boolean) hx hb hr rfl (fun t9 ht9 hW9 => ⟨⟨nI 0, (wt, 0), rfl, Or.inr ⟨fun z9 => by obtain ⟨y1, a, b, y2, y3, y4, y5, y6⟩ := z9; first | exact n1 y1 | exact no_lt1 y6 y2 (by omega) c9 | exact no_gt y6 (by omega) (by decide) (by omega) c15 | exact (by rw [y5] at c19; exact nI_pos (by omega) c19) | exact (by rw [y5, y6] at c24; exact c24 (nI_le y4 (by omega))), rfl, rfl⟩, by rw [ht9]; exact hP9, va_K.moved hW9.alike hK, hD9⟩, hS.F ht9⟩) hS.2.2 d_Ri_set_28
      · refine lv_iload_n hx hb d_Ri_set_18 rfl (lv_at hl 2 rfl) ?_
        refine lv_if_lt (x := x2) (tgt := 27) hx hb d_Ri_set_19 (by decide) (fun c19 => ?_) (fun c19 => ?_)
        · refine lv_iconst (v := nI 0) hx hb d_Ri_set_27 (by decide +kernel) ?_
          have hP9 := hP.sub (ws' := [(h, .inr (4, [.ref a1, .ref a2])), (a1, .inl (cI, 10, .inl (aI wt)))]) [0, 1] rfl
          have hD9 := hD.sub (ws' := [(h, .inr (4, [.ref a1, .ref a2])), (a1, .inl (cI, 10, .inl (aI wt)))]) [0, 1] (by decide) rfl
          exact W.zret (v := nI 0) (ty := .boolean) hx hb hr rfl (fun t9 ht9 hW9 => ⟨⟨nI 0, (wt, 0), rfl, Or.inr ⟨fun z9 => by obtain ⟨y1, a, b, y2, y3, y4, y5, y6⟩ := z9; first | exact n1 y1 | exact no_lt1 y6 y2 (by omega) c9 | exact no_gt y6 (by omega) (by decide) (by omega) c15 | exact (by rw [y5] at c19; exact nI_pos (by omega) c19) | exact (by rw [y5, y6] at c24; exact c24 (nI_le y4 (by omega))), rfl, rfl⟩, by rw [ht9]; exact hP9, va_K.moved hW9.alike hK, hD9⟩, hS.F ht9⟩) hS.2.2 d_Ri_set_28
        · refine lv_iload_n hx hb d_Ri_set_22 rfl (lv_at hl 2 rfl) ?_
          refine lv_iload_n hx hb d_Ri_set_23 rfl (lv_at hl 3 rfl) ?_
          refine lv_icmp_le (x := x2) (y := x3) (tgt := 29) hx hb d_Ri_set_24 (by decide) (fun c24 => ?_) (fun c24 => ?_)
          · obtain ⟨b, hb3, hxb⟩ := inR_le (n := 10) (by decide) (lt1_nn c9) c15
            have hb1 : 1 ≤ b := lt1_pos c9 hxb (by omega)
            obtain ⟨a, ha3, hxa⟩ := le_nI c19 (by rw [hxb] at c24; exact c24) (by omega)
            refine lv_aload_n hx hb d_Ri_set_29 rfl (lv_at hl 0 rfl) ?_
            refine va_get (D := (dC, dI)) (ci := 4) (v := .ref a1) (C := R_Ri) (T := F_Ri) (N := 2) hx hb htg iw_Ri hown hK hP 0 rfl rfl 0 (by decide) (htg _ k1_104) (fun _ h9 => h9) rfl d_Ri_set_30 ?_
            refine lv_iload_n hx hb d_Ri_set_33 rfl (lv_at hl 1 rfl) ?_
            refine bk_topi (y := nI j1) hx1 ?_
            refine lv_sipush (v := nI 2520) hx hb d_Ri_set_34 (by decide +kernel) ?_
            refine lv_iload_n hx hb d_Ri_set_37 rfl (lv_at hl 3 rfl) ?_
            refine bk_topi (y := nI b) hxb ?_
            refine bk_idiv hx hb (by omega) (by omega) (by omega) d_Ri_set_38 ?_
            refine lv_iload_n hx hb d_Ri_set_39 rfl (lv_at hl 2 rfl) ?_
            refine bk_topi (y := nI a) hxa ?_
            refine bk_imul hx hb d_Ri_set_40 ?_
            refine bk_iast (x := nI ((2520 / b) * a)) (f2 := aI (va_up wt j1 ((2520 / b) * a))) hx hb hK hP hD hS 1 0 rfl rfl (by omega) (by decide) (aI_up _ _ _) d_Ri_set_41 (fun H locs hP hD hS => ?_)
            have hP : va_P (dC, dI) vwCl [(h, .inr (4, [.ref a1, .ref a2])), (a1, .inl (cI, 10, .inl (aI (va_up wt j1 ((2520 / b) * a)))))] H := hP
            have hD : va_D A [(h, .inr (4, [.ref a1, .ref a2])), (a1, .inl (cI, 10, .inl (aI (va_up wt j1 ((2520 / b) * a)))))] := hD
            refine lv_iconst (v := nI 1) hx hb d_Ri_set_42 (by decide +kernel) ?_
            have hP9 := hP.sub (ws' := [(h, .inr (4, [.ref a1, .ref a2])), (a1, .inl (cI, 10, .inl (aI (va_up wt j1 (2520 / b * a)))))]) [0, 1] rfl
            have hD9 := hD.sub (ws' := [(h, .inr (4, [.ref a1, .ref a2])), (a1, .inl (cI, 10, .inl (aI (va_up wt j1 (2520 / b * a)))))]) [0, 1] (by decide) rfl
            exact W.zret (v := nI 1) (ty := .boolean) hx hb hr rfl (fun t9 ht9 hW9 => ⟨⟨nI 1, (va_up wt j1 (2520 / b * a), 0), rfl, Or.inl ⟨⟨⟨j1, hj1, hx1⟩, a, b, hb1, by omega, by omega, hxa, hxb⟩, rfl, by rw [hx1, hxb, hxa, tn_nI (by omega), tn_nI (by omega), tn_nI (by omega)]⟩, by rw [ht9]; exact hP9, va_K.moved hW9.alike hK, hD9⟩, hS.F ht9⟩) hS.2.2 d_Ri_set_43
          · refine lv_iconst (v := nI 0) hx hb d_Ri_set_27 (by decide +kernel) ?_
            have hP9 := hP.sub (ws' := [(h, .inr (4, [.ref a1, .ref a2])), (a1, .inl (cI, 10, .inl (aI wt)))]) [0, 1] rfl
            have hD9 := hD.sub (ws' := [(h, .inr (4, [.ref a1, .ref a2])), (a1, .inl (cI, 10, .inl (aI wt)))]) [0, 1] (by decide) rfl
            exact W.zret (v := nI 0) (ty := .boolean) hx hb hr rfl (fun t9 ht9 hW9 => ⟨⟨nI 0, (wt, 0), rfl, Or.inr ⟨fun z9 => by obtain ⟨y1, a, b, y2, y3, y4, y5, y6⟩ := z9; first | exact n1 y1 | exact no_lt1 y6 y2 (by omega) c9 | exact no_gt y6 (by omega) (by decide) (by omega) c15 | exact (by rw [y5] at c19; exact nI_pos (by omega) c19) | exact (by rw [y5, y6] at c24; exact c24 (nI_le y4 (by omega))), rfl, rfl⟩, by rw [ht9]; exact hP9, va_K.moved hW9.alike hK, hD9⟩, hS.F ht9⟩) hS.2.2 d_Ri_set_28
  · refine bk_if_eq (a := 0) (tgt := 27) hx hb (by omega) d_Ri_set_4 (by decide) (fun c4 => ?_) (fun c4 => absurd c4 (by decide))
    refine lv_iconst (v := nI 0) hx hb d_Ri_set_27 (by decide +kernel) ?_
    have hP9 := hP.sub (ws' := [(h, .inr (4, [.ref a1, .ref a2])), (a1, .inl (cI, 10, .inl (aI wt)))]) [0, 1] rfl
    have hD9 := hD.sub (ws' := [(h, .inr (4, [.ref a1, .ref a2])), (a1, .inl (cI, 10, .inl (aI wt)))]) [0, 1] (by decide) rfl
    exact W.zret (v := nI 0) (ty := .boolean) hx hb hr rfl (fun t9 ht9 hW9 => ⟨⟨nI 0, (wt, 0), rfl, Or.inr ⟨fun z9 => by obtain ⟨y1, a, b, y2, y3, y4, y5, y6⟩ := z9; first | exact n1 y1 | exact no_lt1 y6 y2 (by omega) c9 | exact no_gt y6 (by omega) (by decide) (by omega) c15 | exact (by rw [y5] at c19; exact nI_pos (by omega) c19) | exact (by rw [y5, y6] at c24; exact c24 (nI_le y4 (by omega))), rfl, rfl⟩, by rw [ht9]; exact hP9, va_K.moved hW9.alike hK, hD9⟩, hS.F ht9⟩) hS.2.2 d_Ri_set_28
set_option maxHeartbeats 4000000 in
set_option maxRecDepth 100000 in
theorem c_Ri_weighAll (l : Launch) (dC : Nat → ClassId) (dI : Nat → Nat → Nat) (cI cL cZ : ClassId) (sz : Nat) (h a1 a2 : Nat) (wt wl : Nat → Nat) (hbk b1 b2 b3 b4 n : Nat) (sh : Nat → Nat) (hn : n ≤ 30) (hsh : ∀ j, j < n → sh j < 10) (hwt : ∀ j, j < 10 → wt j ≤ 2520) : Met l y_Ri_weighAll ws_Ri_weighAll { frames := 0, cells := 0, slots := 0, locals := 0 } (va_Pc [.ref h, .ref hbk] (wrP (dC, dI) vwCl [(cI, .int), (cL, .long), (cZ, .boolean)] [(h, .inr (4, [.ref a1, .ref a2])), (a1, .inl (cI, 10, .inl (aI wt))), (a2, .inl (cI, 30, .inl (aI wl))), (hbk, .inr (1, [.ref b1, .ref b2, .ref b3, .ref b4, .int (nI n)])), (b1, .inl (cI, 30, .inl (aI sh)))] sz)) (va_Qi (fun (r : Int32) (u : Nat → Nat) => r = nI (sumN (fun j => wt (sh j)) n) ∧ ∀ j, j < n → u j = wt (sh j)) (fun (u : Nat → Nat) => wrQ (dC, dI) vwCl [(cI, .int), (cL, .long), (cZ, .boolean)] (va_A [(h, .inr (4, [.ref a1, .ref a2])), (a1, .inl (cI, 10, .inl (aI wt))), (a2, .inl (cI, 30, .inl (aI wl))), (hbk, .inr (1, [.ref b1, .ref b2, .ref b3, .ref b4, .int (nI n)])), (b1, .inl (cI, 30, .inl (aI sh)))] sz) [(h, .inr (4, [.ref a1, .ref a2])), (a1, .inl (cI, 10, .inl (aI wt))), (a2, .inl (cI, 30, .inl (aI u))), (hbk, .inr (1, [.ref b1, .ref b2, .ref b3, .ref b4, .int (nI n)])), (b1, .inl (cI, 30, .inl (aI sh)))]) (va_A [(h, .inr (4, [.ref a1, .ref a2])), (a1, .inl (cI, 10, .inl (aI wt))), (a2, .inl (cI, 30, .inl (aI wl))), (hbk, .inr (1, [.ref b1, .ref b2, .ref b3, .ref b4, .int (nI n)])), (b1, .inl (cI, 30, .inl (aI sh)))] sz)) 0 0 (va_A [(h, .inr (4, [.ref a1, .ref a2])), (a1, .inl (cI, 10, .inl (aI wt))), (a2, .inl (cI, 30, .inl (aI wl))), (hbk, .inr (1, [.ref b1, .ref b2, .ref b3, .ref b4, .int (nI n)])), (b1, .inl (cI, 30, .inl (aI sh)))] sz) := by
  refine Met.ofW (cc := b_Ri_weighAll) (maxL := 4) (ret := (some .int)) (by decide) rfl ?_
  intro pr en s m args below meth c s₁ B hml hv
  obtain ⟨rfl, hN, hsz, hP, hK, hD0⟩ := hv
  have hx := B.exec
  have hb := B.bytes
  have hr := B.returns
  have hts := atoms_spec (ws := ws_Ri_weighAll) B.pre
  have htg : ∀ w ∈ gW, w.before _ s = true := fun w h => hts w (List.mem_cons_of_mem _ h)
  have hown : s.vm.findClass R_Ri = some m.cls := findClass_of_methodNamed B.named
  have hlocks := B.notSynchronized
  subst hsz
  have hD := hD0.self (sz := s.heap.size)
  generalize hAe : va_A [(h, .inr (4, [.ref a1, .ref a2])), (a1, .inl (cI, 10, .inl (aI wt))), (a2, .inl (cI, 30, .inl (aI wl))), (hbk, .inr (1, [.ref b1, .ref b2, .ref b3, .ref b4, .int (nI n)])), (b1, .inl (cI, 30, .inl (aI sh)))] s.heap.size = A at hD ⊢
  have hA : ∀ q : Nat, s.heap.size ≤ q → A q := fun q h => by rw [← hAe]; exact Or.inr h
  have hS : va_S A s.heap s.heap [] := va_S.rf
  have hP : va_P (dC, dI) vwCl [(h, .inr (4, [.ref a1, .ref a2])), (a1, .inl (cI, 10, .inl (aI wt))), (a2, .inl (cI, 30, .inl (aI wl))), (hbk, .inr (1, [.ref b1, .ref b2, .ref b3, .ref b4, .int (nI n)])), (b1, .inl (cI, 30, .inl (aI sh)))] s.heap := hP
  have hl := lv_entry ([.ref h, .ref hbk]) (n := 4) (Nat.le_of_ble_eq_true rfl)
  rw [lg_entry_eq]
  generalize (lg_sl ([.ref h, .ref hbk]) ++ List.replicate (4 - (lg_sl ([.ref h, .ref hbk])).length) Slot.unset).toArray = ls at hl ⊢
  have hl : lv_has ls 4 [(0, .ref h), (1, .ref hbk)] := hl
  refine lv_iconst (v := nI 0) hx hb d_Ri_weighAll_0 (by decide +kernel) ?_
  refine lv_istore_n (lv' := [(2, .int (nI 0)), (0, .ref h), (1, .ref hbk)]) hx hb d_Ri_weighAll_1 rfl hl (by decide) rfl (fun ls hl => ?_)
  refine lv_iconst (v := nI 0) hx hb d_Ri_weighAll_2 (by decide +kernel) ?_
  refine lv_istore_n (lv' := [(3, .int (nI 0)), (2, .int (nI 0)), (0, .ref h), (1, .ref hbk)]) hx hb d_Ri_weighAll_3 rfl hl (by decide) rfl (fun ls hl => ?_)
  have J4 : ∀ (k : Nat) (i : Nat) (t : Nat) (wq : Nat → Nat), (i + k = n) → (t = sumN (fun j => wt (sh j)) i) → (∀ j, j < i → wq j = wt (sh j)) → ∀ (H : Heap) (locs : List Loc), va_P (dC, dI) vwCl [(h, .inr (4, [.ref a1, .ref a2])), (a1, .inl (cI, 10, .inl (aI wt))), (a2, .inl (cI, 30, .inl (aI wq))), (hbk, .inr (1, [.ref b1, .ref b2, .ref b3, .ref b4, .int (nI n)])), (b1, .inl (cI, 30, .inl (aI sh)))] H → va_D A [(h, .inr (4, [.ref a1, .ref a2])), (a1, .inl (cI, 10, .inl (aI wt))), (a2, .inl (cI, 30, .inl (aI wq))), (hbk, .inr (1, [.ref b1, .ref b2, .ref b3, .ref b4, .int (nI n)])), (b1, .inl (cI, 30, .inl (aI sh)))] → va_S A s.heap H locs → ∀ (ls : Array Slot), lv_has ls 4 [(0, .ref h), (1, .ref hbk), (2, .int (nI t)), (3, .int (nI i))] → W pr l en (headSpec ws_Ri_weighAll { frames := 0, cells := 0, slots := 0, locals := 0 }).room s m ([.ref h, .ref hbk] : List Value).toArray below meth c H locs 0 0 (MQ below (va_Qi (fun (r : Int32) (u : Nat → Nat) => r = nI (sumN (fun j => wt (sh j)) n) ∧ ∀ j, j < n → u j = wt (sh j)) (fun (u : Nat → Nat) => wrQ (dC, dI) vwCl [(cI, .int), (cL, .long), (cZ, .boolean)] A [(h, .inr (4, [.ref a1, .ref a2])), (a1, .inl (cI, 10, .inl (aI wt))), (a2, .inl (cI, 30, .inl (aI u))), (hbk, .inr (1, [.ref b1, .ref b2, .ref b3, .ref b4, .int (nI n)])), (b1, .inl (cI, 30, .inl (aI sh)))]) A) ([.ref h, .ref hbk] : List Value).toArray s 0 0 A) (F0 m 4 ls []) := by
    intro k
    induction k with
    | zero =>
      intro i t wq hk ht hw H locs hP hD hS ls hl
      refine lv_iload_n hx hb d_Ri_weighAll_4 rfl (lv_at hl 3 rfl) ?_
      refine lv_aload_n hx hb d_Ri_weighAll_5 rfl (lv_at hl 1 rfl) ?_
      refine va_get (D := (dC, dI)) (ci := 1) (v := .int (nI n)) (C := R_Bk) (T := F_Bk) (N := 5) hx hb htg iw_Bk hown hK hP 3 rfl rfl 4 (by decide) (htg _ k1_40) (fun _ h9 => h9) rfl d_Ri_weighAll_6 ?_
      refine bk_icmp_ge (a := i) (b := n) (tgt := 44) hx hb (by omega) (by omega) d_Ri_weighAll_9 (by decide) (fun c9 => ?_) (fun c9 => by exfalso; omega)
      refine lv_iload_n hx hb d_Ri_weighAll_44 rfl (lv_at hl 2 rfl) ?_
      have hP9 := hP.sub (ws' := [(h, .inr (4, [.ref a1, .ref a2])), (a1, .inl (cI, 10, .inl (aI wt))), (a2, .inl (cI, 30, .inl (aI wq))), (hbk, .inr (1, [.ref b1, .ref b2, .ref b3, .ref b4, .int (nI n)])), (b1, .inl (cI, 30, .inl (aI sh)))]) [0, 1, 2, 3, 4] rfl
      have hD9 := hD.sub (ws' := [(h, .inr (4, [.ref a1, .ref a2])), (a1, .inl (cI, 10, .inl (aI wt))), (a2, .inl (cI, 30, .inl (aI wq))), (hbk, .inr (1, [.ref b1, .ref b2, .ref b3, .ref b4, .int (nI n)])), (b1, .inl (cI, 30, .inl (aI sh)))]) [0, 1, 2, 3, 4] (by decide) rfl
      exact W.iret (v := nI t) hx hb hr (fun t9 ht9 hW9 => ⟨⟨nI t, (wq), rfl, ⟨by rw [ht, show i = n by omega], by rw [show i = n by omega] at hw; exact hw⟩, by rw [ht9]; exact hP9, va_K.moved hW9.alike hK, hD9⟩, hS.F ht9⟩) hS.2.2 d_Ri_weighAll_45
    | succ k ih4 =>
      intro i t wq hk ht hw H locs hP hD hS ls hl
      have hs1 := hsh i (by omega)
      refine lv_iload_n hx hb d_Ri_weighAll_4 rfl (lv_at hl 3 rfl) ?_
      refine lv_aload_n hx hb d_Ri_weighAll_5 rfl (lv_at hl 1 rfl) ?_
      refine va_get (D := (dC, dI)) (ci := 1) (v := .int (nI n)) (C := R_Bk) (T := F_Bk) (N := 5) hx hb htg iw_Bk hown hK hP 3 rfl rfl 4 (by decide) (htg _ k1_40) (fun _ h9 => h9) rfl d_Ri_weighAll_6 ?_
      refine bk_icmp_ge (a := i) (b := n) (tgt := 44) hx hb (by omega) (by omega) d_Ri_weighAll_9 (by decide) (fun c9 => by exfalso; omega) (fun c9 => ?_)
      refine lv_aload_n hx hb d_Ri_weighAll_12 rfl (lv_at hl 0 rfl) ?_
      refine va_get (D := (dC, dI)) (ci := 4) (v := .ref a2) (C := R_Ri) (T := F_Ri) (N := 2) hx hb htg iw_Ri hown hK hP 0 rfl rfl 1 (by decide) (htg _ k1_105) (fun _ h9 => h9) rfl d_Ri_weighAll_13 ?_
      refine lv_iload_n hx hb d_Ri_weighAll_16 rfl (lv_at hl 3 rfl) ?_
      refine lv_aload_n hx hb d_Ri_weighAll_17 rfl (lv_at hl 0 rfl) ?_
      refine va_get (D := (dC, dI)) (ci := 4) (v := .ref a1) (C := R_Ri) (T := F_Ri) (N := 2) hx hb htg iw_Ri hown hK hP 0 rfl rfl 0 (by decide) (htg _ k1_104) (fun _ h9 => h9) rfl d_Ri_weighAll_18 ?_
      refine lv_aload_n hx hb d_Ri_weighAll_21 rfl (lv_at hl 1 rfl) ?_
      refine va_get (D := (dC, dI)) (ci := 1) (v := .ref b1) (C := R_Bk) (T := F_Bk) (N := 5) hx hb htg iw_Bk hown hK hP 3 rfl rfl 0 (by decide) (htg _ k1_32) (fun _ h9 => h9) rfl d_Ri_weighAll_22 ?_
      refine lv_iload_n hx hb d_Ri_weighAll_25 rfl (lv_at hl 3 rfl) ?_
      refine bk_iald (v := nI (sh i)) hx hb hK hP 4 0 rfl rfl (by omega) (by decide) rfl d_Ri_weighAll_26 ?_
      refine bk_iald (v := nI (wt (sh i))) hx hb hK hP 1 0 rfl rfl (by omega) (by decide) rfl d_Ri_weighAll_27 ?_
      refine bk_iast (x := nI (wt (sh i))) (f2 := aI (va_up wq i (wt (sh i)))) hx hb hK hP hD hS 2 0 rfl rfl (by omega) (by decide) (aI_up _ _ _) d_Ri_weighAll_28 (fun H locs hP hD hS => ?_)
      have hP : va_P (dC, dI) vwCl [(h, .inr (4, [.ref a1, .ref a2])), (a1, .inl (cI, 10, .inl (aI wt))), (a2, .inl (cI, 30, .inl (aI (va_up wq i (wt (sh i)))))), (hbk, .inr (1, [.ref b1, .ref b2, .ref b3, .ref b4, .int (nI n)])), (b1, .inl (cI, 30, .inl (aI sh)))] H := hP
      have hD : va_D A [(h, .inr (4, [.ref a1, .ref a2])), (a1, .inl (cI, 10, .inl (aI wt))), (a2, .inl (cI, 30, .inl (aI (va_up wq i (wt (sh i)))))), (hbk, .inr (1, [.ref b1, .ref b2, .ref b3, .ref b4, .int (nI n)])), (b1, .inl (cI, 30, .inl (aI sh)))] := hD
      refine lv_iload_n hx hb d_Ri_weighAll_29 rfl (lv_at hl 2 rfl) ?_
      refine lv_aload_n hx hb d_Ri_weighAll_30 rfl (lv_at hl 0 rfl) ?_
      refine va_get (D := (dC, dI)) (ci := 4) (v := .ref a2) (C := R_Ri) (T := F_Ri) (N := 2) hx hb htg iw_Ri hown hK hP 0 rfl rfl 1 (by decide) (htg _ k1_105) (fun _ h9 => h9) rfl d_Ri_weighAll_31 ?_
      refine lv_iload_n hx hb d_Ri_weighAll_34 rfl (lv_at hl 3 rfl) ?_
      refine bk_iald (v := nI ((va_up wq i (wt (sh i))) i)) hx hb hK hP 2 0 rfl rfl (by omega) (by decide) rfl d_Ri_weighAll_35 ?_
      refine bk_iadd hx hb d_Ri_weighAll_36 ?_
      refine lv_istore_n (lv' := [(2, .int (nI (t + ((va_up wq i (wt (sh i))) i)))), (0, .ref h), (1, .ref hbk), (3, .int (nI i))]) hx hb d_Ri_weighAll_37 rfl hl (by decide) rfl (fun ls hl => ?_)
      refine lv_iinc (v := nI (i + 1)) (lv' := [(3, .int (nI (i + 1))), (2, .int (nI (t + ((va_up wq i (wt (sh i))) i)))), (0, .ref h), (1, .ref hbk)]) hx hb d_Ri_weighAll_38 hl (k := 3) rfl (bk_inc i) (by decide) rfl (fun ls hl => ?_)
      refine lv_goto (tgt := 4) hx hb d_Ri_weighAll_41 (by decide) ?_
      exact ih4 (i + 1) (t + ((va_up wq i (wt (sh i))) i)) (va_up wq i (wt (sh i))) (by omega) (by rw [sumN, ht, show va_up wq i (wt (sh i)) i = wt (sh i) from if_pos rfl]) (w_up hw) _ _ (hP.sub [0, 1, 2, 3, 4] rfl) (hD.sub [0, 1, 2, 3, 4] (by decide) rfl) hS ls (lv_sub hl [2, 3, 1, 0] rfl)
  exact J4 n 0 0 wl (by omega) rfl (fun j hj => absurd hj (by omega)) _ _ (hP.sub [0, 1, 2, 3, 4] rfl) (hD.sub [0, 1, 2, 3, 4] (by decide) rfl) hS ls (lv_sub hl [2, 3, 1, 0] rfl)
set_option maxHeartbeats 4000000 in
set_option maxRecDepth 100000 in
theorem c_Ri_pageOver (l : Launch) (dC : Nat → ClassId) (dI : Nat → Nat → Nat) (cI cL cZ : ClassId) (h a1 a2 : Nat) (wl : Nat → Nat) (n rr : Nat) (hn : n ≤ 30) (hrr : rr < sumN wl n) (hwl : ∀ j, j < n → wl j ≤ 2520) : Met l y_Ri_pageOver ws_Ri_pageOver { frames := 0, cells := 0, slots := 0, locals := 0 } (va_Pc [.ref h, .int (nI n), .int (nI rr)] (rdP (dC, dI) vwCl [(cI, .int), (cL, .long), (cZ, .boolean)] [(h, .inr (4, [.ref a1, .ref a2])), (a2, .inl (cI, 30, .inl (aI wl)))])) (vp_Si (fun r => r = nI (pickF wl rr n))) 0 0 (fun _ => False) := by
  refine Met.ofW (cc := b_Ri_pageOver) (maxL := 5) (ret := (some .int)) (by decide) rfl ?_
  intro pr en s m args below meth c s₁ B hml hv
  obtain ⟨rfl, hN, hP, hK⟩ := hv
  have hx := B.exec
  have hb := B.bytes
  have hr := B.returns
  have hts := atoms_spec (ws := ws_Ri_pageOver) B.pre
  have htg : ∀ w ∈ gW, w.before _ s = true := fun w h => hts w (List.mem_cons_of_mem _ h)
  have hown : s.vm.findClass R_Ri = some m.cls := findClass_of_methodNamed B.named
  have hlocks := B.notSynchronized
  have hl := lv_entry ([.ref h, .int (nI n), .int (nI rr)]) (n := 5) (Nat.le_of_ble_eq_true rfl)
  rw [lg_entry_eq]
  generalize (lg_sl ([.ref h, .int (nI n), .int (nI rr)]) ++ List.replicate (5 - (lg_sl ([.ref h, .int (nI n), .int (nI rr)])).length) Slot.unset).toArray = ls at hl ⊢
  have hl : lv_has ls 5 [(0, .ref h), (1, .int (nI n)), (2, .int (nI rr))] := hl
  refine lv_iconst (v := nI 0) hx hb d_Ri_pageOver_0 (by decide +kernel) ?_
  refine lv_istore_n (lv' := [(3, .int (nI 0)), (0, .ref h), (1, .int (nI n)), (2, .int (nI rr))]) hx hb d_Ri_pageOver_1 rfl hl (by decide) rfl (fun ls hl => ?_)
  refine lv_iconst (v := nI 0) hx hb d_Ri_pageOver_2 (by decide +kernel) ?_
  refine lv_istore (lv' := [(4, .int (nI 0)), (3, .int (nI 0)), (0, .ref h), (1, .int (nI n)), (2, .int (nI rr))]) hx hb d_Ri_pageOver_3 hl (by decide) rfl (fun ls hl => ?_)
  have J5 : ∀ (k : Nat) (i : Nat) (t : Nat), (i + k = n) → (t = sumN wl i) → (t ≤ rr) → ∀ (ls : Array Slot), lv_has ls 5 [(0, .ref h), (1, .int (nI n)), (2, .int (nI rr)), (3, .int (nI t)), (4, .int (nI i))] → W pr l en (headSpec ws_Ri_pageOver { frames := 0, cells := 0, slots := 0, locals := 0 }).room s m ([.ref h, .int (nI n), .int (nI rr)] : List Value).toArray below meth c s.heap [] 0 0 (MQ below (vp_Si (fun r => r = nI (pickF wl rr n))) ([.ref h, .int (nI n), .int (nI rr)] : List Value).toArray s 0 0 (fun _ => False)) (F0 m 5 ls []) := by
    intro k
    induction k with
    | zero =>
      intro i t hk ht hle ls hl
      refine lv_iload hx hb d_Ri_pageOver_5 (lv_at hl 4 rfl) ?_
      refine lv_iload_n hx hb d_Ri_pageOver_7 rfl (lv_at hl 1 rfl) ?_
      refine bk_icmp_ge (a := i) (b := n) (tgt := 42) hx hb (by omega) (by omega) d_Ri_pageOver_8 (by decide) (fun c8 => ?_) (fun c8 => by exfalso; omega)
      refine lv_iconst (v := oI none) hx hb d_Ri_pageOver_42 (by decide +kernel) ?_
      exact W.iret (v := oI none) hx hb hr (fun t9 ht9 hW9 => ⟨oI none, rfl, (by exfalso; rw [show i = n by omega] at ht; omega), ht9⟩) (fun q h => nomatch h) d_Ri_pageOver_43
    | succ k ih5 =>
      intro i t hk ht hle ls hl
      have hs1 := hwl i (by omega)
      have hs2 := sumN_le (w := wl) (c := 2520) i (fun j hj => hwl j (by omega))
      have hs3 := sumN_le (w := wl) (c := 2520) n hwl
      refine lv_iload hx hb d_Ri_pageOver_5 (lv_at hl 4 rfl) ?_
      refine lv_iload_n hx hb d_Ri_pageOver_7 rfl (lv_at hl 1 rfl) ?_
      refine bk_icmp_ge (a := i) (b := n) (tgt := 42) hx hb (by omega) (by omega) d_Ri_pageOver_8 (by decide) (fun c8 => by exfalso; omega) (fun c8 => ?_)
      refine lv_iload hx hb d_Ri_pageOver_11 (lv_at hl 4 rfl) ?_
      refine lv_bipush (v := nI 30) hx hb d_Ri_pageOver_13 (by decide +kernel) ?_
      refine bk_icmp_ge (a := i) (b := 30) (tgt := 42) hx hb (by omega) (by omega) d_Ri_pageOver_15 (by decide) (fun c15 => by exfalso; omega) (fun c15 => ?_)
      refine lv_iload_n hx hb d_Ri_pageOver_18 rfl (lv_at hl 3 rfl) ?_
      refine lv_aload_n hx hb d_Ri_pageOver_19 rfl (lv_at hl 0 rfl) ?_
      refine va_get (D := (dC, dI)) (ci := 4) (v := .ref a2) (C := R_Ri) (T := F_Ri) (N := 2) hx hb htg iw_Ri hown hK hP 0 rfl rfl 1 (by decide) (htg _ k1_105) (fun _ h9 => h9) rfl d_Ri_pageOver_20 ?_
      refine lv_iload hx hb d_Ri_pageOver_23 (lv_at hl 4 rfl) ?_
      refine bk_iald (v := nI (wl i)) hx hb hK hP 1 0 rfl rfl (by omega) (by decide) rfl d_Ri_pageOver_25 ?_
      refine bk_iadd hx hb d_Ri_pageOver_26 ?_
      refine lv_istore_n (lv' := [(3, .int (nI (t + (wl i)))), (0, .ref h), (1, .int (nI n)), (2, .int (nI rr)), (4, .int (nI i))]) hx hb d_Ri_pageOver_27 rfl hl (by decide) rfl (fun ls hl => ?_)
      refine lv_iload_n hx hb d_Ri_pageOver_28 rfl (lv_at hl 0 rfl) ?_
      refine lv_iload_n hx hb d_Ri_pageOver_29 rfl (lv_at hl 3 rfl) ?_
      refine bk_icmp_le (a := t + (wl i)) (b := rr) (tgt := 36) hx hb (by omega) (by omega) d_Ri_pageOver_30 (by decide) (fun c30 => ?_) (fun c30 => ?_)
      · refine lv_iinc (v := nI (i + 1)) (lv' := [(4, .int (nI (i + 1))), (3, .int (nI (t + (wl i)))), (0, .ref h), (1, .int (nI n)), (2, .int (nI rr))]) hx hb d_Ri_pageOver_36 hl (k := 4) rfl (bk_inc i) (by decide) rfl (fun ls hl => ?_)
        refine lv_goto (tgt := 5) hx hb d_Ri_pageOver_39 (by decide) ?_
        exact ih5 (i + 1) (t + (wl i)) (by omega) (by rw [sumN, ht]) c30 ls (lv_sub hl [2, 3, 4, 1, 0] rfl)
      · refine lv_iload hx hb d_Ri_pageOver_33 (lv_at hl 4 rfl) ?_
        exact W.iret (v := nI i) hx hb hr (fun t9 ht9 hW9 => ⟨nI i, rfl, (by rw [pickF_is (p := i) ⟨by omega, by rw [sumN, ← ht]; omega⟩ n (by omega)]), ht9⟩) (fun q h => nomatch h) d_Ri_pageOver_35
  exact J5 n 0 0 (by omega) rfl (Nat.zero_le _) ls (lv_sub hl [2, 3, 4, 1, 0] rfl)
set_option maxHeartbeats 4000000 in
set_option maxRecDepth 100000 in
theorem c_Ri_take (l : Launch) (dC : Nat → ClassId) (dI : Nat → Nat → Nat) (cI cL cZ : ClassId) (sz : Nat) (h a1 a2 : Nat) (wt wl : Nat → Nat) (hbk b1 b2 b3 b4 n : Nat) (sh : Nat → Nat) (hro r1 c0 as0 : Nat) (tk : Nat → Nat) (sd : Int64) (N : Nat) (hn : n ≤ 30) (hsh : ∀ j, j < n → sh j < 10) (hwt : ∀ j, j < 10 → wt j ≤ 2520) (hN0 : N ≤ n) : Met l y_Ri_take ws_Ri_take { frames := 1, cells := 0, slots := 0, locals := 24 } (va_Pc [.ref h, .ref hbk, .long sd, .int (nI N), .ref hro] (wrP (dC, dI) vwCl [(cI, .int), (cL, .long), (cZ, .boolean)] [(h, .inr (4, [.ref a1, .ref a2])), (a1, .inl (cI, 10, .inl (aI wt))), (a2, .inl (cI, 30, .inl (aI wl))), (hbk, .inr (1, [.ref b1, .ref b2, .ref b3, .ref b4, .int (nI n)])), (b1, .inl (cI, 30, .inl (aI sh))), (hro, .inr (5, [.ref r1, .int (nI c0), .int (nI as0)])), (r1, .inl (cI, 30, .inl (aI tk)))] sz)) (va_Qv (fun (u : (Nat → Nat) × Nat × (Nat → Nat)) => isDraw n (fun j => wt (sh j)) sd N u.2.1 ∧ ∀ j, j < u.2.1 → u.2.2 j = pkD n (fun j => wt (sh j)) sd j ∧ u.2.2 j < n) (fun (u : (Nat → Nat) × Nat × (Nat → Nat)) => wrQ (dC, dI) vwCl [(cI, .int), (cL, .long), (cZ, .boolean)] (va_A [(h, .inr (4, [.ref a1, .ref a2])), (a1, .inl (cI, 10, .inl (aI wt))), (a2, .inl (cI, 30, .inl (aI wl))), (hbk, .inr (1, [.ref b1, .ref b2, .ref b3, .ref b4, .int (nI n)])), (b1, .inl (cI, 30, .inl (aI sh))), (hro, .inr (5, [.ref r1, .int (nI c0), .int (nI as0)])), (r1, .inl (cI, 30, .inl (aI tk)))] sz) [(h, .inr (4, [.ref a1, .ref a2])), (a1, .inl (cI, 10, .inl (aI wt))), (a2, .inl (cI, 30, .inl (aI u.1))), (hbk, .inr (1, [.ref b1, .ref b2, .ref b3, .ref b4, .int (nI n)])), (b1, .inl (cI, 30, .inl (aI sh))), (hro, .inr (5, [.ref r1, .int (nI u.2.1), .int (nI N)])), (r1, .inl (cI, 30, .inl (aI u.2.2)))]) (va_A [(h, .inr (4, [.ref a1, .ref a2])), (a1, .inl (cI, 10, .inl (aI wt))), (a2, .inl (cI, 30, .inl (aI wl))), (hbk, .inr (1, [.ref b1, .ref b2, .ref b3, .ref b4, .int (nI n)])), (b1, .inl (cI, 30, .inl (aI sh))), (hro, .inr (5, [.ref r1, .int (nI c0), .int (nI as0)])), (r1, .inl (cI, 30, .inl (aI tk)))] sz)) 0 0 (va_A [(h, .inr (4, [.ref a1, .ref a2])), (a1, .inl (cI, 10, .inl (aI wt))), (a2, .inl (cI, 30, .inl (aI wl))), (hbk, .inr (1, [.ref b1, .ref b2, .ref b3, .ref b4, .int (nI n)])), (b1, .inl (cI, 30, .inl (aI sh))), (hro, .inr (5, [.ref r1, .int (nI c0), .int (nI as0)])), (r1, .inl (cI, 30, .inl (aI tk)))] sz) := by
  refine Met.ofW (cc := b_Ri_take) (maxL := 11) (ret := none) (by decide) rfl ?_
  intro pr en s m args below meth c s₁ B hml hv
  obtain ⟨rfl, hN, hsz, hP, hK, hD0⟩ := hv
  have hx := B.exec
  have hb := B.bytes
  have hr := B.returns
  have hts := atoms_spec (ws := ws_Ri_take) B.pre
  have htg : ∀ w ∈ gW, w.before _ s = true := fun w h => hts w (List.mem_cons_of_mem _ h)
  have hown : s.vm.findClass R_Ri = some m.cls := findClass_of_methodNamed B.named
  have hlocks := B.notSynchronized
  subst hsz
  have hD := hD0.self (sz := s.heap.size)
  generalize hAe : va_A [(h, .inr (4, [.ref a1, .ref a2])), (a1, .inl (cI, 10, .inl (aI wt))), (a2, .inl (cI, 30, .inl (aI wl))), (hbk, .inr (1, [.ref b1, .ref b2, .ref b3, .ref b4, .int (nI n)])), (b1, .inl (cI, 30, .inl (aI sh))), (hro, .inr (5, [.ref r1, .int (nI c0), .int (nI as0)])), (r1, .inl (cI, 30, .inl (aI tk)))] s.heap.size = A at hD ⊢
  have hA : ∀ q : Nat, s.heap.size ≤ q → A q := fun q h => by rw [← hAe]; exact Or.inr h
  have hS : va_S A s.heap s.heap [] := va_S.rf
  have hP : va_P (dC, dI) vwCl [(h, .inr (4, [.ref a1, .ref a2])), (a1, .inl (cI, 10, .inl (aI wt))), (a2, .inl (cI, 30, .inl (aI wl))), (hbk, .inr (1, [.ref b1, .ref b2, .ref b3, .ref b4, .int (nI n)])), (b1, .inl (cI, 30, .inl (aI sh))), (hro, .inr (5, [.ref r1, .int (nI c0), .int (nI as0)])), (r1, .inl (cI, 30, .inl (aI tk)))] s.heap := hP
  have hl := lv_entry ([.ref h, .ref hbk, .long sd, .int (nI N), .ref hro]) (n := 11) (Nat.le_of_ble_eq_true rfl)
  rw [lg_entry_eq]
  generalize (lg_sl ([.ref h, .ref hbk, .long sd, .int (nI N), .ref hro]) ++ List.replicate (11 - (lg_sl ([.ref h, .ref hbk, .long sd, .int (nI N), .ref hro])).length) Slot.unset).toArray = ls at hl ⊢
  have hl : lv_has ls 11 [(0, .ref h), (1, .ref hbk), (2, .long sd), (4, .int (nI N)), (5, .ref hro)] := hl
  refine lv_aload hx hb d_Ri_take_0 (lv_at hl 4 rfl) ?_
  refine lv_iload hx hb d_Ri_take_2 (lv_at hl 3 rfl) ?_
  have hPc := hP.sub (ws' := [(hro, .inr (5, [.ref r1, .int (nI c0), .int (nI as0)])), (r1, .inl (cI, 30, .inl (aI tk)))]) [5, 6] rfl
  have hDc := hD.sub (ws' := [(hro, .inr (5, [.ref r1, .int (nI c0), .int (nI as0)])), (r1, .inl (cI, 30, .inl (aI tk)))]) [5, 6] (by decide) rfl
  have hFc := va_free (wc := [(hro, .inr (5, [.ref r1, .int (nI c0), .int (nI as0)])), (r1, .inl (cI, 30, .inl (aI tk)))]) hD hS hA [5, 6] rfl
  refine va_callv (va_runV (As := [.int (nI N)]) (rest := []) ⟨hx, hb, hml, hown, htg⟩ (c_Ro_begin l dC dI cI cL cZ s.heap.size hro r1 c0 as0 tk N ) (cwV 1 htg (gdV k2_125 k2_126 k2_127 k1_6 kc_Ro_begin) rfl rfl rfl (by decide +kernel) ⟨Nat.le_of_ble_eq_true rfl, Nat.le_of_ble_eq_true rfl⟩) ⟨bk_blindW, va_recv hK hP (ci := 5) (q0 := 5) rfl rfl, fun U hU hW => ⟨rfl, nw_warm hW hN, by rw [hU], by rw [hU]; exact hPc, va_K.moved hW.alike hK, hDc.weaken (fun _ _ _ _ => trivial)⟩⟩ rfl rfl hl.1 rfl (lv_room (Nat.le_of_ble_eq_true rfl)) d_Ri_take_4 ⟨Nat.le_of_ble_eq_true rfl, Nat.le_of_ble_eq_true rfl⟩) hS (fun q _ h => hFc q h) hFc (fun u t H1 locs ht hvm e4 hB hz1 hk1 hS => ?_)
  obtain ⟨hP1, hK1, hD1⟩ := hB
  rw [ht] at hP1
  try dsimp only at e4
  obtain ⟨hP, hD⟩ := va_join (wr := [(h, .inr (4, [.ref a1, .ref a2])), (a1, .inl (cI, 10, .inl (aI wt))), (a2, .inl (cI, 30, .inl (aI wl))), (hbk, .inr (1, [.ref b1, .ref b2, .ref b3, .ref b4, .int (nI n)])), (b1, .inl (cI, 30, .inl (aI sh)))]) (w1 := [(hro, .inr (5, [.ref r1, .int (nI 0), .int (nI N)])), (r1, .inl (cI, 30, .inl (aI tk)))]) hP hD [5, 6] [0, 1, 2, 3, 4] rfl rfl (by decide) (by decide) hk1 hFc hP1 hD1
  generalize H1 = H at hP hS ⊢
  have hP : va_P (dC, dI) vwCl [(h, .inr (4, [.ref a1, .ref a2])), (a1, .inl (cI, 10, .inl (aI wt))), (a2, .inl (cI, 30, .inl (aI wl))), (hbk, .inr (1, [.ref b1, .ref b2, .ref b3, .ref b4, .int (nI n)])), (b1, .inl (cI, 30, .inl (aI sh))), (hro, .inr (5, [.ref r1, .int (nI 0), .int (nI N)])), (r1, .inl (cI, 30, .inl (aI tk)))] H := hP.sub [0, 1, 2, 3, 4, 5, 6] rfl
  have hD : va_D A [(h, .inr (4, [.ref a1, .ref a2])), (a1, .inl (cI, 10, .inl (aI wt))), (a2, .inl (cI, 30, .inl (aI wl))), (hbk, .inr (1, [.ref b1, .ref b2, .ref b3, .ref b4, .int (nI n)])), (b1, .inl (cI, 30, .inl (aI sh))), (hro, .inr (5, [.ref r1, .int (nI 0), .int (nI N)])), (r1, .inl (cI, 30, .inl (aI tk)))] := hD.sub [0, 1, 2, 3, 4, 5, 6] (by decide) rfl
  refine lv_aload_n hx hb d_Ri_take_7 rfl (lv_at hl 0 rfl) ?_
  refine lv_aload_n hx hb d_Ri_take_8 rfl (lv_at hl 1 rfl) ?_
  have hPc := hP.sub (ws' := [(h, .inr (4, [.ref a1, .ref a2])), (a1, .inl (cI, 10, .inl (aI wt))), (a2, .inl (cI, 30, .inl (aI wl))), (hbk, .inr (1, [.ref b1, .ref b2, .ref b3, .ref b4, .int (nI n)])), (b1, .inl (cI, 30, .inl (aI sh)))]) [0, 1, 2, 3, 4] rfl
  have hDc := hD.sub (ws' := [(h, .inr (4, [.ref a1, .ref a2])), (a1, .inl (cI, 10, .inl (aI wt))), (a2, .inl (cI, 30, .inl (aI wl))), (hbk, .inr (1, [.ref b1, .ref b2, .ref b3, .ref b4, .int (nI n)])), (b1, .inl (cI, 30, .inl (aI sh)))]) [0, 1, 2, 3, 4] (by decide) rfl
  have hFc := va_free (wc := [(h, .inr (4, [.ref a1, .ref a2])), (a1, .inl (cI, 10, .inl (aI wt))), (a2, .inl (cI, 30, .inl (aI wl))), (hbk, .inr (1, [.ref b1, .ref b2, .ref b3, .ref b4, .int (nI n)])), (b1, .inl (cI, 30, .inl (aI sh)))]) hD hS hA [0, 1, 2, 3, 4] rfl
  refine va_calli (va_runV (As := [.ref hbk]) (rest := []) ⟨hx, hb, hml, hown, htg⟩ (c_Ri_weighAll l dC dI cI cL cZ H.size h a1 a2 wt wl hbk b1 b2 b3 b4 n sh hn hsh hwt) (cwV 1 htg (gdV k2_129 k2_131 ks_Ri_weighAll k1_5 kc_Ri_weighAll) rfl rfl rfl (by decide +kernel) ⟨Nat.le_of_ble_eq_true rfl, Nat.le_of_ble_eq_true rfl⟩) ⟨bk_blindW, va_recv hK hP (ci := 4) (q0 := 0) rfl rfl, fun U hU hW => ⟨rfl, nw_warm hW hN, by rw [hU], by rw [hU]; exact hPc, va_K.moved hW.alike hK, hDc.weaken (fun _ _ _ _ => trivial)⟩⟩ rfl rfl hl.1 rfl (lv_room (Nat.le_of_ble_eq_true rfl)) d_Ri_take_9 ⟨Nat.le_of_ble_eq_true rfl, Nat.le_of_ble_eq_true rfl⟩) hS (fun q _ h => hFc q h) hFc (fun r9 u t H1 locs ht hvm e9 hB hz1 hk1 hS => ?_)
  obtain ⟨hP1, hK1, hD1⟩ := hB
  rw [ht] at hP1
  try dsimp only at e9
  obtain ⟨wl9, rfl⟩ : ∃ z, z = u := ⟨_, rfl⟩
  obtain ⟨rfl, hw9⟩ := e9
  obtain ⟨hP, hD⟩ := va_join (wr := [(hro, .inr (5, [.ref r1, .int (nI 0), .int (nI N)])), (r1, .inl (cI, 30, .inl (aI tk)))]) (w1 := [(h, .inr (4, [.ref a1, .ref a2])), (a1, .inl (cI, 10, .inl (aI wt))), (a2, .inl (cI, 30, .inl (aI wl9))), (hbk, .inr (1, [.ref b1, .ref b2, .ref b3, .ref b4, .int (nI n)])), (b1, .inl (cI, 30, .inl (aI sh)))]) hP hD [0, 1, 2, 3, 4] [5, 6] rfl rfl (by decide) (by decide) hk1 hFc hP1 hD1
  generalize H1 = H at hP hS ⊢
  have hP : va_P (dC, dI) vwCl [(h, .inr (4, [.ref a1, .ref a2])), (a1, .inl (cI, 10, .inl (aI wt))), (a2, .inl (cI, 30, .inl (aI wl9))), (hbk, .inr (1, [.ref b1, .ref b2, .ref b3, .ref b4, .int (nI n)])), (b1, .inl (cI, 30, .inl (aI sh))), (hro, .inr (5, [.ref r1, .int (nI 0), .int (nI N)])), (r1, .inl (cI, 30, .inl (aI tk)))] H := hP.sub [2, 3, 4, 5, 6, 0, 1] rfl
  have hD : va_D A [(h, .inr (4, [.ref a1, .ref a2])), (a1, .inl (cI, 10, .inl (aI wt))), (a2, .inl (cI, 30, .inl (aI wl9))), (hbk, .inr (1, [.ref b1, .ref b2, .ref b3, .ref b4, .int (nI n)])), (b1, .inl (cI, 30, .inl (aI sh))), (hro, .inr (5, [.ref r1, .int (nI 0), .int (nI N)])), (r1, .inl (cI, 30, .inl (aI tk)))] := hD.sub [2, 3, 4, 5, 6, 0, 1] (by decide) rfl
  refine bk_topi (y := nI (sumN wl9 n)) (by rw [sumN_congr n hw9]) ?_
  refine lv_istore (lv' := [(6, .int (nI (sumN wl9 n))), (0, .ref h), (1, .ref hbk), (2, .long sd), (4, .int (nI N)), (5, .ref hro)]) hx hb d_Ri_take_12 hl (by decide) rfl (fun ls hl => ?_)
  refine lv_lload_n hx hb d_Ri_take_14 rfl (lv_at hl 3 rfl) ?_
  refine lv_lstore (lv' := [(7, .long sd), (6, .int (nI (sumN wl9 n))), (0, .ref h), (1, .ref hbk), (2, .long sd), (4, .int (nI N)), (5, .ref hro)]) hx hb d_Ri_take_15 hl (by decide) rfl (fun ls hl => ?_)
  refine lv_iconst (v := nI 0) hx hb d_Ri_take_17 (by decide +kernel) ?_
  refine lv_istore (lv' := [(9, .int (nI 0)), (7, .long sd), (6, .int (nI (sumN wl9 n))), (0, .ref h), (1, .ref hbk), (2, .long sd), (4, .int (nI N)), (5, .ref hro)]) hx hb d_Ri_take_18 hl (by decide) rfl (fun ls hl => ?_)
  have J20 : ∀ (k : Nat) (i : Nat) (wq : Nat → Nat) (tq : Nat → Nat) (x : Int64), (i + k = N) → (x = (DR n (fun j => wt (sh j)) sd i).1) → (∀ j, j < n → wq j = (DR n (fun j => wt (sh j)) sd i).2 j) → (∀ j, j < i → 0 < sumN (DR n (fun j => wt (sh j)) sd j).2 n) → (∀ j, j < i → tq j = pkD n (fun j => wt (sh j)) sd j ∧ tq j < n) → ∀ (H : Heap) (locs : List Loc), va_P (dC, dI) vwCl [(h, .inr (4, [.ref a1, .ref a2])), (a1, .inl (cI, 10, .inl (aI wt))), (a2, .inl (cI, 30, .inl (aI wq))), (hbk, .inr (1, [.ref b1, .ref b2, .ref b3, .ref b4, .int (nI n)])), (b1, .inl (cI, 30, .inl (aI sh))), (hro, .inr (5, [.ref r1, .int (nI i), .int (nI N)])), (r1, .inl (cI, 30, .inl (aI tq)))] H → va_D A [(h, .inr (4, [.ref a1, .ref a2])), (a1, .inl (cI, 10, .inl (aI wt))), (a2, .inl (cI, 30, .inl (aI wq))), (hbk, .inr (1, [.ref b1, .ref b2, .ref b3, .ref b4, .int (nI n)])), (b1, .inl (cI, 30, .inl (aI sh))), (hro, .inr (5, [.ref r1, .int (nI i), .int (nI N)])), (r1, .inl (cI, 30, .inl (aI tq)))] → va_S A s.heap H locs → ∀ (ls : Array Slot), lv_has ls 11 [(0, .ref h), (1, .ref hbk), (2, .long sd), (4, .int (nI N)), (5, .ref hro), (6, .int (nI (sumN wq n))), (7, .long x), (9, .int (nI i))] → W pr l en (headSpec ws_Ri_take { frames := 1, cells := 0, slots := 0, locals := 24 }).room s m ([.ref h, .ref hbk, .long sd, .int (nI N), .ref hro] : List Value).toArray below meth c H locs 0 0 (MQ below (va_Qv (fun (u : (Nat → Nat) × Nat × (Nat → Nat)) => isDraw n (fun j => wt (sh j)) sd N u.2.1 ∧ ∀ j, j < u.2.1 → u.2.2 j = pkD n (fun j => wt (sh j)) sd j ∧ u.2.2 j < n) (fun (u : (Nat → Nat) × Nat × (Nat → Nat)) => wrQ (dC, dI) vwCl [(cI, .int), (cL, .long), (cZ, .boolean)] A [(h, .inr (4, [.ref a1, .ref a2])), (a1, .inl (cI, 10, .inl (aI wt))), (a2, .inl (cI, 30, .inl (aI u.1))), (hbk, .inr (1, [.ref b1, .ref b2, .ref b3, .ref b4, .int (nI n)])), (b1, .inl (cI, 30, .inl (aI sh))), (hro, .inr (5, [.ref r1, .int (nI u.2.1), .int (nI N)])), (r1, .inl (cI, 30, .inl (aI u.2.2)))]) A) ([.ref h, .ref hbk, .long sd, .int (nI N), .ref hro] : List Value).toArray s 0 0 A) (F0 m 20 ls []) := by
    intro k
    induction k with
    | zero =>
      intro i wq tq x hk hxx hww hpos hpk H locs hP hD hS ls hl
      refine lv_iload hx hb d_Ri_take_20 (lv_at hl 7 rfl) ?_
      refine lv_iload hx hb d_Ri_take_22 (lv_at hl 3 rfl) ?_
      refine bk_icmp_ge (a := i) (b := N) (tgt := 104) hx hb (by omega) (by omega) d_Ri_take_24 (by decide) (fun c24 => ?_) (fun c24 => by exfalso; omega)
      have hP9 := hP.sub (ws' := [(h, .inr (4, [.ref a1, .ref a2])), (a1, .inl (cI, 10, .inl (aI wt))), (a2, .inl (cI, 30, .inl (aI wq))), (hbk, .inr (1, [.ref b1, .ref b2, .ref b3, .ref b4, .int (nI n)])), (b1, .inl (cI, 30, .inl (aI sh))), (hro, .inr (5, [.ref r1, .int (nI i), .int (nI N)])), (r1, .inl (cI, 30, .inl (aI tq)))]) [0, 1, 2, 3, 4, 5, 6] rfl
      have hD9 := hD.sub (ws' := [(h, .inr (4, [.ref a1, .ref a2])), (a1, .inl (cI, 10, .inl (aI wt))), (a2, .inl (cI, 30, .inl (aI wq))), (hbk, .inr (1, [.ref b1, .ref b2, .ref b3, .ref b4, .int (nI n)])), (b1, .inl (cI, 30, .inl (aI sh))), (hro, .inr (5, [.ref r1, .int (nI i), .int (nI N)])), (r1, .inl (cI, 30, .inl (aI tq)))]) [0, 1, 2, 3, 4, 5, 6] (by decide) rfl
      exact W.vret hx hb hr (fun t9 ht9 hW9 => ⟨⟨(wq, i, tq), rfl, ⟨⟨by show i ≤ N; omega, hpos, by first | exact Or.inl (by show i = N; omega) | exact Or.inr (by show sumN (DR n (fun j => wt (sh j)) sd i).2 n = 0; rw [← sumN_congr n hww]; omega)⟩, hpk⟩, by rw [ht9]; exact hP9, va_K.moved hW9.alike hK, hD9⟩, hS.F ht9⟩) hS.2.2 d_Ri_take_104
    | succ k ih20 =>
      intro i wq tq x hk hxx hww hpos hpk H locs hP hD hS ls hl
      refine lv_iload hx hb d_Ri_take_20 (lv_at hl 7 rfl) ?_
      refine lv_iload hx hb d_Ri_take_22 (lv_at hl 3 rfl) ?_
      refine bk_icmp_ge (a := i) (b := N) (tgt := 104) hx hb (by omega) (by omega) d_Ri_take_24 (by decide) (fun c24 => by exfalso; omega) (fun c24 => ?_)
      have hs3 : sumN wq n ≤ n * 2520 := sumN_le n (fun j hj => by rw [hww j hj]; exact dr_le hwt hsh j hj)
      refine lv_iload hx hb d_Ri_take_27 (lv_at hl 5 rfl) ?_
      refine bk_if_le (a := sumN wq n) (tgt := 104) hx hb (by omega) d_Ri_take_29 (by decide) (fun c29 => ?_) (fun c29 => ?_)
      · have hP9 := hP.sub (ws' := [(h, .inr (4, [.ref a1, .ref a2])), (a1, .inl (cI, 10, .inl (aI wt))), (a2, .inl (cI, 30, .inl (aI wq))), (hbk, .inr (1, [.ref b1, .ref b2, .ref b3, .ref b4, .int (nI n)])), (b1, .inl (cI, 30, .inl (aI sh))), (hro, .inr (5, [.ref r1, .int (nI i), .int (nI N)])), (r1, .inl (cI, 30, .inl (aI tq)))]) [0, 1, 2, 3, 4, 5, 6] rfl
        have hD9 := hD.sub (ws' := [(h, .inr (4, [.ref a1, .ref a2])), (a1, .inl (cI, 10, .inl (aI wt))), (a2, .inl (cI, 30, .inl (aI wq))), (hbk, .inr (1, [.ref b1, .ref b2, .ref b3, .ref b4, .int (nI n)])), (b1, .inl (cI, 30, .inl (aI sh))), (hro, .inr (5, [.ref r1, .int (nI i), .int (nI N)])), (r1, .inl (cI, 30, .inl (aI tq)))]) [0, 1, 2, 3, 4, 5, 6] (by decide) rfl
        exact W.vret hx hb hr (fun t9 ht9 hW9 => ⟨⟨(wq, i, tq), rfl, ⟨⟨by show i ≤ N; omega, hpos, by first | exact Or.inl (by show i = N; omega) | exact Or.inr (by show sumN (DR n (fun j => wt (sh j)) sd i).2 n = 0; rw [← sumN_congr n hww]; omega)⟩, hpk⟩, by rw [ht9]; exact hP9, va_K.moved hW9.alike hK, hD9⟩, hS.F ht9⟩) hS.2.2 d_Ri_take_104
      · have hps : 0 < sumN (DR n (fun j => wt (sh j)) sd i).2 n := by rw [← sumN_congr n hww]; omega
        obtain ⟨hpi, hpn⟩ := pickF_rng (w := wq) (r := h33 (nxt x) % sumN wq n) n (Nat.mod_lt _ (by omega))
        have hml2 := Nat.mod_lt (h33 (nxt x)) (show sumN wq n > 0 by omega)
        have h33l := h33_lt (nxt x)
        refine lv_lload hx hb d_Ri_take_32 (lv_at hl 6 rfl) ?_
        refine lv_ldc2 (own := R_Ri) (v := 6364136223846793005) hx hb hown (htg _ k2_133) d_Ri_take_34 ?_
        refine bk_topl (y := lN 6364136223846793005) (by decide +kernel) ?_
        refine lv_lmul hx hb d_Ri_take_37 ?_
        refine lv_ldc2 (own := R_Ri) (v := 1442695040888963407) hx hb hown (htg _ k2_134) d_Ri_take_38 ?_
        refine bk_topl (y := lN 1442695040888963407) (by decide +kernel) ?_
        refine lv_ladd hx hb d_Ri_take_41 ?_
        refine bk_topl (y := nxt x) rfl ?_
        refine lv_lstore (lv' := [(7, .long (nxt x)), (0, .ref h), (1, .ref hbk), (2, .long sd), (4, .int (nI N)), (5, .ref hro), (6, .int (nI (sumN wq n))), (9, .int (nI i))]) hx hb d_Ri_take_42 hl (by decide) rfl (fun ls hl => ?_)
        refine lv_aload_n hx hb d_Ri_take_44 rfl (lv_at hl 1 rfl) ?_
        refine lv_aload_n hx hb d_Ri_take_45 rfl (lv_at hl 2 rfl) ?_
        refine va_get (D := (dC, dI)) (ci := 1) (v := .int (nI n)) (C := R_Bk) (T := F_Bk) (N := 5) hx hb htg iw_Bk hown hK hP 3 rfl rfl 4 (by decide) (htg _ k1_40) (fun _ h9 => h9) rfl d_Ri_take_46 ?_
        refine lv_lload hx hb d_Ri_take_49 (lv_at hl 0 rfl) ?_
        refine lv_bipush (v := nI 33) hx hb d_Ri_take_51 (by decide +kernel) ?_
        refine lv_lushr (v := ((nxt x).toUInt64 >>> ((nI 33).toInt64.toUInt64 &&& Int64.toUInt64 63)).toInt64) hx hb d_Ri_take_53 rfl ?_
        refine bk_topl (y := lN (h33 (nxt x))) (ushr33 _) ?_
        refine lv_iload hx hb d_Ri_take_54 (lv_at hl 6 rfl) ?_
        refine bk_i2l hx hb (by omega) d_Ri_take_56 ?_
        refine bk_lrem hx hb (by omega) (by omega) (by omega) d_Ri_take_57 ?_
        refine bk_l2i hx hb d_Ri_take_58 ?_
        refine vp_callSi (va_runV (As := [.int (nI n), .int (nI ((h33 (nxt x)) % (sumN wq n)))]) (rest := []) ⟨hx, hb, hml, hown, htg⟩ (c_Ri_pageOver l dC dI cI cL cZ h a1 a2 wq n ((h33 (nxt x)) % (sumN wq n)) hn hml2 (fun j hj => by rw [hww j hj]; exact dr_le hwt hsh j hj)) (cwV 2 htg (gdV k2_135 k2_137 ks_Ri_pageOver k1_5 kc_Ri_pageOver) rfl rfl rfl (by decide +kernel) ⟨Nat.le_of_ble_eq_true rfl, Nat.le_of_ble_eq_true rfl⟩) ⟨bk_blind, va_recv hK hP (ci := 4) (q0 := 0) rfl rfl, fun U hU hW => ⟨rfl, nw_warm hW hN, by rw [hU]; exact hP.sub [0, 2] rfl, va_K.moved hW.alike hK⟩⟩ rfl rfl hl.1 rfl (lv_room (Nat.le_of_ble_eq_true rfl)) d_Ri_take_59 ⟨Nat.le_of_ble_eq_true rfl, Nat.le_of_ble_eq_true rfl⟩).run (fun r59 e59 => ?_)
        subst e59
        refine lv_istore (lv' := [(10, .int (nI (pickF wq ((h33 (nxt x)) % (sumN wq n)) n))), (7, .long (nxt x)), (0, .ref h), (1, .ref hbk), (2, .long sd), (4, .int (nI N)), (5, .ref hro), (6, .int (nI (sumN wq n))), (9, .int (nI i))]) hx hb d_Ri_take_62 hl (by decide) rfl (fun ls hl => ?_)
        refine lv_iload hx hb d_Ri_take_64 (lv_at hl 0 rfl) ?_
        refine lv_iconst (v := oI none) hx hb d_Ri_take_66 (by decide +kernel) ?_
        refine bk_ocmp_ne (r := some (pickF wq ((h33 (nxt x)) % (sumN wq n)) n)) (tgt := 71) hx hb (by intro k h; cases h; omega) d_Ri_take_67 (by decide) (fun c67 => ?_) (fun c67 => nomatch c67)
        refine lv_aload hx hb d_Ri_take_71 (lv_at hl 6 rfl) ?_
        refine lv_iload hx hb d_Ri_take_73 (lv_at hl 0 rfl) ?_
        have hPc := hP.sub (ws' := [(hro, .inr (5, [.ref r1, .int (nI i), .int (nI N)])), (r1, .inl (cI, 30, .inl (aI tq)))]) [5, 6] rfl
        have hDc := hD.sub (ws' := [(hro, .inr (5, [.ref r1, .int (nI i), .int (nI N)])), (r1, .inl (cI, 30, .inl (aI tq)))]) [5, 6] (by decide) rfl
        have hFc := va_free (wc := [(hro, .inr (5, [.ref r1, .int (nI i), .int (nI N)])), (r1, .inl (cI, 30, .inl (aI tq)))]) hD hS hA [5, 6] rfl
        refine va_callv (va_runV (As := [.int (nI (pickF wq ((h33 (nxt x)) % (sumN wq n)) n))]) (rest := []) ⟨hx, hb, hml, hown, htg⟩ (c_Ro_append l dC dI cI cL cZ H.size hro r1 i N tq (pickF wq ((h33 (nxt x)) % (sumN wq n)) n) (by omega)) (cwV 1 htg (gdV k2_139 k2_140 k2_141 k1_6 kc_Ro_append) rfl rfl rfl (by decide +kernel) ⟨Nat.le_of_ble_eq_true rfl, Nat.le_of_ble_eq_true rfl⟩) ⟨bk_blindW, va_recv hK hP (ci := 5) (q0 := 5) rfl rfl, fun U hU hW => ⟨rfl, nw_warm hW hN, by rw [hU], by rw [hU]; exact hPc, va_K.moved hW.alike hK, hDc.weaken (fun _ _ _ _ => trivial)⟩⟩ rfl rfl hl.1 rfl (lv_room (Nat.le_of_ble_eq_true rfl)) d_Ri_take_75 ⟨Nat.le_of_ble_eq_true rfl, Nat.le_of_ble_eq_true rfl⟩) hS (fun q _ h => hFc q h) hFc (fun u t H1 locs ht hvm e75 hB hz1 hk1 hS => ?_)
        obtain ⟨hP1, hK1, hD1⟩ := hB
        rw [ht] at hP1
        try dsimp only at e75
        obtain ⟨hP, hD⟩ := va_join (wr := [(h, .inr (4, [.ref a1, .ref a2])), (a1, .inl (cI, 10, .inl (aI wt))), (a2, .inl (cI, 30, .inl (aI wq))), (hbk, .inr (1, [.ref b1, .ref b2, .ref b3, .ref b4, .int (nI n)])), (b1, .inl (cI, 30, .inl (aI sh)))]) (w1 := [(hro, .inr (5, [.ref r1, .int (nI (i + 1)), .int (nI N)])), (r1, .inl (cI, 30, .inl (aI (va_up tq i (pickF wq ((h33 (nxt x)) % (sumN wq n)) n)))))]) hP hD [5, 6] [0, 1, 2, 3, 4] rfl rfl (by decide) (by decide) hk1 hFc hP1 hD1
        generalize H1 = H at hP hS ⊢
        have hP : va_P (dC, dI) vwCl [(h, .inr (4, [.ref a1, .ref a2])), (a1, .inl (cI, 10, .inl (aI wt))), (a2, .inl (cI, 30, .inl (aI wq))), (hbk, .inr (1, [.ref b1, .ref b2, .ref b3, .ref b4, .int (nI n)])), (b1, .inl (cI, 30, .inl (aI sh))), (hro, .inr (5, [.ref r1, .int (nI (i + 1)), .int (nI N)])), (r1, .inl (cI, 30, .inl (aI (va_up tq i (pickF wq ((h33 (nxt x)) % (sumN wq n)) n)))))] H := hP.sub [0, 1, 2, 3, 4, 5, 6] rfl
        have hD : va_D A [(h, .inr (4, [.ref a1, .ref a2])), (a1, .inl (cI, 10, .inl (aI wt))), (a2, .inl (cI, 30, .inl (aI wq))), (hbk, .inr (1, [.ref b1, .ref b2, .ref b3, .ref b4, .int (nI n)])), (b1, .inl (cI, 30, .inl (aI sh))), (hro, .inr (5, [.ref r1, .int (nI (i + 1)), .int (nI N)])), (r1, .inl (cI, 30, .inl (aI (va_up tq i (pickF wq ((h33 (nxt x)) % (sumN wq n)) n)))))] := hD.sub [0, 1, 2, 3, 4, 5, 6] (by decide) rfl
        have hup := sumN_up (w := wq) n hpn
        refine lv_iload hx hb d_Ri_take_78 (lv_at hl 7 rfl) ?_
        refine lv_aload_n hx hb d_Ri_take_80 rfl (lv_at hl 2 rfl) ?_
        refine va_get (D := (dC, dI)) (ci := 4) (v := .ref a2) (C := R_Ri) (T := F_Ri) (N := 2) hx hb htg iw_Ri hown hK hP 0 rfl rfl 1 (by decide) (htg _ k1_105) (fun _ h9 => h9) rfl d_Ri_take_81 ?_
        refine lv_iload hx hb d_Ri_take_84 (lv_at hl 0 rfl) ?_
        refine bk_iald (v := nI (wq (pickF wq ((h33 (nxt x)) % (sumN wq n)) n))) hx hb hK hP 2 0 rfl rfl (by omega) (by decide) rfl d_Ri_take_86 ?_
        refine lv_isub hx hb d_Ri_take_87 ?_
        refine bk_topi (y := nI (sumN (va_up wq (pickF wq (h33 (nxt x) % sumN wq n) n) 0) n)) (by rw [pk_sub (by omega), show sumN wq n - wq (pickF wq (h33 (nxt x) % sumN wq n) n) = sumN (va_up wq (pickF wq (h33 (nxt x) % sumN wq n) n) 0) n by omega]) ?_
        refine lv_istore (lv' := [(6, .int (nI (sumN (va_up wq (pickF wq (h33 (nxt x) % sumN wq n) n) 0) n))), (10, .int (nI (pickF wq ((h33 (nxt x)) % (sumN wq n)) n))), (7, .long (nxt x)), (0, .ref h), (1, .ref hbk), (2, .long sd), (4, .int (nI N)), (5, .ref hro), (9, .int (nI i))]) hx hb d_Ri_take_88 hl (by decide) rfl (fun ls hl => ?_)
        refine lv_aload_n hx hb d_Ri_take_90 rfl (lv_at hl 3 rfl) ?_
        refine va_get (D := (dC, dI)) (ci := 4) (v := .ref a2) (C := R_Ri) (T := F_Ri) (N := 2) hx hb htg iw_Ri hown hK hP 0 rfl rfl 1 (by decide) (htg _ k1_105) (fun _ h9 => h9) rfl d_Ri_take_91 ?_
        refine lv_iload hx hb d_Ri_take_94 (lv_at hl 1 rfl) ?_
        refine lv_iconst (v := nI 0) hx hb d_Ri_take_96 (by decide +kernel) ?_
        refine bk_iast (x := nI 0) (f2 := aI (va_up wq (pickF wq ((h33 (nxt x)) % (sumN wq n)) n) 0)) hx hb hK hP hD hS 2 0 rfl rfl (by omega) (by decide) (aI_up _ _ _) d_Ri_take_97 (fun H locs hP hD hS => ?_)
        have hP : va_P (dC, dI) vwCl [(h, .inr (4, [.ref a1, .ref a2])), (a1, .inl (cI, 10, .inl (aI wt))), (a2, .inl (cI, 30, .inl (aI (va_up wq (pickF wq ((h33 (nxt x)) % (sumN wq n)) n) 0)))), (hbk, .inr (1, [.ref b1, .ref b2, .ref b3, .ref b4, .int (nI n)])), (b1, .inl (cI, 30, .inl (aI sh))), (hro, .inr (5, [.ref r1, .int (nI (i + 1)), .int (nI N)])), (r1, .inl (cI, 30, .inl (aI (va_up tq i (pickF wq ((h33 (nxt x)) % (sumN wq n)) n)))))] H := hP
        have hD : va_D A [(h, .inr (4, [.ref a1, .ref a2])), (a1, .inl (cI, 10, .inl (aI wt))), (a2, .inl (cI, 30, .inl (aI (va_up wq (pickF wq ((h33 (nxt x)) % (sumN wq n)) n) 0)))), (hbk, .inr (1, [.ref b1, .ref b2, .ref b3, .ref b4, .int (nI n)])), (b1, .inl (cI, 30, .inl (aI sh))), (hro, .inr (5, [.ref r1, .int (nI (i + 1)), .int (nI N)])), (r1, .inl (cI, 30, .inl (aI (va_up tq i (pickF wq ((h33 (nxt x)) % (sumN wq n)) n)))))] := hD
        refine lv_iinc (v := nI (i + 1)) (lv' := [(9, .int (nI (i + 1))), (6, .int (nI (sumN (va_up wq (pickF wq (h33 (nxt x) % sumN wq n) n) 0) n))), (10, .int (nI (pickF wq ((h33 (nxt x)) % (sumN wq n)) n))), (7, .long (nxt x)), (0, .ref h), (1, .ref hbk), (2, .long sd), (4, .int (nI N)), (5, .ref hro)]) hx hb d_Ri_take_98 hl (k := 8) rfl (bk_inc i) (by decide) rfl (fun ls hl => ?_)
        refine lv_goto (tgt := 20) hx hb d_Ri_take_101 (by decide) ?_
        exact ih20 (i + 1) (va_up wq (pickF wq ((h33 (nxt x)) % (sumN wq n)) n) 0) (va_up tq i (pickF wq ((h33 (nxt x)) % (sumN wq n)) n)) (nxt x) (by omega) (by rw [DR, ← hxx]) (dr_up hxx hww) (lt_s hpos hps) (pk_up hpk (by rw [pkD, ← hxx, ← sumN_congr n hww, ← pickF_congr n hww]) hpn) _ _ (hP.sub [0, 1, 2, 3, 4, 5, 6] rfl) (hD.sub [0, 1, 2, 3, 4, 5, 6] (by decide) rfl) hS ls (lv_sub hl [4, 5, 6, 7, 8, 1, 3, 0] rfl)
  exact J20 N 0 wl9 tk sd (by omega) rfl hw9 (fun j hj => absurd hj (by omega)) (fun j hj => absurd hj (by omega)) _ _ (hP.sub [0, 1, 2, 3, 4, 5, 6] rfl) (hD.sub [0, 1, 2, 3, 4, 5, 6] (by decide) rfl) hS ls (lv_sub hl [3, 4, 5, 6, 7, 2, 1, 0] rfl)
