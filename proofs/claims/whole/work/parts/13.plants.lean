set_option maxHeartbeats 4000000 in
set_option maxRecDepth 100000 in
theorem c_In_bitCount (l : Launch) (dC : Nat → ClassId) (dI : Nat → Nat → Nat) (cI cL cZ : ClassId) (x : Int32) : Met l y_In_bitCount ws_In_bitCount { frames := 0, cells := 0, slots := 0, locals := 0 } (va_Pc [.int x] (fun _ => True)) (vp_Si (fun r => r = bcF x)) 0 0 (fun _ => False) := by
  refine Met.ofW (cc := b_In_bitCount) (maxL := 1) (ret := (some .int)) (by decide) rfl ?_
  intro pr en s m args below meth c s₁ B hml hv
  obtain ⟨rfl, -⟩ := hv
  have hx := B.exec
  have hb := B.bytes
  have hr := B.returns
  have hts := atoms_spec (ws := ws_In_bitCount) B.pre
  have htg : ∀ w ∈ gW, w.before _ s = true := fun w h => hts w (List.mem_cons_of_mem _ h)
  have hown : s.vm.findClass R_In = some m.cls := findClass_of_methodNamed B.named
  have hlocks := B.notSynchronized
  have hl := lv_entry ([.int x]) (n := 1) (Nat.le_of_ble_eq_true rfl)
  rw [lg_entry_eq]
  generalize (lg_sl ([.int x]) ++ List.replicate (1 - (lg_sl ([.int x])).length) Slot.unset).toArray = ls at hl ⊢
  have hl : lv_has ls 1 [(0, .int x)] := hl
  refine lv_iload_n hx hb d_In_bitCount_0 rfl (lv_at hl 0 rfl) ?_
  refine lv_iload_n hx hb d_In_bitCount_1 rfl (lv_at hl 0 rfl) ?_
  refine lv_iconst (v := nI 1) hx hb d_In_bitCount_2 (by decide +kernel) ?_
  refine lv_iushr (v := (x.toUInt32 >>> ((nI 1).toUInt32 &&& Int32.toUInt32 31)).toInt32) hx hb d_In_bitCount_3 rfl ?_
  refine lv_ldcw (own := R_In) (v := 1431655765) hx hb hown (htg _ k2_102) d_In_bitCount_4 ?_
  refine bk_topi (y := nI 1431655765) (by decide +kernel) ?_
  refine lv_iand hx hb d_In_bitCount_7 ?_
  refine lv_isub hx hb d_In_bitCount_8 ?_
  refine bk_topi (y := (bc1 x)) rfl ?_
  refine lv_istore_n (lv' := [(0, .int (bc1 x))]) hx hb d_In_bitCount_9 rfl hl (by decide) rfl (fun ls hl => ?_)
  refine lv_iload_n hx hb d_In_bitCount_10 rfl (lv_at hl 0 rfl) ?_
  refine lv_ldcw (own := R_In) (v := 858993459) hx hb hown (htg _ k2_103) d_In_bitCount_11 ?_
  refine bk_topi (y := nI 858993459) (by decide +kernel) ?_
  refine lv_iand hx hb d_In_bitCount_14 ?_
  refine lv_iload_n hx hb d_In_bitCount_15 rfl (lv_at hl 0 rfl) ?_
  refine lv_iconst (v := nI 2) hx hb d_In_bitCount_16 (by decide +kernel) ?_
  refine lv_iushr (v := ((bc1 x).toUInt32 >>> ((nI 2).toUInt32 &&& Int32.toUInt32 31)).toInt32) hx hb d_In_bitCount_17 rfl ?_
  refine lv_ldcw (own := R_In) (v := 858993459) hx hb hown (htg _ k2_103) d_In_bitCount_18 ?_
  refine bk_topi (y := nI 858993459) (by decide +kernel) ?_
  refine lv_iand hx hb d_In_bitCount_21 ?_
  refine lv_iadd hx hb d_In_bitCount_22 ?_
  refine bk_topi (y := (bc2 (bc1 x))) rfl ?_
  refine lv_istore_n (lv' := [(0, .int (bc2 (bc1 x)))]) hx hb d_In_bitCount_23 rfl hl (by decide) rfl (fun ls hl => ?_)
  refine lv_iload_n hx hb d_In_bitCount_24 rfl (lv_at hl 0 rfl) ?_
  refine lv_iload_n hx hb d_In_bitCount_25 rfl (lv_at hl 0 rfl) ?_
  refine lv_iconst (v := nI 4) hx hb d_In_bitCount_26 (by decide +kernel) ?_
  refine lv_iushr (v := ((bc2 (bc1 x)).toUInt32 >>> ((nI 4).toUInt32 &&& Int32.toUInt32 31)).toInt32) hx hb d_In_bitCount_27 rfl ?_
  refine lv_iadd hx hb d_In_bitCount_28 ?_
  refine lv_ldcw (own := R_In) (v := 252645135) hx hb hown (htg _ k2_104) d_In_bitCount_29 ?_
  refine bk_topi (y := nI 252645135) (by decide +kernel) ?_
  refine lv_iand hx hb d_In_bitCount_32 ?_
  refine bk_topi (y := (bc3 (bc2 (bc1 x)))) rfl ?_
  refine lv_istore_n (lv' := [(0, .int (bc3 (bc2 (bc1 x))))]) hx hb d_In_bitCount_33 rfl hl (by decide) rfl (fun ls hl => ?_)
  refine lv_iload_n hx hb d_In_bitCount_34 rfl (lv_at hl 0 rfl) ?_
  refine lv_iload_n hx hb d_In_bitCount_35 rfl (lv_at hl 0 rfl) ?_
  refine lv_bipush (v := nI 8) hx hb d_In_bitCount_36 (by decide +kernel) ?_
  refine lv_iushr (v := ((bc3 (bc2 (bc1 x))).toUInt32 >>> ((nI 8).toUInt32 &&& Int32.toUInt32 31)).toInt32) hx hb d_In_bitCount_38 rfl ?_
  refine lv_iadd hx hb d_In_bitCount_39 ?_
  refine bk_topi (y := (bc4 (bc3 (bc2 (bc1 x))))) rfl ?_
  refine lv_istore_n (lv' := [(0, .int (bc4 (bc3 (bc2 (bc1 x)))))]) hx hb d_In_bitCount_40 rfl hl (by decide) rfl (fun ls hl => ?_)
  refine lv_iload_n hx hb d_In_bitCount_41 rfl (lv_at hl 0 rfl) ?_
  refine lv_iload_n hx hb d_In_bitCount_42 rfl (lv_at hl 0 rfl) ?_
  refine lv_bipush (v := nI 16) hx hb d_In_bitCount_43 (by decide +kernel) ?_
  refine lv_iushr (v := ((bc4 (bc3 (bc2 (bc1 x)))).toUInt32 >>> ((nI 16).toUInt32 &&& Int32.toUInt32 31)).toInt32) hx hb d_In_bitCount_45 rfl ?_
  refine lv_iadd hx hb d_In_bitCount_46 ?_
  refine bk_topi (y := (bc5 (bc4 (bc3 (bc2 (bc1 x)))))) rfl ?_
  refine lv_istore_n (lv' := [(0, .int (bc5 (bc4 (bc3 (bc2 (bc1 x))))))]) hx hb d_In_bitCount_47 rfl hl (by decide) rfl (fun ls hl => ?_)
  refine lv_iload_n hx hb d_In_bitCount_48 rfl (lv_at hl 0 rfl) ?_
  refine lv_bipush (v := nI 63) hx hb d_In_bitCount_49 (by decide +kernel) ?_
  refine lv_iand hx hb d_In_bitCount_51 ?_
  exact W.iret (v := ((bc5 (bc4 (bc3 (bc2 (bc1 x))))) &&& (nI 63))) hx hb hr (fun t9 ht9 hW9 => ⟨((bc5 (bc4 (bc3 (bc2 (bc1 x))))) &&& (nI 63)), rfl, rfl, ht9⟩) (fun q h => nomatch h) d_In_bitCount_52
set_option maxHeartbeats 4000000 in
set_option maxRecDepth 100000 in
theorem c_Pl_has (l : Launch) (dC : Nat → ClassId) (dI : Nat → Nat → Nat) (cI cL cZ : ClassId) (h a1 a2 a3 a4 a5 n : Nat) (x : Int32) (hn : n ≤ 8) : Met l y_Pl_has ws_Pl_has { frames := 0, cells := 0, slots := 0, locals := 0 } (va_Pc [.ref h, .int x] (rdP (dC, dI) vwCl [(cI, .int), (cL, .long), (cZ, .boolean)] [(h, .inr (3, [.ref a1, .ref a2, .ref a3, .ref a4, .ref a5, .int (nI n)]))])) (vp_Si (fun r => (inR n x ∧ r = nI 1) ∨ (¬ inR n x ∧ r = nI 0))) 0 0 (fun _ => False) := by
  refine Met.ofW (cc := b_Pl_has) (maxL := 2) (ret := (some .boolean)) (by decide) rfl ?_
  intro pr en s m args below meth c s₁ B hml hv
  obtain ⟨rfl, hN, hP, hK⟩ := hv
  have hx := B.exec
  have hb := B.bytes
  have hr := B.returns
  have hts := atoms_spec (ws := ws_Pl_has) B.pre
  have htg : ∀ w ∈ gW, w.before _ s = true := fun w h => hts w (List.mem_cons_of_mem _ h)
  have hown : s.vm.findClass R_Pl = some m.cls := findClass_of_methodNamed B.named
  have hlocks := B.notSynchronized
  have hl := lv_entry ([.ref h, .int x]) (n := 2) (Nat.le_of_ble_eq_true rfl)
  rw [lg_entry_eq]
  generalize (lg_sl ([.ref h, .int x]) ++ List.replicate (2 - (lg_sl ([.ref h, .int x])).length) Slot.unset).toArray = ls at hl ⊢
  have hl : lv_has ls 2 [(0, .ref h), (1, .int x)] := hl
  refine lv_iload_n hx hb d_Pl_has_0 rfl (lv_at hl 1 rfl) ?_
  refine lv_if_lt (x := x) (tgt := 16) hx hb d_Pl_has_1 (by decide) (fun c1 => ?_) (fun c1 => ?_)
  · refine lv_iconst (v := nI 0) hx hb d_Pl_has_16 (by decide +kernel) ?_
    exact W.zret (v := nI 0) (ty := .boolean) hx hb hr rfl (fun t9 ht9 hW9 => ⟨nI 0, rfl, Or.inr ⟨by first | exact inR_neg (by omega) (by assumption) | exact inR_big (by omega) (by assumption), rfl⟩, ht9⟩) (fun q h => nomatch h) d_Pl_has_17
  · refine lv_iload_n hx hb d_Pl_has_4 rfl (lv_at hl 1 rfl) ?_
    refine lv_aload_n hx hb d_Pl_has_5 rfl (lv_at hl 0 rfl) ?_
    refine va_get (D := (dC, dI)) (ci := 3) (v := .int (nI n)) (C := R_Pl) (T := F_Pl) (N := 6) hx hb htg iw_Pl hown hK hP 0 rfl rfl 5 (by decide) (htg _ k1_84) (fun _ h9 => h9) rfl d_Pl_has_6 ?_
    refine lv_icmp_ge (x := x) (y := nI n) (tgt := 16) hx hb d_Pl_has_9 (by decide) (fun c9 => ?_) (fun c9 => ?_)
    · refine lv_iconst (v := nI 0) hx hb d_Pl_has_16 (by decide +kernel) ?_
      exact W.zret (v := nI 0) (ty := .boolean) hx hb hr rfl (fun t9 ht9 hW9 => ⟨nI 0, rfl, Or.inr ⟨by first | exact inR_neg (by omega) (by assumption) | exact inR_big (by omega) (by assumption), rfl⟩, ht9⟩) (fun q h => nomatch h) d_Pl_has_17
    · refine lv_iconst (v := nI 1) hx hb d_Pl_has_12 (by decide +kernel) ?_
      refine lv_goto (tgt := 17) hx hb d_Pl_has_13 (by decide) ?_
      exact W.zret (v := nI 1) (ty := .boolean) hx hb hr rfl (fun t9 ht9 hW9 => ⟨nI 1, rfl, Or.inl ⟨inR_of (by omega) (by assumption) (by assumption), rfl⟩, ht9⟩) (fun q h => nomatch h) d_Pl_has_17
set_option maxHeartbeats 4000000 in
set_option maxRecDepth 100000 in
theorem c_Pl_add (l : Launch) (dC : Nat → ClassId) (dI : Nat → Nat → Nat) (cI cL cZ : ClassId) (sz : Nat) (h a1 a2 a3 a4 a5 n : Nat) (inn pk : Nat → Nat) (x1 : Int64) (x2 : Int32) (hn : n ≤ 8) : Met l y_Pl_add ws_Pl_add { frames := 1, cells := 0, slots := 0, locals := 20 } (va_Pc [.ref h, .long x1, .int x2] (wrP (dC, dI) vwCl [(cI, .int), (cL, .long), (cZ, .boolean)] [(h, .inr (3, [.ref a1, .ref a2, .ref a3, .ref a4, .ref a5, .int (nI n)])), (a1, .inl (cL, 8, .inr (.inl (aL inn)))), (a2, .inl (cI, 8, .inl (aI pk)))] sz)) (va_Qi (fun (r : Int32) (u : Nat × (Nat → Nat) × (Nat → Nat)) => (plOk n x1 x2 ∧ r = nI n ∧ u = (n + 1, va_up inn n (tl x1), va_up pk n (tn x2))) ∨ (¬ plOk n x1 x2 ∧ r = oI none ∧ u = (n, inn, pk))) (fun (u : Nat × (Nat → Nat) × (Nat → Nat)) => wrQ (dC, dI) vwCl [(cI, .int), (cL, .long), (cZ, .boolean)] (va_A [(h, .inr (3, [.ref a1, .ref a2, .ref a3, .ref a4, .ref a5, .int (nI n)])), (a1, .inl (cL, 8, .inr (.inl (aL inn)))), (a2, .inl (cI, 8, .inl (aI pk)))] sz) [(h, .inr (3, [.ref a1, .ref a2, .ref a3, .ref a4, .ref a5, .int (nI u.1)])), (a1, .inl (cL, 8, .inr (.inl (aL u.2.1)))), (a2, .inl (cI, 8, .inl (aI u.2.2)))]) (va_A [(h, .inr (3, [.ref a1, .ref a2, .ref a3, .ref a4, .ref a5, .int (nI n)])), (a1, .inl (cL, 8, .inr (.inl (aL inn)))), (a2, .inl (cI, 8, .inl (aI pk)))] sz)) 0 0 (va_A [(h, .inr (3, [.ref a1, .ref a2, .ref a3, .ref a4, .ref a5, .int (nI n)])), (a1, .inl (cL, 8, .inr (.inl (aL inn)))), (a2, .inl (cI, 8, .inl (aI pk)))] sz) := by
  refine Met.ofW (cc := b_Pl_add) (maxL := 5) (ret := (some .int)) (by decide) rfl ?_
  intro pr en s m args below meth c s₁ B hml hv
  obtain ⟨rfl, hN, hsz, hP, hK, hD0⟩ := hv
  have hx := B.exec
  have hb := B.bytes
  have hr := B.returns
  have hts := atoms_spec (ws := ws_Pl_add) B.pre
  have htg : ∀ w ∈ gW, w.before _ s = true := fun w h => hts w (List.mem_cons_of_mem _ h)
  have hown : s.vm.findClass R_Pl = some m.cls := findClass_of_methodNamed B.named
  have hlocks := B.notSynchronized
  subst hsz
  have hD := hD0.self (sz := s.heap.size)
  generalize hAe : va_A [(h, .inr (3, [.ref a1, .ref a2, .ref a3, .ref a4, .ref a5, .int (nI n)])), (a1, .inl (cL, 8, .inr (.inl (aL inn)))), (a2, .inl (cI, 8, .inl (aI pk)))] s.heap.size = A at hD ⊢
  have hA : ∀ q : Nat, s.heap.size ≤ q → A q := fun q h => by rw [← hAe]; exact Or.inr h
  have hS : va_S A s.heap s.heap [] := va_S.rf
  have hP : va_P (dC, dI) vwCl [(h, .inr (3, [.ref a1, .ref a2, .ref a3, .ref a4, .ref a5, .int (nI n)])), (a1, .inl (cL, 8, .inr (.inl (aL inn)))), (a2, .inl (cI, 8, .inl (aI pk)))] s.heap := hP
  have hl := lv_entry ([.ref h, .long x1, .int x2]) (n := 5) (Nat.le_of_ble_eq_true rfl)
  rw [lg_entry_eq]
  generalize (lg_sl ([.ref h, .long x1, .int x2]) ++ List.replicate (5 - (lg_sl ([.ref h, .long x1, .int x2])).length) Slot.unset).toArray = ls at hl ⊢
  have hl : lv_has ls 5 [(0, .ref h), (1, .long x1), (3, .int x2)] := hl
  refine lv_aload_n hx hb d_Pl_add_0 rfl (lv_at hl 0 rfl) ?_
  refine va_get (D := (dC, dI)) (ci := 3) (v := .int (nI n)) (C := R_Pl) (T := F_Pl) (N := 6) hx hb htg iw_Pl hown hK hP 0 rfl rfl 5 (by decide) (htg _ k1_84) (fun _ h9 => h9) rfl d_Pl_add_1 ?_
  refine lv_bipush (v := nI 8) hx hb d_Pl_add_4 (by decide +kernel) ?_
  refine bk_icmp_ge (a := n) (b := 8) (tgt := 30) hx hb (by omega) (by omega) d_Pl_add_6 (by decide) (fun c6 => ?_) (fun c6 => ?_)
  · refine lv_iconst (v := oI none) hx hb d_Pl_add_30 (by decide +kernel) ?_
    have hP9 := hP.sub (ws' := [(h, .inr (3, [.ref a1, .ref a2, .ref a3, .ref a4, .ref a5, .int (nI n)])), (a1, .inl (cL, 8, .inr (.inl (aL inn)))), (a2, .inl (cI, 8, .inl (aI pk)))]) [0, 1, 2] rfl
    have hD9 := hD.sub (ws' := [(h, .inr (3, [.ref a1, .ref a2, .ref a3, .ref a4, .ref a5, .int (nI n)])), (a1, .inl (cL, 8, .inr (.inl (aL inn)))), (a2, .inl (cI, 8, .inl (aI pk)))]) [0, 1, 2] (by decide) rfl
    exact W.iret (v := oI none) hx hb hr (fun t9 ht9 hW9 => ⟨⟨oI none, (n, inn, pk), rfl, Or.inr ⟨fun z9 => by obtain ⟨y1, y2, y3⟩ := z9; first | omega | exact inL_low (by decide) (by decide) c11 y2 | exact inL_high (by decide) c19 y2 | contradiction, rfl, rfl⟩, by rw [ht9]; exact hP9, va_K.moved hW9.alike hK, hD9⟩, hS.F ht9⟩) hS.2.2 d_Pl_add_31
  · refine lv_lload_n hx hb d_Pl_add_9 rfl (lv_at hl 1 rfl) ?_
    refine lv_lconst (v := lN 0) hx hb d_Pl_add_10 (by decide +kernel) ?_
    refine bk_lcmp_lt (x := x1) (y := lN 0) (tgt := 30) hx hb d_Pl_add_11 d_Pl_add_12 (by decide) (fun c11 => ?_) (fun c11 => ?_)
    · refine lv_iconst (v := oI none) hx hb d_Pl_add_30 (by decide +kernel) ?_
      have hP9 := hP.sub (ws' := [(h, .inr (3, [.ref a1, .ref a2, .ref a3, .ref a4, .ref a5, .int (nI n)])), (a1, .inl (cL, 8, .inr (.inl (aL inn)))), (a2, .inl (cI, 8, .inl (aI pk)))]) [0, 1, 2] rfl
      have hD9 := hD.sub (ws' := [(h, .inr (3, [.ref a1, .ref a2, .ref a3, .ref a4, .ref a5, .int (nI n)])), (a1, .inl (cL, 8, .inr (.inl (aL inn)))), (a2, .inl (cI, 8, .inl (aI pk)))]) [0, 1, 2] (by decide) rfl
      exact W.iret (v := oI none) hx hb hr (fun t9 ht9 hW9 => ⟨⟨oI none, (n, inn, pk), rfl, Or.inr ⟨fun z9 => by obtain ⟨y1, y2, y3⟩ := z9; first | omega | exact inL_low (by decide) (by decide) c11 y2 | exact inL_high (by decide) c19 y2 | contradiction, rfl, rfl⟩, by rw [ht9]; exact hP9, va_K.moved hW9.alike hK, hD9⟩, hS.F ht9⟩) hS.2.2 d_Pl_add_31
    · refine lv_lload_n hx hb d_Pl_add_15 rfl (lv_at hl 1 rfl) ?_
      refine lv_ldc2 (own := R_Pl) (v := 1000000000) hx hb hown (htg _ k2_53) d_Pl_add_16 ?_
      refine bk_topl (y := lN 1000000000) (by decide +kernel) ?_
      refine bk_lcmp_gt (x := x1) (y := lN 1000000000) (tgt := 30) hx hb d_Pl_add_19 d_Pl_add_20 (by decide) (fun c19 => ?_) (fun c19 => ?_)
      · refine lv_iconst (v := oI none) hx hb d_Pl_add_30 (by decide +kernel) ?_
        have hP9 := hP.sub (ws' := [(h, .inr (3, [.ref a1, .ref a2, .ref a3, .ref a4, .ref a5, .int (nI n)])), (a1, .inl (cL, 8, .inr (.inl (aL inn)))), (a2, .inl (cI, 8, .inl (aI pk)))]) [0, 1, 2] rfl
        have hD9 := hD.sub (ws' := [(h, .inr (3, [.ref a1, .ref a2, .ref a3, .ref a4, .ref a5, .int (nI n)])), (a1, .inl (cL, 8, .inr (.inl (aL inn)))), (a2, .inl (cI, 8, .inl (aI pk)))]) [0, 1, 2] (by decide) rfl
        exact W.iret (v := oI none) hx hb hr (fun t9 ht9 hW9 => ⟨⟨oI none, (n, inn, pk), rfl, Or.inr ⟨fun z9 => by obtain ⟨y1, y2, y3⟩ := z9; first | omega | exact inL_low (by decide) (by decide) c11 y2 | exact inL_high (by decide) c19 y2 | contradiction, rfl, rfl⟩, by rw [ht9]; exact hP9, va_K.moved hW9.alike hK, hD9⟩, hS.F ht9⟩) hS.2.2 d_Pl_add_31
      · obtain ⟨q, -, hq, hxq⟩ := inL_of (a := 0) (b := 1000000000) (by decide) (by decide) c11 c19
        refine lv_iload_n hx hb d_Pl_add_23 rfl (lv_at hl 2 rfl) ?_
        refine vp_callSi (va_runSN (As := [.int x2]) (rest := []) ⟨hx, hb, hml, hown, htg⟩ (c_B_isKind l dC dI cI cL cZ x2 ) ⟨va_cnB 1 htg (gd kc_B_isKind) rfl rfl rfl (hN _ (List.mem_of_getElem? (i := 8) rfl)) (htg _ k1_1) (by decide +kernel) ⟨Nat.le_of_ble_eq_true rfl, Nat.le_of_ble_eq_true rfl⟩, htg _ k1_204, trivial⟩ ⟨bk_blind0, fun U hU hW => ⟨rfl, trivial⟩⟩ rfl rfl hl.1 rfl (lv_room (Nat.le_of_ble_eq_true rfl)) d_Pl_add_24 ⟨Nat.le_of_ble_eq_true rfl, Nat.le_of_ble_eq_true rfl⟩).run (fun r24 e24 => ?_)
        rcases e24 with ⟨⟨j24, hj24, hx24⟩, rfl⟩ | ⟨n24, rfl⟩
        · refine bk_if_ne (a := 1) (tgt := 32) hx hb (by omega) d_Pl_add_27 (by decide) (fun c27 => ?_) (fun c27 => absurd c27 (by decide))
          refine lv_aload_n hx hb d_Pl_add_32 rfl (lv_at hl 0 rfl) ?_
          refine va_get (D := (dC, dI)) (ci := 3) (v := .int (nI n)) (C := R_Pl) (T := F_Pl) (N := 6) hx hb htg iw_Pl hown hK hP 0 rfl rfl 5 (by decide) (htg _ k1_84) (fun _ h9 => h9) rfl d_Pl_add_33 ?_
          refine lv_istore (lv' := [(4, .int (nI n)), (0, .ref h), (1, .long x1), (3, .int x2)]) hx hb d_Pl_add_36 hl (by decide) rfl (fun ls hl => ?_)
          refine lv_aload_n hx hb d_Pl_add_38 rfl (lv_at hl 1 rfl) ?_
          refine va_get (D := (dC, dI)) (ci := 3) (v := .ref a1) (C := R_Pl) (T := F_Pl) (N := 6) hx hb htg iw_Pl hown hK hP 0 rfl rfl 0 (by decide) (htg _ k1_79) (fun _ h9 => h9) rfl d_Pl_add_39 ?_
          refine lv_iload hx hb d_Pl_add_42 (lv_at hl 0 rfl) ?_
          refine lv_lload_n hx hb d_Pl_add_44 rfl (lv_at hl 2 rfl) ?_
          refine bk_topl (y := lN q) hxq ?_
          refine bk_last (x := lN q) (f2 := aL (va_up inn n q)) hx hb hK hP hD hS 1 1 rfl rfl (by omega) (by decide) (aL_up _ _ _) d_Pl_add_45 (fun H locs hP hD hS => ?_)
          have hP : va_P (dC, dI) vwCl [(h, .inr (3, [.ref a1, .ref a2, .ref a3, .ref a4, .ref a5, .int (nI n)])), (a1, .inl (cL, 8, .inr (.inl (aL (va_up inn n q))))), (a2, .inl (cI, 8, .inl (aI pk)))] H := hP
          have hD : va_D A [(h, .inr (3, [.ref a1, .ref a2, .ref a3, .ref a4, .ref a5, .int (nI n)])), (a1, .inl (cL, 8, .inr (.inl (aL (va_up inn n q))))), (a2, .inl (cI, 8, .inl (aI pk)))] := hD
          refine lv_aload_n hx hb d_Pl_add_46 rfl (lv_at hl 1 rfl) ?_
          refine va_get (D := (dC, dI)) (ci := 3) (v := .ref a2) (C := R_Pl) (T := F_Pl) (N := 6) hx hb htg iw_Pl hown hK hP 0 rfl rfl 1 (by decide) (htg _ k1_80) (fun _ h9 => h9) rfl d_Pl_add_47 ?_
          refine lv_iload hx hb d_Pl_add_50 (lv_at hl 0 rfl) ?_
          refine lv_iload_n hx hb d_Pl_add_52 rfl (lv_at hl 3 rfl) ?_
          refine bk_topi (y := nI j24) hx24 ?_
          refine bk_iast (x := nI j24) (f2 := aI (va_up pk n j24)) hx hb hK hP hD hS 2 0 rfl rfl (by omega) (by decide) (aI_up _ _ _) d_Pl_add_53 (fun H locs hP hD hS => ?_)
          have hP : va_P (dC, dI) vwCl [(h, .inr (3, [.ref a1, .ref a2, .ref a3, .ref a4, .ref a5, .int (nI n)])), (a1, .inl (cL, 8, .inr (.inl (aL (va_up inn n q))))), (a2, .inl (cI, 8, .inl (aI (va_up pk n j24))))] H := hP
          have hD : va_D A [(h, .inr (3, [.ref a1, .ref a2, .ref a3, .ref a4, .ref a5, .int (nI n)])), (a1, .inl (cL, 8, .inr (.inl (aL (va_up inn n q))))), (a2, .inl (cI, 8, .inl (aI (va_up pk n j24))))] := hD
          refine lv_aload_n hx hb d_Pl_add_54 rfl (lv_at hl 1 rfl) ?_
          refine lv_iload hx hb d_Pl_add_55 (lv_at hl 0 rfl) ?_
          refine lv_iconst (v := nI 1) hx hb d_Pl_add_57 (by decide +kernel) ?_
          refine bk_iadd hx hb d_Pl_add_58 ?_
          refine va_put (D := (dC, dI)) (ci := 3) (v := .int (nI (n + 1))) (ty := (t_Pl 5)) (C := R_Pl) (T := F_Pl) (N := 6) hx hb htg iw_Pl t_Pl tk_Pl nm_Pl hown hK hP hD hS 0 rfl rfl 5 (by decide) (htg _ k1_84) (fun _ h9 => h9) rfl (by decide +kernel) rfl rfl (Nat.le_of_ble_eq_true rfl) d_Pl_add_59 (fun H locs hP hD hS => ?_)
          have hP : va_P (dC, dI) vwCl [(h, .inr (3, [.ref a1, .ref a2, .ref a3, .ref a4, .ref a5, .int (nI (n + 1))])), (a1, .inl (cL, 8, .inr (.inl (aL (va_up inn n q))))), (a2, .inl (cI, 8, .inl (aI (va_up pk n j24))))] H := hP
          have hD : va_D A [(h, .inr (3, [.ref a1, .ref a2, .ref a3, .ref a4, .ref a5, .int (nI (n + 1))])), (a1, .inl (cL, 8, .inr (.inl (aL (va_up inn n q))))), (a2, .inl (cI, 8, .inl (aI (va_up pk n j24))))] := hD
          refine lv_iload hx hb d_Pl_add_62 (lv_at hl 0 rfl) ?_
          have hP9 := hP.sub (ws' := [(h, .inr (3, [.ref a1, .ref a2, .ref a3, .ref a4, .ref a5, .int (nI (n + 1))])), (a1, .inl (cL, 8, .inr (.inl (aL (va_up inn n q))))), (a2, .inl (cI, 8, .inl (aI (va_up pk n j24))))]) [0, 1, 2] rfl
          have hD9 := hD.sub (ws' := [(h, .inr (3, [.ref a1, .ref a2, .ref a3, .ref a4, .ref a5, .int (nI (n + 1))])), (a1, .inl (cL, 8, .inr (.inl (aL (va_up inn n q))))), (a2, .inl (cI, 8, .inl (aI (va_up pk n j24))))]) [0, 1, 2] (by decide) rfl
          exact W.iret (v := nI n) hx hb hr (fun t9 ht9 hW9 => ⟨⟨nI n, (n + 1, va_up inn n q, va_up pk n j24), rfl, Or.inl ⟨⟨by omega, ⟨q, by omega, hq, hxq⟩, ⟨j24, hj24, hx24⟩⟩, rfl, by rw [hx24, hxq, tn_nI (by omega), tl_lN (by omega)]⟩, by rw [ht9]; exact hP9, va_K.moved hW9.alike hK, hD9⟩, hS.F ht9⟩) hS.2.2 d_Pl_add_64
        · refine bk_if_ne (a := 0) (tgt := 32) hx hb (by omega) d_Pl_add_27 (by decide) (fun c27 => absurd c27 (by decide)) (fun c27 => ?_)
          refine lv_iconst (v := oI none) hx hb d_Pl_add_30 (by decide +kernel) ?_
          have hP9 := hP.sub (ws' := [(h, .inr (3, [.ref a1, .ref a2, .ref a3, .ref a4, .ref a5, .int (nI n)])), (a1, .inl (cL, 8, .inr (.inl (aL inn)))), (a2, .inl (cI, 8, .inl (aI pk)))]) [0, 1, 2] rfl
          have hD9 := hD.sub (ws' := [(h, .inr (3, [.ref a1, .ref a2, .ref a3, .ref a4, .ref a5, .int (nI n)])), (a1, .inl (cL, 8, .inr (.inl (aL inn)))), (a2, .inl (cI, 8, .inl (aI pk)))]) [0, 1, 2] (by decide) rfl
          exact W.iret (v := oI none) hx hb hr (fun t9 ht9 hW9 => ⟨⟨oI none, (n, inn, pk), rfl, Or.inr ⟨fun z9 => by obtain ⟨y1, y2, y3⟩ := z9; first | omega | exact inL_low (by decide) (by decide) c11 y2 | exact inL_high (by decide) c19 y2 | contradiction, rfl, rfl⟩, by rw [ht9]; exact hP9, va_K.moved hW9.alike hK, hD9⟩, hS.F ht9⟩) hS.2.2 d_Pl_add_31
set_option maxHeartbeats 4000000 in
set_option maxRecDepth 100000 in
theorem c_Pl_addOut (l : Launch) (dC : Nat → ClassId) (dI : Nat → Nat → Nat) (cI cL cZ : ClassId) (sz : Nat) (h a1 a2 a3 a4 a5 n : Nat) (inn pk ou ok og : Nat → Nat) (x1 x2 : Int32) (x3 : Int64) (hi : plI n inn pk ou ok og) : Met l y_Pl_addOut ws_Pl_addOut { frames := 1, cells := 0, slots := 0, locals := 21 } (va_Pc [.ref h, .int x1, .int x2, .long x3] (wrP (dC, dI) vwCl [(cI, .int), (cL, .long), (cZ, .boolean)] [(h, .inr (3, [.ref a1, .ref a2, .ref a3, .ref a4, .ref a5, .int (nI n)])), (a1, .inl (cL, 8, .inr (.inl (aL inn)))), (a2, .inl (cI, 8, .inl (aI pk))), (a3, .inl (cI, 8, .inl (aI ou))), (a4, .inl (cI, 64, .inl (aI ok))), (a5, .inl (cL, 64, .inr (.inl (aL og))))] sz)) (va_Qi (fun (r : Int32) (u : (Nat → Nat) × (Nat → Nat) × (Nat → Nat)) => (outOk n ou x1 x2 x3 ∧ r = nI (ou (tn x1)) ∧ u = (va_up ou (tn x1) (ou (tn x1) + 1), va_up ok (tn x1 * 8 + ou (tn x1)) (tn x2), va_up og (tn x1 * 8 + ou (tn x1)) (tl x3))) ∨ (¬ outOk n ou x1 x2 x3 ∧ r = oI none ∧ u = (ou, ok, og))) (fun (u : (Nat → Nat) × (Nat → Nat) × (Nat → Nat)) => wrQ (dC, dI) vwCl [(cI, .int), (cL, .long), (cZ, .boolean)] (va_A [(h, .inr (3, [.ref a1, .ref a2, .ref a3, .ref a4, .ref a5, .int (nI n)])), (a1, .inl (cL, 8, .inr (.inl (aL inn)))), (a2, .inl (cI, 8, .inl (aI pk))), (a3, .inl (cI, 8, .inl (aI ou))), (a4, .inl (cI, 64, .inl (aI ok))), (a5, .inl (cL, 64, .inr (.inl (aL og))))] sz) [(h, .inr (3, [.ref a1, .ref a2, .ref a3, .ref a4, .ref a5, .int (nI n)])), (a1, .inl (cL, 8, .inr (.inl (aL inn)))), (a2, .inl (cI, 8, .inl (aI pk))), (a3, .inl (cI, 8, .inl (aI u.1))), (a4, .inl (cI, 64, .inl (aI u.2.1))), (a5, .inl (cL, 64, .inr (.inl (aL u.2.2))))]) (va_A [(h, .inr (3, [.ref a1, .ref a2, .ref a3, .ref a4, .ref a5, .int (nI n)])), (a1, .inl (cL, 8, .inr (.inl (aL inn)))), (a2, .inl (cI, 8, .inl (aI pk))), (a3, .inl (cI, 8, .inl (aI ou))), (a4, .inl (cI, 64, .inl (aI ok))), (a5, .inl (cL, 64, .inr (.inl (aL og))))] sz)) 0 0 (va_A [(h, .inr (3, [.ref a1, .ref a2, .ref a3, .ref a4, .ref a5, .int (nI n)])), (a1, .inl (cL, 8, .inr (.inl (aL inn)))), (a2, .inl (cI, 8, .inl (aI pk))), (a3, .inl (cI, 8, .inl (aI ou))), (a4, .inl (cI, 64, .inl (aI ok))), (a5, .inl (cL, 64, .inr (.inl (aL og))))] sz) := by
  refine Met.ofW (cc := b_Pl_addOut) (maxL := 6) (ret := (some .int)) (by decide) rfl ?_
  intro pr en s m args below meth c s₁ B hml hv
  obtain ⟨rfl, hN, hsz, hP, hK, hD0⟩ := hv
  have hx := B.exec
  have hb := B.bytes
  have hr := B.returns
  have hts := atoms_spec (ws := ws_Pl_addOut) B.pre
  have htg : ∀ w ∈ gW, w.before _ s = true := fun w h => hts w (List.mem_cons_of_mem _ h)
  have hown : s.vm.findClass R_Pl = some m.cls := findClass_of_methodNamed B.named
  have hlocks := B.notSynchronized
  subst hsz
  have hD := hD0.self (sz := s.heap.size)
  generalize hAe : va_A [(h, .inr (3, [.ref a1, .ref a2, .ref a3, .ref a4, .ref a5, .int (nI n)])), (a1, .inl (cL, 8, .inr (.inl (aL inn)))), (a2, .inl (cI, 8, .inl (aI pk))), (a3, .inl (cI, 8, .inl (aI ou))), (a4, .inl (cI, 64, .inl (aI ok))), (a5, .inl (cL, 64, .inr (.inl (aL og))))] s.heap.size = A at hD ⊢
  have hA : ∀ q : Nat, s.heap.size ≤ q → A q := fun q h => by rw [← hAe]; exact Or.inr h
  have hS : va_S A s.heap s.heap [] := va_S.rf
  have hP : va_P (dC, dI) vwCl [(h, .inr (3, [.ref a1, .ref a2, .ref a3, .ref a4, .ref a5, .int (nI n)])), (a1, .inl (cL, 8, .inr (.inl (aL inn)))), (a2, .inl (cI, 8, .inl (aI pk))), (a3, .inl (cI, 8, .inl (aI ou))), (a4, .inl (cI, 64, .inl (aI ok))), (a5, .inl (cL, 64, .inr (.inl (aL og))))] s.heap := hP
  have hl := lv_entry ([.ref h, .int x1, .int x2, .long x3]) (n := 6) (Nat.le_of_ble_eq_true rfl)
  rw [lg_entry_eq]
  generalize (lg_sl ([.ref h, .int x1, .int x2, .long x3]) ++ List.replicate (6 - (lg_sl ([.ref h, .int x1, .int x2, .long x3])).length) Slot.unset).toArray = ls at hl ⊢
  have hl : lv_has ls 6 [(0, .ref h), (1, .int x1), (2, .int x2), (3, .long x3)] := hl
  have hn := hi.1
  refine lv_aload_n hx hb d_Pl_addOut_0 rfl (lv_at hl 0 rfl) ?_
  refine lv_iload_n hx hb d_Pl_addOut_1 rfl (lv_at hl 1 rfl) ?_
  refine vp_callSi (va_runV (As := [.int x1]) (rest := []) ⟨hx, hb, hml, hown, htg⟩ (c_Pl_has l dC dI cI cL cZ h a1 a2 a3 a4 a5 n x1 (by omega)) (cwV 1 htg (gdV k2_63 k2_64 k2_65 k1_4 kc_Pl_has) rfl rfl rfl (by decide +kernel) ⟨Nat.le_of_ble_eq_true rfl, Nat.le_of_ble_eq_true rfl⟩) ⟨bk_blind, va_recv hK hP (ci := 3) (q0 := 0) rfl rfl, fun U hU hW => ⟨rfl, nw_warm hW hN, by rw [hU]; exact hP.sub [0] rfl, va_K.moved hW.alike hK⟩⟩ rfl rfl hl.1 rfl (lv_room (Nat.le_of_ble_eq_true rfl)) d_Pl_addOut_2 ⟨Nat.le_of_ble_eq_true rfl, Nat.le_of_ble_eq_true rfl⟩).run (fun r2 e2 => ?_)
  rcases e2 with ⟨⟨j2, hj2, hx2⟩, rfl⟩ | ⟨n2, rfl⟩
  · refine bk_if_eq (a := 1) (tgt := 33) hx hb (by omega) d_Pl_addOut_5 (by decide) (fun c5 => absurd c5 (by decide)) (fun c5 => ?_)
    have hou := (hi.2.1 j2 hj2).2.2.1
    refine lv_iload_n hx hb d_Pl_addOut_8 rfl (lv_at hl 2 rfl) ?_
    refine vp_callSi (va_runSN (As := [.int x2]) (rest := []) ⟨hx, hb, hml, hown, htg⟩ (c_B_isKind l dC dI cI cL cZ x2 ) ⟨va_cnB 1 htg (gd kc_B_isKind) rfl rfl rfl (hN _ (List.mem_of_getElem? (i := 8) rfl)) (htg _ k1_1) (by decide +kernel) ⟨Nat.le_of_ble_eq_true rfl, Nat.le_of_ble_eq_true rfl⟩, htg _ k1_204, trivial⟩ ⟨bk_blind0, fun U hU hW => ⟨rfl, trivial⟩⟩ rfl rfl hl.1 rfl (lv_room (Nat.le_of_ble_eq_true rfl)) d_Pl_addOut_9 ⟨Nat.le_of_ble_eq_true rfl, Nat.le_of_ble_eq_true rfl⟩).run (fun r9 e9 => ?_)
    rcases e9 with ⟨⟨j9, hj9, hx9⟩, rfl⟩ | ⟨n9, rfl⟩
    · refine bk_if_eq (a := 1) (tgt := 33) hx hb (by omega) d_Pl_addOut_12 (by decide) (fun c12 => absurd c12 (by decide)) (fun c12 => ?_)
      refine lv_lload_n hx hb d_Pl_addOut_15 rfl (lv_at hl 3 rfl) ?_
      refine vp_callSi (va_runSN (As := [.long x3]) (rest := []) ⟨hx, hb, hml, hown, htg⟩ (c_B_isWeighed l dC dI cI cL cZ x3 ) ⟨va_cnB 1 htg (gd kc_B_isWeighed) rfl rfl rfl (hN _ (List.mem_of_getElem? (i := 9) rfl)) (htg _ k1_1) (by decide +kernel) ⟨Nat.le_of_ble_eq_true rfl, Nat.le_of_ble_eq_true rfl⟩, htg _ k1_207, trivial⟩ ⟨bk_blind0, fun U hU hW => ⟨rfl, trivial⟩⟩ rfl rfl hl.1 rfl (lv_room (Nat.le_of_ble_eq_true rfl)) d_Pl_addOut_16 ⟨Nat.le_of_ble_eq_true rfl, Nat.le_of_ble_eq_true rfl⟩).run (fun r16 e16 => ?_)
      rcases e16 with ⟨⟨j16, ha16, hj16, hx16⟩, rfl⟩ | ⟨n16, rfl⟩
      · refine bk_if_eq (a := 1) (tgt := 33) hx hb (by omega) d_Pl_addOut_19 (by decide) (fun c19 => absurd c19 (by decide)) (fun c19 => ?_)
        refine lv_aload_n hx hb d_Pl_addOut_22 rfl (lv_at hl 0 rfl) ?_
        refine va_get (D := (dC, dI)) (ci := 3) (v := .ref a3) (C := R_Pl) (T := F_Pl) (N := 6) hx hb htg iw_Pl hown hK hP 0 rfl rfl 2 (by decide) (htg _ k1_81) (fun _ h9 => h9) rfl d_Pl_addOut_23 ?_
        refine lv_iload_n hx hb d_Pl_addOut_26 rfl (lv_at hl 1 rfl) ?_
        refine bk_topi (y := nI j2) hx2 ?_
        refine bk_iald (v := nI (ou j2)) hx hb hK hP 3 0 rfl rfl (by omega) (by decide) rfl d_Pl_addOut_27 ?_
        refine lv_bipush (v := nI 8) hx hb d_Pl_addOut_28 (by decide +kernel) ?_
        refine bk_icmp_lt (a := ou j2) (b := 8) (tgt := 35) hx hb (by omega) (by omega) d_Pl_addOut_30 (by decide) (fun c30 => ?_) (fun c30 => ?_)
        · refine lv_aload_n hx hb d_Pl_addOut_35 rfl (lv_at hl 0 rfl) ?_
          refine va_get (D := (dC, dI)) (ci := 3) (v := .ref a3) (C := R_Pl) (T := F_Pl) (N := 6) hx hb htg iw_Pl hown hK hP 0 rfl rfl 2 (by decide) (htg _ k1_81) (fun _ h9 => h9) rfl d_Pl_addOut_36 ?_
          refine lv_iload_n hx hb d_Pl_addOut_39 rfl (lv_at hl 1 rfl) ?_
          refine bk_topi (y := nI j2) hx2 ?_
          refine bk_iald (v := nI (ou j2)) hx hb hK hP 3 0 rfl rfl (by omega) (by decide) rfl d_Pl_addOut_40 ?_
          refine lv_istore (lv' := [(5, .int (nI (ou j2))), (0, .ref h), (1, .int x1), (2, .int x2), (3, .long x3)]) hx hb d_Pl_addOut_41 hl (by decide) rfl (fun ls hl => ?_)
          refine lv_aload_n hx hb d_Pl_addOut_43 rfl (lv_at hl 1 rfl) ?_
          refine va_get (D := (dC, dI)) (ci := 3) (v := .ref a4) (C := R_Pl) (T := F_Pl) (N := 6) hx hb htg iw_Pl hown hK hP 0 rfl rfl 3 (by decide) (htg _ k1_82) (fun _ h9 => h9) rfl d_Pl_addOut_44 ?_
          refine lv_iload_n hx hb d_Pl_addOut_47 rfl (lv_at hl 2 rfl) ?_
          refine bk_topi (y := nI j2) hx2 ?_
          refine lv_bipush (v := nI 8) hx hb d_Pl_addOut_48 (by decide +kernel) ?_
          refine bk_imul hx hb d_Pl_addOut_50 ?_
          refine lv_iload hx hb d_Pl_addOut_51 (lv_at hl 0 rfl) ?_
          refine bk_iadd hx hb d_Pl_addOut_53 ?_
          refine lv_iload_n hx hb d_Pl_addOut_54 rfl (lv_at hl 3 rfl) ?_
          refine bk_topi (y := nI j9) hx9 ?_
          refine bk_iast (x := nI j9) (f2 := aI (va_up ok ((j2 * 8) + (ou j2)) j9)) hx hb hK hP hD hS 4 0 rfl rfl (by omega) (by decide) (aI_up _ _ _) d_Pl_addOut_55 (fun H locs hP hD hS => ?_)
          have hP : va_P (dC, dI) vwCl [(h, .inr (3, [.ref a1, .ref a2, .ref a3, .ref a4, .ref a5, .int (nI n)])), (a1, .inl (cL, 8, .inr (.inl (aL inn)))), (a2, .inl (cI, 8, .inl (aI pk))), (a3, .inl (cI, 8, .inl (aI ou))), (a4, .inl (cI, 64, .inl (aI (va_up ok ((j2 * 8) + (ou j2)) j9)))), (a5, .inl (cL, 64, .inr (.inl (aL og))))] H := hP
          have hD : va_D A [(h, .inr (3, [.ref a1, .ref a2, .ref a3, .ref a4, .ref a5, .int (nI n)])), (a1, .inl (cL, 8, .inr (.inl (aL inn)))), (a2, .inl (cI, 8, .inl (aI pk))), (a3, .inl (cI, 8, .inl (aI ou))), (a4, .inl (cI, 64, .inl (aI (va_up ok ((j2 * 8) + (ou j2)) j9)))), (a5, .inl (cL, 64, .inr (.inl (aL og))))] := hD
          refine lv_aload_n hx hb d_Pl_addOut_56 rfl (lv_at hl 1 rfl) ?_
          refine va_get (D := (dC, dI)) (ci := 3) (v := .ref a5) (C := R_Pl) (T := F_Pl) (N := 6) hx hb htg iw_Pl hown hK hP 0 rfl rfl 4 (by decide) (htg _ k1_83) (fun _ h9 => h9) rfl d_Pl_addOut_57 ?_
          refine lv_iload_n hx hb d_Pl_addOut_60 rfl (lv_at hl 2 rfl) ?_
          refine bk_topi (y := nI j2) hx2 ?_
          refine lv_bipush (v := nI 8) hx hb d_Pl_addOut_61 (by decide +kernel) ?_
          refine bk_imul hx hb d_Pl_addOut_63 ?_
          refine lv_iload hx hb d_Pl_addOut_64 (lv_at hl 0 rfl) ?_
          refine bk_iadd hx hb d_Pl_addOut_66 ?_
          refine lv_lload_n hx hb d_Pl_addOut_67 rfl (lv_at hl 4 rfl) ?_
          refine bk_topl (y := lN j16) hx16 ?_
          refine bk_last (x := lN j16) (f2 := aL (va_up og ((j2 * 8) + (ou j2)) j16)) hx hb hK hP hD hS 5 1 rfl rfl (by omega) (by decide) (aL_up _ _ _) d_Pl_addOut_68 (fun H locs hP hD hS => ?_)
          have hP : va_P (dC, dI) vwCl [(h, .inr (3, [.ref a1, .ref a2, .ref a3, .ref a4, .ref a5, .int (nI n)])), (a1, .inl (cL, 8, .inr (.inl (aL inn)))), (a2, .inl (cI, 8, .inl (aI pk))), (a3, .inl (cI, 8, .inl (aI ou))), (a4, .inl (cI, 64, .inl (aI (va_up ok ((j2 * 8) + (ou j2)) j9)))), (a5, .inl (cL, 64, .inr (.inl (aL (va_up og ((j2 * 8) + (ou j2)) j16)))))] H := hP
          have hD : va_D A [(h, .inr (3, [.ref a1, .ref a2, .ref a3, .ref a4, .ref a5, .int (nI n)])), (a1, .inl (cL, 8, .inr (.inl (aL inn)))), (a2, .inl (cI, 8, .inl (aI pk))), (a3, .inl (cI, 8, .inl (aI ou))), (a4, .inl (cI, 64, .inl (aI (va_up ok ((j2 * 8) + (ou j2)) j9)))), (a5, .inl (cL, 64, .inr (.inl (aL (va_up og ((j2 * 8) + (ou j2)) j16)))))] := hD
          refine lv_aload_n hx hb d_Pl_addOut_69 rfl (lv_at hl 1 rfl) ?_
          refine va_get (D := (dC, dI)) (ci := 3) (v := .ref a3) (C := R_Pl) (T := F_Pl) (N := 6) hx hb htg iw_Pl hown hK hP 0 rfl rfl 2 (by decide) (htg _ k1_81) (fun _ h9 => h9) rfl d_Pl_addOut_70 ?_
          refine lv_iload_n hx hb d_Pl_addOut_73 rfl (lv_at hl 2 rfl) ?_
          refine bk_topi (y := nI j2) hx2 ?_
          refine lv_iload hx hb d_Pl_addOut_74 (lv_at hl 0 rfl) ?_
          refine lv_iconst (v := nI 1) hx hb d_Pl_addOut_76 (by decide +kernel) ?_
          refine bk_iadd hx hb d_Pl_addOut_77 ?_
          refine bk_iast (x := nI ((ou j2) + 1)) (f2 := aI (va_up ou j2 ((ou j2) + 1))) hx hb hK hP hD hS 3 0 rfl rfl (by omega) (by decide) (aI_up _ _ _) d_Pl_addOut_78 (fun H locs hP hD hS => ?_)
          have hP : va_P (dC, dI) vwCl [(h, .inr (3, [.ref a1, .ref a2, .ref a3, .ref a4, .ref a5, .int (nI n)])), (a1, .inl (cL, 8, .inr (.inl (aL inn)))), (a2, .inl (cI, 8, .inl (aI pk))), (a3, .inl (cI, 8, .inl (aI (va_up ou j2 ((ou j2) + 1))))), (a4, .inl (cI, 64, .inl (aI (va_up ok ((j2 * 8) + (ou j2)) j9)))), (a5, .inl (cL, 64, .inr (.inl (aL (va_up og ((j2 * 8) + (ou j2)) j16)))))] H := hP
          have hD : va_D A [(h, .inr (3, [.ref a1, .ref a2, .ref a3, .ref a4, .ref a5, .int (nI n)])), (a1, .inl (cL, 8, .inr (.inl (aL inn)))), (a2, .inl (cI, 8, .inl (aI pk))), (a3, .inl (cI, 8, .inl (aI (va_up ou j2 ((ou j2) + 1))))), (a4, .inl (cI, 64, .inl (aI (va_up ok ((j2 * 8) + (ou j2)) j9)))), (a5, .inl (cL, 64, .inr (.inl (aL (va_up og ((j2 * 8) + (ou j2)) j16)))))] := hD
          refine lv_iload hx hb d_Pl_addOut_79 (lv_at hl 0 rfl) ?_
          have hP9 := hP.sub (ws' := [(h, .inr (3, [.ref a1, .ref a2, .ref a3, .ref a4, .ref a5, .int (nI n)])), (a1, .inl (cL, 8, .inr (.inl (aL inn)))), (a2, .inl (cI, 8, .inl (aI pk))), (a3, .inl (cI, 8, .inl (aI (va_up ou j2 ((ou j2) + 1))))), (a4, .inl (cI, 64, .inl (aI (va_up ok ((j2 * 8) + (ou j2)) j9)))), (a5, .inl (cL, 64, .inr (.inl (aL (va_up og ((j2 * 8) + (ou j2)) j16)))))]) [0, 1, 2, 3, 4, 5] rfl
          have hD9 := hD.sub (ws' := [(h, .inr (3, [.ref a1, .ref a2, .ref a3, .ref a4, .ref a5, .int (nI n)])), (a1, .inl (cL, 8, .inr (.inl (aL inn)))), (a2, .inl (cI, 8, .inl (aI pk))), (a3, .inl (cI, 8, .inl (aI (va_up ou j2 ((ou j2) + 1))))), (a4, .inl (cI, 64, .inl (aI (va_up ok ((j2 * 8) + (ou j2)) j9)))), (a5, .inl (cL, 64, .inr (.inl (aL (va_up og ((j2 * 8) + (ou j2)) j16)))))]) [0, 1, 2, 3, 4, 5] (by decide) rfl
          exact W.iret (v := nI (ou j2)) hx hb hr (fun t9 ht9 hW9 => ⟨⟨nI (ou j2), (va_up ou j2 ((ou j2) + 1), va_up ok ((j2 * 8) + (ou j2)) j9, va_up og ((j2 * 8) + (ou j2)) j16), rfl, Or.inl ⟨⟨⟨j2, hj2, hx2⟩, ⟨j9, hj9, hx9⟩, ⟨j16, ha16, hj16, hx16⟩, by rw [hx2, tn_nI (by omega)]; exact c30⟩, by rw [hx2, tn_nI (by omega)], by rw [hx2, hx9, hx16, tn_nI (by omega), tn_nI (by omega), tl_lN (by omega)]⟩, by rw [ht9]; exact hP9, va_K.moved hW9.alike hK, hD9⟩, hS.F ht9⟩) hS.2.2 d_Pl_addOut_81
        · refine lv_iconst (v := oI none) hx hb d_Pl_addOut_33 (by decide +kernel) ?_
          have hP9 := hP.sub (ws' := [(h, .inr (3, [.ref a1, .ref a2, .ref a3, .ref a4, .ref a5, .int (nI n)])), (a1, .inl (cL, 8, .inr (.inl (aL inn)))), (a2, .inl (cI, 8, .inl (aI pk))), (a3, .inl (cI, 8, .inl (aI ou))), (a4, .inl (cI, 64, .inl (aI ok))), (a5, .inl (cL, 64, .inr (.inl (aL og))))]) [0, 1, 2, 3, 4, 5] rfl
          have hD9 := hD.sub (ws' := [(h, .inr (3, [.ref a1, .ref a2, .ref a3, .ref a4, .ref a5, .int (nI n)])), (a1, .inl (cL, 8, .inr (.inl (aL inn)))), (a2, .inl (cI, 8, .inl (aI pk))), (a3, .inl (cI, 8, .inl (aI ou))), (a4, .inl (cI, 64, .inl (aI ok))), (a5, .inl (cL, 64, .inr (.inl (aL og))))]) [0, 1, 2, 3, 4, 5] (by decide) rfl
          exact W.iret (v := oI none) hx hb hr (fun t9 ht9 hW9 => ⟨⟨oI none, (ou, ok, og), rfl, Or.inr ⟨fun z9 => by obtain ⟨y1, y2, y3, y4⟩ := z9; first | contradiction | (rw [hx2, tn_nI (by omega)] at y4; omega), rfl, rfl⟩, by rw [ht9]; exact hP9, va_K.moved hW9.alike hK, hD9⟩, hS.F ht9⟩) hS.2.2 d_Pl_addOut_34
      · refine bk_if_eq (a := 0) (tgt := 33) hx hb (by omega) d_Pl_addOut_19 (by decide) (fun c19 => ?_) (fun c19 => absurd c19 (by decide))
        refine lv_iconst (v := oI none) hx hb d_Pl_addOut_33 (by decide +kernel) ?_
        have hP9 := hP.sub (ws' := [(h, .inr (3, [.ref a1, .ref a2, .ref a3, .ref a4, .ref a5, .int (nI n)])), (a1, .inl (cL, 8, .inr (.inl (aL inn)))), (a2, .inl (cI, 8, .inl (aI pk))), (a3, .inl (cI, 8, .inl (aI ou))), (a4, .inl (cI, 64, .inl (aI ok))), (a5, .inl (cL, 64, .inr (.inl (aL og))))]) [0, 1, 2, 3, 4, 5] rfl
        have hD9 := hD.sub (ws' := [(h, .inr (3, [.ref a1, .ref a2, .ref a3, .ref a4, .ref a5, .int (nI n)])), (a1, .inl (cL, 8, .inr (.inl (aL inn)))), (a2, .inl (cI, 8, .inl (aI pk))), (a3, .inl (cI, 8, .inl (aI ou))), (a4, .inl (cI, 64, .inl (aI ok))), (a5, .inl (cL, 64, .inr (.inl (aL og))))]) [0, 1, 2, 3, 4, 5] (by decide) rfl
        exact W.iret (v := oI none) hx hb hr (fun t9 ht9 hW9 => ⟨⟨oI none, (ou, ok, og), rfl, Or.inr ⟨fun z9 => by obtain ⟨y1, y2, y3, y4⟩ := z9; first | contradiction | (rw [hx2, tn_nI (by omega)] at y4; omega), rfl, rfl⟩, by rw [ht9]; exact hP9, va_K.moved hW9.alike hK, hD9⟩, hS.F ht9⟩) hS.2.2 d_Pl_addOut_34
    · refine bk_if_eq (a := 0) (tgt := 33) hx hb (by omega) d_Pl_addOut_12 (by decide) (fun c12 => ?_) (fun c12 => absurd c12 (by decide))
      refine lv_iconst (v := oI none) hx hb d_Pl_addOut_33 (by decide +kernel) ?_
      have hP9 := hP.sub (ws' := [(h, .inr (3, [.ref a1, .ref a2, .ref a3, .ref a4, .ref a5, .int (nI n)])), (a1, .inl (cL, 8, .inr (.inl (aL inn)))), (a2, .inl (cI, 8, .inl (aI pk))), (a3, .inl (cI, 8, .inl (aI ou))), (a4, .inl (cI, 64, .inl (aI ok))), (a5, .inl (cL, 64, .inr (.inl (aL og))))]) [0, 1, 2, 3, 4, 5] rfl
      have hD9 := hD.sub (ws' := [(h, .inr (3, [.ref a1, .ref a2, .ref a3, .ref a4, .ref a5, .int (nI n)])), (a1, .inl (cL, 8, .inr (.inl (aL inn)))), (a2, .inl (cI, 8, .inl (aI pk))), (a3, .inl (cI, 8, .inl (aI ou))), (a4, .inl (cI, 64, .inl (aI ok))), (a5, .inl (cL, 64, .inr (.inl (aL og))))]) [0, 1, 2, 3, 4, 5] (by decide) rfl
      exact W.iret (v := oI none) hx hb hr (fun t9 ht9 hW9 => ⟨⟨oI none, (ou, ok, og), rfl, Or.inr ⟨fun z9 => by obtain ⟨y1, y2, y3, y4⟩ := z9; first | contradiction | (rw [hx2, tn_nI (by omega)] at y4; omega), rfl, rfl⟩, by rw [ht9]; exact hP9, va_K.moved hW9.alike hK, hD9⟩, hS.F ht9⟩) hS.2.2 d_Pl_addOut_34
  · refine bk_if_eq (a := 0) (tgt := 33) hx hb (by omega) d_Pl_addOut_5 (by decide) (fun c5 => ?_) (fun c5 => absurd c5 (by decide))
    refine lv_iconst (v := oI none) hx hb d_Pl_addOut_33 (by decide +kernel) ?_
    have hP9 := hP.sub (ws' := [(h, .inr (3, [.ref a1, .ref a2, .ref a3, .ref a4, .ref a5, .int (nI n)])), (a1, .inl (cL, 8, .inr (.inl (aL inn)))), (a2, .inl (cI, 8, .inl (aI pk))), (a3, .inl (cI, 8, .inl (aI ou))), (a4, .inl (cI, 64, .inl (aI ok))), (a5, .inl (cL, 64, .inr (.inl (aL og))))]) [0, 1, 2, 3, 4, 5] rfl
    have hD9 := hD.sub (ws' := [(h, .inr (3, [.ref a1, .ref a2, .ref a3, .ref a4, .ref a5, .int (nI n)])), (a1, .inl (cL, 8, .inr (.inl (aL inn)))), (a2, .inl (cI, 8, .inl (aI pk))), (a3, .inl (cI, 8, .inl (aI ou))), (a4, .inl (cI, 64, .inl (aI ok))), (a5, .inl (cL, 64, .inr (.inl (aL og))))]) [0, 1, 2, 3, 4, 5] (by decide) rfl
    exact W.iret (v := oI none) hx hb hr (fun t9 ht9 hW9 => ⟨⟨oI none, (ou, ok, og), rfl, Or.inr ⟨fun z9 => by obtain ⟨y1, y2, y3, y4⟩ := z9; first | contradiction | (rw [hx2, tn_nI (by omega)] at y4; omega), rfl, rfl⟩, by rw [ht9]; exact hP9, va_K.moved hW9.alike hK, hD9⟩, hS.F ht9⟩) hS.2.2 d_Pl_addOut_34
set_option maxHeartbeats 4000000 in
set_option maxRecDepth 100000 in
theorem c_Pl_ownKind (l : Launch) (dC : Nat → ClassId) (dI : Nat → Nat → Nat) (cI cL cZ : ClassId) (h a1 a2 a3 a4 a5 n : Nat) (inn pk ou ok og : Nat → Nat) (p : Nat) (hi : plI n inn pk ou ok og) (hp : p < n) : Met l y_Pl_ownKind ws_Pl_ownKind { frames := 0, cells := 0, slots := 0, locals := 0 } (va_Pc [.ref h, .int (nI p)] (rdP (dC, dI) vwCl [(cI, .int), (cL, .long), (cZ, .boolean)] [(h, .inr (3, [.ref a1, .ref a2, .ref a3, .ref a4, .ref a5, .int (nI n)])), (a1, .inl (cL, 8, .inr (.inl (aL inn)))), (a2, .inl (cI, 8, .inl (aI pk))), (a3, .inl (cI, 8, .inl (aI ou))), (a4, .inl (cI, 64, .inl (aI ok))), (a5, .inl (cL, 64, .inr (.inl (aL og))))])) (vp_Si (fun r => r = nI (ownM ok pk p (ou p)))) 0 0 (fun _ => False) := by
  refine Met.ofW (cc := b_Pl_ownKind) (maxL := 4) (ret := (some .int)) (by decide) rfl ?_
  intro pr en s m args below meth c s₁ B hml hv
  obtain ⟨rfl, hN, hP, hK⟩ := hv
  have hx := B.exec
  have hb := B.bytes
  have hr := B.returns
  have hts := atoms_spec (ws := ws_Pl_ownKind) B.pre
  have htg : ∀ w ∈ gW, w.before _ s = true := fun w h => hts w (List.mem_cons_of_mem _ h)
  have hown : s.vm.findClass R_Pl = some m.cls := findClass_of_methodNamed B.named
  have hlocks := B.notSynchronized
  have hl := lv_entry ([.ref h, .int (nI p)]) (n := 4) (Nat.le_of_ble_eq_true rfl)
  rw [lg_entry_eq]
  generalize (lg_sl ([.ref h, .int (nI p)]) ++ List.replicate (4 - (lg_sl ([.ref h, .int (nI p)])).length) Slot.unset).toArray = ls at hl ⊢
  have hl : lv_has ls 4 [(0, .ref h), (1, .int (nI p))] := hl
  have hn := hi.1
  obtain ⟨f1, f2, f3, f4⟩ := hi.2.1 p hp
  refine lv_iconst (v := nI 0) hx hb d_Pl_ownKind_0 (by decide +kernel) ?_
  refine lv_istore_n (lv' := [(2, .int (nI 0)), (0, .ref h), (1, .int (nI p))]) hx hb d_Pl_ownKind_1 rfl hl (by decide) rfl (fun ls hl => ?_)
  refine lv_iconst (v := nI 0) hx hb d_Pl_ownKind_2 (by decide +kernel) ?_
  refine lv_istore_n (lv' := [(3, .int (nI 0)), (2, .int (nI 0)), (0, .ref h), (1, .int (nI p))]) hx hb d_Pl_ownKind_3 rfl hl (by decide) rfl (fun ls hl => ?_)
  have J4 : ∀ (k : Nat) (i : Nat) (s0 : Nat), (i + k = ou p) → (s0 = ownM ok pk p i) → ∀ (ls : Array Slot), lv_has ls 4 [(0, .ref h), (1, .int (nI p)), (2, .int (nI s0)), (3, .int (nI i))] → W pr l en (headSpec ws_Pl_ownKind { frames := 0, cells := 0, slots := 0, locals := 0 }).room s m ([.ref h, .int (nI p)] : List Value).toArray below meth c s.heap [] 0 0 (MQ below (vp_Si (fun r => r = nI (ownM ok pk p (ou p)))) ([.ref h, .int (nI p)] : List Value).toArray s 0 0 (fun _ => False)) (F0 m 4 ls []) := by
    intro k
    induction k with
    | zero =>
      intro i s0 hk hs0 ls hl
      refine lv_iload_n hx hb d_Pl_ownKind_4 rfl (lv_at hl 3 rfl) ?_
      refine lv_aload_n hx hb d_Pl_ownKind_5 rfl (lv_at hl 0 rfl) ?_
      refine va_get (D := (dC, dI)) (ci := 3) (v := .ref a3) (C := R_Pl) (T := F_Pl) (N := 6) hx hb htg iw_Pl hown hK hP 0 rfl rfl 2 (by decide) (htg _ k1_81) (fun _ h9 => h9) rfl d_Pl_ownKind_6 ?_
      refine lv_iload_n hx hb d_Pl_ownKind_9 rfl (lv_at hl 1 rfl) ?_
      refine bk_iald (v := nI (ou p)) hx hb hK hP 3 0 rfl rfl (by omega) (by decide) rfl d_Pl_ownKind_10 ?_
      refine bk_icmp_ge (a := i) (b := ou p) (tgt := 46) hx hb (by omega) (by omega) d_Pl_ownKind_11 (by decide) (fun c11 => ?_) (fun c11 => by exfalso; omega)
      refine lv_iload_n hx hb d_Pl_ownKind_46 rfl (lv_at hl 2 rfl) ?_
      exact W.iret (v := nI s0) hx hb hr (fun t9 ht9 hW9 => ⟨nI s0, rfl, (by rw [hs0, show i = ou p by omega]), ht9⟩) (fun q h => nomatch h) d_Pl_ownKind_47
    | succ k ih4 =>
      intro i s0 hk hs0 ls hl
      have g1 := (f4 i (by omega)).1
      have hlt := ownM_lt ok pk p i
      refine lv_iload_n hx hb d_Pl_ownKind_4 rfl (lv_at hl 3 rfl) ?_
      refine lv_aload_n hx hb d_Pl_ownKind_5 rfl (lv_at hl 0 rfl) ?_
      refine va_get (D := (dC, dI)) (ci := 3) (v := .ref a3) (C := R_Pl) (T := F_Pl) (N := 6) hx hb htg iw_Pl hown hK hP 0 rfl rfl 2 (by decide) (htg _ k1_81) (fun _ h9 => h9) rfl d_Pl_ownKind_6 ?_
      refine lv_iload_n hx hb d_Pl_ownKind_9 rfl (lv_at hl 1 rfl) ?_
      refine bk_iald (v := nI (ou p)) hx hb hK hP 3 0 rfl rfl (by omega) (by decide) rfl d_Pl_ownKind_10 ?_
      refine bk_icmp_ge (a := i) (b := ou p) (tgt := 46) hx hb (by omega) (by omega) d_Pl_ownKind_11 (by decide) (fun c11 => by exfalso; omega) (fun c11 => ?_)
      refine lv_aload_n hx hb d_Pl_ownKind_14 rfl (lv_at hl 0 rfl) ?_
      refine va_get (D := (dC, dI)) (ci := 3) (v := .ref a4) (C := R_Pl) (T := F_Pl) (N := 6) hx hb htg iw_Pl hown hK hP 0 rfl rfl 3 (by decide) (htg _ k1_82) (fun _ h9 => h9) rfl d_Pl_ownKind_15 ?_
      refine lv_iload_n hx hb d_Pl_ownKind_18 rfl (lv_at hl 1 rfl) ?_
      refine lv_bipush (v := nI 8) hx hb d_Pl_ownKind_19 (by decide +kernel) ?_
      refine bk_imul hx hb d_Pl_ownKind_21 ?_
      refine lv_iload_n hx hb d_Pl_ownKind_22 rfl (lv_at hl 3 rfl) ?_
      refine bk_iadd hx hb d_Pl_ownKind_23 ?_
      refine bk_iald (v := nI (ok ((p * 8) + i))) hx hb hK hP 4 0 rfl rfl (by omega) (by decide) rfl d_Pl_ownKind_24 ?_
      refine lv_aload_n hx hb d_Pl_ownKind_25 rfl (lv_at hl 0 rfl) ?_
      refine va_get (D := (dC, dI)) (ci := 3) (v := .ref a2) (C := R_Pl) (T := F_Pl) (N := 6) hx hb htg iw_Pl hown hK hP 0 rfl rfl 1 (by decide) (htg _ k1_80) (fun _ h9 => h9) rfl d_Pl_ownKind_26 ?_
      refine lv_iload_n hx hb d_Pl_ownKind_29 rfl (lv_at hl 1 rfl) ?_
      refine bk_iald (v := nI (pk p)) hx hb hK hP 2 0 rfl rfl (by omega) (by decide) rfl d_Pl_ownKind_30 ?_
      refine bk_icmp_ne (a := ok ((p * 8) + i)) (b := pk p) (tgt := 40) hx hb (by omega) (by omega) d_Pl_ownKind_31 (by decide) (fun c31 => ?_) (fun c31 => ?_)
      · refine lv_iinc (v := nI (i + 1)) (lv' := [(3, .int (nI (i + 1))), (0, .ref h), (1, .int (nI p)), (2, .int (nI s0))]) hx hb d_Pl_ownKind_40 hl (k := 3) rfl (bk_inc i) (by decide) rfl (fun ls hl => ?_)
        refine lv_goto (tgt := 4) hx hb d_Pl_ownKind_43 (by decide) ?_
        exact ih4 (i + 1) s0 (by omega) (by rw [ownM, hs0, if_neg c31, Nat.add_zero]) ls (lv_sub hl [1, 2, 3, 0] rfl)
      · refine lv_iload_n hx hb d_Pl_ownKind_34 rfl (lv_at hl 2 rfl) ?_
        refine lv_iconst (v := nI 1) hx hb d_Pl_ownKind_35 (by decide +kernel) ?_
        refine lv_iload_n hx hb d_Pl_ownKind_36 rfl (lv_at hl 3 rfl) ?_
        refine lv_ishl hx hb d_Pl_ownKind_37 ?_
        refine lv_ior hx hb d_Pl_ownKind_38 ?_
        refine bk_topi (y := nI (s0 + 2 ^ i)) (bit_or i (by omega) s0 (by rw [hs0]; exact hlt)) ?_
        refine lv_istore_n (lv' := [(2, .int (nI (s0 + 2 ^ i))), (0, .ref h), (1, .int (nI p)), (3, .int (nI i))]) hx hb d_Pl_ownKind_39 rfl hl (by decide) rfl (fun ls hl => ?_)
        refine lv_iinc (v := nI (i + 1)) (lv' := [(3, .int (nI (i + 1))), (2, .int (nI (s0 + 2 ^ i))), (0, .ref h), (1, .int (nI p))]) hx hb d_Pl_ownKind_40 hl (k := 3) rfl (bk_inc i) (by decide) rfl (fun ls hl => ?_)
        refine lv_goto (tgt := 4) hx hb d_Pl_ownKind_43 (by decide) ?_
        exact ih4 (i + 1) (s0 + 2 ^ i) (by omega) (by rw [ownM, hs0, if_pos c31]) ls (lv_sub hl [2, 3, 1, 0] rfl)
  exact J4 (ou p) 0 0 (by omega) rfl ls (lv_sub hl [2, 3, 1, 0] rfl)
set_option maxHeartbeats 4000000 in
set_option maxRecDepth 100000 in
theorem c_Pl_gramsOfSet (l : Launch) (dC : Nat → ClassId) (dI : Nat → Nat → Nat) (cI cL cZ : ClassId) (h a1 a2 a3 a4 a5 n : Nat) (inn pk ou ok og : Nat → Nat) (p s0 : Nat) (hi : plI n inn pk ou ok og) (hp : p < n) (hs : s0 < 256) : Met l y_Pl_gramsOfSet ws_Pl_gramsOfSet { frames := 0, cells := 0, slots := 0, locals := 0 } (va_Pc [.ref h, .int (nI p), .int (nI s0)] (rdP (dC, dI) vwCl [(cI, .int), (cL, .long), (cZ, .boolean)] [(h, .inr (3, [.ref a1, .ref a2, .ref a3, .ref a4, .ref a5, .int (nI n)])), (a1, .inl (cL, 8, .inr (.inl (aL inn)))), (a2, .inl (cI, 8, .inl (aI pk))), (a3, .inl (cI, 8, .inl (aI ou))), (a4, .inl (cI, 64, .inl (aI ok))), (a5, .inl (cL, 64, .inr (.inl (aL og))))])) (vp_Sl (fun r => r = lN (gsum og p s0 (ou p)))) 0 0 (fun _ => False) := by
  refine Met.ofW (cc := b_Pl_gramsOfSet) (maxL := 6) (ret := (some .long)) (by decide) rfl ?_
  intro pr en s m args below meth c s₁ B hml hv
  obtain ⟨rfl, hN, hP, hK⟩ := hv
  have hx := B.exec
  have hb := B.bytes
  have hr := B.returns
  have hts := atoms_spec (ws := ws_Pl_gramsOfSet) B.pre
  have htg : ∀ w ∈ gW, w.before _ s = true := fun w h => hts w (List.mem_cons_of_mem _ h)
  have hown : s.vm.findClass R_Pl = some m.cls := findClass_of_methodNamed B.named
  have hlocks := B.notSynchronized
  have hl := lv_entry ([.ref h, .int (nI p), .int (nI s0)]) (n := 6) (Nat.le_of_ble_eq_true rfl)
  rw [lg_entry_eq]
  generalize (lg_sl ([.ref h, .int (nI p), .int (nI s0)]) ++ List.replicate (6 - (lg_sl ([.ref h, .int (nI p), .int (nI s0)])).length) Slot.unset).toArray = ls at hl ⊢
  have hl : lv_has ls 6 [(0, .ref h), (1, .int (nI p)), (2, .int (nI s0))] := hl
  have hn := hi.1
  obtain ⟨f1, f2, f3, f4⟩ := hi.2.1 p hp
  refine lv_lconst (v := lN 0) hx hb d_Pl_gramsOfSet_0 (by decide +kernel) ?_
  refine lv_lstore_n (lv' := [(3, .long (lN 0)), (0, .ref h), (1, .int (nI p)), (2, .int (nI s0))]) hx hb d_Pl_gramsOfSet_1 rfl hl (by decide) rfl (fun ls hl => ?_)
  refine lv_iconst (v := nI 0) hx hb d_Pl_gramsOfSet_2 (by decide +kernel) ?_
  refine lv_istore (lv' := [(5, .int (nI 0)), (3, .long (lN 0)), (0, .ref h), (1, .int (nI p)), (2, .int (nI s0))]) hx hb d_Pl_gramsOfSet_3 hl (by decide) rfl (fun ls hl => ?_)
  have J5 : ∀ (k : Nat) (i : Nat) (t : Nat), (i + k = ou p) → (t = gsum og p s0 i) → ∀ (ls : Array Slot), lv_has ls 6 [(0, .ref h), (1, .int (nI p)), (2, .int (nI s0)), (3, .long (lN t)), (5, .int (nI i))] → W pr l en (headSpec ws_Pl_gramsOfSet { frames := 0, cells := 0, slots := 0, locals := 0 }).room s m ([.ref h, .int (nI p), .int (nI s0)] : List Value).toArray below meth c s.heap [] 0 0 (MQ below (vp_Sl (fun r => r = lN (gsum og p s0 (ou p)))) ([.ref h, .int (nI p), .int (nI s0)] : List Value).toArray s 0 0 (fun _ => False)) (F0 m 5 ls []) := by
    intro k
    induction k with
    | zero =>
      intro i t hk htt ls hl
      refine lv_iload hx hb d_Pl_gramsOfSet_5 (lv_at hl 4 rfl) ?_
      refine lv_aload_n hx hb d_Pl_gramsOfSet_7 rfl (lv_at hl 0 rfl) ?_
      refine va_get (D := (dC, dI)) (ci := 3) (v := .ref a3) (C := R_Pl) (T := F_Pl) (N := 6) hx hb htg iw_Pl hown hK hP 0 rfl rfl 2 (by decide) (htg _ k1_81) (fun _ h9 => h9) rfl d_Pl_gramsOfSet_8 ?_
      refine lv_iload_n hx hb d_Pl_gramsOfSet_11 rfl (lv_at hl 1 rfl) ?_
      refine bk_iald (v := nI (ou p)) hx hb hK hP 3 0 rfl rfl (by omega) (by decide) rfl d_Pl_gramsOfSet_12 ?_
      refine bk_icmp_ge (a := i) (b := ou p) (tgt := 46) hx hb (by omega) (by omega) d_Pl_gramsOfSet_13 (by decide) (fun c13 => ?_) (fun c13 => by exfalso; omega)
      refine lv_lload_n hx hb d_Pl_gramsOfSet_46 rfl (lv_at hl 3 rfl) ?_
      exact W.lret (v := lN t) hx hb hr (fun t9 ht9 hW9 => ⟨lN t, rfl, (by rw [htt, show i = ou p by omega]), ht9⟩) (fun q h => nomatch h) d_Pl_gramsOfSet_47
    | succ k ih5 =>
      intro i t hk htt ls hl
      have g1 := (f4 i (by omega)).2
      refine lv_iload hx hb d_Pl_gramsOfSet_5 (lv_at hl 4 rfl) ?_
      refine lv_aload_n hx hb d_Pl_gramsOfSet_7 rfl (lv_at hl 0 rfl) ?_
      refine va_get (D := (dC, dI)) (ci := 3) (v := .ref a3) (C := R_Pl) (T := F_Pl) (N := 6) hx hb htg iw_Pl hown hK hP 0 rfl rfl 2 (by decide) (htg _ k1_81) (fun _ h9 => h9) rfl d_Pl_gramsOfSet_8 ?_
      refine lv_iload_n hx hb d_Pl_gramsOfSet_11 rfl (lv_at hl 1 rfl) ?_
      refine bk_iald (v := nI (ou p)) hx hb hK hP 3 0 rfl rfl (by omega) (by decide) rfl d_Pl_gramsOfSet_12 ?_
      refine bk_icmp_ge (a := i) (b := ou p) (tgt := 46) hx hb (by omega) (by omega) d_Pl_gramsOfSet_13 (by decide) (fun c13 => by exfalso; omega) (fun c13 => ?_)
      refine lv_iload_n hx hb d_Pl_gramsOfSet_16 rfl (lv_at hl 2 rfl) ?_
      refine lv_iconst (v := nI 1) hx hb d_Pl_gramsOfSet_17 (by decide +kernel) ?_
      refine lv_iload hx hb d_Pl_gramsOfSet_18 (lv_at hl 4 rfl) ?_
      refine lv_ishl hx hb d_Pl_gramsOfSet_20 ?_
      refine lv_iand hx hb d_Pl_gramsOfSet_21 ?_
      refine lv_if_eq (x := ((nI s0) &&& ((nI 1) <<< ((nI i) &&& 31)))) (tgt := 40) hx hb d_Pl_gramsOfSet_22 (by decide) (fun c22 => ?_) (fun c22 => ?_)
      · refine lv_iinc (v := nI (i + 1)) (lv' := [(5, .int (nI (i + 1))), (0, .ref h), (1, .int (nI p)), (2, .int (nI s0)), (3, .long (lN t))]) hx hb d_Pl_gramsOfSet_40 hl (k := 4) rfl (bk_inc i) (by decide) rfl (fun ls hl => ?_)
        refine lv_goto (tgt := 5) hx hb d_Pl_gramsOfSet_43 (by decide) ?_
        exact ih5 (i + 1) t (by omega) (by rw [gsum, htt, if_neg (by rw [(bit_and s0 hs i (by omega)).mp c22]; decide), Nat.add_zero]) ls (lv_sub hl [1, 2, 3, 4, 0] rfl)
      · refine lv_lload_n hx hb d_Pl_gramsOfSet_25 rfl (lv_at hl 3 rfl) ?_
        refine lv_aload_n hx hb d_Pl_gramsOfSet_26 rfl (lv_at hl 0 rfl) ?_
        refine va_get (D := (dC, dI)) (ci := 3) (v := .ref a5) (C := R_Pl) (T := F_Pl) (N := 6) hx hb htg iw_Pl hown hK hP 0 rfl rfl 4 (by decide) (htg _ k1_83) (fun _ h9 => h9) rfl d_Pl_gramsOfSet_27 ?_
        refine lv_iload_n hx hb d_Pl_gramsOfSet_30 rfl (lv_at hl 1 rfl) ?_
        refine lv_bipush (v := nI 8) hx hb d_Pl_gramsOfSet_31 (by decide +kernel) ?_
        refine bk_imul hx hb d_Pl_gramsOfSet_33 ?_
        refine lv_iload hx hb d_Pl_gramsOfSet_34 (lv_at hl 4 rfl) ?_
        refine bk_iadd hx hb d_Pl_gramsOfSet_36 ?_
        refine bk_lald (v := lN (og ((p * 8) + i))) hx hb hK hP 5 1 rfl rfl (by omega) (by decide) rfl d_Pl_gramsOfSet_37 ?_
        refine bk_ladd hx hb d_Pl_gramsOfSet_38 ?_
        refine lv_lstore_n (lv' := [(3, .long (lN (t + (og ((p * 8) + i))))), (0, .ref h), (1, .int (nI p)), (2, .int (nI s0)), (5, .int (nI i))]) hx hb d_Pl_gramsOfSet_39 rfl hl (by decide) rfl (fun ls hl => ?_)
        refine lv_iinc (v := nI (i + 1)) (lv' := [(5, .int (nI (i + 1))), (3, .long (lN (t + (og ((p * 8) + i))))), (0, .ref h), (1, .int (nI p)), (2, .int (nI s0))]) hx hb d_Pl_gramsOfSet_40 hl (k := 4) rfl (bk_inc i) (by decide) rfl (fun ls hl => ?_)
        refine lv_goto (tgt := 5) hx hb d_Pl_gramsOfSet_43 (by decide) ?_
        exact ih5 (i + 1) (t + (og ((p * 8) + i))) (by omega) (by rw [gsum, htt, if_pos (by cases e : s0.testBit i with | true => rfl | false => exact absurd ((bit_and s0 hs i (by omega)).mpr e) c22)]) ls (lv_sub hl [2, 3, 4, 1, 0] rfl)
  exact J5 (ou p) 0 0 (by omega) rfl ls (lv_sub hl [2, 3, 4, 1, 0] rfl)
set_option maxHeartbeats 4000000 in
set_option maxRecDepth 100000 in
theorem c_Pl_lackOf (l : Launch) (dC : Nat → ClassId) (dI : Nat → Nat → Nat) (cI cL cZ : ClassId) (h a1 a2 a3 a4 a5 n : Nat) (inn pk ou ok og : Nat → Nat) (p : Nat) (hi : plI n inn pk ou ok og) (hp : p < n) : Met l y_Pl_lackOf ws_Pl_lackOf { frames := 1, cells := 0, slots := 0, locals := 25 } (va_Pc [.ref h, .int (nI p)] (rdP (dC, dI) vwCl [(cI, .int), (cL, .long), (cZ, .boolean)] [(h, .inr (3, [.ref a1, .ref a2, .ref a3, .ref a4, .ref a5, .int (nI n)])), (a1, .inl (cL, 8, .inr (.inl (aL inn)))), (a2, .inl (cI, 8, .inl (aI pk))), (a3, .inl (cI, 8, .inl (aI ou))), (a4, .inl (cI, 64, .inl (aI ok))), (a5, .inl (cL, 64, .inr (.inl (aL og))))])) (vp_Sl (fun r => r = lN (lackN inn pk ou ok og p))) 0 0 (fun _ => False) := by
  refine Met.ofW (cc := b_Pl_lackOf) (maxL := 2) (ret := (some .long)) (by decide) rfl ?_
  intro pr en s m args below meth c s₁ B hml hv
  obtain ⟨rfl, hN, hP, hK⟩ := hv
  have hx := B.exec
  have hb := B.bytes
  have hr := B.returns
  have hts := atoms_spec (ws := ws_Pl_lackOf) B.pre
  have htg : ∀ w ∈ gW, w.before _ s = true := fun w h => hts w (List.mem_cons_of_mem _ h)
  have hown : s.vm.findClass R_Pl = some m.cls := findClass_of_methodNamed B.named
  have hlocks := B.notSynchronized
  have hl := lv_entry ([.ref h, .int (nI p)]) (n := 2) (Nat.le_of_ble_eq_true rfl)
  rw [lg_entry_eq]
  generalize (lg_sl ([.ref h, .int (nI p)]) ++ List.replicate (2 - (lg_sl ([.ref h, .int (nI p)])).length) Slot.unset).toArray = ls at hl ⊢
  have hl : lv_has ls 2 [(0, .ref h), (1, .int (nI p))] := hl
  have hn := hi.1
  obtain ⟨f1, f2, f3, f4⟩ := hi.2.1 p hp
  have hg := gsum_le (og := og) (p := p) (s := ownM ok pk p (ou p)) (ou p) (fun i hi9 => (f4 i hi9).2)
  refine lv_aload_n hx hb d_Pl_lackOf_0 rfl (lv_at hl 0 rfl) ?_
  refine lv_iload_n hx hb d_Pl_lackOf_1 rfl (lv_at hl 1 rfl) ?_
  refine vp_callSi (va_runV (As := [.int (nI p)]) (rest := []) ⟨hx, hb, hml, hown, htg⟩ (c_Pl_has l dC dI cI cL cZ h a1 a2 a3 a4 a5 n (nI p) (by omega)) (cwV 1 htg (gdV k2_63 k2_64 k2_65 k1_4 kc_Pl_has) rfl rfl rfl (by decide +kernel) ⟨Nat.le_of_ble_eq_true rfl, Nat.le_of_ble_eq_true rfl⟩) ⟨bk_blind, va_recv hK hP (ci := 3) (q0 := 0) rfl rfl, fun U hU hW => ⟨rfl, nw_warm hW hN, by rw [hU]; exact hP.sub [0] rfl, va_K.moved hW.alike hK⟩⟩ rfl rfl hl.1 rfl (lv_room (Nat.le_of_ble_eq_true rfl)) d_Pl_lackOf_2 ⟨Nat.le_of_ble_eq_true rfl, Nat.le_of_ble_eq_true rfl⟩).run (fun r2 e2 => ?_)
  obtain ⟨-, rfl⟩ := e2.resolve_right (fun z9 => z9.1 ⟨p, hp, rfl⟩)
  refine bk_if_eq (a := 1) (tgt := 32) hx hb (by omega) d_Pl_lackOf_5 (by decide) (fun c5 => absurd c5 (by decide)) (fun c5 => ?_)
  refine lv_lconst (v := lN 0) hx hb d_Pl_lackOf_8 (by decide +kernel) ?_
  refine lv_aload_n hx hb d_Pl_lackOf_9 rfl (lv_at hl 0 rfl) ?_
  refine lv_iload_n hx hb d_Pl_lackOf_10 rfl (lv_at hl 1 rfl) ?_
  refine lv_aload_n hx hb d_Pl_lackOf_11 rfl (lv_at hl 0 rfl) ?_
  refine lv_iload_n hx hb d_Pl_lackOf_12 rfl (lv_at hl 1 rfl) ?_
  refine vp_callSi (va_runV (As := [.int (nI p)]) (rest := [.int (nI p), .ref h, .long (lN 0)]) ⟨hx, hb, hml, hown, htg⟩ (c_Pl_ownKind l dC dI cI cL cZ h a1 a2 a3 a4 a5 n inn pk ou ok og p hi hp) (cwV 1 htg (gdV k2_77 k2_79 ks_Pl_ownKind k1_4 kc_Pl_ownKind) rfl rfl rfl (by decide +kernel) ⟨Nat.le_of_ble_eq_true rfl, Nat.le_of_ble_eq_true rfl⟩) ⟨bk_blind, va_recv hK hP (ci := 3) (q0 := 0) rfl rfl, fun U hU hW => ⟨rfl, nw_warm hW hN, by rw [hU]; exact hP.sub [0, 1, 2, 3, 4, 5] rfl, va_K.moved hW.alike hK⟩⟩ rfl rfl hl.1 rfl (lv_room (Nat.le_of_ble_eq_true rfl)) d_Pl_lackOf_13 ⟨Nat.le_of_ble_eq_true rfl, Nat.le_of_ble_eq_true rfl⟩).run (fun r13 e13 => ?_)
  subst e13
  refine vp_callSl (va_runV (As := [.int (nI p), .int (nI (ownM ok pk p (ou p)))]) (rest := [.long (lN 0)]) ⟨hx, hb, hml, hown, htg⟩ (c_Pl_gramsOfSet l dC dI cI cL cZ h a1 a2 a3 a4 a5 n inn pk ou ok og p (ownM ok pk p (ou p)) hi hp (ownM_256 f3)) (cwV 2 htg (gdV k2_81 k2_83 ks_Pl_gramsOfSet k1_4 kc_Pl_gramsOfSet) rfl rfl rfl (by decide +kernel) ⟨Nat.le_of_ble_eq_true rfl, Nat.le_of_ble_eq_true rfl⟩) ⟨bk_blind, va_recv hK hP (ci := 3) (q0 := 0) rfl rfl, fun U hU hW => ⟨rfl, nw_warm hW hN, by rw [hU]; exact hP.sub [0, 1, 2, 3, 4, 5] rfl, va_K.moved hW.alike hK⟩⟩ rfl rfl hl.1 rfl (lv_room (Nat.le_of_ble_eq_true rfl)) d_Pl_lackOf_16 ⟨Nat.le_of_ble_eq_true rfl, Nat.le_of_ble_eq_true rfl⟩).run (fun r16 e16 => ?_)
  subst e16
  refine lv_aload_n hx hb d_Pl_lackOf_19 rfl (lv_at hl 0 rfl) ?_
  refine va_get (D := (dC, dI)) (ci := 3) (v := .ref a1) (C := R_Pl) (T := F_Pl) (N := 6) hx hb htg iw_Pl hown hK hP 0 rfl rfl 0 (by decide) (htg _ k1_79) (fun _ h9 => h9) rfl d_Pl_lackOf_20 ?_
  refine lv_iload_n hx hb d_Pl_lackOf_23 rfl (lv_at hl 1 rfl) ?_
  refine bk_lald (v := lN (inn p)) hx hb hK hP 1 1 rfl rfl (by omega) (by decide) rfl d_Pl_lackOf_24 ?_
  refine lv_lsub hx hb d_Pl_lackOf_25 ?_
  refine va_mmax_long hx hb (by rw [hml]; exact hl.1.symm) hown (htg _ k2_85) (htg _ k1_238) (htg _ k1_10) (htg _ k1_239) (Nat.le_of_ble_eq_true rfl) (Nat.le_of_ble_eq_true rfl) (Nat.le_of_ble_eq_true rfl) (Nat.le_of_ble_eq_true rfl) d_Pl_lackOf_26 ?_
  refine bk_topl (y := lN (lackN inn pk ou ok og p)) (bk_max0L (by omega) (by omega)) ?_
  refine lv_goto (tgt := 33) hx hb d_Pl_lackOf_29 (by decide) ?_
  exact W.lret (v := lN (lackN inn pk ou ok og p)) hx hb hr (fun t9 ht9 hW9 => ⟨lN (lackN inn pk ou ok og p), rfl, rfl, ht9⟩) (fun q h => nomatch h) d_Pl_lackOf_33
set_option maxHeartbeats 4000000 in
set_option maxRecDepth 100000 in
theorem c_Pl_isBefore (l : Launch) (dC : Nat → ClassId) (dI : Nat → Nat → Nat) (cI cL cZ : ClassId) (s0 t0 : Nat) (hs : s0 < 256) (ht : t0 < 256) : Met l y_Pl_isBefore ws_Pl_isBefore { frames := 1, cells := 0, slots := 0, locals := 20 } (va_Pc [.int (nI s0), .int (nI t0)] (fun _ => True)) (vp_Si (fun r => (bfP s0 t0 ∧ r = nI 1) ∨ (¬ bfP s0 t0 ∧ r = nI 0))) 0 0 (fun _ => False) := by
  refine Met.ofW (cc := b_Pl_isBefore) (maxL := 5) (ret := (some .boolean)) (by decide) rfl ?_
  intro pr en s m args below meth c s₁ B hml hv
  obtain ⟨rfl, -⟩ := hv
  have hx := B.exec
  have hb := B.bytes
  have hr := B.returns
  have hts := atoms_spec (ws := ws_Pl_isBefore) B.pre
  have htg : ∀ w ∈ gW, w.before _ s = true := fun w h => hts w (List.mem_cons_of_mem _ h)
  have hown : s.vm.findClass R_Pl = some m.cls := findClass_of_methodNamed B.named
  have hlocks := B.notSynchronized
  have hl := lv_entry ([.int (nI s0), .int (nI t0)]) (n := 5) (Nat.le_of_ble_eq_true rfl)
  rw [lg_entry_eq]
  generalize (lg_sl ([.int (nI s0), .int (nI t0)]) ++ List.replicate (5 - (lg_sl ([.int (nI s0), .int (nI t0)])).length) Slot.unset).toArray = ls at hl ⊢
  have hl : lv_has ls 5 [(0, .int (nI s0)), (1, .int (nI t0))] := hl
  refine lv_iload_n hx hb d_Pl_isBefore_0 rfl (lv_at hl 1 rfl) ?_
  refine vp_callSi (va_runS (As := [.int (nI t0)]) (rest := []) ⟨hx, hb, hml, hown, htg⟩ (c_In_bitCount l dC dI cI cL cZ (nI t0) ) (va_cwS 1 htg (gdS k2_99 k2_100 k1_15 kc_In_bitCount) rfl rfl rfl (by decide +kernel) ⟨Nat.le_of_ble_eq_true rfl, Nat.le_of_ble_eq_true rfl⟩) ⟨bk_blind0, fun U hU hW => ⟨rfl, trivial⟩⟩ rfl rfl hl.1 rfl (lv_room (Nat.le_of_ble_eq_true rfl)) d_Pl_isBefore_1 ⟨Nat.le_of_ble_eq_true rfl, Nat.le_of_ble_eq_true rfl⟩).run (fun r1 e1 => ?_)
  rw [bcF_nat t0 ht] at e1
  subst e1
  refine lv_iload_n hx hb d_Pl_isBefore_4 rfl (lv_at hl 0 rfl) ?_
  refine vp_callSi (va_runS (As := [.int (nI s0)]) (rest := [.int (nI (popc t0))]) ⟨hx, hb, hml, hown, htg⟩ (c_In_bitCount l dC dI cI cL cZ (nI s0) ) (va_cwS 1 htg (gdS k2_99 k2_100 k1_15 kc_In_bitCount) rfl rfl rfl (by decide +kernel) ⟨Nat.le_of_ble_eq_true rfl, Nat.le_of_ble_eq_true rfl⟩) ⟨bk_blind0, fun U hU hW => ⟨rfl, trivial⟩⟩ rfl rfl hl.1 rfl (lv_room (Nat.le_of_ble_eq_true rfl)) d_Pl_isBefore_5 ⟨Nat.le_of_ble_eq_true rfl, Nat.le_of_ble_eq_true rfl⟩).run (fun r5 e5 => ?_)
  rw [bcF_nat s0 hs] at e5
  subst e5
  refine lv_isub hx hb d_Pl_isBefore_8 ?_
  refine lv_istore_n (lv' := [(2, .int ((nI (popc t0)) - (nI (popc s0)))), (0, .int (nI s0)), (1, .int (nI t0))]) hx hb d_Pl_isBefore_9 rfl hl (by decide) rfl (fun ls hl => ?_)
  refine lv_iload_n hx hb d_Pl_isBefore_10 rfl (lv_at hl 1 rfl) ?_
  refine lv_iload_n hx hb d_Pl_isBefore_11 rfl (lv_at hl 2 rfl) ?_
  refine lv_ixor hx hb d_Pl_isBefore_12 ?_
  refine lv_istore_n (lv' := [(3, .int ((nI s0) ^^^ (nI t0))), (2, .int ((nI (popc t0)) - (nI (popc s0)))), (0, .int (nI s0)), (1, .int (nI t0))]) hx hb d_Pl_isBefore_13 rfl hl (by decide) rfl (fun ls hl => ?_)
  refine lv_iload_n hx hb d_Pl_isBefore_14 rfl (lv_at hl 0 rfl) ?_
  refine lv_iload_n hx hb d_Pl_isBefore_15 rfl (lv_at hl 0 rfl) ?_
  refine lv_ineg hx hb d_Pl_isBefore_16 ?_
  refine lv_iand hx hb d_Pl_isBefore_17 ?_
  refine lv_istore (lv' := [(4, .int (((nI s0) ^^^ (nI t0)) &&& (-((nI s0) ^^^ (nI t0))))), (3, .int ((nI s0) ^^^ (nI t0))), (2, .int ((nI (popc t0)) - (nI (popc s0)))), (0, .int (nI s0)), (1, .int (nI t0))]) hx hb d_Pl_isBefore_18 hl (by decide) rfl (fun ls hl => ?_)
  refine lv_iload_n hx hb d_Pl_isBefore_20 rfl (lv_at hl 2 rfl) ?_
  refine lv_if_gt (x := ((nI (popc t0)) - (nI (popc s0)))) (tgt := 35) hx hb d_Pl_isBefore_21 (by decide) (fun c21 => ?_) (fun c21 => ?_)
  · refine lv_iconst (v := nI 1) hx hb d_Pl_isBefore_35 (by decide +kernel) ?_
    refine lv_goto (tgt := 40) hx hb d_Pl_isBefore_36 (by decide) ?_
    exact W.zret (v := nI 1) (ty := .boolean) hx hb hr rfl (fun t9 ht9 hW9 => ⟨nI 1, rfl, Or.inl ⟨by first | exact Or.inl c21 | exact Or.inr ⟨c25, c32⟩, rfl⟩, ht9⟩) (fun q h => nomatch h) d_Pl_isBefore_40
  · refine lv_iload_n hx hb d_Pl_isBefore_24 rfl (lv_at hl 2 rfl) ?_
    refine lv_if_ne (x := ((nI (popc t0)) - (nI (popc s0)))) (tgt := 39) hx hb d_Pl_isBefore_25 (by decide) (fun c25 => ?_) (fun c25 => ?_)
    · refine lv_iconst (v := nI 0) hx hb d_Pl_isBefore_39 (by decide +kernel) ?_
      exact W.zret (v := nI 0) (ty := .boolean) hx hb hr rfl (fun t9 ht9 hW9 => ⟨nI 0, rfl, Or.inr ⟨fun z9 => z9.elim (fun y => c21 y) (fun y => by first | exact y.2 c32 | exact c25 y.1), rfl⟩, ht9⟩) (fun q h => nomatch h) d_Pl_isBefore_40
    · refine lv_iload_n hx hb d_Pl_isBefore_28 rfl (lv_at hl 3 rfl) ?_
      refine lv_iload hx hb d_Pl_isBefore_29 (lv_at hl 0 rfl) ?_
      refine lv_iand hx hb d_Pl_isBefore_31 ?_
      refine lv_if_eq (x := ((nI s0) &&& (((nI s0) ^^^ (nI t0)) &&& (-((nI s0) ^^^ (nI t0)))))) (tgt := 39) hx hb d_Pl_isBefore_32 (by decide) (fun c32 => ?_) (fun c32 => ?_)
      · refine lv_iconst (v := nI 0) hx hb d_Pl_isBefore_39 (by decide +kernel) ?_
        exact W.zret (v := nI 0) (ty := .boolean) hx hb hr rfl (fun t9 ht9 hW9 => ⟨nI 0, rfl, Or.inr ⟨fun z9 => z9.elim (fun y => c21 y) (fun y => by first | exact y.2 c32 | exact c25 y.1), rfl⟩, ht9⟩) (fun q h => nomatch h) d_Pl_isBefore_40
      · refine lv_iconst (v := nI 1) hx hb d_Pl_isBefore_35 (by decide +kernel) ?_
        refine lv_goto (tgt := 40) hx hb d_Pl_isBefore_36 (by decide) ?_
        exact W.zret (v := nI 1) (ty := .boolean) hx hb hr rfl (fun t9 ht9 hW9 => ⟨nI 1, rfl, Or.inl ⟨by first | exact Or.inl c21 | exact Or.inr ⟨c25, c32⟩, rfl⟩, ht9⟩) (fun q h => nomatch h) d_Pl_isBefore_40
set_option maxHeartbeats 4000000 in
set_option maxRecDepth 100000 in
theorem c_Pl_leastSet (l : Launch) (dC : Nat → ClassId) (dI : Nat → Nat → Nat) (cI cL cZ : ClassId) (h a1 a2 a3 a4 a5 n : Nat) (inn pk ou ok og : Nat → Nat) (p : Nat) (hi : plI n inn pk ou ok og) (hp : p < n) : Met l y_Pl_leastSet ws_Pl_leastSet { frames := 2, cells := 0, slots := 0, locals := 46 } (va_Pc [.ref h, .int (nI p)] (rdP (dC, dI) vwCl [(cI, .int), (cL, .long), (cZ, .boolean)] [(h, .inr (3, [.ref a1, .ref a2, .ref a3, .ref a4, .ref a5, .int (nI n)])), (a1, .inl (cL, 8, .inr (.inl (aL inn)))), (a2, .inl (cI, 8, .inl (aI pk))), (a3, .inl (cI, 8, .inl (aI ou))), (a4, .inl (cI, 64, .inl (aI ok))), (a5, .inl (cL, 64, .inr (.inl (aL og))))])) (vp_Si (fun r => r = nI (lsR inn pk ou ok og p))) 0 0 (fun _ => False) := by
  refine Met.ofW (cc := b_Pl_leastSet) (maxL := 8) (ret := (some .int)) (by decide) rfl ?_
  intro pr en s m args below meth c s₁ B hml hv
  obtain ⟨rfl, hN, hP, hK⟩ := hv
  have hx := B.exec
  have hb := B.bytes
  have hr := B.returns
  have hts := atoms_spec (ws := ws_Pl_leastSet) B.pre
  have htg : ∀ w ∈ gW, w.before _ s = true := fun w h => hts w (List.mem_cons_of_mem _ h)
  have hown : s.vm.findClass R_Pl = some m.cls := findClass_of_methodNamed B.named
  have hlocks := B.notSynchronized
  have hl := lv_entry ([.ref h, .int (nI p)]) (n := 8) (Nat.le_of_ble_eq_true rfl)
  rw [lg_entry_eq]
  generalize (lg_sl ([.ref h, .int (nI p)]) ++ List.replicate (8 - (lg_sl ([.ref h, .int (nI p)])).length) Slot.unset).toArray = ls at hl ⊢
  have hl : lv_has ls 8 [(0, .ref h), (1, .int (nI p))] := hl
  have hn := hi.1
  obtain ⟨f1, f2, f3, f4⟩ := hi.2.1 p hp
  have ho := ownM_256 (ok := ok) (pk := pk) (p := p) f3
  have hg := gsum_le (og := og) (p := p) (s := ownM ok pk p (ou p)) (ou p) (fun i hi9 => (f4 i hi9).2)
  have hlk : lackN inn pk ou ok og p ≤ 8000000000 := by unfold lackN; omega
  refine lv_aload_n hx hb d_Pl_leastSet_0 rfl (lv_at hl 0 rfl) ?_
  refine lv_iload_n hx hb d_Pl_leastSet_1 rfl (lv_at hl 1 rfl) ?_
  refine vp_callSl (va_runV (As := [.int (nI p)]) (rest := []) ⟨hx, hb, hml, hown, htg⟩ (c_Pl_lackOf l dC dI cI cL cZ h a1 a2 a3 a4 a5 n inn pk ou ok og p hi hp) (cwV 1 htg (gdV k2_95 k2_74 k2_75 k1_4 kc_Pl_lackOf) rfl rfl rfl (by decide +kernel) ⟨Nat.le_of_ble_eq_true rfl, Nat.le_of_ble_eq_true rfl⟩) ⟨bk_blind, va_recv hK hP (ci := 3) (q0 := 0) rfl rfl, fun U hU hW => ⟨rfl, nw_warm hW hN, by rw [hU]; exact hP.sub [0, 1, 2, 3, 4, 5] rfl, va_K.moved hW.alike hK⟩⟩ rfl rfl hl.1 rfl (lv_room (Nat.le_of_ble_eq_true rfl)) d_Pl_leastSet_2 ⟨Nat.le_of_ble_eq_true rfl, Nat.le_of_ble_eq_true rfl⟩).run (fun r2 e2 => ?_)
  subst e2
  refine lv_lstore_n (lv' := [(2, .long (lN (lackN inn pk ou ok og p))), (0, .ref h), (1, .int (nI p))]) hx hb d_Pl_leastSet_5 rfl hl (by decide) rfl (fun ls hl => ?_)
  refine lv_lload_n hx hb d_Pl_leastSet_6 rfl (lv_at hl 0 rfl) ?_
  refine lv_lconst (v := lN 0) hx hb d_Pl_leastSet_7 (by decide +kernel) ?_
  refine bk_ncmp_gt (a := lackN inn pk ou ok og p) (b := 0) (tgt := 14) hx hb (by omega) (by omega) d_Pl_leastSet_8 d_Pl_leastSet_9 (by decide) (fun c8 => ?_) (fun c8 => ?_)
  · refine lv_aload_n hx hb d_Pl_leastSet_14 rfl (lv_at hl 1 rfl) ?_
    refine lv_iload_n hx hb d_Pl_leastSet_15 rfl (lv_at hl 2 rfl) ?_
    refine vp_callSi (va_runV (As := [.int (nI p)]) (rest := []) ⟨hx, hb, hml, hown, htg⟩ (c_Pl_ownKind l dC dI cI cL cZ h a1 a2 a3 a4 a5 n inn pk ou ok og p hi hp) (cwV 1 htg (gdV k2_77 k2_79 ks_Pl_ownKind k1_4 kc_Pl_ownKind) rfl rfl rfl (by decide +kernel) ⟨Nat.le_of_ble_eq_true rfl, Nat.le_of_ble_eq_true rfl⟩) ⟨bk_blind, va_recv hK hP (ci := 3) (q0 := 0) rfl rfl, fun U hU hW => ⟨rfl, nw_warm hW hN, by rw [hU]; exact hP.sub [0, 1, 2, 3, 4, 5] rfl, va_K.moved hW.alike hK⟩⟩ rfl rfl hl.1 rfl (lv_room (Nat.le_of_ble_eq_true rfl)) d_Pl_leastSet_16 ⟨Nat.le_of_ble_eq_true rfl, Nat.le_of_ble_eq_true rfl⟩).run (fun r16 e16 => ?_)
    subst e16
    refine lv_istore (lv' := [(4, .int (nI (ownM ok pk p (ou p)))), (2, .long (lN (lackN inn pk ou ok og p))), (0, .ref h), (1, .int (nI p))]) hx hb d_Pl_leastSet_19 hl (by decide) rfl (fun ls hl => ?_)
    refine lv_iload hx hb d_Pl_leastSet_21 (lv_at hl 0 rfl) ?_
    refine lv_istore (lv' := [(5, .int (nI (ownM ok pk p (ou p)))), (4, .int (nI (ownM ok pk p (ou p)))), (2, .long (lN (lackN inn pk ou ok og p))), (0, .ref h), (1, .int (nI p))]) hx hb d_Pl_leastSet_23 hl (by decide) rfl (fun ls hl => ?_)
    refine lv_iconst (v := nI 1) hx hb d_Pl_leastSet_25 (by decide +kernel) ?_
    refine lv_istore (lv' := [(6, .int (nI 1)), (5, .int (nI (ownM ok pk p (ou p)))), (4, .int (nI (ownM ok pk p (ou p)))), (2, .long (lN (lackN inn pk ou ok og p))), (0, .ref h), (1, .int (nI p))]) hx hb d_Pl_leastSet_26 hl (by decide) rfl (fun ls hl => ?_)
    have J28 : ∀ (k : Nat) (q : Nat) (b : Nat), (q + k = ownM ok pk p (ou p)) → (b = (lsF (ownM ok pk p (ou p)) (lackN inn pk ou ok og p) og p (ou p) q)) → ∀ (ls : Array Slot), lv_has ls 8 [(0, .ref h), (1, .int (nI p)), (2, .long (lN (lackN inn pk ou ok og p))), (4, .int (nI (ownM ok pk p (ou p)))), (5, .int (nI b)), (6, .int (nI (q + 1)))] → W pr l en (headSpec ws_Pl_leastSet { frames := 2, cells := 0, slots := 0, locals := 46 }).room s m ([.ref h, .int (nI p)] : List Value).toArray below meth c s.heap [] 0 0 (MQ below (vp_Si (fun r => r = nI (lsR inn pk ou ok og p))) ([.ref h, .int (nI p)] : List Value).toArray s 0 0 (fun _ => False)) (F0 m 28 ls []) := by
      intro k
      induction k with
      | zero =>
        intro q b hk hbb ls hl
        have hb6 : b < 256 := by rw [hbb]; exact lsF_lt ho q (by omega)
        refine lv_iload hx hb d_Pl_leastSet_28 (lv_at hl 5 rfl) ?_
        refine lv_iload hx hb d_Pl_leastSet_30 (lv_at hl 3 rfl) ?_
        refine bk_icmp_gt (a := q + 1) (b := ownM ok pk p (ou p)) (tgt := 89) hx hb (by omega) (by omega) d_Pl_leastSet_32 (by decide) (fun c32 => ?_) (fun c32 => by exfalso; omega)
        refine lv_iload hx hb d_Pl_leastSet_89 (lv_at hl 4 rfl) ?_
        exact W.iret (v := nI b) hx hb hr (fun t9 ht9 hW9 => ⟨nI b, rfl, (by rw [lsR, if_neg (by omega), hbb, show q = ownM ok pk p (ou p) by omega]), ht9⟩) (fun q h => nomatch h) d_Pl_leastSet_91
      | succ k ih28 =>
        intro q b hk hbb ls hl
        have hb6 : b < 256 := by rw [hbb]; exact lsF_lt ho q (by omega)
        have hg2 := gsum_le (og := og) (p := p) (s := q + 1) (ou p) (fun i hi9 => (f4 i hi9).2)
        refine lv_iload hx hb d_Pl_leastSet_28 (lv_at hl 5 rfl) ?_
        refine lv_iload hx hb d_Pl_leastSet_30 (lv_at hl 3 rfl) ?_
        refine bk_icmp_gt (a := q + 1) (b := ownM ok pk p (ou p)) (tgt := 89) hx hb (by omega) (by omega) d_Pl_leastSet_32 (by decide) (fun c32 => by exfalso; omega) (fun c32 => ?_)
        refine lv_iload hx hb d_Pl_leastSet_35 (lv_at hl 5 rfl) ?_
        refine lv_iload hx hb d_Pl_leastSet_37 (lv_at hl 3 rfl) ?_
        refine lv_iconst (v := oI none) hx hb d_Pl_leastSet_39 (by decide +kernel) ?_
        refine lv_ixor hx hb d_Pl_leastSet_40 ?_
        refine lv_iand hx hb d_Pl_leastSet_41 ?_
        refine lv_if_ne (x := ((nI (q + 1)) &&& ((nI (ownM ok pk p (ou p))) ^^^ (oI none)))) (tgt := 49) hx hb d_Pl_leastSet_42 (by decide) (fun c42 => ?_) (fun c42 => ?_)
        · refine lv_iconst (v := nI 0) hx hb d_Pl_leastSet_49 (by decide +kernel) ?_
          refine lv_istore (lv' := [(7, .int (nI 0)), (0, .ref h), (1, .int (nI p)), (2, .long (lN (lackN inn pk ou ok og p))), (4, .int (nI (ownM ok pk p (ou p)))), (5, .int (nI b)), (6, .int (nI (q + 1)))]) hx hb d_Pl_leastSet_50 hl (by decide) rfl (fun ls hl => ?_)
          refine lv_iload hx hb d_Pl_leastSet_52 (lv_at hl 0 rfl) ?_
          refine bk_if_eq (a := 0) (tgt := 83) hx hb (by omega) d_Pl_leastSet_54 (by decide) (fun c54 => ?_) (fun c54 => absurd c54 (by decide))
          refine lv_iinc (v := nI (q + 1 + 1)) (lv' := [(6, .int (nI (q + 1 + 1))), (7, .int (nI 0)), (0, .ref h), (1, .int (nI p)), (2, .long (lN (lackN inn pk ou ok og p))), (4, .int (nI (ownM ok pk p (ou p)))), (5, .int (nI b))]) hx hb d_Pl_leastSet_83 hl (k := 6) rfl (bk_inc (q + 1)) (by decide) rfl (fun ls hl => ?_)
          refine lv_goto (tgt := 28) hx hb d_Pl_leastSet_86 (by decide) ?_
          exact ih28 (q + 1) b (by omega) (by rw [← lsF_no (by rintro ⟨y1, y2, y3⟩; rw [← hbb] at y2; first | exact c42 y1 | exact n61 y2 | omega)]; exact hbb) ls (lv_sub hl [2, 3, 4, 5, 6, 0] rfl)
        · refine lv_iconst (v := nI 1) hx hb d_Pl_leastSet_45 (by decide +kernel) ?_
          refine lv_goto (tgt := 50) hx hb d_Pl_leastSet_46 (by decide) ?_
          refine lv_istore (lv' := [(7, .int (nI 1)), (0, .ref h), (1, .int (nI p)), (2, .long (lN (lackN inn pk ou ok og p))), (4, .int (nI (ownM ok pk p (ou p)))), (5, .int (nI b)), (6, .int (nI (q + 1)))]) hx hb d_Pl_leastSet_50 hl (by decide) rfl (fun ls hl => ?_)
          refine lv_iload hx hb d_Pl_leastSet_52 (lv_at hl 0 rfl) ?_
          refine bk_if_eq (a := 1) (tgt := 83) hx hb (by omega) d_Pl_leastSet_54 (by decide) (fun c54 => absurd c54 (by decide)) (fun c54 => ?_)
          refine lv_iload hx hb d_Pl_leastSet_57 (lv_at hl 6 rfl) ?_
          refine lv_iload hx hb d_Pl_leastSet_59 (lv_at hl 5 rfl) ?_
          refine vp_callSi (va_runS (As := [.int (nI (q + 1)), .int (nI b)]) (rest := []) ⟨hx, hb, hml, hown, htg⟩ (c_Pl_isBefore l dC dI cI cL cZ (q + 1) b (by omega) hb6) (va_cwS 2 htg (gdS k2_96 k2_97 k1_4 kc_Pl_isBefore) rfl rfl rfl (by decide +kernel) ⟨Nat.le_of_ble_eq_true rfl, Nat.le_of_ble_eq_true rfl⟩) ⟨bk_blind0, fun U hU hW => ⟨rfl, trivial⟩⟩ rfl rfl hl.1 rfl (lv_room (Nat.le_of_ble_eq_true rfl)) d_Pl_leastSet_61 ⟨Nat.le_of_ble_eq_true rfl, Nat.le_of_ble_eq_true rfl⟩).run (fun r61 e61 => ?_)
          rcases e61 with ⟨b61, rfl⟩ | ⟨n61, rfl⟩
          · refine bk_if_eq (a := 1) (tgt := 83) hx hb (by omega) d_Pl_leastSet_64 (by decide) (fun c64 => absurd c64 (by decide)) (fun c64 => ?_)
            refine lv_aload_n hx hb d_Pl_leastSet_67 rfl (lv_at hl 1 rfl) ?_
            refine lv_iload_n hx hb d_Pl_leastSet_68 rfl (lv_at hl 2 rfl) ?_
            refine lv_iload hx hb d_Pl_leastSet_69 (lv_at hl 6 rfl) ?_
            refine vp_callSl (va_runV (As := [.int (nI p), .int (nI (q + 1))]) (rest := []) ⟨hx, hb, hml, hown, htg⟩ (c_Pl_gramsOfSet l dC dI cI cL cZ h a1 a2 a3 a4 a5 n inn pk ou ok og p (q + 1) hi hp (by omega)) (cwV 2 htg (gdV k2_81 k2_83 ks_Pl_gramsOfSet k1_4 kc_Pl_gramsOfSet) rfl rfl rfl (by decide +kernel) ⟨Nat.le_of_ble_eq_true rfl, Nat.le_of_ble_eq_true rfl⟩) ⟨bk_blind, va_recv hK hP (ci := 3) (q0 := 0) rfl rfl, fun U hU hW => ⟨rfl, nw_warm hW hN, by rw [hU]; exact hP.sub [0, 1, 2, 3, 4, 5] rfl, va_K.moved hW.alike hK⟩⟩ rfl rfl hl.1 rfl (lv_room (Nat.le_of_ble_eq_true rfl)) d_Pl_leastSet_71 ⟨Nat.le_of_ble_eq_true rfl, Nat.le_of_ble_eq_true rfl⟩).run (fun r71 e71 => ?_)
            subst e71
            refine lv_lload_n hx hb d_Pl_leastSet_74 rfl (lv_at hl 3 rfl) ?_
            refine bk_ncmp_lt (a := gsum og p (q + 1) (ou p)) (b := lackN inn pk ou ok og p) (tgt := 83) hx hb (by omega) (by omega) d_Pl_leastSet_75 d_Pl_leastSet_76 (by decide) (fun c75 => ?_) (fun c75 => ?_)
            · refine lv_iinc (v := nI (q + 1 + 1)) (lv' := [(6, .int (nI (q + 1 + 1))), (7, .int (nI 1)), (0, .ref h), (1, .int (nI p)), (2, .long (lN (lackN inn pk ou ok og p))), (4, .int (nI (ownM ok pk p (ou p)))), (5, .int (nI b))]) hx hb d_Pl_leastSet_83 hl (k := 6) rfl (bk_inc (q + 1)) (by decide) rfl (fun ls hl => ?_)
              refine lv_goto (tgt := 28) hx hb d_Pl_leastSet_86 (by decide) ?_
              exact ih28 (q + 1) b (by omega) (by rw [← lsF_no (by rintro ⟨y1, y2, y3⟩; rw [← hbb] at y2; first | exact c42 y1 | exact n61 y2 | omega)]; exact hbb) ls (lv_sub hl [2, 3, 4, 5, 6, 0] rfl)
            · refine lv_iload hx hb d_Pl_leastSet_79 (lv_at hl 6 rfl) ?_
              refine lv_istore (lv' := [(5, .int (nI (q + 1))), (7, .int (nI 1)), (0, .ref h), (1, .int (nI p)), (2, .long (lN (lackN inn pk ou ok og p))), (4, .int (nI (ownM ok pk p (ou p)))), (6, .int (nI (q + 1)))]) hx hb d_Pl_leastSet_81 hl (by decide) rfl (fun ls hl => ?_)
              refine lv_iinc (v := nI (q + 1 + 1)) (lv' := [(6, .int (nI (q + 1 + 1))), (5, .int (nI (q + 1))), (7, .int (nI 1)), (0, .ref h), (1, .int (nI p)), (2, .long (lN (lackN inn pk ou ok og p))), (4, .int (nI (ownM ok pk p (ou p))))]) hx hb d_Pl_leastSet_83 hl (k := 6) rfl (bk_inc (q + 1)) (by decide) rfl (fun ls hl => ?_)
              refine lv_goto (tgt := 28) hx hb d_Pl_leastSet_86 (by decide) ?_
              exact ih28 (q + 1) (q + 1) (by omega) (lsF_yes c42 (by rw [← hbb]; exact b61) c75) ls (lv_sub hl [3, 4, 5, 6, 1, 0] rfl)
          · refine bk_if_eq (a := 0) (tgt := 83) hx hb (by omega) d_Pl_leastSet_64 (by decide) (fun c64 => ?_) (fun c64 => absurd c64 (by decide))
            refine lv_iinc (v := nI (q + 1 + 1)) (lv' := [(6, .int (nI (q + 1 + 1))), (7, .int (nI 1)), (0, .ref h), (1, .int (nI p)), (2, .long (lN (lackN inn pk ou ok og p))), (4, .int (nI (ownM ok pk p (ou p)))), (5, .int (nI b))]) hx hb d_Pl_leastSet_83 hl (k := 6) rfl (bk_inc (q + 1)) (by decide) rfl (fun ls hl => ?_)
            refine lv_goto (tgt := 28) hx hb d_Pl_leastSet_86 (by decide) ?_
            exact ih28 (q + 1) b (by omega) (by rw [← lsF_no (by rintro ⟨y1, y2, y3⟩; rw [← hbb] at y2; first | exact c42 y1 | exact n61 y2 | omega)]; exact hbb) ls (lv_sub hl [2, 3, 4, 5, 6, 0] rfl)
    exact J28 (ownM ok pk p (ou p)) 0 (ownM ok pk p (ou p)) (by omega) rfl ls (lv_sub hl [4, 5, 3, 2, 1, 0] rfl)
  · refine lv_iconst (v := nI 0) hx hb d_Pl_leastSet_12 (by decide +kernel) ?_
    exact W.iret (v := nI 0) hx hb hr (fun t9 ht9 hW9 => ⟨nI 0, rfl, (by rw [lsR, if_pos (by omega)]), ht9⟩) (fun q h => nomatch h) d_Pl_leastSet_13
set_option maxHeartbeats 4000000 in
set_option maxRecDepth 100000 in
theorem c_B_bitAt (l : Launch) (dC : Nat → ClassId) (dI : Nat → Nat → Nat) (cI cL cZ : ClassId) (s0 : Nat) (x : Int32) (hs : s0 < 256) : Met l y_B_bitAt ws_B_bitAt { frames := 0, cells := 0, slots := 0, locals := 0 } (va_Pc [.int (nI s0), .int x] (fun _ => True)) (vp_Si (fun r => ∃ o, r = oI o ∧ kth (fun i => s0.testBit i) 8 x o)) 0 0 (fun _ => False) := by
  refine Met.ofW (cc := b_B_bitAt) (maxL := 4) (ret := (some .int)) (by decide) rfl ?_
  intro pr en s m args below meth c s₁ B hml hv
  obtain ⟨rfl, -⟩ := hv
  have hx := B.exec
  have hb := B.bytes
  have hr := B.returns
  have hts := atoms_spec (ws := ws_B_bitAt) B.pre
  have htg : ∀ w ∈ gW, w.before _ s = true := fun w h => hts w (List.mem_cons_of_mem _ h)
  have hown : s.vm.findClass R_B = some m.cls := findClass_of_methodNamed B.named
  have hlocks := B.notSynchronized
  have hl := lv_entry ([.int (nI s0), .int x]) (n := 4) (Nat.le_of_ble_eq_true rfl)
  rw [lg_entry_eq]
  generalize (lg_sl ([.int (nI s0), .int x]) ++ List.replicate (4 - (lg_sl ([.int (nI s0), .int x])).length) Slot.unset).toArray = ls at hl ⊢
  have hl : lv_has ls 4 [(0, .int (nI s0)), (1, .int x)] := hl
  refine lv_iconst (v := nI 0) hx hb d_B_bitAt_0 (by decide +kernel) ?_
  refine lv_istore_n (lv' := [(2, .int (nI 0)), (0, .int (nI s0)), (1, .int x)]) hx hb d_B_bitAt_1 rfl hl (by decide) rfl (fun ls hl => ?_)
  refine lv_iconst (v := nI 0) hx hb d_B_bitAt_2 (by decide +kernel) ?_
  refine lv_istore_n (lv' := [(3, .int (nI 0)), (2, .int (nI 0)), (0, .int (nI s0)), (1, .int x)]) hx hb d_B_bitAt_3 rfl hl (by decide) rfl (fun ls hl => ?_)
  have J4 : ∀ (k : Nat) (i : Nat) (b : Nat), (i + k = 8) → (b = cntB (fun i => s0.testBit i) i) → (noYet (fun i => s0.testBit i) x i) → ∀ (ls : Array Slot), lv_has ls 4 [(0, .int (nI s0)), (1, .int x), (2, .int (nI b)), (3, .int (nI i))] → W pr l en (headSpec ws_B_bitAt { frames := 0, cells := 0, slots := 0, locals := 0 }).room s m ([.int (nI s0), .int x] : List Value).toArray below meth c s.heap [] 0 0 (MQ below (vp_Si (fun r => ∃ o, r = oI o ∧ kth (fun i => s0.testBit i) 8 x o)) ([.int (nI s0), .int x] : List Value).toArray s 0 0 (fun _ => False)) (F0 m 4 ls []) := by
    intro k
    induction k with
    | zero =>
      intro i b hk hc hy ls hl
      refine lv_iload_n hx hb d_B_bitAt_4 rfl (lv_at hl 3 rfl) ?_
      refine lv_bipush (v := nI 8) hx hb d_B_bitAt_5 (by decide +kernel) ?_
      refine bk_icmp_ge (a := i) (b := 8) (tgt := 34) hx hb (by omega) (by omega) d_B_bitAt_7 (by decide) (fun c7 => ?_) (fun c7 => by exfalso; omega)
      refine lv_iconst (v := oI none) hx hb d_B_bitAt_34 (by decide +kernel) ?_
      exact W.iret (v := oI none) hx hb hr (fun t9 ht9 hW9 => ⟨oI none, rfl, ⟨none, rfl, by rw [show i = 8 by omega] at hy; exact hy⟩, ht9⟩) (fun q h => nomatch h) d_B_bitAt_35
    | succ k ih4 =>
      intro i b hk hc hy ls hl
      have hle := cntB_le (fun i => s0.testBit i) i
      refine lv_iload_n hx hb d_B_bitAt_4 rfl (lv_at hl 3 rfl) ?_
      refine lv_bipush (v := nI 8) hx hb d_B_bitAt_5 (by decide +kernel) ?_
      refine bk_icmp_ge (a := i) (b := 8) (tgt := 34) hx hb (by omega) (by omega) d_B_bitAt_7 (by decide) (fun c7 => by exfalso; omega) (fun c7 => ?_)
      refine lv_iload_n hx hb d_B_bitAt_10 rfl (lv_at hl 0 rfl) ?_
      refine lv_iconst (v := nI 1) hx hb d_B_bitAt_11 (by decide +kernel) ?_
      refine lv_iload_n hx hb d_B_bitAt_12 rfl (lv_at hl 3 rfl) ?_
      refine lv_ishl hx hb d_B_bitAt_13 ?_
      refine lv_iand hx hb d_B_bitAt_14 ?_
      refine lv_if_eq (x := ((nI s0) &&& ((nI 1) <<< ((nI i) &&& 31)))) (tgt := 28) hx hb d_B_bitAt_15 (by decide) (fun c15 => ?_) (fun c15 => ?_)
      · refine lv_iinc (v := nI (i + 1)) (lv' := [(3, .int (nI (i + 1))), (0, .int (nI s0)), (1, .int x), (2, .int (nI b))]) hx hb d_B_bitAt_28 hl (k := 3) rfl (bk_inc i) (by decide) rfl (fun ls hl => ?_)
        refine lv_goto (tgt := 4) hx hb d_B_bitAt_31 (by decide) ?_
        exact ih4 (i + 1) b (by omega) (cntB_no hc ((bit_and s0 hs i (by omega)).mp c15)) (noYet_no hy ((bit_and s0 hs i (by omega)).mp c15)) ls (lv_sub hl [1, 2, 3, 0] rfl)
      · refine lv_iload_n hx hb d_B_bitAt_18 rfl (lv_at hl 2 rfl) ?_
        refine lv_iload_n hx hb d_B_bitAt_19 rfl (lv_at hl 1 rfl) ?_
        refine lv_icmp_ne (x := nI b) (y := x) (tgt := 25) hx hb d_B_bitAt_20 (by decide) (fun c20 => ?_) (fun c20 => ?_)
        · refine lv_iinc (v := nI (b + 1)) (lv' := [(2, .int (nI (b + 1))), (0, .int (nI s0)), (1, .int x), (3, .int (nI i))]) hx hb d_B_bitAt_25 hl (k := 2) rfl (bk_inc b) (by decide) rfl (fun ls hl => ?_)
          refine lv_iinc (v := nI (i + 1)) (lv' := [(3, .int (nI (i + 1))), (2, .int (nI (b + 1))), (0, .int (nI s0)), (1, .int x)]) hx hb d_B_bitAt_28 hl (k := 3) rfl (bk_inc i) (by decide) rfl (fun ls hl => ?_)
          refine lv_goto (tgt := 4) hx hb d_B_bitAt_31 (by decide) ?_
          exact ih4 (i + 1) (b + 1) (by omega) (cntB_yes hc (bit_yes hs (by omega) c15)) (noYet_ne hy hc c20) ls (lv_sub hl [2, 3, 1, 0] rfl)
        · refine lv_iload_n hx hb d_B_bitAt_23 rfl (lv_at hl 3 rfl) ?_
          exact W.iret (v := nI i) hx hb hr (fun t9 ht9 hW9 => ⟨nI i, rfl, ⟨some i, rfl, by omega, (bit_yes hs (by omega) c15), by rw [← hc]; exact c20⟩, ht9⟩) (fun q h => nomatch h) d_B_bitAt_24
  exact J4 8 0 0 (by omega) rfl noYet_0 ls (lv_sub hl [2, 3, 1, 0] rfl)
