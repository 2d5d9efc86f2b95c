set_option maxHeartbeats 4000000 in
set_option maxRecDepth 100000 in
theorem c_Jo_partAll (l : Launch) (dC : Nat → ClassId) (dI : Nat → Nat → Nat) (cI cL cZ : ClassId) (sz : Nat) (h a1 a2 : Nat) (sp ps : Nat → Option Nat) : Met l y_Jo_partAll ws_Jo_partAll { frames := 0, cells := 0, slots := 0, locals := 0 } (va_Pc [.ref h] (wrP (dC, dI) vwCl [(cI, .int), (cL, .long), (cZ, .boolean)] [(h, .inr (2, [.ref a1, .ref a2])), (a1, .inl (cI, 30, .inl (aO sp))), (a2, .inl (cI, 30, .inl (aO ps)))] sz)) (va_Qv (fun (u : Unit) => True) (fun (u : Unit) => wrQ (dC, dI) vwCl [(cI, .int), (cL, .long), (cZ, .boolean)] (va_A [(h, .inr (2, [.ref a1, .ref a2])), (a1, .inl (cI, 30, .inl (aO sp))), (a2, .inl (cI, 30, .inl (aO ps)))] sz) [(h, .inr (2, [.ref a1, .ref a2])), (a1, .inl (cI, 30, .inl (aO (fun _ => none)))), (a2, .inl (cI, 30, .inl (aO (fun _ => none))))]) (va_A [(h, .inr (2, [.ref a1, .ref a2])), (a1, .inl (cI, 30, .inl (aO sp))), (a2, .inl (cI, 30, .inl (aO ps)))] sz)) 0 0 (va_A [(h, .inr (2, [.ref a1, .ref a2])), (a1, .inl (cI, 30, .inl (aO sp))), (a2, .inl (cI, 30, .inl (aO ps)))] sz) := by
  refine Met.ofW (cc := b_Jo_partAll) (maxL := 2) (ret := none) (by decide) rfl ?_
  intro pr en s m args below meth c s₁ B hml hv
  obtain ⟨rfl, hN, hsz, hP, hK, hD0⟩ := hv
  have hx := B.exec
  have hb := B.bytes
  have hr := B.returns
  have hts := atoms_spec (ws := ws_Jo_partAll) B.pre
  have htg : ∀ w ∈ gW, w.before _ s = true := fun w h => hts w (List.mem_cons_of_mem _ h)
  have hown : s.vm.findClass R_Jo = some m.cls := findClass_of_methodNamed B.named
  have hlocks := B.notSynchronized
  subst hsz
  have hD := hD0.self (sz := s.heap.size)
  generalize hAe : va_A [(h, .inr (2, [.ref a1, .ref a2])), (a1, .inl (cI, 30, .inl (aO sp))), (a2, .inl (cI, 30, .inl (aO ps)))] s.heap.size = A at hD ⊢
  have hA : ∀ q : Nat, s.heap.size ≤ q → A q := fun q h => by rw [← hAe]; exact Or.inr h
  have hS : va_S A s.heap s.heap [] := va_S.rf
  have hP : va_P (dC, dI) vwCl [(h, .inr (2, [.ref a1, .ref a2])), (a1, .inl (cI, 30, .inl (aO sp))), (a2, .inl (cI, 30, .inl (aO ps)))] s.heap := hP
  have hl := lv_entry ([.ref h]) (n := 2) (Nat.le_of_ble_eq_true rfl)
  rw [lg_entry_eq]
  generalize (lg_sl ([.ref h]) ++ List.replicate (2 - (lg_sl ([.ref h])).length) Slot.unset).toArray = ls at hl ⊢
  have hl : lv_has ls 2 [(0, .ref h)] := hl
  refine lv_iconst (v := nI 0) hx hb d_Jo_partAll_0 (by decide +kernel) ?_
  refine lv_istore_n (lv' := [(1, .int (nI 0)), (0, .ref h)]) hx hb d_Jo_partAll_1 rfl hl (by decide) rfl (fun ls hl => ?_)
  have J2 : ∀ (k : Nat) (i : Nat) (sq : Nat → Option Nat) (pq : Nat → Option Nat), (i + k = 30) → (∀ j, j < i → sq j = none) → (∀ j, j < i → pq j = none) → ∀ (H : Heap) (locs : List Loc), va_P (dC, dI) vwCl [(h, .inr (2, [.ref a1, .ref a2])), (a1, .inl (cI, 30, .inl (aO sq))), (a2, .inl (cI, 30, .inl (aO pq)))] H → va_D A [(h, .inr (2, [.ref a1, .ref a2])), (a1, .inl (cI, 30, .inl (aO sq))), (a2, .inl (cI, 30, .inl (aO pq)))] → va_S A s.heap H locs → ∀ (ls : Array Slot), lv_has ls 2 [(0, .ref h), (1, .int (nI i))] → W pr l en (headSpec ws_Jo_partAll { frames := 0, cells := 0, slots := 0, locals := 0 }).room s m ([.ref h] : List Value).toArray below meth c H locs 0 0 (MQ below (va_Qv (fun (u : Unit) => True) (fun (u : Unit) => wrQ (dC, dI) vwCl [(cI, .int), (cL, .long), (cZ, .boolean)] A [(h, .inr (2, [.ref a1, .ref a2])), (a1, .inl (cI, 30, .inl (aO (fun _ => none)))), (a2, .inl (cI, 30, .inl (aO (fun _ => none))))]) A) ([.ref h] : List Value).toArray s 0 0 A) (F0 m 2 ls []) := by
    intro k
    induction k with
    | zero =>
      intro i sq pq hk hs hq H locs hP hD hS ls hl
      refine lv_iload_n hx hb d_Jo_partAll_2 rfl (lv_at hl 1 rfl) ?_
      refine lv_bipush (v := nI 30) hx hb d_Jo_partAll_3 (by decide +kernel) ?_
      refine bk_icmp_ge (a := i) (b := 30) (tgt := 28) hx hb (by omega) (by omega) d_Jo_partAll_5 (by decide) (fun c5 => ?_) (fun c5 => by exfalso; omega)
      have hP := ext_P hP 1 (y := (30, .inl (aO (fun _ => none)))) rfl (cell_int (fun j hj => by rw [aO, hs j (by omega)]; rfl))
      have hD := ext_D hD 1 (e2 := .inl (cI, 30, .inl (aO (fun _ => none)))) rfl
      have hP : va_P (dC, dI) vwCl [(h, .inr (2, [.ref a1, .ref a2])), (a1, .inl (cI, 30, .inl (aO (fun _ => none)))), (a2, .inl (cI, 30, .inl (aO pq)))] H := hP
      have hD : va_D A [(h, .inr (2, [.ref a1, .ref a2])), (a1, .inl (cI, 30, .inl (aO (fun _ => none)))), (a2, .inl (cI, 30, .inl (aO pq)))] := hD
      have hP := ext_P hP 2 (y := (30, .inl (aO (fun _ => none)))) rfl (cell_int (fun j hj => by rw [aO, hq j (by omega)]; rfl))
      have hD := ext_D hD 2 (e2 := .inl (cI, 30, .inl (aO (fun _ => none)))) rfl
      have hP : va_P (dC, dI) vwCl [(h, .inr (2, [.ref a1, .ref a2])), (a1, .inl (cI, 30, .inl (aO (fun _ => none)))), (a2, .inl (cI, 30, .inl (aO (fun _ => none))))] H := hP
      have hD : va_D A [(h, .inr (2, [.ref a1, .ref a2])), (a1, .inl (cI, 30, .inl (aO (fun _ => none)))), (a2, .inl (cI, 30, .inl (aO (fun _ => none))))] := hD
      have hP9 := hP.sub (ws' := [(h, .inr (2, [.ref a1, .ref a2])), (a1, .inl (cI, 30, .inl (aO (fun _ => none)))), (a2, .inl (cI, 30, .inl (aO (fun _ => none))))]) [0, 1, 2] rfl
      have hD9 := hD.sub (ws' := [(h, .inr (2, [.ref a1, .ref a2])), (a1, .inl (cI, 30, .inl (aO (fun _ => none)))), (a2, .inl (cI, 30, .inl (aO (fun _ => none))))]) [0, 1, 2] (by decide) rfl
      exact W.vret hx hb hr (fun t9 ht9 hW9 => ⟨⟨(), rfl, trivial, by rw [ht9]; exact hP9, va_K.moved hW9.alike hK, hD9⟩, hS.F ht9⟩) hS.2.2 d_Jo_partAll_28
    | succ k ih2 =>
      intro i sq pq hk hs hq H locs hP hD hS ls hl
      refine lv_iload_n hx hb d_Jo_partAll_2 rfl (lv_at hl 1 rfl) ?_
      refine lv_bipush (v := nI 30) hx hb d_Jo_partAll_3 (by decide +kernel) ?_
      refine bk_icmp_ge (a := i) (b := 30) (tgt := 28) hx hb (by omega) (by omega) d_Jo_partAll_5 (by decide) (fun c5 => by exfalso; omega) (fun c5 => ?_)
      refine lv_aload_n hx hb d_Jo_partAll_8 rfl (lv_at hl 0 rfl) ?_
      refine va_get (D := (dC, dI)) (ci := 2) (v := .ref a1) (C := R_Jo) (T := F_Jo) (N := 2) hx hb htg iw_Jo hown hK hP 0 rfl rfl 0 (by decide) (htg _ k1_66) (fun _ h9 => h9) rfl d_Jo_partAll_9 ?_
      refine lv_iload_n hx hb d_Jo_partAll_12 rfl (lv_at hl 1 rfl) ?_
      refine lv_iconst (v := oI none) hx hb d_Jo_partAll_13 (by decide +kernel) ?_
      refine bk_iast (x := oI none) (f2 := aO (va_up sq i none)) hx hb hK hP hD hS 1 0 rfl rfl (by omega) (by decide) (aO_up _ _ none) d_Jo_partAll_14 (fun H locs hP hD hS => ?_)
      have hP : va_P (dC, dI) vwCl [(h, .inr (2, [.ref a1, .ref a2])), (a1, .inl (cI, 30, .inl (aO (va_up sq i none)))), (a2, .inl (cI, 30, .inl (aO pq)))] H := hP
      have hD : va_D A [(h, .inr (2, [.ref a1, .ref a2])), (a1, .inl (cI, 30, .inl (aO (va_up sq i none)))), (a2, .inl (cI, 30, .inl (aO pq)))] := hD
      refine lv_aload_n hx hb d_Jo_partAll_15 rfl (lv_at hl 0 rfl) ?_
      refine va_get (D := (dC, dI)) (ci := 2) (v := .ref a2) (C := R_Jo) (T := F_Jo) (N := 2) hx hb htg iw_Jo hown hK hP 0 rfl rfl 1 (by decide) (htg _ k1_67) (fun _ h9 => h9) rfl d_Jo_partAll_16 ?_
      refine lv_iload_n hx hb d_Jo_partAll_19 rfl (lv_at hl 1 rfl) ?_
      refine lv_iconst (v := oI none) hx hb d_Jo_partAll_20 (by decide +kernel) ?_
      refine bk_iast (x := oI none) (f2 := aO (va_up pq i none)) hx hb hK hP hD hS 2 0 rfl rfl (by omega) (by decide) (aO_up _ _ none) d_Jo_partAll_21 (fun H locs hP hD hS => ?_)
      have hP : va_P (dC, dI) vwCl [(h, .inr (2, [.ref a1, .ref a2])), (a1, .inl (cI, 30, .inl (aO (va_up sq i none)))), (a2, .inl (cI, 30, .inl (aO (va_up pq i none))))] H := hP
      have hD : va_D A [(h, .inr (2, [.ref a1, .ref a2])), (a1, .inl (cI, 30, .inl (aO (va_up sq i none)))), (a2, .inl (cI, 30, .inl (aO (va_up pq i none))))] := hD
      refine lv_iinc (v := nI (i + 1)) (lv' := [(1, .int (nI (i + 1))), (0, .ref h)]) hx hb d_Jo_partAll_22 hl (k := 1) rfl (bk_inc i) (by decide) rfl (fun ls hl => ?_)
      refine lv_goto (tgt := 2) hx hb d_Jo_partAll_25 (by decide) ?_
      exact ih2 (i + 1) (va_up sq i none) (va_up pq i none) (by omega) (none_up hs) (none_up hq) _ _ (hP.sub [0, 1, 2] rfl) (hD.sub [0, 1, 2] (by decide) rfl) hS ls (lv_sub hl [1, 0] rfl)
  exact J2 30 0 sp ps (by omega) (fun j hj => absurd hj (by omega)) (fun j hj => absurd hj (by omega)) _ _ (hP.sub [0, 1, 2] rfl) (hD.sub [0, 1, 2] (by decide) rfl) hS ls (lv_sub hl [1, 0] rfl)
set_option maxHeartbeats 4000000 in
set_option maxRecDepth 100000 in
theorem c_Jo_saleOf (l : Launch) (dC : Nat → ClassId) (dI : Nat → Nat → Nat) (cI cL cZ : ClassId) (h a1 a2 : Nat) (sp : Nat → Option Nat) (x : Int32) : Met l y_Jo_saleOf ws_Jo_saleOf { frames := 0, cells := 0, slots := 0, locals := 0 } (va_Pc [.ref h, .int x] (rdP (dC, dI) vwCl [(cI, .int), (cL, .long), (cZ, .boolean)] [(h, .inr (2, [.ref a1, .ref a2])), (a1, .inl (cI, 30, .inl (aO sp)))])) (vp_Si (fun r => (∃ j, j < 30 ∧ x = nI j ∧ r = oI (sp j)) ∨ (¬ inR 30 x ∧ r = oI none))) 0 0 (fun _ => False) := by
  refine Met.ofW (cc := b_Jo_saleOf) (maxL := 2) (ret := (some .int)) (by decide) rfl ?_
  intro pr en s m args below meth c s₁ B hml hv
  obtain ⟨rfl, hN, hP, hK⟩ := hv
  have hx := B.exec
  have hb := B.bytes
  have hr := B.returns
  have hts := atoms_spec (ws := ws_Jo_saleOf) B.pre
  have htg : ∀ w ∈ gW, w.before _ s = true := fun w h => hts w (List.mem_cons_of_mem _ h)
  have hown : s.vm.findClass R_Jo = some m.cls := findClass_of_methodNamed B.named
  have hlocks := B.notSynchronized
  have hl := lv_entry ([.ref h, .int x]) (n := 2) (Nat.le_of_ble_eq_true rfl)
  rw [lg_entry_eq]
  generalize (lg_sl ([.ref h, .int x]) ++ List.replicate (2 - (lg_sl ([.ref h, .int x])).length) Slot.unset).toArray = ls at hl ⊢
  have hl : lv_has ls 2 [(0, .ref h), (1, .int x)] := hl
  refine lv_iload_n hx hb d_Jo_saleOf_0 rfl (lv_at hl 1 rfl) ?_
  refine lv_if_lt (x := x) (tgt := 19) hx hb d_Jo_saleOf_1 (by decide) (fun c1 => ?_) (fun c1 => ?_)
  · refine lv_iconst (v := oI none) hx hb d_Jo_saleOf_19 (by decide +kernel) ?_
    exact W.iret (v := oI none) hx hb hr (fun t9 ht9 hW9 => ⟨oI none, rfl, Or.inr ⟨by first | exact inR_neg (by decide) (by assumption) | exact inR_big (by decide) (by assumption), rfl⟩, ht9⟩) (fun q h => nomatch h) d_Jo_saleOf_20
  · refine lv_iload_n hx hb d_Jo_saleOf_4 rfl (lv_at hl 1 rfl) ?_
    refine lv_bipush (v := nI 30) hx hb d_Jo_saleOf_5 (by decide +kernel) ?_
    refine lv_icmp_ge (x := x) (y := nI 30) (tgt := 19) hx hb d_Jo_saleOf_7 (by decide) (fun c7 => ?_) (fun c7 => ?_)
    · refine lv_iconst (v := oI none) hx hb d_Jo_saleOf_19 (by decide +kernel) ?_
      exact W.iret (v := oI none) hx hb hr (fun t9 ht9 hW9 => ⟨oI none, rfl, Or.inr ⟨by first | exact inR_neg (by decide) (by assumption) | exact inR_big (by decide) (by assumption), rfl⟩, ht9⟩) (fun q h => nomatch h) d_Jo_saleOf_20
    · obtain ⟨j, hj, hxj⟩ := inR_of (n := 30) (by decide) c1 c7
      refine lv_aload_n hx hb d_Jo_saleOf_10 rfl (lv_at hl 0 rfl) ?_
      refine va_get (D := (dC, dI)) (ci := 2) (v := .ref a1) (C := R_Jo) (T := F_Jo) (N := 2) hx hb htg iw_Jo hown hK hP 0 rfl rfl 0 (by decide) (htg _ k1_66) (fun _ h9 => h9) rfl d_Jo_saleOf_11 ?_
      refine lv_iload_n hx hb d_Jo_saleOf_14 rfl (lv_at hl 1 rfl) ?_
      refine bk_topi (y := nI j) hxj ?_
      refine bk_iald (v := oI (sp j)) hx hb hK hP 1 0 rfl rfl (by omega) (by decide) rfl d_Jo_saleOf_15 ?_
      refine lv_goto (tgt := 20) hx hb d_Jo_saleOf_16 (by decide) ?_
      exact W.iret (v := oI (sp j)) hx hb hr (fun t9 ht9 hW9 => ⟨oI (sp j), rfl, Or.inl ⟨j, hj, hxj, rfl⟩, ht9⟩) (fun q h => nomatch h) d_Jo_saleOf_20
set_option maxHeartbeats 4000000 in
set_option maxRecDepth 100000 in
theorem c_Jo_waiting (l : Launch) (dC : Nat → ClassId) (dI : Nat → Nat → Nat) (cI cL cZ : ClassId) (h a1 a2 : Nat) (sp : Nat → Option Nat) (hb0 b1 b2 b3 b4 n : Nat) (sh dy kd gr : Nat → Nat) (x y : Int32) (hi : bkI n sh dy kd gr) (hsp : ∀ p k, sp p = some k → k < 30) : Met l y_Jo_waiting ws_Jo_waiting { frames := 0, cells := 0, slots := 0, locals := 0 } (va_Pc [.ref h, .ref hb0, .int x, .int y] (rdP (dC, dI) vwCl [(cI, .int), (cL, .long), (cZ, .boolean)] [(h, .inr (2, [.ref a1, .ref a2])), (a1, .inl (cI, 30, .inl (aO sp))), (hb0, .inr (1, [.ref b1, .ref b2, .ref b3, .ref b4, .int (nI n)])), (b1, .inl (cI, 30, .inl (aI sh))), (b2, .inl (cI, 30, .inl (aI dy))), (b3, .inl (cI, 30, .inl (aI kd))), (b4, .inl (cL, 30, .inr (.inl (aL gr))))])) (vp_Si (fun r => ∃ o, r = oI o ∧ kth (wB sp dy x) n y o)) 0 0 (fun _ => False) := by
  refine Met.ofW (cc := b_Jo_waiting) (maxL := 8) (ret := (some .int)) (by decide) rfl ?_
  intro pr en s m args below meth c s₁ B hml hv
  obtain ⟨rfl, hN, hP, hK⟩ := hv
  have hx := B.exec
  have hb := B.bytes
  have hr := B.returns
  have hts := atoms_spec (ws := ws_Jo_waiting) B.pre
  have htg : ∀ w ∈ gW, w.before _ s = true := fun w h => hts w (List.mem_cons_of_mem _ h)
  have hown : s.vm.findClass R_Jo = some m.cls := findClass_of_methodNamed B.named
  have hlocks := B.notSynchronized
  have hl := lv_entry ([.ref h, .ref hb0, .int x, .int y]) (n := 8) (Nat.le_of_ble_eq_true rfl)
  rw [lg_entry_eq]
  generalize (lg_sl ([.ref h, .ref hb0, .int x, .int y]) ++ List.replicate (8 - (lg_sl ([.ref h, .ref hb0, .int x, .int y])).length) Slot.unset).toArray = ls at hl ⊢
  have hl : lv_has ls 8 [(0, .ref h), (1, .ref hb0), (2, .int x), (3, .int y)] := hl
  have hn := hi.1
  refine lv_iconst (v := nI 0) hx hb d_Jo_waiting_0 (by decide +kernel) ?_
  refine lv_istore (lv' := [(4, .int (nI 0)), (0, .ref h), (1, .ref hb0), (2, .int x), (3, .int y)]) hx hb d_Jo_waiting_1 hl (by decide) rfl (fun ls hl => ?_)
  refine lv_iconst (v := nI 0) hx hb d_Jo_waiting_3 (by decide +kernel) ?_
  refine lv_istore (lv' := [(5, .int (nI 0)), (4, .int (nI 0)), (0, .ref h), (1, .ref hb0), (2, .int x), (3, .int y)]) hx hb d_Jo_waiting_4 hl (by decide) rfl (fun ls hl => ?_)
  have J6 : ∀ (k : Nat) (i : Nat) (b : Nat), (i + k = n) → (b = cntB (wB sp dy x) i) → (noYet (wB sp dy x) y i) → ∀ (ls : Array Slot), lv_has ls 8 [(0, .ref h), (1, .ref hb0), (2, .int x), (3, .int y), (4, .int (nI b)), (5, .int (nI i))] → W pr l en (headSpec ws_Jo_waiting { frames := 0, cells := 0, slots := 0, locals := 0 }).room s m ([.ref h, .ref hb0, .int x, .int y] : List Value).toArray below meth c s.heap [] 0 0 (MQ below (vp_Si (fun r => ∃ o, r = oI o ∧ kth (wB sp dy x) n y o)) ([.ref h, .ref hb0, .int x, .int y] : List Value).toArray s 0 0 (fun _ => False)) (F0 m 6 ls []) := by
    intro k
    induction k with
    | zero =>
      intro i b hk hc hy ls hl
      refine lv_iload hx hb d_Jo_waiting_6 (lv_at hl 5 rfl) ?_
      refine lv_aload_n hx hb d_Jo_waiting_8 rfl (lv_at hl 1 rfl) ?_
      refine va_get (D := (dC, dI)) (ci := 1) (v := .int (nI n)) (C := R_Bk) (T := F_Bk) (N := 5) hx hb htg iw_Bk hown hK hP 2 rfl rfl 4 (by decide) (htg _ k1_41) (fun _ h9 => h9) rfl d_Jo_waiting_9 ?_
      refine bk_icmp_ge (a := i) (b := n) (tgt := 73) hx hb (by omega) (by omega) d_Jo_waiting_12 (by decide) (fun c12 => ?_) (fun c12 => by exfalso; omega)
      refine lv_iconst (v := oI none) hx hb d_Jo_waiting_73 (by decide +kernel) ?_
      exact W.iret (v := oI none) hx hb hr (fun t9 ht9 hW9 => ⟨oI none, rfl, ⟨none, rfl, by rw [show i = n by omega] at hy; exact hy⟩, ht9⟩) (fun q h => nomatch h) d_Jo_waiting_74
    | succ k ih6 =>
      intro i b hk hc hy ls hl
      have hd := (hi.2 i (by omega)).2.1
      have hle := cntB_le (wB sp dy x) i
      refine lv_iload hx hb d_Jo_waiting_6 (lv_at hl 5 rfl) ?_
      refine lv_aload_n hx hb d_Jo_waiting_8 rfl (lv_at hl 1 rfl) ?_
      refine va_get (D := (dC, dI)) (ci := 1) (v := .int (nI n)) (C := R_Bk) (T := F_Bk) (N := 5) hx hb htg iw_Bk hown hK hP 2 rfl rfl 4 (by decide) (htg _ k1_41) (fun _ h9 => h9) rfl d_Jo_waiting_9 ?_
      refine bk_icmp_ge (a := i) (b := n) (tgt := 73) hx hb (by omega) (by omega) d_Jo_waiting_12 (by decide) (fun c12 => by exfalso; omega) (fun c12 => ?_)
      refine lv_iload_n hx hb d_Jo_waiting_15 rfl (lv_at hl 2 rfl) ?_
      refine lv_i2l (v := (x).toInt64) hx hb d_Jo_waiting_16 rfl ?_
      refine lv_aload_n hx hb d_Jo_waiting_17 rfl (lv_at hl 1 rfl) ?_
      refine va_get (D := (dC, dI)) (ci := 1) (v := .ref b2) (C := R_Bk) (T := F_Bk) (N := 5) hx hb htg iw_Bk hown hK hP 2 rfl rfl 1 (by decide) (htg _ k1_34) (fun _ h9 => h9) rfl d_Jo_waiting_18 ?_
      refine lv_iload hx hb d_Jo_waiting_21 (lv_at hl 5 rfl) ?_
      refine bk_iald (v := nI (dy i)) hx hb hK hP 4 0 rfl rfl (by omega) (by decide) rfl d_Jo_waiting_23 ?_
      refine bk_i2l hx hb (by omega) d_Jo_waiting_24 ?_
      refine lv_lsub hx hb d_Jo_waiting_25 ?_
      refine lv_lstore (lv' := [(6, .long (((x).toInt64) - (lN (dy i)))), (0, .ref h), (1, .ref hb0), (2, .int x), (3, .int y), (4, .int (nI b)), (5, .int (nI i))]) hx hb d_Jo_waiting_26 hl (by decide) rfl (fun ls hl => ?_)
      refine lv_aload_n hx hb d_Jo_waiting_28 rfl (lv_at hl 1 rfl) ?_
      refine va_get (D := (dC, dI)) (ci := 2) (v := .ref a1) (C := R_Jo) (T := F_Jo) (N := 2) hx hb htg iw_Jo hown hK hP 0 rfl rfl 0 (by decide) (htg _ k1_66) (fun _ h9 => h9) rfl d_Jo_waiting_29 ?_
      refine lv_iload hx hb d_Jo_waiting_32 (lv_at hl 6 rfl) ?_
      refine bk_iald (v := oI (sp i)) hx hb hK hP 1 0 rfl rfl (by omega) (by decide) rfl d_Jo_waiting_34 ?_
      refine lv_iconst (v := oI none) hx hb d_Jo_waiting_35 (by decide +kernel) ?_
      refine bk_ocmp_ne (r := sp i) (tgt := 67) hx hb (fun k h => by have := hsp _ k h; omega) d_Jo_waiting_36 (by decide) (fun c36 => ?_) (fun c36 => ?_)
      · refine lv_iinc (v := nI (i + 1)) (lv' := [(5, .int (nI (i + 1))), (6, .long (((x).toInt64) - (lN (dy i)))), (0, .ref h), (1, .ref hb0), (2, .int x), (3, .int y), (4, .int (nI b))]) hx hb d_Jo_waiting_67 hl (k := 6) rfl (bk_inc i) (by decide) rfl (fun ls hl => ?_)
        refine lv_goto (tgt := 6) hx hb d_Jo_waiting_70 (by decide) ?_
        exact ih6 (i + 1) b (by omega) (by first | exact cntB_no hc (w_no1 c36) | exact cntB_no hc (w_no2 hd c42) | exact cntB_no hc (w_no3 hd c51) | exact cntB_yes hc (w_yes hd c36 c42 c51)) (by first | exact noYet_no hy (w_no1 c36) | exact noYet_no hy (w_no2 hd c42) | exact noYet_no hy (w_no3 hd c51) | exact noYet_ne hy hc c58) ls (lv_sub hl [2, 3, 4, 5, 6, 0] rfl)
      · refine lv_lload hx hb d_Jo_waiting_39 (lv_at hl 0 rfl) ?_
        refine lv_lconst (v := lN 0) hx hb d_Jo_waiting_41 (by decide +kernel) ?_
        refine bk_lcmp_lt (x := (((x).toInt64) - (lN (dy i)))) (y := lN 0) (tgt := 67) hx hb d_Jo_waiting_42 d_Jo_waiting_43 (by decide) (fun c42 => ?_) (fun c42 => ?_)
        · refine lv_iinc (v := nI (i + 1)) (lv' := [(5, .int (nI (i + 1))), (6, .long (((x).toInt64) - (lN (dy i)))), (0, .ref h), (1, .ref hb0), (2, .int x), (3, .int y), (4, .int (nI b))]) hx hb d_Jo_waiting_67 hl (k := 6) rfl (bk_inc i) (by decide) rfl (fun ls hl => ?_)
          refine lv_goto (tgt := 6) hx hb d_Jo_waiting_70 (by decide) ?_
          exact ih6 (i + 1) b (by omega) (by first | exact cntB_no hc (w_no1 c36) | exact cntB_no hc (w_no2 hd c42) | exact cntB_no hc (w_no3 hd c51) | exact cntB_yes hc (w_yes hd c36 c42 c51)) (by first | exact noYet_no hy (w_no1 c36) | exact noYet_no hy (w_no2 hd c42) | exact noYet_no hy (w_no3 hd c51) | exact noYet_ne hy hc c58) ls (lv_sub hl [2, 3, 4, 5, 6, 0] rfl)
        · refine lv_lload hx hb d_Jo_waiting_46 (lv_at hl 0 rfl) ?_
          refine lv_ldc2 (own := R_Jo) (v := 5) hx hb hown (htg _ k2_36) d_Jo_waiting_48 ?_
          refine bk_topl (y := lN 5) (by decide +kernel) ?_
          refine bk_lcmp_gt (x := (((x).toInt64) - (lN (dy i)))) (y := lN 5) (tgt := 67) hx hb d_Jo_waiting_51 d_Jo_waiting_52 (by decide) (fun c51 => ?_) (fun c51 => ?_)
          · refine lv_iinc (v := nI (i + 1)) (lv' := [(5, .int (nI (i + 1))), (6, .long (((x).toInt64) - (lN (dy i)))), (0, .ref h), (1, .ref hb0), (2, .int x), (3, .int y), (4, .int (nI b))]) hx hb d_Jo_waiting_67 hl (k := 6) rfl (bk_inc i) (by decide) rfl (fun ls hl => ?_)
            refine lv_goto (tgt := 6) hx hb d_Jo_waiting_70 (by decide) ?_
            exact ih6 (i + 1) b (by omega) (by first | exact cntB_no hc (w_no1 c36) | exact cntB_no hc (w_no2 hd c42) | exact cntB_no hc (w_no3 hd c51) | exact cntB_yes hc (w_yes hd c36 c42 c51)) (by first | exact noYet_no hy (w_no1 c36) | exact noYet_no hy (w_no2 hd c42) | exact noYet_no hy (w_no3 hd c51) | exact noYet_ne hy hc c58) ls (lv_sub hl [2, 3, 4, 5, 6, 0] rfl)
          · refine lv_iload hx hb d_Jo_waiting_55 (lv_at hl 5 rfl) ?_
            refine lv_iload_n hx hb d_Jo_waiting_57 rfl (lv_at hl 4 rfl) ?_
            refine lv_icmp_ne (x := nI b) (y := y) (tgt := 64) hx hb d_Jo_waiting_58 (by decide) (fun c58 => ?_) (fun c58 => ?_)
            · refine lv_iinc (v := nI (b + 1)) (lv' := [(4, .int (nI (b + 1))), (6, .long (((x).toInt64) - (lN (dy i)))), (0, .ref h), (1, .ref hb0), (2, .int x), (3, .int y), (5, .int (nI i))]) hx hb d_Jo_waiting_64 hl (k := 5) rfl (bk_inc b) (by decide) rfl (fun ls hl => ?_)
              refine lv_iinc (v := nI (i + 1)) (lv' := [(5, .int (nI (i + 1))), (4, .int (nI (b + 1))), (6, .long (((x).toInt64) - (lN (dy i)))), (0, .ref h), (1, .ref hb0), (2, .int x), (3, .int y)]) hx hb d_Jo_waiting_67 hl (k := 6) rfl (bk_inc i) (by decide) rfl (fun ls hl => ?_)
              refine lv_goto (tgt := 6) hx hb d_Jo_waiting_70 (by decide) ?_
              exact ih6 (i + 1) (b + 1) (by omega) (by first | exact cntB_no hc (w_no1 c36) | exact cntB_no hc (w_no2 hd c42) | exact cntB_no hc (w_no3 hd c51) | exact cntB_yes hc (w_yes hd c36 c42 c51)) (by first | exact noYet_no hy (w_no1 c36) | exact noYet_no hy (w_no2 hd c42) | exact noYet_no hy (w_no3 hd c51) | exact noYet_ne hy hc c58) ls (lv_sub hl [3, 4, 5, 6, 1, 0] rfl)
            · refine lv_iload hx hb d_Jo_waiting_61 (lv_at hl 6 rfl) ?_
              exact W.iret (v := nI i) hx hb hr (fun t9 ht9 hW9 => ⟨nI i, rfl, ⟨some i, rfl, by omega, w_yes hd c36 c42 c51, by rw [← hc]; exact c58⟩, ht9⟩) (fun q h => nomatch h) d_Jo_waiting_63
  exact J6 n 0 0 (by omega) rfl noYet_0 ls (lv_sub hl [2, 3, 4, 5, 1, 0] rfl)
set_option maxHeartbeats 4000000 in
set_option maxRecDepth 100000 in
theorem c_Jo_joinBest (l : Launch) (dC : Nat → ClassId) (dI : Nat → Nat → Nat) (cI cL cZ : ClassId) (sz : Nat) (h a1 a2 : Nat) (sp ps : Nat → Option Nat) (hbk b1 b2 b3 b4 n : Nat) (sh dy kd gr : Nat → Nat) (hsl s1 s2 s3 s4 n2 : Nat) (sh2 dy2 kd2 gr2 : Nat → Nat) (hi : bkI n sh dy kd gr) (hi2 : bkI n2 sh2 dy2 kd2 gr2) (hsp : ∀ p k, sp p = some k → k < 30) (hps : ∀ p k, ps p = some k → k < 30) : Met l y_Jo_joinBest ws_Jo_joinBest { frames := 3, cells := 0, slots := 0, locals := 74 } (va_Pc [.ref h, .ref hbk, .ref hsl] (wrP (dC, dI) vwCl [(cI, .int), (cL, .long), (cZ, .boolean)] [(h, .inr (2, [.ref a1, .ref a2])), (a1, .inl (cI, 30, .inl (aO sp))), (a2, .inl (cI, 30, .inl (aO ps))), (hbk, .inr (1, [.ref b1, .ref b2, .ref b3, .ref b4, .int (nI n)])), (b1, .inl (cI, 30, .inl (aI sh))), (b2, .inl (cI, 30, .inl (aI dy))), (b3, .inl (cI, 30, .inl (aI kd))), (b4, .inl (cL, 30, .inr (.inl (aL gr)))), (hsl, .inr (1, [.ref s1, .ref s2, .ref s3, .ref s4, .int (nI n2)])), (s1, .inl (cI, 30, .inl (aI sh2))), (s2, .inl (cI, 30, .inl (aI dy2))), (s3, .inl (cI, 30, .inl (aI kd2))), (s4, .inl (cL, 30, .inr (.inl (aL gr2))))] sz)) (va_Qi (fun (r : Int32) (u : (Nat → Option Nat) × (Nat → Option Nat)) => ((jbest (ptOf sh dy kd gr sh2 dy2 kd2 gr2) n n2 (sp, sdO ps)).1 = 0 ∧ r = nI 0 ∧ u = (sp, ps)) ∨ ((jbest (ptOf sh dy kd gr sh2 dy2 kd2 gr2) n n2 (sp, sdO ps)).1 ≠ 0 ∧ r = nI 1 ∧ u = (va_up sp (jbest (ptOf sh dy kd gr sh2 dy2 kd2 gr2) n n2 (sp, sdO ps)).2.1 (some (jbest (ptOf sh dy kd gr sh2 dy2 kd2 gr2) n n2 (sp, sdO ps)).2.2), va_up ps (jbest (ptOf sh dy kd gr sh2 dy2 kd2 gr2) n n2 (sp, sdO ps)).2.2 (some (jbest (ptOf sh dy kd gr sh2 dy2 kd2 gr2) n n2 (sp, sdO ps)).2.1)))) (fun (u : (Nat → Option Nat) × (Nat → Option Nat)) => wrQ (dC, dI) vwCl [(cI, .int), (cL, .long), (cZ, .boolean)] (va_A [(h, .inr (2, [.ref a1, .ref a2])), (a1, .inl (cI, 30, .inl (aO sp))), (a2, .inl (cI, 30, .inl (aO ps))), (hbk, .inr (1, [.ref b1, .ref b2, .ref b3, .ref b4, .int (nI n)])), (b1, .inl (cI, 30, .inl (aI sh))), (b2, .inl (cI, 30, .inl (aI dy))), (b3, .inl (cI, 30, .inl (aI kd))), (b4, .inl (cL, 30, .inr (.inl (aL gr)))), (hsl, .inr (1, [.ref s1, .ref s2, .ref s3, .ref s4, .int (nI n2)])), (s1, .inl (cI, 30, .inl (aI sh2))), (s2, .inl (cI, 30, .inl (aI dy2))), (s3, .inl (cI, 30, .inl (aI kd2))), (s4, .inl (cL, 30, .inr (.inl (aL gr2))))] sz) [(h, .inr (2, [.ref a1, .ref a2])), (a1, .inl (cI, 30, .inl (aO u.1))), (a2, .inl (cI, 30, .inl (aO u.2))), (hbk, .inr (1, [.ref b1, .ref b2, .ref b3, .ref b4, .int (nI n)])), (b1, .inl (cI, 30, .inl (aI sh))), (b2, .inl (cI, 30, .inl (aI dy))), (b3, .inl (cI, 30, .inl (aI kd))), (b4, .inl (cL, 30, .inr (.inl (aL gr)))), (hsl, .inr (1, [.ref s1, .ref s2, .ref s3, .ref s4, .int (nI n2)])), (s1, .inl (cI, 30, .inl (aI sh2))), (s2, .inl (cI, 30, .inl (aI dy2))), (s3, .inl (cI, 30, .inl (aI kd2))), (s4, .inl (cL, 30, .inr (.inl (aL gr2))))]) (va_A [(h, .inr (2, [.ref a1, .ref a2])), (a1, .inl (cI, 30, .inl (aO sp))), (a2, .inl (cI, 30, .inl (aO ps))), (hbk, .inr (1, [.ref b1, .ref b2, .ref b3, .ref b4, .int (nI n)])), (b1, .inl (cI, 30, .inl (aI sh))), (b2, .inl (cI, 30, .inl (aI dy))), (b3, .inl (cI, 30, .inl (aI kd))), (b4, .inl (cL, 30, .inr (.inl (aL gr)))), (hsl, .inr (1, [.ref s1, .ref s2, .ref s3, .ref s4, .int (nI n2)])), (s1, .inl (cI, 30, .inl (aI sh2))), (s2, .inl (cI, 30, .inl (aI dy2))), (s3, .inl (cI, 30, .inl (aI kd2))), (s4, .inl (cL, 30, .inr (.inl (aL gr2))))] sz)) 0 0 (va_A [(h, .inr (2, [.ref a1, .ref a2])), (a1, .inl (cI, 30, .inl (aO sp))), (a2, .inl (cI, 30, .inl (aO ps))), (hbk, .inr (1, [.ref b1, .ref b2, .ref b3, .ref b4, .int (nI n)])), (b1, .inl (cI, 30, .inl (aI sh))), (b2, .inl (cI, 30, .inl (aI dy))), (b3, .inl (cI, 30, .inl (aI kd))), (b4, .inl (cL, 30, .inr (.inl (aL gr)))), (hsl, .inr (1, [.ref s1, .ref s2, .ref s3, .ref s4, .int (nI n2)])), (s1, .inl (cI, 30, .inl (aI sh2))), (s2, .inl (cI, 30, .inl (aI dy2))), (s3, .inl (cI, 30, .inl (aI kd2))), (s4, .inl (cL, 30, .inr (.inl (aL gr2))))] sz) := by
  refine Met.ofW (cc := b_Jo_joinBest) (maxL := 9) (ret := (some .boolean)) (by decide) rfl ?_
  intro pr en s m args below meth c s₁ B hml hv
  obtain ⟨rfl, hN, hsz, hP, hK, hD0⟩ := hv
  have hx := B.exec
  have hb := B.bytes
  have hr := B.returns
  have hts := atoms_spec (ws := ws_Jo_joinBest) B.pre
  have htg : ∀ w ∈ gW, w.before _ s = true := fun w h => hts w (List.mem_cons_of_mem _ h)
  have hown : s.vm.findClass R_Jo = some m.cls := findClass_of_methodNamed B.named
  have hlocks := B.notSynchronized
  subst hsz
  have hD := hD0.self (sz := s.heap.size)
  generalize hAe : va_A [(h, .inr (2, [.ref a1, .ref a2])), (a1, .inl (cI, 30, .inl (aO sp))), (a2, .inl (cI, 30, .inl (aO ps))), (hbk, .inr (1, [.ref b1, .ref b2, .ref b3, .ref b4, .int (nI n)])), (b1, .inl (cI, 30, .inl (aI sh))), (b2, .inl (cI, 30, .inl (aI dy))), (b3, .inl (cI, 30, .inl (aI kd))), (b4, .inl (cL, 30, .inr (.inl (aL gr)))), (hsl, .inr (1, [.ref s1, .ref s2, .ref s3, .ref s4, .int (nI n2)])), (s1, .inl (cI, 30, .inl (aI sh2))), (s2, .inl (cI, 30, .inl (aI dy2))), (s3, .inl (cI, 30, .inl (aI kd2))), (s4, .inl (cL, 30, .inr (.inl (aL gr2))))] s.heap.size = A at hD ⊢
  have hA : ∀ q : Nat, s.heap.size ≤ q → A q := fun q h => by rw [← hAe]; exact Or.inr h
  have hS : va_S A s.heap s.heap [] := va_S.rf
  have hP : va_P (dC, dI) vwCl [(h, .inr (2, [.ref a1, .ref a2])), (a1, .inl (cI, 30, .inl (aO sp))), (a2, .inl (cI, 30, .inl (aO ps))), (hbk, .inr (1, [.ref b1, .ref b2, .ref b3, .ref b4, .int (nI n)])), (b1, .inl (cI, 30, .inl (aI sh))), (b2, .inl (cI, 30, .inl (aI dy))), (b3, .inl (cI, 30, .inl (aI kd))), (b4, .inl (cL, 30, .inr (.inl (aL gr)))), (hsl, .inr (1, [.ref s1, .ref s2, .ref s3, .ref s4, .int (nI n2)])), (s1, .inl (cI, 30, .inl (aI sh2))), (s2, .inl (cI, 30, .inl (aI dy2))), (s3, .inl (cI, 30, .inl (aI kd2))), (s4, .inl (cL, 30, .inr (.inl (aL gr2))))] s.heap := hP
  have hl := lv_entry ([.ref h, .ref hbk, .ref hsl]) (n := 9) (Nat.le_of_ble_eq_true rfl)
  rw [lg_entry_eq]
  generalize (lg_sl ([.ref h, .ref hbk, .ref hsl]) ++ List.replicate (9 - (lg_sl ([.ref h, .ref hbk, .ref hsl])).length) Slot.unset).toArray = ls at hl ⊢
  have hl : lv_has ls 9 [(0, .ref h), (1, .ref hbk), (2, .ref hsl)] := hl
  have hn := hi.1
  have hn2 := hi2.1
  refine lv_iconst (v := nI 0) hx hb d_Jo_joinBest_0 (by decide +kernel) ?_
  refine lv_istore_n (lv' := [(3, .int (nI 0)), (0, .ref h), (1, .ref hbk), (2, .ref hsl)]) hx hb d_Jo_joinBest_1 rfl hl (by decide) rfl (fun ls hl => ?_)
  refine lv_iconst (v := oI none) hx hb d_Jo_joinBest_2 (by decide +kernel) ?_
  refine lv_istore (lv' := [(4, .int (oI none)), (3, .int (nI 0)), (0, .ref h), (1, .ref hbk), (2, .ref hsl)]) hx hb d_Jo_joinBest_3 hl (by decide) rfl (fun ls hl => ?_)
  refine lv_iconst (v := oI none) hx hb d_Jo_joinBest_5 (by decide +kernel) ?_
  refine lv_istore (lv' := [(5, .int (oI none)), (4, .int (oI none)), (3, .int (nI 0)), (0, .ref h), (1, .ref hbk), (2, .ref hsl)]) hx hb d_Jo_joinBest_6 hl (by decide) rfl (fun ls hl => ?_)
  refine lv_iconst (v := nI 0) hx hb d_Jo_joinBest_8 (by decide +kernel) ?_
  refine lv_istore (lv' := [(6, .int (nI 0)), (5, .int (oI none)), (4, .int (oI none)), (3, .int (nI 0)), (0, .ref h), (1, .ref hbk), (2, .ref hsl)]) hx hb d_Jo_joinBest_9 hl (by decide) rfl (fun ls hl => ?_)
  have J11 : ∀ (k : Nat) (p : Nat) (b : Nat × Nat × Nat), (p + k = n) → (b = scO (vv (ptOf sh dy kd gr sh2 dy2 kd2 gr2) sp (sdO ps)) n2 p) → (b.1 ≤ 1000) → ∀ (H : Heap) (locs : List Loc), va_P (dC, dI) vwCl [(h, .inr (2, [.ref a1, .ref a2])), (a1, .inl (cI, 30, .inl (aO sp))), (a2, .inl (cI, 30, .inl (aO ps))), (hbk, .inr (1, [.ref b1, .ref b2, .ref b3, .ref b4, .int (nI n)])), (b1, .inl (cI, 30, .inl (aI sh))), (b2, .inl (cI, 30, .inl (aI dy))), (b3, .inl (cI, 30, .inl (aI kd))), (b4, .inl (cL, 30, .inr (.inl (aL gr)))), (hsl, .inr (1, [.ref s1, .ref s2, .ref s3, .ref s4, .int (nI n2)])), (s1, .inl (cI, 30, .inl (aI sh2))), (s2, .inl (cI, 30, .inl (aI dy2))), (s3, .inl (cI, 30, .inl (aI kd2))), (s4, .inl (cL, 30, .inr (.inl (aL gr2))))] H → va_D A [(h, .inr (2, [.ref a1, .ref a2])), (a1, .inl (cI, 30, .inl (aO sp))), (a2, .inl (cI, 30, .inl (aO ps))), (hbk, .inr (1, [.ref b1, .ref b2, .ref b3, .ref b4, .int (nI n)])), (b1, .inl (cI, 30, .inl (aI sh))), (b2, .inl (cI, 30, .inl (aI dy))), (b3, .inl (cI, 30, .inl (aI kd))), (b4, .inl (cL, 30, .inr (.inl (aL gr)))), (hsl, .inr (1, [.ref s1, .ref s2, .ref s3, .ref s4, .int (nI n2)])), (s1, .inl (cI, 30, .inl (aI sh2))), (s2, .inl (cI, 30, .inl (aI dy2))), (s3, .inl (cI, 30, .inl (aI kd2))), (s4, .inl (cL, 30, .inr (.inl (aL gr2))))] → va_S A s.heap H locs → ∀ (ls : Array Slot), lv_has ls 9 [(0, .ref h), (1, .ref hbk), (2, .ref hsl), (3, .int (nI b.1)), (4, .int (oI (bO b.1 b.2.1))), (5, .int (oI (bO b.1 b.2.2))), (6, .int (nI p))] → W pr l en (headSpec ws_Jo_joinBest { frames := 3, cells := 0, slots := 0, locals := 74 }).room s m ([.ref h, .ref hbk, .ref hsl] : List Value).toArray below meth c H locs 0 0 (MQ below (va_Qi (fun (r : Int32) (u : (Nat → Option Nat) × (Nat → Option Nat)) => ((jbest (ptOf sh dy kd gr sh2 dy2 kd2 gr2) n n2 (sp, sdO ps)).1 = 0 ∧ r = nI 0 ∧ u = (sp, ps)) ∨ ((jbest (ptOf sh dy kd gr sh2 dy2 kd2 gr2) n n2 (sp, sdO ps)).1 ≠ 0 ∧ r = nI 1 ∧ u = (va_up sp (jbest (ptOf sh dy kd gr sh2 dy2 kd2 gr2) n n2 (sp, sdO ps)).2.1 (some (jbest (ptOf sh dy kd gr sh2 dy2 kd2 gr2) n n2 (sp, sdO ps)).2.2), va_up ps (jbest (ptOf sh dy kd gr sh2 dy2 kd2 gr2) n n2 (sp, sdO ps)).2.2 (some (jbest (ptOf sh dy kd gr sh2 dy2 kd2 gr2) n n2 (sp, sdO ps)).2.1)))) (fun (u : (Nat → Option Nat) × (Nat → Option Nat)) => wrQ (dC, dI) vwCl [(cI, .int), (cL, .long), (cZ, .boolean)] A [(h, .inr (2, [.ref a1, .ref a2])), (a1, .inl (cI, 30, .inl (aO u.1))), (a2, .inl (cI, 30, .inl (aO u.2))), (hbk, .inr (1, [.ref b1, .ref b2, .ref b3, .ref b4, .int (nI n)])), (b1, .inl (cI, 30, .inl (aI sh))), (b2, .inl (cI, 30, .inl (aI dy))), (b3, .inl (cI, 30, .inl (aI kd))), (b4, .inl (cL, 30, .inr (.inl (aL gr)))), (hsl, .inr (1, [.ref s1, .ref s2, .ref s3, .ref s4, .int (nI n2)])), (s1, .inl (cI, 30, .inl (aI sh2))), (s2, .inl (cI, 30, .inl (aI dy2))), (s3, .inl (cI, 30, .inl (aI kd2))), (s4, .inl (cL, 30, .inr (.inl (aL gr2))))]) A) ([.ref h, .ref hbk, .ref hsl] : List Value).toArray s 0 0 A) (F0 m 11 ls []) := by
    intro k
    induction k with
    | zero =>
      intro p b hk hbb hm H locs hP hD hS ls hl
      refine lv_iload hx hb d_Jo_joinBest_11 (lv_at hl 6 rfl) ?_
      refine lv_aload_n hx hb d_Jo_joinBest_13 rfl (lv_at hl 1 rfl) ?_
      refine va_get (D := (dC, dI)) (ci := 1) (v := .int (nI n)) (C := R_Bk) (T := F_Bk) (N := 5) hx hb htg iw_Bk hown hK hP 3 rfl rfl 4 (by decide) (htg _ k1_41) (fun _ h9 => h9) rfl d_Jo_joinBest_14 ?_
      refine bk_icmp_ge (a := p) (b := n) (tgt := 101) hx hb (by omega) (by omega) d_Jo_joinBest_17 (by decide) (fun c17 => ?_) (fun c17 => by exfalso; omega)
      rcases Nat.eq_zero_or_pos b.1 with h0 | h0
      · rw [show bO b.1 b.2.1 = none from if_pos h0, show bO b.1 b.2.2 = none from if_pos h0] at hl
        refine lv_iload hx hb d_Jo_joinBest_101 (lv_at hl 4 rfl) ?_
        refine lv_iconst (v := oI none) hx hb d_Jo_joinBest_103 (by decide +kernel) ?_
        refine bk_ocmp_eq (r := none) (tgt := 113) hx hb (by intro k h; cases h) d_Jo_joinBest_104 (by decide) (fun c104 => ?_) (fun c104 => absurd rfl c104)
        refine lv_iconst (v := nI 0) hx hb d_Jo_joinBest_113 (by decide +kernel) ?_
        have hP9 := hP.sub (ws' := [(h, .inr (2, [.ref a1, .ref a2])), (a1, .inl (cI, 30, .inl (aO sp))), (a2, .inl (cI, 30, .inl (aO ps))), (hbk, .inr (1, [.ref b1, .ref b2, .ref b3, .ref b4, .int (nI n)])), (b1, .inl (cI, 30, .inl (aI sh))), (b2, .inl (cI, 30, .inl (aI dy))), (b3, .inl (cI, 30, .inl (aI kd))), (b4, .inl (cL, 30, .inr (.inl (aL gr)))), (hsl, .inr (1, [.ref s1, .ref s2, .ref s3, .ref s4, .int (nI n2)])), (s1, .inl (cI, 30, .inl (aI sh2))), (s2, .inl (cI, 30, .inl (aI dy2))), (s3, .inl (cI, 30, .inl (aI kd2))), (s4, .inl (cL, 30, .inr (.inl (aL gr2))))]) [0, 1, 2, 3, 4, 5, 6, 7, 8, 9, 10, 11, 12] rfl
        have hD9 := hD.sub (ws' := [(h, .inr (2, [.ref a1, .ref a2])), (a1, .inl (cI, 30, .inl (aO sp))), (a2, .inl (cI, 30, .inl (aO ps))), (hbk, .inr (1, [.ref b1, .ref b2, .ref b3, .ref b4, .int (nI n)])), (b1, .inl (cI, 30, .inl (aI sh))), (b2, .inl (cI, 30, .inl (aI dy))), (b3, .inl (cI, 30, .inl (aI kd))), (b4, .inl (cL, 30, .inr (.inl (aL gr)))), (hsl, .inr (1, [.ref s1, .ref s2, .ref s3, .ref s4, .int (nI n2)])), (s1, .inl (cI, 30, .inl (aI sh2))), (s2, .inl (cI, 30, .inl (aI dy2))), (s3, .inl (cI, 30, .inl (aI kd2))), (s4, .inl (cL, 30, .inr (.inl (aL gr2))))]) [0, 1, 2, 3, 4, 5, 6, 7, 8, 9, 10, 11, 12] (by decide) rfl
        exact W.zret (v := nI 0) (ty := .boolean) hx hb hr rfl (fun t9 ht9 hW9 => ⟨⟨nI 0, (sp, ps), rfl, (by rw [show p = n by omega] at hbb; subst hbb; exact Or.inl ⟨h0, rfl, rfl⟩), by rw [ht9]; exact hP9, va_K.moved hW9.alike hK, hD9⟩, hS.F ht9⟩) hS.2.2 d_Jo_joinBest_114
      · rw [show bO b.1 b.2.1 = some b.2.1 from if_neg (by omega), show bO b.1 b.2.2 = some b.2.2 from if_neg (by omega)] at hl
        have hl : lv_has ls 9 [(0, .ref h), (1, .ref hbk), (2, .ref hsl), (3, .int (nI b.1)), (4, .int (nI b.2.1)), (5, .int (nI b.2.2)), (6, .int (nI p))] := hl
        have hpn : p = n := by omega
        obtain ⟨hv1, hv2, -⟩ : b.2.1 < n ∧ b.2.2 < n2 ∧ True := by
          have := scO_val (vv (ptOf sh dy kd gr sh2 dy2 kd2 gr2) sp (sdO ps)) n2 n
          rw [← hpn, ← hbb] at this
          rcases this with e | ⟨e1, e2, -⟩
          · omega
          · exact ⟨by omega, e2, trivial⟩
        refine lv_iload hx hb d_Jo_joinBest_101 (lv_at hl 4 rfl) ?_
        refine lv_iconst (v := oI none) hx hb d_Jo_joinBest_103 (by decide +kernel) ?_
        refine bk_ocmp_eq (r := some b.2.1) (tgt := 113) hx hb (by intro k h; cases h; omega) d_Jo_joinBest_104 (by decide) (fun c104 => nomatch c104) (fun c104 => ?_)
        refine lv_iload hx hb d_Jo_joinBest_107 (lv_at hl 5 rfl) ?_
        refine lv_iconst (v := oI none) hx hb d_Jo_joinBest_109 (by decide +kernel) ?_
        refine bk_ocmp_ne (r := some b.2.2) (tgt := 115) hx hb (by intro k h; cases h; omega) d_Jo_joinBest_110 (by decide) (fun c110 => ?_) (fun c110 => nomatch c110)
        refine lv_aload_n hx hb d_Jo_joinBest_115 rfl (lv_at hl 0 rfl) ?_
        refine va_get (D := (dC, dI)) (ci := 2) (v := .ref a1) (C := R_Jo) (T := F_Jo) (N := 2) hx hb htg iw_Jo hown hK hP 0 rfl rfl 0 (by decide) (htg _ k1_66) (fun _ h9 => h9) rfl d_Jo_joinBest_116 ?_
        refine lv_iload hx hb d_Jo_joinBest_119 (lv_at hl 4 rfl) ?_
        refine lv_iload hx hb d_Jo_joinBest_121 (lv_at hl 5 rfl) ?_
        refine bk_iast (x := nI b.2.2) (f2 := aO (va_up sp b.2.1 (some b.2.2))) hx hb hK hP hD hS 1 0 rfl rfl (by omega) (by decide) (aO_up _ _ (some b.2.2)) d_Jo_joinBest_123 (fun H locs hP hD hS => ?_)
        have hP : va_P (dC, dI) vwCl [(h, .inr (2, [.ref a1, .ref a2])), (a1, .inl (cI, 30, .inl (aO (va_up sp b.2.1 (some b.2.2))))), (a2, .inl (cI, 30, .inl (aO ps))), (hbk, .inr (1, [.ref b1, .ref b2, .ref b3, .ref b4, .int (nI n)])), (b1, .inl (cI, 30, .inl (aI sh))), (b2, .inl (cI, 30, .inl (aI dy))), (b3, .inl (cI, 30, .inl (aI kd))), (b4, .inl (cL, 30, .inr (.inl (aL gr)))), (hsl, .inr (1, [.ref s1, .ref s2, .ref s3, .ref s4, .int (nI n2)])), (s1, .inl (cI, 30, .inl (aI sh2))), (s2, .inl (cI, 30, .inl (aI dy2))), (s3, .inl (cI, 30, .inl (aI kd2))), (s4, .inl (cL, 30, .inr (.inl (aL gr2))))] H := hP
        have hD : va_D A [(h, .inr (2, [.ref a1, .ref a2])), (a1, .inl (cI, 30, .inl (aO (va_up sp b.2.1 (some b.2.2))))), (a2, .inl (cI, 30, .inl (aO ps))), (hbk, .inr (1, [.ref b1, .ref b2, .ref b3, .ref b4, .int (nI n)])), (b1, .inl (cI, 30, .inl (aI sh))), (b2, .inl (cI, 30, .inl (aI dy))), (b3, .inl (cI, 30, .inl (aI kd))), (b4, .inl (cL, 30, .inr (.inl (aL gr)))), (hsl, .inr (1, [.ref s1, .ref s2, .ref s3, .ref s4, .int (nI n2)])), (s1, .inl (cI, 30, .inl (aI sh2))), (s2, .inl (cI, 30, .inl (aI dy2))), (s3, .inl (cI, 30, .inl (aI kd2))), (s4, .inl (cL, 30, .inr (.inl (aL gr2))))] := hD
        refine lv_aload_n hx hb d_Jo_joinBest_124 rfl (lv_at hl 0 rfl) ?_
        refine va_get (D := (dC, dI)) (ci := 2) (v := .ref a2) (C := R_Jo) (T := F_Jo) (N := 2) hx hb htg iw_Jo hown hK hP 0 rfl rfl 1 (by decide) (htg _ k1_67) (fun _ h9 => h9) rfl d_Jo_joinBest_125 ?_
        refine lv_iload hx hb d_Jo_joinBest_128 (lv_at hl 5 rfl) ?_
        refine lv_iload hx hb d_Jo_joinBest_130 (lv_at hl 4 rfl) ?_
        refine bk_iast (x := nI b.2.1) (f2 := aO (va_up ps b.2.2 (some b.2.1))) hx hb hK hP hD hS 2 0 rfl rfl (by omega) (by decide) (aO_up _ _ (some b.2.1)) d_Jo_joinBest_132 (fun H locs hP hD hS => ?_)
        have hP : va_P (dC, dI) vwCl [(h, .inr (2, [.ref a1, .ref a2])), (a1, .inl (cI, 30, .inl (aO (va_up sp b.2.1 (some b.2.2))))), (a2, .inl (cI, 30, .inl (aO (va_up ps b.2.2 (some b.2.1))))), (hbk, .inr (1, [.ref b1, .ref b2, .ref b3, .ref b4, .int (nI n)])), (b1, .inl (cI, 30, .inl (aI sh))), (b2, .inl (cI, 30, .inl (aI dy))), (b3, .inl (cI, 30, .inl (aI kd))), (b4, .inl (cL, 30, .inr (.inl (aL gr)))), (hsl, .inr (1, [.ref s1, .ref s2, .ref s3, .ref s4, .int (nI n2)])), (s1, .inl (cI, 30, .inl (aI sh2))), (s2, .inl (cI, 30, .inl (aI dy2))), (s3, .inl (cI, 30, .inl (aI kd2))), (s4, .inl (cL, 30, .inr (.inl (aL gr2))))] H := hP
        have hD : va_D A [(h, .inr (2, [.ref a1, .ref a2])), (a1, .inl (cI, 30, .inl (aO (va_up sp b.2.1 (some b.2.2))))), (a2, .inl (cI, 30, .inl (aO (va_up ps b.2.2 (some b.2.1))))), (hbk, .inr (1, [.ref b1, .ref b2, .ref b3, .ref b4, .int (nI n)])), (b1, .inl (cI, 30, .inl (aI sh))), (b2, .inl (cI, 30, .inl (aI dy))), (b3, .inl (cI, 30, .inl (aI kd))), (b4, .inl (cL, 30, .inr (.inl (aL gr)))), (hsl, .inr (1, [.ref s1, .ref s2, .ref s3, .ref s4, .int (nI n2)])), (s1, .inl (cI, 30, .inl (aI sh2))), (s2, .inl (cI, 30, .inl (aI dy2))), (s3, .inl (cI, 30, .inl (aI kd2))), (s4, .inl (cL, 30, .inr (.inl (aL gr2))))] := hD
        refine lv_iconst (v := nI 1) hx hb d_Jo_joinBest_133 (by decide +kernel) ?_
        have hP9 := hP.sub (ws' := [(h, .inr (2, [.ref a1, .ref a2])), (a1, .inl (cI, 30, .inl (aO (va_up sp b.2.1 (some b.2.2))))), (a2, .inl (cI, 30, .inl (aO (va_up ps b.2.2 (some b.2.1))))), (hbk, .inr (1, [.ref b1, .ref b2, .ref b3, .ref b4, .int (nI n)])), (b1, .inl (cI, 30, .inl (aI sh))), (b2, .inl (cI, 30, .inl (aI dy))), (b3, .inl (cI, 30, .inl (aI kd))), (b4, .inl (cL, 30, .inr (.inl (aL gr)))), (hsl, .inr (1, [.ref s1, .ref s2, .ref s3, .ref s4, .int (nI n2)])), (s1, .inl (cI, 30, .inl (aI sh2))), (s2, .inl (cI, 30, .inl (aI dy2))), (s3, .inl (cI, 30, .inl (aI kd2))), (s4, .inl (cL, 30, .inr (.inl (aL gr2))))]) [0, 1, 2, 3, 4, 5, 6, 7, 8, 9, 10, 11, 12] rfl
        have hD9 := hD.sub (ws' := [(h, .inr (2, [.ref a1, .ref a2])), (a1, .inl (cI, 30, .inl (aO (va_up sp b.2.1 (some b.2.2))))), (a2, .inl (cI, 30, .inl (aO (va_up ps b.2.2 (some b.2.1))))), (hbk, .inr (1, [.ref b1, .ref b2, .ref b3, .ref b4, .int (nI n)])), (b1, .inl (cI, 30, .inl (aI sh))), (b2, .inl (cI, 30, .inl (aI dy))), (b3, .inl (cI, 30, .inl (aI kd))), (b4, .inl (cL, 30, .inr (.inl (aL gr)))), (hsl, .inr (1, [.ref s1, .ref s2, .ref s3, .ref s4, .int (nI n2)])), (s1, .inl (cI, 30, .inl (aI sh2))), (s2, .inl (cI, 30, .inl (aI dy2))), (s3, .inl (cI, 30, .inl (aI kd2))), (s4, .inl (cL, 30, .inr (.inl (aL gr2))))]) [0, 1, 2, 3, 4, 5, 6, 7, 8, 9, 10, 11, 12] (by decide) rfl
        exact W.zret (v := nI 1) (ty := .boolean) hx hb hr rfl (fun t9 ht9 hW9 => ⟨⟨nI 1, (va_up sp b.2.1 (some b.2.2), va_up ps b.2.2 (some b.2.1)), rfl, (by rw [show p = n by omega] at hbb; subst hbb; exact Or.inr ⟨Nat.pos_iff_ne_zero.mp h0, rfl, rfl⟩), by rw [ht9]; exact hP9, va_K.moved hW9.alike hK, hD9⟩, hS.F ht9⟩) hS.2.2 d_Jo_joinBest_134
    | succ k ih11 =>
      intro p b hk hbb hm H locs hP hD hS ls hl
      refine lv_iload hx hb d_Jo_joinBest_11 (lv_at hl 6 rfl) ?_
      refine lv_aload_n hx hb d_Jo_joinBest_13 rfl (lv_at hl 1 rfl) ?_
      refine va_get (D := (dC, dI)) (ci := 1) (v := .int (nI n)) (C := R_Bk) (T := F_Bk) (N := 5) hx hb htg iw_Bk hown hK hP 3 rfl rfl 4 (by decide) (htg _ k1_41) (fun _ h9 => h9) rfl d_Jo_joinBest_14 ?_
      refine bk_icmp_ge (a := p) (b := n) (tgt := 101) hx hb (by omega) (by omega) d_Jo_joinBest_17 (by decide) (fun c17 => by exfalso; omega) (fun c17 => ?_)
      refine lv_aload_n hx hb d_Jo_joinBest_20 rfl (lv_at hl 0 rfl) ?_
      refine va_get (D := (dC, dI)) (ci := 2) (v := .ref a1) (C := R_Jo) (T := F_Jo) (N := 2) hx hb htg iw_Jo hown hK hP 0 rfl rfl 0 (by decide) (htg _ k1_66) (fun _ h9 => h9) rfl d_Jo_joinBest_21 ?_
      refine lv_iload hx hb d_Jo_joinBest_24 (lv_at hl 6 rfl) ?_
      refine bk_iald (v := oI (sp p)) hx hb hK hP 1 0 rfl rfl (by omega) (by decide) rfl d_Jo_joinBest_26 ?_
      refine lv_iconst (v := oI none) hx hb d_Jo_joinBest_27 (by decide +kernel) ?_
      refine bk_ocmp_eq (r := sp p) (tgt := 34) hx hb (fun k h => by have := hsp _ k h; omega) d_Jo_joinBest_28 (by decide) (fun c28 => ?_) (fun c28 => ?_)
      · refine lv_iconst (v := nI 0) hx hb d_Jo_joinBest_34 (by decide +kernel) ?_
        refine lv_istore (lv' := [(7, .int (nI 0)), (0, .ref h), (1, .ref hbk), (2, .ref hsl), (3, .int (nI b.1)), (4, .int (oI (bO b.1 b.2.1))), (5, .int (oI (bO b.1 b.2.2))), (6, .int (nI p))]) hx hb d_Jo_joinBest_35 hl (by decide) rfl (fun ls hl => ?_)
        have J37 : ∀ (k2 : Nat) (q : Nat) (b : Nat × Nat × Nat), (q + k2 = n2) → (b = scI ((vv (ptOf sh dy kd gr sh2 dy2 kd2 gr2) sp (sdO ps)) p) p (scO (vv (ptOf sh dy kd gr sh2 dy2 kd2 gr2) sp (sdO ps)) n2 p) q) → (b.1 ≤ 1000) → ∀ (H : Heap) (locs : List Loc), va_P (dC, dI) vwCl [(h, .inr (2, [.ref a1, .ref a2])), (a1, .inl (cI, 30, .inl (aO sp))), (a2, .inl (cI, 30, .inl (aO ps))), (hbk, .inr (1, [.ref b1, .ref b2, .ref b3, .ref b4, .int (nI n)])), (b1, .inl (cI, 30, .inl (aI sh))), (b2, .inl (cI, 30, .inl (aI dy))), (b3, .inl (cI, 30, .inl (aI kd))), (b4, .inl (cL, 30, .inr (.inl (aL gr)))), (hsl, .inr (1, [.ref s1, .ref s2, .ref s3, .ref s4, .int (nI n2)])), (s1, .inl (cI, 30, .inl (aI sh2))), (s2, .inl (cI, 30, .inl (aI dy2))), (s3, .inl (cI, 30, .inl (aI kd2))), (s4, .inl (cL, 30, .inr (.inl (aL gr2))))] H → va_D A [(h, .inr (2, [.ref a1, .ref a2])), (a1, .inl (cI, 30, .inl (aO sp))), (a2, .inl (cI, 30, .inl (aO ps))), (hbk, .inr (1, [.ref b1, .ref b2, .ref b3, .ref b4, .int (nI n)])), (b1, .inl (cI, 30, .inl (aI sh))), (b2, .inl (cI, 30, .inl (aI dy))), (b3, .inl (cI, 30, .inl (aI kd))), (b4, .inl (cL, 30, .inr (.inl (aL gr)))), (hsl, .inr (1, [.ref s1, .ref s2, .ref s3, .ref s4, .int (nI n2)])), (s1, .inl (cI, 30, .inl (aI sh2))), (s2, .inl (cI, 30, .inl (aI dy2))), (s3, .inl (cI, 30, .inl (aI kd2))), (s4, .inl (cL, 30, .inr (.inl (aL gr2))))] → va_S A s.heap H locs → ∀ (ls : Array Slot), lv_has ls 9 [(0, .ref h), (1, .ref hbk), (2, .ref hsl), (3, .int (nI b.1)), (4, .int (oI (bO b.1 b.2.1))), (5, .int (oI (bO b.1 b.2.2))), (6, .int (nI p)), (7, .int (nI q))] → W pr l en (headSpec ws_Jo_joinBest { frames := 3, cells := 0, slots := 0, locals := 74 }).room s m ([.ref h, .ref hbk, .ref hsl] : List Value).toArray below meth c H locs 0 0 (MQ below (va_Qi (fun (r : Int32) (u : (Nat → Option Nat) × (Nat → Option Nat)) => ((jbest (ptOf sh dy kd gr sh2 dy2 kd2 gr2) n n2 (sp, sdO ps)).1 = 0 ∧ r = nI 0 ∧ u = (sp, ps)) ∨ ((jbest (ptOf sh dy kd gr sh2 dy2 kd2 gr2) n n2 (sp, sdO ps)).1 ≠ 0 ∧ r = nI 1 ∧ u = (va_up sp (jbest (ptOf sh dy kd gr sh2 dy2 kd2 gr2) n n2 (sp, sdO ps)).2.1 (some (jbest (ptOf sh dy kd gr sh2 dy2 kd2 gr2) n n2 (sp, sdO ps)).2.2), va_up ps (jbest (ptOf sh dy kd gr sh2 dy2 kd2 gr2) n n2 (sp, sdO ps)).2.2 (some (jbest (ptOf sh dy kd gr sh2 dy2 kd2 gr2) n n2 (sp, sdO ps)).2.1)))) (fun (u : (Nat → Option Nat) × (Nat → Option Nat)) => wrQ (dC, dI) vwCl [(cI, .int), (cL, .long), (cZ, .boolean)] A [(h, .inr (2, [.ref a1, .ref a2])), (a1, .inl (cI, 30, .inl (aO u.1))), (a2, .inl (cI, 30, .inl (aO u.2))), (hbk, .inr (1, [.ref b1, .ref b2, .ref b3, .ref b4, .int (nI n)])), (b1, .inl (cI, 30, .inl (aI sh))), (b2, .inl (cI, 30, .inl (aI dy))), (b3, .inl (cI, 30, .inl (aI kd))), (b4, .inl (cL, 30, .inr (.inl (aL gr)))), (hsl, .inr (1, [.ref s1, .ref s2, .ref s3, .ref s4, .int (nI n2)])), (s1, .inl (cI, 30, .inl (aI sh2))), (s2, .inl (cI, 30, .inl (aI dy2))), (s3, .inl (cI, 30, .inl (aI kd2))), (s4, .inl (cL, 30, .inr (.inl (aL gr2))))]) A) ([.ref h, .ref hbk, .ref hsl] : List Value).toArray s 0 0 A) (F0 m 37 ls []) := by
          intro k2
          induction k2 with
          | zero =>
            intro q b hk2 hb2 hm H locs hP hD hS ls hl
            refine lv_iload hx hb d_Jo_joinBest_37 (lv_at hl 7 rfl) ?_
            refine lv_aload_n hx hb d_Jo_joinBest_39 rfl (lv_at hl 2 rfl) ?_
            refine va_get (D := (dC, dI)) (ci := 1) (v := .int (nI n2)) (C := R_Bk) (T := F_Bk) (N := 5) hx hb htg iw_Bk hown hK hP 8 rfl rfl 4 (by decide) (htg _ k1_41) (fun _ h9 => h9) rfl d_Jo_joinBest_40 ?_
            refine bk_icmp_ge (a := q) (b := n2) (tgt := 95) hx hb (by omega) (by omega) d_Jo_joinBest_43 (by decide) (fun c43 => ?_) (fun c43 => by exfalso; omega)
            refine lv_iinc (v := nI (p + 1)) (lv' := [(6, .int (nI (p + 1))), (0, .ref h), (1, .ref hbk), (2, .ref hsl), (3, .int (nI b.1)), (4, .int (oI (bO b.1 b.2.1))), (5, .int (oI (bO b.1 b.2.2))), (7, .int (nI q))]) hx hb d_Jo_joinBest_95 hl (k := 6) rfl (bk_inc p) (by decide) rfl (fun ls hl => ?_)
            refine lv_goto (tgt := 11) hx hb d_Jo_joinBest_98 (by decide) ?_
            exact ih11 (p + 1) b (by omega) (by first | (rw [scO_skip c28]; exact hbb; done) | (rw [hb2, show q = n2 by omega]; rfl)) hm _ _ (hP.sub [0, 1, 2, 3, 4, 5, 6, 7, 8, 9, 10, 11, 12] rfl) (hD.sub [0, 1, 2, 3, 4, 5, 6, 7, 8, 9, 10, 11, 12] (by decide) rfl) hS ls (lv_sub hl [1, 2, 3, 4, 5, 6, 0] rfl)
          | succ k2 ih37 =>
            intro q b hk2 hb2 hm H locs hP hD hS ls hl
            refine lv_iload hx hb d_Jo_joinBest_37 (lv_at hl 7 rfl) ?_
            refine lv_aload_n hx hb d_Jo_joinBest_39 rfl (lv_at hl 2 rfl) ?_
            refine va_get (D := (dC, dI)) (ci := 1) (v := .int (nI n2)) (C := R_Bk) (T := F_Bk) (N := 5) hx hb htg iw_Bk hown hK hP 8 rfl rfl 4 (by decide) (htg _ k1_41) (fun _ h9 => h9) rfl d_Jo_joinBest_40 ?_
            refine bk_icmp_ge (a := q) (b := n2) (tgt := 95) hx hb (by omega) (by omega) d_Jo_joinBest_43 (by decide) (fun c43 => by exfalso; omega) (fun c43 => ?_)
            refine lv_aload_n hx hb d_Jo_joinBest_46 rfl (lv_at hl 0 rfl) ?_
            refine va_get (D := (dC, dI)) (ci := 2) (v := .ref a2) (C := R_Jo) (T := F_Jo) (N := 2) hx hb htg iw_Jo hown hK hP 0 rfl rfl 1 (by decide) (htg _ k1_67) (fun _ h9 => h9) rfl d_Jo_joinBest_47 ?_
            refine lv_iload hx hb d_Jo_joinBest_50 (lv_at hl 7 rfl) ?_
            refine bk_iald (v := oI (ps q)) hx hb hK hP 2 0 rfl rfl (by omega) (by decide) rfl d_Jo_joinBest_52 ?_
            refine lv_iconst (v := oI none) hx hb d_Jo_joinBest_53 (by decide +kernel) ?_
            refine bk_ocmp_ne (r := ps q) (tgt := 69) hx hb (fun k h => by have := hps _ k h; omega) d_Jo_joinBest_54 (by decide) (fun c54 => ?_) (fun c54 => ?_)
            · refine lv_iconst (v := nI 0) hx hb d_Jo_joinBest_69 (by decide +kernel) ?_
              refine lv_istore (lv' := [(8, .int (nI 0)), (0, .ref h), (1, .ref hbk), (2, .ref hsl), (3, .int (nI b.1)), (4, .int (oI (bO b.1 b.2.1))), (5, .int (oI (bO b.1 b.2.2))), (6, .int (nI p)), (7, .int (nI q))]) hx hb d_Jo_joinBest_70 hl (by decide) rfl (fun ls hl => ?_)
              refine lv_iload hx hb d_Jo_joinBest_72 (lv_at hl 0 rfl) ?_
              refine lv_iload_n hx hb d_Jo_joinBest_74 rfl (lv_at hl 4 rfl) ?_
              refine bk_icmp_le (a := 0) (b := b.1) (tgt := 89) hx hb (by omega) (by omega) d_Jo_joinBest_75 (by decide) (fun c75 => ?_) (fun c75 => by exfalso; omega)
              refine lv_iinc (v := nI (q + 1)) (lv' := [(7, .int (nI (q + 1))), (8, .int (nI 0)), (0, .ref h), (1, .ref hbk), (2, .ref hsl), (3, .int (nI b.1)), (4, .int (oI (bO b.1 b.2.1))), (5, .int (oI (bO b.1 b.2.2))), (6, .int (nI p))]) hx hb d_Jo_joinBest_89 hl (k := 8) rfl (bk_inc q) (by decide) rfl (fun ls hl => ?_)
              refine lv_goto (tgt := 37) hx hb d_Jo_joinBest_92 (by decide) ?_
              exact ih37 (q + 1) b (by omega) (by first | exact scI_keep hb2 (vv_sold c54) (Nat.zero_le _) | exact scI_keep hb2 (vv_free c28 c54) c75) hm _ _ (hP.sub [0, 1, 2, 3, 4, 5, 6, 7, 8, 9, 10, 11, 12] rfl) (hD.sub [0, 1, 2, 3, 4, 5, 6, 7, 8, 9, 10, 11, 12] (by decide) rfl) hS ls (lv_sub hl [2, 3, 4, 5, 6, 7, 8, 0] rfl)
            · refine lv_aload_n hx hb d_Jo_joinBest_57 rfl (lv_at hl 1 rfl) ?_
              refine lv_iload hx hb d_Jo_joinBest_58 (lv_at hl 6 rfl) ?_
              refine lv_aload_n hx hb d_Jo_joinBest_60 rfl (lv_at hl 2 rfl) ?_
              refine lv_iload hx hb d_Jo_joinBest_61 (lv_at hl 7 rfl) ?_
              refine vp_callSi (va_runV (As := [.int (nI p), .ref hsl, .int (nI q)]) (rest := []) ⟨hx, hb, hml, hown, htg⟩ (c_Bk_fitWith l dC dI cI cL cZ hbk b1 b2 b3 b4 n sh dy kd gr hsl s1 s2 s3 s4 n2 sh2 dy2 kd2 gr2 p q hi hi2 (by omega) (by omega)) (cwV 3 htg (gdV k1_226 k1_227 k1_228 k1_2 kc_Bk_fitWith) rfl rfl rfl (by decide +kernel) ⟨Nat.le_of_ble_eq_true rfl, Nat.le_of_ble_eq_true rfl⟩) ⟨bk_blind, va_recv hK hP (ci := 1) (q0 := 3) rfl rfl, fun U hU hW => ⟨rfl, nw_warm hW hN, by rw [hU]; exact hP.sub [3, 4, 5, 6, 7, 8, 9, 10, 11, 12] rfl, va_K.moved hW.alike hK⟩⟩ rfl rfl hl.1 rfl (lv_room (Nat.le_of_ble_eq_true rfl)) d_Jo_joinBest_63 ⟨Nat.le_of_ble_eq_true rfl, Nat.le_of_ble_eq_true rfl⟩).run (fun r63 e63 => ?_)
              subst e63
              have hpt := ptOf_le (sh := sh) (dy := dy) (kd := kd) (gr := gr) (sh2 := sh2) (dy2 := dy2) (kd2 := kd2) (gr2 := gr2) (p := p) (q := q)
              refine lv_goto (tgt := 70) hx hb d_Jo_joinBest_66 (by decide) ?_
              refine lv_istore (lv' := [(8, .int (nI (ptOf sh dy kd gr sh2 dy2 kd2 gr2 p q))), (0, .ref h), (1, .ref hbk), (2, .ref hsl), (3, .int (nI b.1)), (4, .int (oI (bO b.1 b.2.1))), (5, .int (oI (bO b.1 b.2.2))), (6, .int (nI p)), (7, .int (nI q))]) hx hb d_Jo_joinBest_70 hl (by decide) rfl (fun ls hl => ?_)
              refine lv_iload hx hb d_Jo_joinBest_72 (lv_at hl 0 rfl) ?_
              refine lv_iload_n hx hb d_Jo_joinBest_74 rfl (lv_at hl 4 rfl) ?_
              refine bk_icmp_le (a := ptOf sh dy kd gr sh2 dy2 kd2 gr2 p q) (b := b.1) (tgt := 89) hx hb (by omega) (by omega) d_Jo_joinBest_75 (by decide) (fun c75 => ?_) (fun c75 => ?_)
              · refine lv_iinc (v := nI (q + 1)) (lv' := [(7, .int (nI (q + 1))), (8, .int (nI (ptOf sh dy kd gr sh2 dy2 kd2 gr2 p q))), (0, .ref h), (1, .ref hbk), (2, .ref hsl), (3, .int (nI b.1)), (4, .int (oI (bO b.1 b.2.1))), (5, .int (oI (bO b.1 b.2.2))), (6, .int (nI p))]) hx hb d_Jo_joinBest_89 hl (k := 8) rfl (bk_inc q) (by decide) rfl (fun ls hl => ?_)
                refine lv_goto (tgt := 37) hx hb d_Jo_joinBest_92 (by decide) ?_
                exact ih37 (q + 1) b (by omega) (by first | exact scI_keep hb2 (vv_sold c54) (Nat.zero_le _) | exact scI_keep hb2 (vv_free c28 c54) c75) hm _ _ (hP.sub [0, 1, 2, 3, 4, 5, 6, 7, 8, 9, 10, 11, 12] rfl) (hD.sub [0, 1, 2, 3, 4, 5, 6, 7, 8, 9, 10, 11, 12] (by decide) rfl) hS ls (lv_sub hl [2, 3, 4, 5, 6, 7, 8, 0] rfl)
              · refine lv_iload hx hb d_Jo_joinBest_78 (lv_at hl 0 rfl) ?_
                refine lv_istore_n (lv' := [(3, .int (nI (ptOf sh dy kd gr sh2 dy2 kd2 gr2 p q))), (8, .int (nI (ptOf sh dy kd gr sh2 dy2 kd2 gr2 p q))), (0, .ref h), (1, .ref hbk), (2, .ref hsl), (4, .int (oI (bO b.1 b.2.1))), (5, .int (oI (bO b.1 b.2.2))), (6, .int (nI p)), (7, .int (nI q))]) hx hb d_Jo_joinBest_80 rfl hl (by decide) rfl (fun ls hl => ?_)
                refine lv_iload hx hb d_Jo_joinBest_81 (lv_at hl 7 rfl) ?_
                refine bk_topi (y := oI (bO ((ptOf sh dy kd gr sh2 dy2 kd2 gr2) p q) p)) (by rw [bO, if_neg (by omega)]; rfl) ?_
                refine lv_istore (lv' := [(4, .int (oI (bO ((ptOf sh dy kd gr sh2 dy2 kd2 gr2) p q) p))), (3, .int (nI (ptOf sh dy kd gr sh2 dy2 kd2 gr2 p q))), (8, .int (nI (ptOf sh dy kd gr sh2 dy2 kd2 gr2 p q))), (0, .ref h), (1, .ref hbk), (2, .ref hsl), (5, .int (oI (bO b.1 b.2.2))), (6, .int (nI p)), (7, .int (nI q))]) hx hb d_Jo_joinBest_83 hl (by decide) rfl (fun ls hl => ?_)
                refine lv_iload hx hb d_Jo_joinBest_85 (lv_at hl 8 rfl) ?_
                refine bk_topi (y := oI (bO ((ptOf sh dy kd gr sh2 dy2 kd2 gr2) p q) q)) (by rw [bO, if_neg (by omega)]; rfl) ?_
                refine lv_istore (lv' := [(5, .int (oI (bO ((ptOf sh dy kd gr sh2 dy2 kd2 gr2) p q) q))), (4, .int (oI (bO ((ptOf sh dy kd gr sh2 dy2 kd2 gr2) p q) p))), (3, .int (nI (ptOf sh dy kd gr sh2 dy2 kd2 gr2 p q))), (8, .int (nI (ptOf sh dy kd gr sh2 dy2 kd2 gr2 p q))), (0, .ref h), (1, .ref hbk), (2, .ref hsl), (6, .int (nI p)), (7, .int (nI q))]) hx hb d_Jo_joinBest_87 hl (by decide) rfl (fun ls hl => ?_)
                refine lv_iinc (v := nI (q + 1)) (lv' := [(7, .int (nI (q + 1))), (5, .int (oI (bO ((ptOf sh dy kd gr sh2 dy2 kd2 gr2) p q) q))), (4, .int (oI (bO ((ptOf sh dy kd gr sh2 dy2 kd2 gr2) p q) p))), (3, .int (nI (ptOf sh dy kd gr sh2 dy2 kd2 gr2 p q))), (8, .int (nI (ptOf sh dy kd gr sh2 dy2 kd2 gr2 p q))), (0, .ref h), (1, .ref hbk), (2, .ref hsl), (6, .int (nI p))]) hx hb d_Jo_joinBest_89 hl (k := 8) rfl (bk_inc q) (by decide) rfl (fun ls hl => ?_)
                refine lv_goto (tgt := 37) hx hb d_Jo_joinBest_92 (by decide) ?_
                exact ih37 (q + 1) (ptOf sh dy kd gr sh2 dy2 kd2 gr2 p q, p, q) (by omega) (scI_take hb2 (vv_free c28 c54) c75) ptOf_le _ _ (hP.sub [0, 1, 2, 3, 4, 5, 6, 7, 8, 9, 10, 11, 12] rfl) (hD.sub [0, 1, 2, 3, 4, 5, 6, 7, 8, 9, 10, 11, 12] (by decide) rfl) hS ls (lv_sub hl [5, 6, 7, 3, 2, 1, 8, 0] rfl)
        exact J37 n2 0 b (by omega) (by rw [hbb]; rfl) hm _ _ (hP.sub [0, 1, 2, 3, 4, 5, 6, 7, 8, 9, 10, 11, 12] rfl) (hD.sub [0, 1, 2, 3, 4, 5, 6, 7, 8, 9, 10, 11, 12] (by decide) rfl) hS ls (lv_sub hl [1, 2, 3, 4, 5, 6, 7, 0] rfl)
      · refine lv_goto (tgt := 95) hx hb d_Jo_joinBest_31 (by decide) ?_
        refine lv_iinc (v := nI (p + 1)) (lv' := [(6, .int (nI (p + 1))), (0, .ref h), (1, .ref hbk), (2, .ref hsl), (3, .int (nI b.1)), (4, .int (oI (bO b.1 b.2.1))), (5, .int (oI (bO b.1 b.2.2)))]) hx hb d_Jo_joinBest_95 hl (k := 6) rfl (bk_inc p) (by decide) rfl (fun ls hl => ?_)
        refine lv_goto (tgt := 11) hx hb d_Jo_joinBest_98 (by decide) ?_
        exact ih11 (p + 1) b (by omega) (by first | (rw [scO_skip c28]; exact hbb; done) | (rw [hb2, show q = n2 by omega]; rfl)) hm _ _ (hP.sub [0, 1, 2, 3, 4, 5, 6, 7, 8, 9, 10, 11, 12] rfl) (hD.sub [0, 1, 2, 3, 4, 5, 6, 7, 8, 9, 10, 11, 12] (by decide) rfl) hS ls (lv_sub hl [1, 2, 3, 4, 5, 6, 0] rfl)
  exact J11 n 0 (0, 0, 0) (by omega) rfl (Nat.zero_le _) _ _ (hP.sub [0, 1, 2, 3, 4, 5, 6, 7, 8, 9, 10, 11, 12] rfl) (hD.sub [0, 1, 2, 3, 4, 5, 6, 7, 8, 9, 10, 11, 12] (by decide) rfl) hS ls (lv_sub hl [4, 5, 6, 3, 2, 1, 0] rfl)
set_option maxHeartbeats 4000000 in
set_option maxRecDepth 100000 in
theorem c_Jo_joinAnew (l : Launch) (dC : Nat → ClassId) (dI : Nat → Nat → Nat) (cI cL cZ : ClassId) (sz : Nat) (h a1 a2 : Nat) (sp ps : Nat → Option Nat) (hbk b1 b2 b3 b4 n : Nat) (sh dy kd gr : Nat → Nat) (hsl s1 s2 s3 s4 n2 : Nat) (sh2 dy2 kd2 gr2 : Nat → Nat) (hi : bkI n sh dy kd gr) (hi2 : bkI n2 sh2 dy2 kd2 gr2) : Met l y_Jo_joinAnew ws_Jo_joinAnew { frames := 4, cells := 0, slots := 0, locals := 102 } (va_Pc [.ref h, .ref hbk, .ref hsl] (wrP (dC, dI) vwCl [(cI, .int), (cL, .long), (cZ, .boolean)] [(h, .inr (2, [.ref a1, .ref a2])), (a1, .inl (cI, 30, .inl (aO sp))), (a2, .inl (cI, 30, .inl (aO ps))), (hbk, .inr (1, [.ref b1, .ref b2, .ref b3, .ref b4, .int (nI n)])), (b1, .inl (cI, 30, .inl (aI sh))), (b2, .inl (cI, 30, .inl (aI dy))), (b3, .inl (cI, 30, .inl (aI kd))), (b4, .inl (cL, 30, .inr (.inl (aL gr)))), (hsl, .inr (1, [.ref s1, .ref s2, .ref s3, .ref s4, .int (nI n2)])), (s1, .inl (cI, 30, .inl (aI sh2))), (s2, .inl (cI, 30, .inl (aI dy2))), (s3, .inl (cI, 30, .inl (aI kd2))), (s4, .inl (cL, 30, .inr (.inl (aL gr2))))] sz)) (va_Qi (fun (r : Int32) (u : (Nat → Option Nat) × (Nat → Option Nat)) => ∃ i, r = nI i ∧ i ≤ 30 ∧ isRun (ptOf sh dy kd gr sh2 dy2 kd2 gr2) n n2 i ∧ u.1 = (JS (ptOf sh dy kd gr sh2 dy2 kd2 gr2) n n2 i).1 ∧ ∀ p k, u.1 p = some k → p < n ∧ k < n2) (fun (u : (Nat → Option Nat) × (Nat → Option Nat)) => wrQ (dC, dI) vwCl [(cI, .int), (cL, .long), (cZ, .boolean)] (va_A [(h, .inr (2, [.ref a1, .ref a2])), (a1, .inl (cI, 30, .inl (aO sp))), (a2, .inl (cI, 30, .inl (aO ps))), (hbk, .inr (1, [.ref b1, .ref b2, .ref b3, .ref b4, .int (nI n)])), (b1, .inl (cI, 30, .inl (aI sh))), (b2, .inl (cI, 30, .inl (aI dy))), (b3, .inl (cI, 30, .inl (aI kd))), (b4, .inl (cL, 30, .inr (.inl (aL gr)))), (hsl, .inr (1, [.ref s1, .ref s2, .ref s3, .ref s4, .int (nI n2)])), (s1, .inl (cI, 30, .inl (aI sh2))), (s2, .inl (cI, 30, .inl (aI dy2))), (s3, .inl (cI, 30, .inl (aI kd2))), (s4, .inl (cL, 30, .inr (.inl (aL gr2))))] sz) [(h, .inr (2, [.ref a1, .ref a2])), (a1, .inl (cI, 30, .inl (aO u.1))), (a2, .inl (cI, 30, .inl (aO u.2))), (hbk, .inr (1, [.ref b1, .ref b2, .ref b3, .ref b4, .int (nI n)])), (b1, .inl (cI, 30, .inl (aI sh))), (b2, .inl (cI, 30, .inl (aI dy))), (b3, .inl (cI, 30, .inl (aI kd))), (b4, .inl (cL, 30, .inr (.inl (aL gr)))), (hsl, .inr (1, [.ref s1, .ref s2, .ref s3, .ref s4, .int (nI n2)])), (s1, .inl (cI, 30, .inl (aI sh2))), (s2, .inl (cI, 30, .inl (aI dy2))), (s3, .inl (cI, 30, .inl (aI kd2))), (s4, .inl (cL, 30, .inr (.inl (aL gr2))))]) (va_A [(h, .inr (2, [.ref a1, .ref a2])), (a1, .inl (cI, 30, .inl (aO sp))), (a2, .inl (cI, 30, .inl (aO ps))), (hbk, .inr (1, [.ref b1, .ref b2, .ref b3, .ref b4, .int (nI n)])), (b1, .inl (cI, 30, .inl (aI sh))), (b2, .inl (cI, 30, .inl (aI dy))), (b3, .inl (cI, 30, .inl (aI kd))), (b4, .inl (cL, 30, .inr (.inl (aL gr)))), (hsl, .inr (1, [.ref s1, .ref s2, .ref s3, .ref s4, .int (nI n2)])), (s1, .inl (cI, 30, .inl (aI sh2))), (s2, .inl (cI, 30, .inl (aI dy2))), (s3, .inl (cI, 30, .inl (aI kd2))), (s4, .inl (cL, 30, .inr (.inl (aL gr2))))] sz)) 0 0 (va_A [(h, .inr (2, [.ref a1, .ref a2])), (a1, .inl (cI, 30, .inl (aO sp))), (a2, .inl (cI, 30, .inl (aO ps))), (hbk, .inr (1, [.ref b1, .ref b2, .ref b3, .ref b4, .int (nI n)])), (b1, .inl (cI, 30, .inl (aI sh))), (b2, .inl (cI, 30, .inl (aI dy))), (b3, .inl (cI, 30, .inl (aI kd))), (b4, .inl (cL, 30, .inr (.inl (aL gr)))), (hsl, .inr (1, [.ref s1, .ref s2, .ref s3, .ref s4, .int (nI n2)])), (s1, .inl (cI, 30, .inl (aI sh2))), (s2, .inl (cI, 30, .inl (aI dy2))), (s3, .inl (cI, 30, .inl (aI kd2))), (s4, .inl (cL, 30, .inr (.inl (aL gr2))))] sz) := by
  refine Met.ofW (cc := b_Jo_joinAnew) (maxL := 5) (ret := (some .int)) (by decide) rfl ?_
  intro pr en s m args below meth c s₁ B hml hv
  obtain ⟨rfl, hN, hsz, hP, hK, hD0⟩ := hv
  have hx := B.exec
  have hb := B.bytes
  have hr := B.returns
  have hts := atoms_spec (ws := ws_Jo_joinAnew) B.pre
  have htg : ∀ w ∈ gW, w.before _ s = true := fun w h => hts w (List.mem_cons_of_mem _ h)
  have hown : s.vm.findClass R_Jo = some m.cls := findClass_of_methodNamed B.named
  have hlocks := B.notSynchronized
  subst hsz
  have hD := hD0.self (sz := s.heap.size)
  generalize hAe : va_A [(h, .inr (2, [.ref a1, .ref a2])), (a1, .inl (cI, 30, .inl (aO sp))), (a2, .inl (cI, 30, .inl (aO ps))), (hbk, .inr (1, [.ref b1, .ref b2, .ref b3, .ref b4, .int (nI n)])), (b1, .inl (cI, 30, .inl (aI sh))), (b2, .inl (cI, 30, .inl (aI dy))), (b3, .inl (cI, 30, .inl (aI kd))), (b4, .inl (cL, 30, .inr (.inl (aL gr)))), (hsl, .inr (1, [.ref s1, .ref s2, .ref s3, .ref s4, .int (nI n2)])), (s1, .inl (cI, 30, .inl (aI sh2))), (s2, .inl (cI, 30, .inl (aI dy2))), (s3, .inl (cI, 30, .inl (aI kd2))), (s4, .inl (cL, 30, .inr (.inl (aL gr2))))] s.heap.size = A at hD ⊢
  have hA : ∀ q : Nat, s.heap.size ≤ q → A q := fun q h => by rw [← hAe]; exact Or.inr h
  have hS : va_S A s.heap s.heap [] := va_S.rf
  have hP : va_P (dC, dI) vwCl [(h, .inr (2, [.ref a1, .ref a2])), (a1, .inl (cI, 30, .inl (aO sp))), (a2, .inl (cI, 30, .inl (aO ps))), (hbk, .inr (1, [.ref b1, .ref b2, .ref b3, .ref b4, .int (nI n)])), (b1, .inl (cI, 30, .inl (aI sh))), (b2, .inl (cI, 30, .inl (aI dy))), (b3, .inl (cI, 30, .inl (aI kd))), (b4, .inl (cL, 30, .inr (.inl (aL gr)))), (hsl, .inr (1, [.ref s1, .ref s2, .ref s3, .ref s4, .int (nI n2)])), (s1, .inl (cI, 30, .inl (aI sh2))), (s2, .inl (cI, 30, .inl (aI dy2))), (s3, .inl (cI, 30, .inl (aI kd2))), (s4, .inl (cL, 30, .inr (.inl (aL gr2))))] s.heap := hP
  have hl := lv_entry ([.ref h, .ref hbk, .ref hsl]) (n := 5) (Nat.le_of_ble_eq_true rfl)
  rw [lg_entry_eq]
  generalize (lg_sl ([.ref h, .ref hbk, .ref hsl]) ++ List.replicate (5 - (lg_sl ([.ref h, .ref hbk, .ref hsl])).length) Slot.unset).toArray = ls at hl ⊢
  have hl : lv_has ls 5 [(0, .ref h), (1, .ref hbk), (2, .ref hsl)] := hl
  have hn := hi.1
  have hn2 := hi2.1
  refine lv_aload_n hx hb d_Jo_joinAnew_0 rfl (lv_at hl 0 rfl) ?_
  have hPc := hP.sub (ws' := [(h, .inr (2, [.ref a1, .ref a2])), (a1, .inl (cI, 30, .inl (aO sp))), (a2, .inl (cI, 30, .inl (aO ps)))]) [0, 1, 2] rfl
  have hDc := hD.sub (ws' := [(h, .inr (2, [.ref a1, .ref a2])), (a1, .inl (cI, 30, .inl (aO sp))), (a2, .inl (cI, 30, .inl (aO ps)))]) [0, 1, 2] (by decide) rfl
  have hFc := va_free (wc := [(h, .inr (2, [.ref a1, .ref a2])), (a1, .inl (cI, 30, .inl (aO sp))), (a2, .inl (cI, 30, .inl (aO ps)))]) hD hS hA [0, 1, 2] rfl
  refine va_callv (va_runV (As := []) (rest := []) ⟨hx, hb, hml, hown, htg⟩ (c_Jo_partAll l dC dI cI cL cZ s.heap.size h a1 a2 sp ps ) (cwV 0 htg (gdV k1_62 k1_64 ks_Jo_partAll k1_3 kc_Jo_partAll) rfl rfl rfl (by decide +kernel) ⟨Nat.le_of_ble_eq_true rfl, Nat.le_of_ble_eq_true rfl⟩) ⟨bk_blindW, va_recv hK hP (ci := 2) (q0 := 0) rfl rfl, fun U hU hW => ⟨rfl, nw_warm hW hN, by rw [hU], by rw [hU]; exact hPc, va_K.moved hW.alike hK, hDc.weaken (fun _ _ _ _ => trivial)⟩⟩ rfl rfl hl.1 rfl (lv_room (Nat.le_of_ble_eq_true rfl)) d_Jo_joinAnew_1 ⟨Nat.le_of_ble_eq_true rfl, Nat.le_of_ble_eq_true rfl⟩) hS (fun q _ h => hFc q h) hFc (fun u t H1 locs ht hvm e1 hB hz1 hk1 hS => ?_)
  obtain ⟨hP1, hK1, hD1⟩ := hB
  rw [ht] at hP1
  try dsimp only at e1
  obtain ⟨hP, hD⟩ := va_join (wr := [(hbk, .inr (1, [.ref b1, .ref b2, .ref b3, .ref b4, .int (nI n)])), (b1, .inl (cI, 30, .inl (aI sh))), (b2, .inl (cI, 30, .inl (aI dy))), (b3, .inl (cI, 30, .inl (aI kd))), (b4, .inl (cL, 30, .inr (.inl (aL gr)))), (hsl, .inr (1, [.ref s1, .ref s2, .ref s3, .ref s4, .int (nI n2)])), (s1, .inl (cI, 30, .inl (aI sh2))), (s2, .inl (cI, 30, .inl (aI dy2))), (s3, .inl (cI, 30, .inl (aI kd2))), (s4, .inl (cL, 30, .inr (.inl (aL gr2))))]) (w1 := [(h, .inr (2, [.ref a1, .ref a2])), (a1, .inl (cI, 30, .inl (aO (fun _ => none)))), (a2, .inl (cI, 30, .inl (aO (fun _ => none))))]) hP hD [0, 1, 2] [3, 4, 5, 6, 7, 8, 9, 10, 11, 12] rfl rfl (by decide) (by decide) hk1 hFc hP1 hD1
  generalize H1 = H at hP hS ⊢
  have hP : va_P (dC, dI) vwCl [(h, .inr (2, [.ref a1, .ref a2])), (a1, .inl (cI, 30, .inl (aO (fun _ => none)))), (a2, .inl (cI, 30, .inl (aO (fun _ => none)))), (hbk, .inr (1, [.ref b1, .ref b2, .ref b3, .ref b4, .int (nI n)])), (b1, .inl (cI, 30, .inl (aI sh))), (b2, .inl (cI, 30, .inl (aI dy))), (b3, .inl (cI, 30, .inl (aI kd))), (b4, .inl (cL, 30, .inr (.inl (aL gr)))), (hsl, .inr (1, [.ref s1, .ref s2, .ref s3, .ref s4, .int (nI n2)])), (s1, .inl (cI, 30, .inl (aI sh2))), (s2, .inl (cI, 30, .inl (aI dy2))), (s3, .inl (cI, 30, .inl (aI kd2))), (s4, .inl (cL, 30, .inr (.inl (aL gr2))))] H := hP.sub [10, 11, 12, 0, 1, 2, 3, 4, 5, 6, 7, 8, 9] rfl
  have hD : va_D A [(h, .inr (2, [.ref a1, .ref a2])), (a1, .inl (cI, 30, .inl (aO (fun _ => none)))), (a2, .inl (cI, 30, .inl (aO (fun _ => none)))), (hbk, .inr (1, [.ref b1, .ref b2, .ref b3, .ref b4, .int (nI n)])), (b1, .inl (cI, 30, .inl (aI sh))), (b2, .inl (cI, 30, .inl (aI dy))), (b3, .inl (cI, 30, .inl (aI kd))), (b4, .inl (cL, 30, .inr (.inl (aL gr)))), (hsl, .inr (1, [.ref s1, .ref s2, .ref s3, .ref s4, .int (nI n2)])), (s1, .inl (cI, 30, .inl (aI sh2))), (s2, .inl (cI, 30, .inl (aI dy2))), (s3, .inl (cI, 30, .inl (aI kd2))), (s4, .inl (cL, 30, .inr (.inl (aL gr2))))] := hD.sub [10, 11, 12, 0, 1, 2, 3, 4, 5, 6, 7, 8, 9] (by decide) rfl
  refine lv_iconst (v := nI 0) hx hb d_Jo_joinAnew_4 (by decide +kernel) ?_
  refine lv_istore_n (lv' := [(3, .int (nI 0)), (0, .ref h), (1, .ref hbk), (2, .ref hsl)]) hx hb d_Jo_joinAnew_5 rfl hl (by decide) rfl (fun ls hl => ?_)
  refine lv_iconst (v := nI 0) hx hb d_Jo_joinAnew_6 (by decide +kernel) ?_
  refine lv_istore (lv' := [(4, .int (nI 0)), (3, .int (nI 0)), (0, .ref h), (1, .ref hbk), (2, .ref hsl)]) hx hb d_Jo_joinAnew_7 hl (by decide) rfl (fun ls hl => ?_)
  have J9 : ∀ (k : Nat) (i : Nat) (sq : Nat → Option Nat) (pq : Nat → Option Nat), (i + k = 30) → ((sq, sdO pq) = JS (ptOf sh dy kd gr sh2 dy2 kd2 gr2) n n2 i) → (more (ptOf sh dy kd gr sh2 dy2 kd2 gr2) n n2 i) → (∀ p k, sq p = some k → p < n ∧ k < n2) → (∀ p k, pq p = some k → k < 30) → ∀ (H : Heap) (locs : List Loc), va_P (dC, dI) vwCl [(h, .inr (2, [.ref a1, .ref a2])), (a1, .inl (cI, 30, .inl (aO sq))), (a2, .inl (cI, 30, .inl (aO pq))), (hbk, .inr (1, [.ref b1, .ref b2, .ref b3, .ref b4, .int (nI n)])), (b1, .inl (cI, 30, .inl (aI sh))), (b2, .inl (cI, 30, .inl (aI dy))), (b3, .inl (cI, 30, .inl (aI kd))), (b4, .inl (cL, 30, .inr (.inl (aL gr)))), (hsl, .inr (1, [.ref s1, .ref s2, .ref s3, .ref s4, .int (nI n2)])), (s1, .inl (cI, 30, .inl (aI sh2))), (s2, .inl (cI, 30, .inl (aI dy2))), (s3, .inl (cI, 30, .inl (aI kd2))), (s4, .inl (cL, 30, .inr (.inl (aL gr2))))] H → va_D A [(h, .inr (2, [.ref a1, .ref a2])), (a1, .inl (cI, 30, .inl (aO sq))), (a2, .inl (cI, 30, .inl (aO pq))), (hbk, .inr (1, [.ref b1, .ref b2, .ref b3, .ref b4, .int (nI n)])), (b1, .inl (cI, 30, .inl (aI sh))), (b2, .inl (cI, 30, .inl (aI dy))), (b3, .inl (cI, 30, .inl (aI kd))), (b4, .inl (cL, 30, .inr (.inl (aL gr)))), (hsl, .inr (1, [.ref s1, .ref s2, .ref s3, .ref s4, .int (nI n2)])), (s1, .inl (cI, 30, .inl (aI sh2))), (s2, .inl (cI, 30, .inl (aI dy2))), (s3, .inl (cI, 30, .inl (aI kd2))), (s4, .inl (cL, 30, .inr (.inl (aL gr2))))] → va_S A s.heap H locs → ∀ (ls : Array Slot), lv_has ls 5 [(0, .ref h), (1, .ref hbk), (2, .ref hsl), (3, .int (nI i)), (4, .int (nI i))] → W pr l en (headSpec ws_Jo_joinAnew { frames := 4, cells := 0, slots := 0, locals := 102 }).room s m ([.ref h, .ref hbk, .ref hsl] : List Value).toArray below meth c H locs 0 0 (MQ below (va_Qi (fun (r : Int32) (u : (Nat → Option Nat) × (Nat → Option Nat)) => ∃ i, r = nI i ∧ i ≤ 30 ∧ isRun (ptOf sh dy kd gr sh2 dy2 kd2 gr2) n n2 i ∧ u.1 = (JS (ptOf sh dy kd gr sh2 dy2 kd2 gr2) n n2 i).1 ∧ ∀ p k, u.1 p = some k → p < n ∧ k < n2) (fun (u : (Nat → Option Nat) × (Nat → Option Nat)) => wrQ (dC, dI) vwCl [(cI, .int), (cL, .long), (cZ, .boolean)] A [(h, .inr (2, [.ref a1, .ref a2])), (a1, .inl (cI, 30, .inl (aO u.1))), (a2, .inl (cI, 30, .inl (aO u.2))), (hbk, .inr (1, [.ref b1, .ref b2, .ref b3, .ref b4, .int (nI n)])), (b1, .inl (cI, 30, .inl (aI sh))), (b2, .inl (cI, 30, .inl (aI dy))), (b3, .inl (cI, 30, .inl (aI kd))), (b4, .inl (cL, 30, .inr (.inl (aL gr)))), (hsl, .inr (1, [.ref s1, .ref s2, .ref s3, .ref s4, .int (nI n2)])), (s1, .inl (cI, 30, .inl (aI sh2))), (s2, .inl (cI, 30, .inl (aI dy2))), (s3, .inl (cI, 30, .inl (aI kd2))), (s4, .inl (cL, 30, .inr (.inl (aL gr2))))]) A) ([.ref h, .ref hbk, .ref hsl] : List Value).toArray s 0 0 A) (F0 m 9 ls []) := by
    intro k
    induction k with
    | zero =>
      intro i sq pq hk hj hmo hsp hps H locs hP hD hS ls hl
      refine lv_iload hx hb d_Jo_joinAnew_9 (lv_at hl 4 rfl) ?_
      refine lv_bipush (v := nI 30) hx hb d_Jo_joinAnew_11 (by decide +kernel) ?_
      refine bk_icmp_ge (a := i) (b := 30) (tgt := 34) hx hb (by omega) (by omega) d_Jo_joinAnew_13 (by decide) (fun c13 => ?_) (fun c13 => by exfalso; omega)
      refine lv_iload_n hx hb d_Jo_joinAnew_34 rfl (lv_at hl 3 rfl) ?_
      have hP9 := hP.sub (ws' := [(h, .inr (2, [.ref a1, .ref a2])), (a1, .inl (cI, 30, .inl (aO sq))), (a2, .inl (cI, 30, .inl (aO pq))), (hbk, .inr (1, [.ref b1, .ref b2, .ref b3, .ref b4, .int (nI n)])), (b1, .inl (cI, 30, .inl (aI sh))), (b2, .inl (cI, 30, .inl (aI dy))), (b3, .inl (cI, 30, .inl (aI kd))), (b4, .inl (cL, 30, .inr (.inl (aL gr)))), (hsl, .inr (1, [.ref s1, .ref s2, .ref s3, .ref s4, .int (nI n2)])), (s1, .inl (cI, 30, .inl (aI sh2))), (s2, .inl (cI, 30, .inl (aI dy2))), (s3, .inl (cI, 30, .inl (aI kd2))), (s4, .inl (cL, 30, .inr (.inl (aL gr2))))]) [0, 1, 2, 3, 4, 5, 6, 7, 8, 9, 10, 11, 12] rfl
      have hD9 := hD.sub (ws' := [(h, .inr (2, [.ref a1, .ref a2])), (a1, .inl (cI, 30, .inl (aO sq))), (a2, .inl (cI, 30, .inl (aO pq))), (hbk, .inr (1, [.ref b1, .ref b2, .ref b3, .ref b4, .int (nI n)])), (b1, .inl (cI, 30, .inl (aI sh))), (b2, .inl (cI, 30, .inl (aI dy))), (b3, .inl (cI, 30, .inl (aI kd))), (b4, .inl (cL, 30, .inr (.inl (aL gr)))), (hsl, .inr (1, [.ref s1, .ref s2, .ref s3, .ref s4, .int (nI n2)])), (s1, .inl (cI, 30, .inl (aI sh2))), (s2, .inl (cI, 30, .inl (aI dy2))), (s3, .inl (cI, 30, .inl (aI kd2))), (s4, .inl (cL, 30, .inr (.inl (aL gr2))))]) [0, 1, 2, 3, 4, 5, 6, 7, 8, 9, 10, 11, 12] (by decide) rfl
      exact W.iret (v := nI i) hx hb hr (fun t9 ht9 hW9 => ⟨⟨nI i, (sq, pq), rfl, ⟨i, rfl, by omega, ⟨by first | exact js_end hmo (by omega) | (rw [← hj]; exact z19), hmo⟩, by rw [← hj], hsp⟩, by rw [ht9]; exact hP9, va_K.moved hW9.alike hK, hD9⟩, hS.F ht9⟩) hS.2.2 d_Jo_joinAnew_35
    | succ k ih9 =>
      intro i sq pq hk hj hmo hsp hps H locs hP hD hS ls hl
      refine lv_iload hx hb d_Jo_joinAnew_9 (lv_at hl 4 rfl) ?_
      refine lv_bipush (v := nI 30) hx hb d_Jo_joinAnew_11 (by decide +kernel) ?_
      refine bk_icmp_ge (a := i) (b := 30) (tgt := 34) hx hb (by omega) (by omega) d_Jo_joinAnew_13 (by decide) (fun c13 => by exfalso; omega) (fun c13 => ?_)
      refine lv_aload_n hx hb d_Jo_joinAnew_16 rfl (lv_at hl 0 rfl) ?_
      refine lv_aload_n hx hb d_Jo_joinAnew_17 rfl (lv_at hl 1 rfl) ?_
      refine lv_aload_n hx hb d_Jo_joinAnew_18 rfl (lv_at hl 2 rfl) ?_
      have hPc := hP.sub (ws' := [(h, .inr (2, [.ref a1, .ref a2])), (a1, .inl (cI, 30, .inl (aO sq))), (a2, .inl (cI, 30, .inl (aO pq))), (hbk, .inr (1, [.ref b1, .ref b2, .ref b3, .ref b4, .int (nI n)])), (b1, .inl (cI, 30, .inl (aI sh))), (b2, .inl (cI, 30, .inl (aI dy))), (b3, .inl (cI, 30, .inl (aI kd))), (b4, .inl (cL, 30, .inr (.inl (aL gr)))), (hsl, .inr (1, [.ref s1, .ref s2, .ref s3, .ref s4, .int (nI n2)])), (s1, .inl (cI, 30, .inl (aI sh2))), (s2, .inl (cI, 30, .inl (aI dy2))), (s3, .inl (cI, 30, .inl (aI kd2))), (s4, .inl (cL, 30, .inr (.inl (aL gr2))))]) [0, 1, 2, 3, 4, 5, 6, 7, 8, 9, 10, 11, 12] rfl
      have hDc := hD.sub (ws' := [(h, .inr (2, [.ref a1, .ref a2])), (a1, .inl (cI, 30, .inl (aO sq))), (a2, .inl (cI, 30, .inl (aO pq))), (hbk, .inr (1, [.ref b1, .ref b2, .ref b3, .ref b4, .int (nI n)])), (b1, .inl (cI, 30, .inl (aI sh))), (b2, .inl (cI, 30, .inl (aI dy))), (b3, .inl (cI, 30, .inl (aI kd))), (b4, .inl (cL, 30, .inr (.inl (aL gr)))), (hsl, .inr (1, [.ref s1, .ref s2, .ref s3, .ref s4, .int (nI n2)])), (s1, .inl (cI, 30, .inl (aI sh2))), (s2, .inl (cI, 30, .inl (aI dy2))), (s3, .inl (cI, 30, .inl (aI kd2))), (s4, .inl (cL, 30, .inr (.inl (aL gr2))))]) [0, 1, 2, 3, 4, 5, 6, 7, 8, 9, 10, 11, 12] (by decide) rfl
      have hFc := va_free (wc := [(h, .inr (2, [.ref a1, .ref a2])), (a1, .inl (cI, 30, .inl (aO sq))), (a2, .inl (cI, 30, .inl (aO pq))), (hbk, .inr (1, [.ref b1, .ref b2, .ref b3, .ref b4, .int (nI n)])), (b1, .inl (cI, 30, .inl (aI sh))), (b2, .inl (cI, 30, .inl (aI dy))), (b3, .inl (cI, 30, .inl (aI kd))), (b4, .inl (cL, 30, .inr (.inl (aL gr)))), (hsl, .inr (1, [.ref s1, .ref s2, .ref s3, .ref s4, .int (nI n2)])), (s1, .inl (cI, 30, .inl (aI sh2))), (s2, .inl (cI, 30, .inl (aI dy2))), (s3, .inl (cI, 30, .inl (aI kd2))), (s4, .inl (cL, 30, .inr (.inl (aL gr2))))]) hD hS hA [0, 1, 2, 3, 4, 5, 6, 7, 8, 9, 10, 11, 12] rfl
      refine va_calli (va_runV (As := [.ref hbk, .ref hsl]) (rest := []) ⟨hx, hb, hml, hown, htg⟩ (c_Jo_joinBest l dC dI cI cL cZ H.size h a1 a2 sq pq hbk b1 b2 b3 b4 n sh dy kd gr hsl s1 s2 s3 s4 n2 sh2 dy2 kd2 gr2 hi hi2 (fun p k h => by have := (hsp p k h).2; omega) hps) (cwV 2 htg (gdV k1_222 k1_224 ks_Jo_joinBest k1_3 kc_Jo_joinBest) rfl rfl rfl (by decide +kernel) ⟨Nat.le_of_ble_eq_true rfl, Nat.le_of_ble_eq_true rfl⟩) ⟨bk_blindW, va_recv hK hP (ci := 2) (q0 := 0) rfl rfl, fun U hU hW => ⟨rfl, nw_warm hW hN, by rw [hU], by rw [hU]; exact hPc, va_K.moved hW.alike hK, hDc.weaken (fun _ _ _ _ => trivial)⟩⟩ rfl rfl hl.1 rfl (lv_room (Nat.le_of_ble_eq_true rfl)) d_Jo_joinAnew_19 ⟨Nat.le_of_ble_eq_true rfl, Nat.le_of_ble_eq_true rfl⟩) hS (fun q _ h => hFc q h) hFc (fun r19 u t H1 locs ht hvm e19 hB hz1 hk1 hS => ?_)
      obtain ⟨hP1, hK1, hD1⟩ := hB
      rw [ht] at hP1
      try dsimp only at e19
      rcases e19 with ⟨z19, rfl, rfl⟩ | ⟨z19, rfl, rfl⟩
      · obtain ⟨hP, hD⟩ := va_join (wr := []) (w1 := [(h, .inr (2, [.ref a1, .ref a2])), (a1, .inl (cI, 30, .inl (aO sq))), (a2, .inl (cI, 30, .inl (aO pq))), (hbk, .inr (1, [.ref b1, .ref b2, .ref b3, .ref b4, .int (nI n)])), (b1, .inl (cI, 30, .inl (aI sh))), (b2, .inl (cI, 30, .inl (aI dy))), (b3, .inl (cI, 30, .inl (aI kd))), (b4, .inl (cL, 30, .inr (.inl (aL gr)))), (hsl, .inr (1, [.ref s1, .ref s2, .ref s3, .ref s4, .int (nI n2)])), (s1, .inl (cI, 30, .inl (aI sh2))), (s2, .inl (cI, 30, .inl (aI dy2))), (s3, .inl (cI, 30, .inl (aI kd2))), (s4, .inl (cL, 30, .inr (.inl (aL gr2))))]) hP hD [0, 1, 2, 3, 4, 5, 6, 7, 8, 9, 10, 11, 12] [] rfl rfl (by decide) (by decide) hk1 hFc hP1 hD1
        generalize H1 = H at hP hS ⊢
        have hP : va_P (dC, dI) vwCl [(h, .inr (2, [.ref a1, .ref a2])), (a1, .inl (cI, 30, .inl (aO sq))), (a2, .inl (cI, 30, .inl (aO pq))), (hbk, .inr (1, [.ref b1, .ref b2, .ref b3, .ref b4, .int (nI n)])), (b1, .inl (cI, 30, .inl (aI sh))), (b2, .inl (cI, 30, .inl (aI dy))), (b3, .inl (cI, 30, .inl (aI kd))), (b4, .inl (cL, 30, .inr (.inl (aL gr)))), (hsl, .inr (1, [.ref s1, .ref s2, .ref s3, .ref s4, .int (nI n2)])), (s1, .inl (cI, 30, .inl (aI sh2))), (s2, .inl (cI, 30, .inl (aI dy2))), (s3, .inl (cI, 30, .inl (aI kd2))), (s4, .inl (cL, 30, .inr (.inl (aL gr2))))] H := hP.sub [0, 1, 2, 3, 4, 5, 6, 7, 8, 9, 10, 11, 12] rfl
        have hD : va_D A [(h, .inr (2, [.ref a1, .ref a2])), (a1, .inl (cI, 30, .inl (aO sq))), (a2, .inl (cI, 30, .inl (aO pq))), (hbk, .inr (1, [.ref b1, .ref b2, .ref b3, .ref b4, .int (nI n)])), (b1, .inl (cI, 30, .inl (aI sh))), (b2, .inl (cI, 30, .inl (aI dy))), (b3, .inl (cI, 30, .inl (aI kd))), (b4, .inl (cL, 30, .inr (.inl (aL gr)))), (hsl, .inr (1, [.ref s1, .ref s2, .ref s3, .ref s4, .int (nI n2)])), (s1, .inl (cI, 30, .inl (aI sh2))), (s2, .inl (cI, 30, .inl (aI dy2))), (s3, .inl (cI, 30, .inl (aI kd2))), (s4, .inl (cL, 30, .inr (.inl (aL gr2))))] := hD.sub [0, 1, 2, 3, 4, 5, 6, 7, 8, 9, 10, 11, 12] (by decide) rfl
        refine bk_if_eq (a := 0) (tgt := 34) hx hb (by omega) d_Jo_joinAnew_22 (by decide) (fun c22 => ?_) (fun c22 => absurd c22 (by decide))
        refine lv_iload_n hx hb d_Jo_joinAnew_34 rfl (lv_at hl 3 rfl) ?_
        have hP9 := hP.sub (ws' := [(h, .inr (2, [.ref a1, .ref a2])), (a1, .inl (cI, 30, .inl (aO sq))), (a2, .inl (cI, 30, .inl (aO pq))), (hbk, .inr (1, [.ref b1, .ref b2, .ref b3, .ref b4, .int (nI n)])), (b1, .inl (cI, 30, .inl (aI sh))), (b2, .inl (cI, 30, .inl (aI dy))), (b3, .inl (cI, 30, .inl (aI kd))), (b4, .inl (cL, 30, .inr (.inl (aL gr)))), (hsl, .inr (1, [.ref s1, .ref s2, .ref s3, .ref s4, .int (nI n2)])), (s1, .inl (cI, 30, .inl (aI sh2))), (s2, .inl (cI, 30, .inl (aI dy2))), (s3, .inl (cI, 30, .inl (aI kd2))), (s4, .inl (cL, 30, .inr (.inl (aL gr2))))]) [0, 1, 2, 3, 4, 5, 6, 7, 8, 9, 10, 11, 12] rfl
        have hD9 := hD.sub (ws' := [(h, .inr (2, [.ref a1, .ref a2])), (a1, .inl (cI, 30, .inl (aO sq))), (a2, .inl (cI, 30, .inl (aO pq))), (hbk, .inr (1, [.ref b1, .ref b2, .ref b3, .ref b4, .int (nI n)])), (b1, .inl (cI, 30, .inl (aI sh))), (b2, .inl (cI, 30, .inl (aI dy))), (b3, .inl (cI, 30, .inl (aI kd))), (b4, .inl (cL, 30, .inr (.inl (aL gr)))), (hsl, .inr (1, [.ref s1, .ref s2, .ref s3, .ref s4, .int (nI n2)])), (s1, .inl (cI, 30, .inl (aI sh2))), (s2, .inl (cI, 30, .inl (aI dy2))), (s3, .inl (cI, 30, .inl (aI kd2))), (s4, .inl (cL, 30, .inr (.inl (aL gr2))))]) [0, 1, 2, 3, 4, 5, 6, 7, 8, 9, 10, 11, 12] (by decide) rfl
        exact W.iret (v := nI i) hx hb hr (fun t9 ht9 hW9 => ⟨⟨nI i, (sq, pq), rfl, ⟨i, rfl, by omega, ⟨by first | exact js_end hmo (by omega) | (rw [← hj]; exact z19), hmo⟩, by rw [← hj], hsp⟩, by rw [ht9]; exact hP9, va_K.moved hW9.alike hK, hD9⟩, hS.F ht9⟩) hS.2.2 d_Jo_joinAnew_35
      · obtain ⟨hP, hD⟩ := va_join (wr := []) (w1 := [(h, .inr (2, [.ref a1, .ref a2])), (a1, .inl (cI, 30, .inl (aO (va_up sq (jbest (ptOf sh dy kd gr sh2 dy2 kd2 gr2) n n2 (sq, sdO pq)).2.1 (some (jbest (ptOf sh dy kd gr sh2 dy2 kd2 gr2) n n2 (sq, sdO pq)).2.2))))), (a2, .inl (cI, 30, .inl (aO (va_up pq (jbest (ptOf sh dy kd gr sh2 dy2 kd2 gr2) n n2 (sq, sdO pq)).2.2 (some (jbest (ptOf sh dy kd gr sh2 dy2 kd2 gr2) n n2 (sq, sdO pq)).2.1))))), (hbk, .inr (1, [.ref b1, .ref b2, .ref b3, .ref b4, .int (nI n)])), (b1, .inl (cI, 30, .inl (aI sh))), (b2, .inl (cI, 30, .inl (aI dy))), (b3, .inl (cI, 30, .inl (aI kd))), (b4, .inl (cL, 30, .inr (.inl (aL gr)))), (hsl, .inr (1, [.ref s1, .ref s2, .ref s3, .ref s4, .int (nI n2)])), (s1, .inl (cI, 30, .inl (aI sh2))), (s2, .inl (cI, 30, .inl (aI dy2))), (s3, .inl (cI, 30, .inl (aI kd2))), (s4, .inl (cL, 30, .inr (.inl (aL gr2))))]) hP hD [0, 1, 2, 3, 4, 5, 6, 7, 8, 9, 10, 11, 12] [] rfl rfl (by decide) (by decide) hk1 hFc hP1 hD1
        generalize H1 = H at hP hS ⊢
        have hP : va_P (dC, dI) vwCl [(h, .inr (2, [.ref a1, .ref a2])), (a1, .inl (cI, 30, .inl (aO (va_up sq (jbest (ptOf sh dy kd gr sh2 dy2 kd2 gr2) n n2 (sq, sdO pq)).2.1 (some (jbest (ptOf sh dy kd gr sh2 dy2 kd2 gr2) n n2 (sq, sdO pq)).2.2))))), (a2, .inl (cI, 30, .inl (aO (va_up pq (jbest (ptOf sh dy kd gr sh2 dy2 kd2 gr2) n n2 (sq, sdO pq)).2.2 (some (jbest (ptOf sh dy kd gr sh2 dy2 kd2 gr2) n n2 (sq, sdO pq)).2.1))))), (hbk, .inr (1, [.ref b1, .ref b2, .ref b3, .ref b4, .int (nI n)])), (b1, .inl (cI, 30, .inl (aI sh))), (b2, .inl (cI, 30, .inl (aI dy))), (b3, .inl (cI, 30, .inl (aI kd))), (b4, .inl (cL, 30, .inr (.inl (aL gr)))), (hsl, .inr (1, [.ref s1, .ref s2, .ref s3, .ref s4, .int (nI n2)])), (s1, .inl (cI, 30, .inl (aI sh2))), (s2, .inl (cI, 30, .inl (aI dy2))), (s3, .inl (cI, 30, .inl (aI kd2))), (s4, .inl (cL, 30, .inr (.inl (aL gr2))))] H := hP.sub [0, 1, 2, 3, 4, 5, 6, 7, 8, 9, 10, 11, 12] rfl
        have hD : va_D A [(h, .inr (2, [.ref a1, .ref a2])), (a1, .inl (cI, 30, .inl (aO (va_up sq (jbest (ptOf sh dy kd gr sh2 dy2 kd2 gr2) n n2 (sq, sdO pq)).2.1 (some (jbest (ptOf sh dy kd gr sh2 dy2 kd2 gr2) n n2 (sq, sdO pq)).2.2))))), (a2, .inl (cI, 30, .inl (aO (va_up pq (jbest (ptOf sh dy kd gr sh2 dy2 kd2 gr2) n n2 (sq, sdO pq)).2.2 (some (jbest (ptOf sh dy kd gr sh2 dy2 kd2 gr2) n n2 (sq, sdO pq)).2.1))))), (hbk, .inr (1, [.ref b1, .ref b2, .ref b3, .ref b4, .int (nI n)])), (b1, .inl (cI, 30, .inl (aI sh))), (b2, .inl (cI, 30, .inl (aI dy))), (b3, .inl (cI, 30, .inl (aI kd))), (b4, .inl (cL, 30, .inr (.inl (aL gr)))), (hsl, .inr (1, [.ref s1, .ref s2, .ref s3, .ref s4, .int (nI n2)])), (s1, .inl (cI, 30, .inl (aI sh2))), (s2, .inl (cI, 30, .inl (aI dy2))), (s3, .inl (cI, 30, .inl (aI kd2))), (s4, .inl (cL, 30, .inr (.inl (aL gr2))))] := hD.sub [0, 1, 2, 3, 4, 5, 6, 7, 8, 9, 10, 11, 12] (by decide) rfl
        refine bk_if_eq (a := 1) (tgt := 34) hx hb (by omega) d_Jo_joinAnew_22 (by decide) (fun c22 => absurd c22 (by decide)) (fun c22 => ?_)
        refine lv_iinc (v := nI (i + 1)) (lv' := [(3, .int (nI (i + 1))), (0, .ref h), (1, .ref hbk), (2, .ref hsl), (4, .int (nI i))]) hx hb d_Jo_joinAnew_25 hl (k := 3) rfl (bk_inc i) (by decide) rfl (fun ls hl => ?_)
        refine lv_iinc (v := nI (i + 1)) (lv' := [(4, .int (nI (i + 1))), (3, .int (nI (i + 1))), (0, .ref h), (1, .ref hbk), (2, .ref hsl)]) hx hb d_Jo_joinAnew_28 hl (k := 4) rfl (bk_inc i) (by decide) rfl (fun ls hl => ?_)
        refine lv_goto (tgt := 9) hx hb d_Jo_joinAnew_31 (by decide) ?_
        exact ih9 (i + 1) (va_up sq (jbest (ptOf sh dy kd gr sh2 dy2 kd2 gr2) n n2 (sq, sdO pq)).2.1 (some (jbest (ptOf sh dy kd gr sh2 dy2 kd2 gr2) n n2 (sq, sdO pq)).2.2)) (va_up pq (jbest (ptOf sh dy kd gr sh2 dy2 kd2 gr2) n n2 (sq, sdO pq)).2.2 (some (jbest (ptOf sh dy kd gr sh2 dy2 kd2 gr2) n n2 (sq, sdO pq)).2.1)) (by omega) (js_next hj) (more_next hj hmo z19) (rng_up hsp (best_rng z19).1 (best_rng z19).2) (some_up hps (by have := (best_rng z19).1; omega)) _ _ (hP.sub [0, 1, 2, 3, 4, 5, 6, 7, 8, 9, 10, 11, 12] rfl) (hD.sub [0, 1, 2, 3, 4, 5, 6, 7, 8, 9, 10, 11, 12] (by decide) rfl) hS ls (lv_sub hl [2, 3, 4, 1, 0] rfl)
  exact J9 30 0 (fun _ => none) (fun _ => none) (by omega) rfl (fun k h => absurd h (by omega)) (fun p k h => nomatch h) (fun p k h => nomatch h) _ _ (hP.sub [0, 1, 2, 3, 4, 5, 6, 7, 8, 9, 10, 11, 12] rfl) (hD.sub [0, 1, 2, 3, 4, 5, 6, 7, 8, 9, 10, 11, 12] (by decide) rfl) hS ls (lv_sub hl [2, 3, 4, 1, 0] rfl)
