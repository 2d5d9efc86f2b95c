set_option maxHeartbeats 4000000 in
set_option maxRecDepth 100000 in
theorem c_B_isShip (l : Launch) (dC : Nat → ClassId) (dI : Nat → Nat → Nat) (cI cL cZ : ClassId) (x : Int32) : Met l y_B_isShip ws_B_isShip { frames := 0, cells := 0, slots := 0, locals := 0 } (va_Pc [.int x] (fun _ => True)) (vp_Si (fun r => (inR 10 x ∧ r = nI 1) ∨ (¬ inR 10 x ∧ r = nI 0))) 0 0 (fun _ => False) := by
  refine Met.ofW (cc := b_B_isShip) (maxL := 1) (ret := (some .boolean)) (by decide) rfl ?_
  intro p e s m args below meth c s₁ B hml hv
  obtain ⟨rfl, -⟩ := hv
  have hx := B.exec
  have hb := B.bytes
  have hr := B.returns
  have hts := atoms_spec (ws := ws_B_isShip) B.pre
  have htg : ∀ w ∈ gW, w.before _ s = true := fun w h => hts w (List.mem_cons_of_mem _ h)
  have hown : s.vm.findClass R_B = some m.cls := findClass_of_methodNamed B.named
  have hlocks := B.notSynchronized
  have hl := lv_entry ([.int x]) (n := 1) (Nat.le_of_ble_eq_true rfl)
  rw [lg_entry_eq]
  generalize (lg_sl ([.int x]) ++ List.replicate (1 - (lg_sl ([.int x])).length) Slot.unset).toArray = ls at hl ⊢
  have hl : lv_has ls 1 [(0, .int x)] := hl
  refine lv_iload_n hx hb d_B_isShip_0 rfl (lv_at hl 0 rfl) ?_
  refine lv_if_lt (x := x) (tgt := 14) hx hb d_B_isShip_1 (by decide) (fun c1 => ?_) (fun c1 => ?_)
  · refine lv_iconst (v := nI 0) hx hb d_B_isShip_14 (by decide +kernel) ?_
    exact W.zret (v := nI 0) (ty := .boolean) hx hb hr rfl (fun t ht hW => ⟨nI 0, rfl, Or.inr ⟨by first | exact inR_neg (by decide) (by assumption) | exact inR_big (by decide) (by assumption), rfl⟩, ht⟩) (fun q h => nomatch h) d_B_isShip_15
  · refine lv_iload_n hx hb d_B_isShip_4 rfl (lv_at hl 0 rfl) ?_
    refine lv_bipush (v := nI 10) hx hb d_B_isShip_5 (by decide +kernel) ?_
    refine lv_icmp_ge (x := x) (y := nI 10) (tgt := 14) hx hb d_B_isShip_7 (by decide) (fun c7 => ?_) (fun c7 => ?_)
    · refine lv_iconst (v := nI 0) hx hb d_B_isShip_14 (by decide +kernel) ?_
      exact W.zret (v := nI 0) (ty := .boolean) hx hb hr rfl (fun t ht hW => ⟨nI 0, rfl, Or.inr ⟨by first | exact inR_neg (by decide) (by assumption) | exact inR_big (by decide) (by assumption), rfl⟩, ht⟩) (fun q h => nomatch h) d_B_isShip_15
    · refine lv_iconst (v := nI 1) hx hb d_B_isShip_10 (by decide +kernel) ?_
      refine lv_goto (tgt := 15) hx hb d_B_isShip_11 (by decide) ?_
      exact W.zret (v := nI 1) (ty := .boolean) hx hb hr rfl (fun t ht hW => ⟨nI 1, rfl, Or.inl ⟨inR_of (by decide) (by assumption) (by assumption), rfl⟩, ht⟩) (fun q h => nomatch h) d_B_isShip_15
set_option maxHeartbeats 4000000 in
set_option maxRecDepth 100000 in
theorem c_B_isKind (l : Launch) (dC : Nat → ClassId) (dI : Nat → Nat → Nat) (cI cL cZ : ClassId) (x : Int32) : Met l y_B_isKind ws_B_isKind { frames := 0, cells := 0, slots := 0, locals := 0 } (va_Pc [.int x] (fun _ => True)) (vp_Si (fun r => (inR 10 x ∧ r = nI 1) ∨ (¬ inR 10 x ∧ r = nI 0))) 0 0 (fun _ => False) := by
  refine Met.ofW (cc := b_B_isKind) (maxL := 1) (ret := (some .boolean)) (by decide) rfl ?_
  intro p e s m args below meth c s₁ B hml hv
  obtain ⟨rfl, -⟩ := hv
  have hx := B.exec
  have hb := B.bytes
  have hr := B.returns
  have hts := atoms_spec (ws := ws_B_isKind) B.pre
  have htg : ∀ w ∈ gW, w.before _ s = true := fun w h => hts w (List.mem_cons_of_mem _ h)
  have hown : s.vm.findClass R_B = some m.cls := findClass_of_methodNamed B.named
  have hlocks := B.notSynchronized
  have hl := lv_entry ([.int x]) (n := 1) (Nat.le_of_ble_eq_true rfl)
  rw [lg_entry_eq]
  generalize (lg_sl ([.int x]) ++ List.replicate (1 - (lg_sl ([.int x])).length) Slot.unset).toArray = ls at hl ⊢
  have hl : lv_has ls 1 [(0, .int x)] := hl
  refine lv_iload_n hx hb d_B_isKind_0 rfl (lv_at hl 0 rfl) ?_
  refine lv_if_lt (x := x) (tgt := 14) hx hb d_B_isKind_1 (by decide) (fun c1 => ?_) (fun c1 => ?_)
  · refine lv_iconst (v := nI 0) hx hb d_B_isKind_14 (by decide +kernel) ?_
    exact W.zret (v := nI 0) (ty := .boolean) hx hb hr rfl (fun t ht hW => ⟨nI 0, rfl, Or.inr ⟨by first | exact inR_neg (by decide) (by assumption) | exact inR_big (by decide) (by assumption), rfl⟩, ht⟩) (fun q h => nomatch h) d_B_isKind_15
  · refine lv_iload_n hx hb d_B_isKind_4 rfl (lv_at hl 0 rfl) ?_
    refine lv_bipush (v := nI 10) hx hb d_B_isKind_5 (by decide +kernel) ?_
    refine lv_icmp_ge (x := x) (y := nI 10) (tgt := 14) hx hb d_B_isKind_7 (by decide) (fun c7 => ?_) (fun c7 => ?_)
    · refine lv_iconst (v := nI 0) hx hb d_B_isKind_14 (by decide +kernel) ?_
      exact W.zret (v := nI 0) (ty := .boolean) hx hb hr rfl (fun t ht hW => ⟨nI 0, rfl, Or.inr ⟨by first | exact inR_neg (by decide) (by assumption) | exact inR_big (by decide) (by assumption), rfl⟩, ht⟩) (fun q h => nomatch h) d_B_isKind_15
    · refine lv_iconst (v := nI 1) hx hb d_B_isKind_10 (by decide +kernel) ?_
      refine lv_goto (tgt := 15) hx hb d_B_isKind_11 (by decide) ?_
      exact W.zret (v := nI 1) (ty := .boolean) hx hb hr rfl (fun t ht hW => ⟨nI 1, rfl, Or.inl ⟨inR_of (by decide) (by assumption) (by assumption), rfl⟩, ht⟩) (fun q h => nomatch h) d_B_isKind_15
set_option maxHeartbeats 4000000 in
set_option maxRecDepth 100000 in
theorem c_B_isDay (l : Launch) (dC : Nat → ClassId) (dI : Nat → Nat → Nat) (cI cL cZ : ClassId) (x : Int32) : Met l y_B_isDay ws_B_isDay { frames := 0, cells := 0, slots := 0, locals := 0 } (va_Pc [.int x] (fun _ => True)) (vp_Si (fun r => (inR 100001 x ∧ r = nI 1) ∨ (¬ inR 100001 x ∧ r = nI 0))) 0 0 (fun _ => False) := by
  refine Met.ofW (cc := b_B_isDay) (maxL := 1) (ret := (some .boolean)) (by decide) rfl ?_
  intro p e s m args below meth c s₁ B hml hv
  obtain ⟨rfl, -⟩ := hv
  have hx := B.exec
  have hb := B.bytes
  have hr := B.returns
  have hts := atoms_spec (ws := ws_B_isDay) B.pre
  have htg : ∀ w ∈ gW, w.before _ s = true := fun w h => hts w (List.mem_cons_of_mem _ h)
  have hown : s.vm.findClass R_B = some m.cls := findClass_of_methodNamed B.named
  have hlocks := B.notSynchronized
  have hl := lv_entry ([.int x]) (n := 1) (Nat.le_of_ble_eq_true rfl)
  rw [lg_entry_eq]
  generalize (lg_sl ([.int x]) ++ List.replicate (1 - (lg_sl ([.int x])).length) Slot.unset).toArray = ls at hl ⊢
  have hl : lv_has ls 1 [(0, .int x)] := hl
  refine lv_iload_n hx hb d_B_isDay_0 rfl (lv_at hl 0 rfl) ?_
  refine lv_if_lt (x := x) (tgt := 14) hx hb d_B_isDay_1 (by decide) (fun c1 => ?_) (fun c1 => ?_)
  · refine lv_iconst (v := nI 0) hx hb d_B_isDay_14 (by decide +kernel) ?_
    exact W.zret (v := nI 0) (ty := .boolean) hx hb hr rfl (fun t ht hW => ⟨nI 0, rfl, Or.inr ⟨by first | exact inR_neg (by decide) (by assumption) | exact inR_gt (n := 100000) (by decide) (by assumption), rfl⟩, ht⟩) (fun q h => nomatch h) d_B_isDay_15
  · refine lv_iload_n hx hb d_B_isDay_4 rfl (lv_at hl 0 rfl) ?_
    refine lv_ldc (own := R_B) (v := 100000) hx hb hown (htg _ k1_202) d_B_isDay_5 ?_
    refine bk_topi (y := nI 100000) (by decide +kernel) ?_
    refine lv_icmp_gt (x := x) (y := nI 100000) (tgt := 14) hx hb d_B_isDay_7 (by decide) (fun c7 => ?_) (fun c7 => ?_)
    · refine lv_iconst (v := nI 0) hx hb d_B_isDay_14 (by decide +kernel) ?_
      exact W.zret (v := nI 0) (ty := .boolean) hx hb hr rfl (fun t ht hW => ⟨nI 0, rfl, Or.inr ⟨by first | exact inR_neg (by decide) (by assumption) | exact inR_gt (n := 100000) (by decide) (by assumption), rfl⟩, ht⟩) (fun q h => nomatch h) d_B_isDay_15
    · refine lv_iconst (v := nI 1) hx hb d_B_isDay_10 (by decide +kernel) ?_
      refine lv_goto (tgt := 15) hx hb d_B_isDay_11 (by decide) ?_
      exact W.zret (v := nI 1) (ty := .boolean) hx hb hr rfl (fun t ht hW => ⟨nI 1, rfl, Or.inl ⟨inR_le (n := 100000) (by decide) (by assumption) (by assumption), rfl⟩, ht⟩) (fun q h => nomatch h) d_B_isDay_15
set_option maxHeartbeats 4000000 in
set_option maxRecDepth 100000 in
theorem c_B_isWeighed (l : Launch) (dC : Nat → ClassId) (dI : Nat → Nat → Nat) (cI cL cZ : ClassId) (x : Int64) : Met l y_B_isWeighed ws_B_isWeighed { frames := 0, cells := 0, slots := 0, locals := 0 } (va_Pc [.long x] (fun _ => True)) (vp_Si (fun r => (inL 1 1000000000 x ∧ r = nI 1) ∨ (¬ inL 1 1000000000 x ∧ r = nI 0))) 0 0 (fun _ => False) := by
  refine Met.ofW (cc := b_B_isWeighed) (maxL := 2) (ret := (some .boolean)) (by decide) rfl ?_
  intro p e s m args below meth c s₁ B hml hv
  obtain ⟨rfl, -⟩ := hv
  have hx := B.exec
  have hb := B.bytes
  have hr := B.returns
  have hts := atoms_spec (ws := ws_B_isWeighed) B.pre
  have htg : ∀ w ∈ gW, w.before _ s = true := fun w h => hts w (List.mem_cons_of_mem _ h)
  have hown : s.vm.findClass R_B = some m.cls := findClass_of_methodNamed B.named
  have hlocks := B.notSynchronized
  have hl := lv_entry ([.long x]) (n := 2) (Nat.le_of_ble_eq_true rfl)
  rw [lg_entry_eq]
  generalize (lg_sl ([.long x]) ++ List.replicate (2 - (lg_sl ([.long x])).length) Slot.unset).toArray = ls at hl ⊢
  have hl : lv_has ls 2 [(0, .long x)] := hl
  refine lv_lload_n hx hb d_B_isWeighed_0 rfl (lv_at hl 0 rfl) ?_
  refine lv_lconst (v := lN 1) hx hb d_B_isWeighed_1 (by decide +kernel) ?_
  refine bk_lcmp_lt (x := x) (y := lN 1) (tgt := 18) hx hb d_B_isWeighed_2 d_B_isWeighed_3 (by decide) (fun c2 => ?_) (fun c2 => ?_)
  · refine lv_iconst (v := nI 0) hx hb d_B_isWeighed_18 (by decide +kernel) ?_
    exact W.zret (v := nI 0) (ty := .boolean) hx hb hr rfl (fun t ht hW => ⟨nI 0, rfl, Or.inr ⟨by first | exact inL_low (by decide) (by decide) (by assumption) | exact inL_high (by decide) (by assumption), rfl⟩, ht⟩) (fun q h => nomatch h) d_B_isWeighed_19
  · refine lv_lload_n hx hb d_B_isWeighed_6 rfl (lv_at hl 0 rfl) ?_
    refine lv_ldc2 (own := R_B) (v := 1000000000) hx hb hown (htg _ k1_209) d_B_isWeighed_7 ?_
    refine bk_topl (y := lN 1000000000) (by decide +kernel) ?_
    refine bk_lcmp_gt (x := x) (y := lN 1000000000) (tgt := 18) hx hb d_B_isWeighed_10 d_B_isWeighed_11 (by decide) (fun c10 => ?_) (fun c10 => ?_)
    · refine lv_iconst (v := nI 0) hx hb d_B_isWeighed_18 (by decide +kernel) ?_
      exact W.zret (v := nI 0) (ty := .boolean) hx hb hr rfl (fun t ht hW => ⟨nI 0, rfl, Or.inr ⟨by first | exact inL_low (by decide) (by decide) (by assumption) | exact inL_high (by decide) (by assumption), rfl⟩, ht⟩) (fun q h => nomatch h) d_B_isWeighed_19
    · refine lv_iconst (v := nI 1) hx hb d_B_isWeighed_14 (by decide +kernel) ?_
      refine lv_goto (tgt := 19) hx hb d_B_isWeighed_15 (by decide) ?_
      exact W.zret (v := nI 1) (ty := .boolean) hx hb hr rfl (fun t ht hW => ⟨nI 1, rfl, Or.inl ⟨inL_of (by decide) (by decide) (by assumption) (by assumption), rfl⟩, ht⟩) (fun q h => nomatch h) d_B_isWeighed_19
set_option maxHeartbeats 4000000 in
set_option maxRecDepth 100000 in
theorem c_Bk_has (l : Launch) (dC : Nat → ClassId) (dI : Nat → Nat → Nat) (cI cL cZ : ClassId) (h a1 a2 a3 a4 n : Nat) (x : Int32) (hn : n ≤ 30) : Met l y_Bk_has ws_Bk_has { frames := 0, cells := 0, slots := 0, locals := 0 } (va_Pc [.ref h, .int x] (rdP (dC, dI) vwCl [(cI, .int), (cL, .long), (cZ, .boolean)] [(h, .inr (1, [.ref a1, .ref a2, .ref a3, .ref a4, .int (nI n)]))])) (vp_Si (fun r => (inR n x ∧ r = nI 1) ∨ (¬ inR n x ∧ r = nI 0))) 0 0 (fun _ => False) := by
  refine Met.ofW (cc := b_Bk_has) (maxL := 2) (ret := (some .boolean)) (by decide) rfl ?_
  intro p e s m args below meth c s₁ B hml hv
  obtain ⟨rfl, hN, hP, hK⟩ := hv
  have hx := B.exec
  have hb := B.bytes
  have hr := B.returns
  have hts := atoms_spec (ws := ws_Bk_has) B.pre
  have htg : ∀ w ∈ gW, w.before _ s = true := fun w h => hts w (List.mem_cons_of_mem _ h)
  have hown : s.vm.findClass R_Bk = some m.cls := findClass_of_methodNamed B.named
  have hlocks := B.notSynchronized
  have hl := lv_entry ([.ref h, .int x]) (n := 2) (Nat.le_of_ble_eq_true rfl)
  rw [lg_entry_eq]
  generalize (lg_sl ([.ref h, .int x]) ++ List.replicate (2 - (lg_sl ([.ref h, .int x])).length) Slot.unset).toArray = ls at hl ⊢
  have hl : lv_has ls 2 [(0, .ref h), (1, .int x)] := hl
  refine lv_iload_n hx hb d_Bk_has_0 rfl (lv_at hl 1 rfl) ?_
  refine lv_if_lt (x := x) (tgt := 16) hx hb d_Bk_has_1 (by decide) (fun c1 => ?_) (fun c1 => ?_)
  · refine lv_iconst (v := nI 0) hx hb d_Bk_has_16 (by decide +kernel) ?_
    exact W.zret (v := nI 0) (ty := .boolean) hx hb hr rfl (fun t ht hW => ⟨nI 0, rfl, Or.inr ⟨by first | exact inR_neg (by omega) (by assumption) | exact inR_big (by omega) (by assumption), rfl⟩, ht⟩) (fun q h => nomatch h) d_Bk_has_17
  · refine lv_iload_n hx hb d_Bk_has_4 rfl (lv_at hl 1 rfl) ?_
    refine lv_aload_n hx hb d_Bk_has_5 rfl (lv_at hl 0 rfl) ?_
    refine va_get (D := (dC, dI)) (ci := 1) (v := .int (nI n)) (C := R_Bk) (T := F_Bk) (N := 5) hx hb htg iw_Bk hown hK hP 0 rfl rfl 4 (by decide) (htg _ k1_38) (fun _ h9 => h9) rfl d_Bk_has_6 ?_
    refine lv_icmp_ge (x := x) (y := nI n) (tgt := 16) hx hb d_Bk_has_9 (by decide) (fun c9 => ?_) (fun c9 => ?_)
    · refine lv_iconst (v := nI 0) hx hb d_Bk_has_16 (by decide +kernel) ?_
      exact W.zret (v := nI 0) (ty := .boolean) hx hb hr rfl (fun t ht hW => ⟨nI 0, rfl, Or.inr ⟨by first | exact inR_neg (by omega) (by assumption) | exact inR_big (by omega) (by assumption), rfl⟩, ht⟩) (fun q h => nomatch h) d_Bk_has_17
    · refine lv_iconst (v := nI 1) hx hb d_Bk_has_12 (by decide +kernel) ?_
      refine lv_goto (tgt := 17) hx hb d_Bk_has_13 (by decide) ?_
      exact W.zret (v := nI 1) (ty := .boolean) hx hb hr rfl (fun t ht hW => ⟨nI 1, rfl, Or.inl ⟨inR_of (by omega) (by assumption) (by assumption), rfl⟩, ht⟩) (fun q h => nomatch h) d_Bk_has_17
set_option maxHeartbeats 4000000 in
set_option maxRecDepth 100000 in
theorem c_Bk_gramsOf (l : Launch) (dC : Nat → ClassId) (dI : Nat → Nat → Nat) (cI cL cZ : ClassId) (h a1 a2 a3 a4 n : Nat) (gr : Nat → Nat) (x : Int32) (hn : n ≤ 30) : Met l y_Bk_gramsOf ws_Bk_gramsOf { frames := 1, cells := 0, slots := 0, locals := 21 } (va_Pc [.ref h, .int x] (rdP (dC, dI) vwCl [(cI, .int), (cL, .long), (cZ, .boolean)] [(h, .inr (1, [.ref a1, .ref a2, .ref a3, .ref a4, .int (nI n)])), (a4, .inl (cL, 30, .inr (.inl (aL gr))))])) (vp_Sl (fun r => (∃ j, j < n ∧ x = nI j ∧ r = lN (gr j)) ∨ (¬ inR n x ∧ r = lN 0))) 0 0 (fun _ => False) := by
  refine Met.ofW (cc := b_Bk_gramsOf) (maxL := 2) (ret := (some .long)) (by decide) rfl ?_
  intro p e s m args below meth c s₁ B hml hv
  obtain ⟨rfl, hN, hP, hK⟩ := hv
  have hx := B.exec
  have hb := B.bytes
  have hr := B.returns
  have hts := atoms_spec (ws := ws_Bk_gramsOf) B.pre
  have htg : ∀ w ∈ gW, w.before _ s = true := fun w h => hts w (List.mem_cons_of_mem _ h)
  have hown : s.vm.findClass R_Bk = some m.cls := findClass_of_methodNamed B.named
  have hlocks := B.notSynchronized
  have hl := lv_entry ([.ref h, .int x]) (n := 2) (Nat.le_of_ble_eq_true rfl)
  rw [lg_entry_eq]
  generalize (lg_sl ([.ref h, .int x]) ++ List.replicate (2 - (lg_sl ([.ref h, .int x])).length) Slot.unset).toArray = ls at hl ⊢
  have hl : lv_has ls 2 [(0, .ref h), (1, .int x)] := hl
  refine lv_aload_n hx hb d_Bk_gramsOf_0 rfl (lv_at hl 0 rfl) ?_
  refine lv_iload_n hx hb d_Bk_gramsOf_1 rfl (lv_at hl 1 rfl) ?_
  refine vp_callSi (va_runV (As := [.int x]) (rest := []) ⟨hx, hb, hml, hown, htg⟩ (c_Bk_has l dC dI cI cL cZ h a1 a2 a3 a4 n x (by omega)) (cwV 1 htg (gdV k1_230 k1_231 k1_232 k1_2 kc_Bk_has) rfl rfl rfl (by decide +kernel) ⟨Nat.le_of_ble_eq_true rfl, Nat.le_of_ble_eq_true rfl⟩) ⟨bk_blind, va_recv hK hP (ci := 1) (q0 := 0) rfl rfl, fun U hU hW => ⟨rfl, nw_warm hW hN, by rw [hU]; exact hP.sub [0] rfl, va_K.moved hW.alike hK⟩⟩ rfl rfl hl.1 rfl (lv_room (Nat.le_of_ble_eq_true rfl)) d_Bk_gramsOf_2 ⟨Nat.le_of_ble_eq_true rfl, Nat.le_of_ble_eq_true rfl⟩).run (fun r2 e2 => ?_)
  rcases e2 with ⟨⟨j2, hj2, hx2⟩, rfl⟩ | ⟨n2, rfl⟩
  · refine bk_if_eq (a := 1) (tgt := 17) hx hb (by omega) d_Bk_gramsOf_5 (by decide) (fun c5 => absurd c5 (by decide)) (fun c5 => ?_)
    refine lv_aload_n hx hb d_Bk_gramsOf_8 rfl (lv_at hl 0 rfl) ?_
    refine va_get (D := (dC, dI)) (ci := 1) (v := .ref a4) (C := R_Bk) (T := F_Bk) (N := 5) hx hb htg iw_Bk hown hK hP 0 rfl rfl 3 (by decide) (htg _ k1_36) (fun _ h9 => h9) rfl d_Bk_gramsOf_9 ?_
    refine lv_iload_n hx hb d_Bk_gramsOf_12 rfl (lv_at hl 1 rfl) ?_
    refine bk_topi (y := nI j2) hx2 ?_
    refine bk_lald (v := lN (gr j2)) hx hb hK hP 1 1 rfl rfl (by omega) (by decide) rfl d_Bk_gramsOf_13 ?_
    refine lv_goto (tgt := 18) hx hb d_Bk_gramsOf_14 (by decide) ?_
    exact W.lret (v := lN (gr j2)) hx hb hr (fun t ht hW => ⟨lN (gr j2), rfl, Or.inl ⟨_, by assumption, by assumption, rfl⟩, ht⟩) (fun q h => nomatch h) d_Bk_gramsOf_18
  · refine bk_if_eq (a := 0) (tgt := 17) hx hb (by omega) d_Bk_gramsOf_5 (by decide) (fun c5 => ?_) (fun c5 => absurd c5 (by decide))
    refine lv_lconst (v := lN 0) hx hb d_Bk_gramsOf_17 (by decide +kernel) ?_
    exact W.lret (v := lN 0) hx hb hr (fun t ht hW => ⟨lN 0, rfl, Or.inr ⟨by assumption, rfl⟩, ht⟩) (fun q h => nomatch h) d_Bk_gramsOf_18
set_option maxHeartbeats 4000000 in
set_option maxRecDepth 100000 in
theorem c_Bk_gramsOfKind (l : Launch) (dC : Nat → ClassId) (dI : Nat → Nat → Nat) (cI cL cZ : ClassId) (h a1 a2 a3 a4 n : Nat) (kd gr : Nat → Nat) (x : Int32) (hn : n ≤ 30) : Met l y_Bk_gramsOfKind ws_Bk_gramsOfKind { frames := 0, cells := 0, slots := 0, locals := 0 } (va_Pc [.ref h, .int x] (rdP (dC, dI) vwCl [(cI, .int), (cL, .long), (cZ, .boolean)] [(h, .inr (1, [.ref a1, .ref a2, .ref a3, .ref a4, .int (nI n)])), (a3, .inl (cI, 30, .inl (aI kd))), (a4, .inl (cL, 30, .inr (.inl (aL gr))))])) (vp_Sl (fun r => r = lN (sumK kd gr x n))) 0 0 (fun _ => False) := by
  refine Met.ofW (cc := b_Bk_gramsOfKind) (maxL := 5) (ret := (some .long)) (by decide) rfl ?_
  intro p e s m args below meth c s₁ B hml hv
  obtain ⟨rfl, hN, hP, hK⟩ := hv
  have hx := B.exec
  have hb := B.bytes
  have hr := B.returns
  have hts := atoms_spec (ws := ws_Bk_gramsOfKind) B.pre
  have htg : ∀ w ∈ gW, w.before _ s = true := fun w h => hts w (List.mem_cons_of_mem _ h)
  have hown : s.vm.findClass R_Bk = some m.cls := findClass_of_methodNamed B.named
  have hlocks := B.notSynchronized
  have hl := lv_entry ([.ref h, .int x]) (n := 5) (Nat.le_of_ble_eq_true rfl)
  rw [lg_entry_eq]
  generalize (lg_sl ([.ref h, .int x]) ++ List.replicate (5 - (lg_sl ([.ref h, .int x])).length) Slot.unset).toArray = ls at hl ⊢
  have hl : lv_has ls 5 [(0, .ref h), (1, .int x)] := hl
  refine lv_lconst (v := lN 0) hx hb d_Bk_gramsOfKind_0 (by decide +kernel) ?_
  refine lv_lstore_n (lv' := [(2, .long (lN 0)), (0, .ref h), (1, .int x)]) hx hb d_Bk_gramsOfKind_1 rfl hl (by decide) rfl (fun ls hl => ?_)
  refine lv_iconst (v := nI 0) hx hb d_Bk_gramsOfKind_2 (by decide +kernel) ?_
  refine lv_istore (lv' := [(4, .int (nI 0)), (2, .long (lN 0)), (0, .ref h), (1, .int x)]) hx hb d_Bk_gramsOfKind_3 hl (by decide) rfl (fun ls hl => ?_)
  have J5 : ∀ (k : Nat) (i : Nat) (acc : Nat), (i + k = n) → (acc = sumK kd gr x i) → ∀ (ls : Array Slot), lv_has ls 5 [(0, .ref h), (1, .int x), (2, .long (lN acc)), (4, .int (nI i))] → W p l e (headSpec ws_Bk_gramsOfKind { frames := 0, cells := 0, slots := 0, locals := 0 }).room s m ([.ref h, .int x] : List Value).toArray below meth c s.heap [] 0 0 (MQ below (vp_Sl (fun r => r = lN (sumK kd gr x n))) ([.ref h, .int x] : List Value).toArray s 0 0 (fun _ => False)) (F0 m 5 ls []) := by
    intro k
    induction k with
    | zero =>
      intro i acc hk hacc ls hl
      refine lv_iload hx hb d_Bk_gramsOfKind_5 (lv_at hl 3 rfl) ?_
      refine lv_aload_n hx hb d_Bk_gramsOfKind_7 rfl (lv_at hl 0 rfl) ?_
      refine va_get (D := (dC, dI)) (ci := 1) (v := .int (nI n)) (C := R_Bk) (T := F_Bk) (N := 5) hx hb htg iw_Bk hown hK hP 0 rfl rfl 4 (by decide) (htg _ k1_38) (fun _ h9 => h9) rfl d_Bk_gramsOfKind_8 ?_
      refine bk_icmp_ge (a := i) (b := n) (tgt := 41) hx hb (by omega) (by omega) d_Bk_gramsOfKind_11 (by decide) (fun c11 => ?_) (fun c11 => by exfalso; omega)
      refine lv_lload_n hx hb d_Bk_gramsOfKind_41 rfl (lv_at hl 2 rfl) ?_
      exact W.lret (v := lN acc) hx hb hr (fun t ht hW => ⟨lN acc, rfl, (by rw [hacc, show i = n by omega]), ht⟩) (fun q h => nomatch h) d_Bk_gramsOfKind_42
    | succ k ih =>
      intro i acc hk hacc ls hl
      refine lv_iload hx hb d_Bk_gramsOfKind_5 (lv_at hl 3 rfl) ?_
      refine lv_aload_n hx hb d_Bk_gramsOfKind_7 rfl (lv_at hl 0 rfl) ?_
      refine va_get (D := (dC, dI)) (ci := 1) (v := .int (nI n)) (C := R_Bk) (T := F_Bk) (N := 5) hx hb htg iw_Bk hown hK hP 0 rfl rfl 4 (by decide) (htg _ k1_38) (fun _ h9 => h9) rfl d_Bk_gramsOfKind_8 ?_
      refine bk_icmp_ge (a := i) (b := n) (tgt := 41) hx hb (by omega) (by omega) d_Bk_gramsOfKind_11 (by decide) (fun c11 => by exfalso; omega) (fun c11 => ?_)
      refine lv_aload_n hx hb d_Bk_gramsOfKind_14 rfl (lv_at hl 0 rfl) ?_
      refine va_get (D := (dC, dI)) (ci := 1) (v := .ref a3) (C := R_Bk) (T := F_Bk) (N := 5) hx hb htg iw_Bk hown hK hP 0 rfl rfl 2 (by decide) (htg _ k1_35) (fun _ h9 => h9) rfl d_Bk_gramsOfKind_15 ?_
      refine lv_iload hx hb d_Bk_gramsOfKind_18 (lv_at hl 3 rfl) ?_
      refine bk_iald (v := nI (kd i)) hx hb hK hP 1 0 rfl rfl (by omega) (by decide) rfl d_Bk_gramsOfKind_20 ?_
      refine lv_iload_n hx hb d_Bk_gramsOfKind_21 rfl (lv_at hl 1 rfl) ?_
      refine lv_icmp_ne (x := nI (kd i)) (y := x) (tgt := 35) hx hb d_Bk_gramsOfKind_22 (by decide) (fun c22 => ?_) (fun c22 => ?_)
      · refine lv_iinc (v := nI (i + 1)) (lv' := [(4, .int (nI (i + 1))), (0, .ref h), (1, .int x), (2, .long (lN acc))]) hx hb d_Bk_gramsOfKind_35 hl (k := 3) rfl (bk_inc i) (by decide) rfl (fun ls hl => ?_)
        refine lv_goto (tgt := 5) hx hb d_Bk_gramsOfKind_38 (by decide) ?_
        exact ih (i + 1) acc (by omega) (by first | rfl | simp [sumK, hacc, *]) ls (lv_sub hl [1, 2, 3, 0] rfl)
      · refine lv_lload_n hx hb d_Bk_gramsOfKind_25 rfl (lv_at hl 2 rfl) ?_
        refine lv_aload_n hx hb d_Bk_gramsOfKind_26 rfl (lv_at hl 0 rfl) ?_
        refine va_get (D := (dC, dI)) (ci := 1) (v := .ref a4) (C := R_Bk) (T := F_Bk) (N := 5) hx hb htg iw_Bk hown hK hP 0 rfl rfl 3 (by decide) (htg _ k1_36) (fun _ h9 => h9) rfl d_Bk_gramsOfKind_27 ?_
        refine lv_iload hx hb d_Bk_gramsOfKind_30 (lv_at hl 3 rfl) ?_
        refine bk_lald (v := lN (gr i)) hx hb hK hP 2 1 rfl rfl (by omega) (by decide) rfl d_Bk_gramsOfKind_32 ?_
        refine bk_ladd hx hb d_Bk_gramsOfKind_33 ?_
        refine lv_lstore_n (lv' := [(2, .long (lN (acc + (gr i)))), (0, .ref h), (1, .int x), (4, .int (nI i))]) hx hb d_Bk_gramsOfKind_34 rfl hl (by decide) rfl (fun ls hl => ?_)
        refine lv_iinc (v := nI (i + 1)) (lv' := [(4, .int (nI (i + 1))), (2, .long (lN (acc + (gr i)))), (0, .ref h), (1, .int x)]) hx hb d_Bk_gramsOfKind_35 hl (k := 3) rfl (bk_inc i) (by decide) rfl (fun ls hl => ?_)
        refine lv_goto (tgt := 5) hx hb d_Bk_gramsOfKind_38 (by decide) ?_
        exact ih (i + 1) (acc + (gr i)) (by omega) (by first | rfl | simp [sumK, hacc, *]) ls (lv_sub hl [2, 3, 1, 0] rfl)
  exact J5 n 0 0 (by omega) (by first | rfl | simp [sumK, hacc, *]) ls (lv_sub hl [2, 3, 1, 0] rfl)
