set_option maxHeartbeats 4000000 in
set_option maxRecDepth 100000 in
theorem c_B_isShip (l : Launch) (dC : Nat → ClassId) (dI : Nat → Nat → Nat) (cI cL cZ : ClassId) (x : Int32) : Met l y_B_isShip ws_B_isShip { frames := 0, cells := 0, slots := 0, locals := 0 } (va_Pc [.int x] (fun _ => True)) (vp_Si (fun r => (inR 10 x ∧ r = nI 1) ∨ (¬ inR 10 x ∧ r = nI 0))) 0 0 (fun _ => False) := by
  refine Met.ofW (cc := b_B_isShip) (maxL := 1) (ret := (some .boolean)) (by decide) rfl ?_
  intro pr en s m args below meth c s₁ B hml hv
  obtain ⟨rfl, -⟩ := hv
  have hx := B.exec
  have hb := B.bytes
  have hr := B.returns
  have hts := atoms_spec (ws := ws_B_isShip) B.pre
  have htg : ∀ w ∈ gW, w.before _ s = true := fun w h => hts w (List.mem_cons_of_mem _ h)
  have hown : s.vm.findClass R_B = some m.cls := findClass_of_methodNamed B.named
  have hlocks := B.notSynchronized
  have hl := lv_entry ([.int x]) (n := 1) (Nat.le_of_ble_eq_true rfl)
  rw [lg_entry_eq]
  generalize (lg_sl ([.int x]) ++ List.replicate (1 - (lg_sl ([.int x])).length) Slot.unset).toArray = ls at hl ⊢
  have hl : lv_has ls 1 [(0, .int x)] := hl
  refine lv_iload_n hx hb d_B_isShip_0 rfl (lv_at hl 0 rfl) ?_
  refine lv_if_lt (x := x) (tgt := 14) hx hb d_B_isShip_1 (by decide) (fun c1 => ?_) (fun c1 => ?_)
  · refine lv_iconst (v := nI 0) hx hb d_B_isShip_14 (by decide +kernel) ?_
    exact W.zret (v := nI 0) (ty := .boolean) hx hb hr rfl (fun t9 ht9 hW9 => ⟨nI 0, rfl, Or.inr ⟨by first | exact inR_neg (by decide) (by assumption) | exact inR_big (by decide) (by assumption), rfl⟩, ht9⟩) (fun q h => nomatch h) d_B_isShip_15
  · refine lv_iload_n hx hb d_B_isShip_4 rfl (lv_at hl 0 rfl) ?_
    refine lv_bipush (v := nI 10) hx hb d_B_isShip_5 (by decide +kernel) ?_
    refine lv_icmp_ge (x := x) (y := nI 10) (tgt := 14) hx hb d_B_isShip_7 (by decide) (fun c7 => ?_) (fun c7 => ?_)
    · refine lv_iconst (v := nI 0) hx hb d_B_isShip_14 (by decide +kernel) ?_
      exact W.zret (v := nI 0) (ty := .boolean) hx hb hr rfl (fun t9 ht9 hW9 => ⟨nI 0, rfl, Or.inr ⟨by first | exact inR_neg (by decide) (by assumption) | exact inR_big (by decide) (by assumption), rfl⟩, ht9⟩) (fun q h => nomatch h) d_B_isShip_15
    · refine lv_iconst (v := nI 1) hx hb d_B_isShip_10 (by decide +kernel) ?_
      refine lv_goto (tgt := 15) hx hb d_B_isShip_11 (by decide) ?_
      exact W.zret (v := nI 1) (ty := .boolean) hx hb hr rfl (fun t9 ht9 hW9 => ⟨nI 1, rfl, Or.inl ⟨inR_of (by decide) (by assumption) (by assumption), rfl⟩, ht9⟩) (fun q h => nomatch h) d_B_isShip_15
set_option maxHeartbeats 4000000 in
set_option maxRecDepth 100000 in
theorem c_B_isKind (l : Launch) (dC : Nat → ClassId) (dI : Nat → Nat → Nat) (cI cL cZ : ClassId) (x : Int32) : Met l y_B_isKind ws_B_isKind { frames := 0, cells := 0, slots := 0, locals := 0 } (va_Pc [.int x] (fun _ => True)) (vp_Si (fun r => (inR 10 x ∧ r = nI 1) ∨ (¬ inR 10 x ∧ r = nI 0))) 0 0 (fun _ => False) := by
  refine Met.ofW (cc := b_B_isKind) (maxL := 1) (ret := (some .boolean)) (by decide) rfl ?_
  intro pr en s m args below meth c s₁ B hml hv
  obtain ⟨rfl, -⟩ := hv
  have hx := B.exec
  have hb := B.bytes
  have hr := B.returns
  have hts := atoms_spec (ws := ws_B_isKind) B.pre
  have htg : ∀ w ∈ gW, w.before _ s = true := fun w h => hts w (List.mem_cons_of_mem _ h)
  have hown : s.vm.findClass R_B = some m.cls := findClass_of_methodNamed B.named
  have hlocks := B.notSynchronized
  have hl := lv_entry ([.int x]) (n := 1) (Nat.le_of_ble_eq_true rfl)
  rw [lg_entry_eq]
  generalize (lg_sl ([.int x]) ++ List.replicate (1 - (lg_sl ([.int x])).length) Slot.unset).toArray = ls at hl ⊢
  have hl : lv_has ls 1 [(0, .int x)] := hl
  refine lv_iload_n hx hb d_B_isKind_0 rfl (lv_at hl 0 rfl) ?_
  refine lv_if_lt (x := x) (tgt := 14) hx hb d_B_isKind_1 (by decide) (fun c1 => ?_) (fun c1 => ?_)
  · refine lv_iconst (v := nI 0) hx hb d_B_isKind_14 (by decide +kernel) ?_
    exact W.zret (v := nI 0) (ty := .boolean) hx hb hr rfl (fun t9 ht9 hW9 => ⟨nI 0, rfl, Or.inr ⟨by first | exact inR_neg (by decide) (by assumption) | exact inR_big (by decide) (by assumption), rfl⟩, ht9⟩) (fun q h => nomatch h) d_B_isKind_15
  · refine lv_iload_n hx hb d_B_isKind_4 rfl (lv_at hl 0 rfl) ?_
    refine lv_bipush (v := nI 10) hx hb d_B_isKind_5 (by decide +kernel) ?_
    refine lv_icmp_ge (x := x) (y := nI 10) (tgt := 14) hx hb d_B_isKind_7 (by decide) (fun c7 => ?_) (fun c7 => ?_)
    · refine lv_iconst (v := nI 0) hx hb d_B_isKind_14 (by decide +kernel) ?_
      exact W.zret (v := nI 0) (ty := .boolean) hx hb hr rfl (fun t9 ht9 hW9 => ⟨nI 0, rfl, Or.inr ⟨by first | exact inR_neg (by decide) (by assumption) | exact inR_big (by decide) (by assumption), rfl⟩, ht9⟩) (fun q h => nomatch h) d_B_isKind_15
    · refine lv_iconst (v := nI 1) hx hb d_B_isKind_10 (by decide +kernel) ?_
      refine lv_goto (tgt := 15) hx hb d_B_isKind_11 (by decide) ?_
      exact W.zret (v := nI 1) (ty := .boolean) hx hb hr rfl (fun t9 ht9 hW9 => ⟨nI 1, rfl, Or.inl ⟨inR_of (by decide) (by assumption) (by assumption), rfl⟩, ht9⟩) (fun q h => nomatch h) d_B_isKind_15
set_option maxHeartbeats 4000000 in
set_option maxRecDepth 100000 in
theorem c_B_isDay (l : Launch) (dC : Nat → ClassId) (dI : Nat → Nat → Nat) (cI cL cZ : ClassId) (x : Int32) : Met l y_B_isDay ws_B_isDay { frames := 0, cells := 0, slots := 0, locals := 0 } (va_Pc [.int x] (fun _ => True)) (vp_Si (fun r => (inR 100001 x ∧ r = nI 1) ∨ (¬ inR 100001 x ∧ r = nI 0))) 0 0 (fun _ => False) := by
  refine Met.ofW (cc := b_B_isDay) (maxL := 1) (ret := (some .boolean)) (by decide) rfl ?_
  intro pr en s m args below meth c s₁ B hml hv
  obtain ⟨rfl, -⟩ := hv
  have hx := B.exec
  have hb := B.bytes
  have hr := B.returns
  have hts := atoms_spec (ws := ws_B_isDay) B.pre
  have htg : ∀ w ∈ gW, w.before _ s = true := fun w h => hts w (List.mem_cons_of_mem _ h)
  have hown : s.vm.findClass R_B = some m.cls := findClass_of_methodNamed B.named
  have hlocks := B.notSynchronized
  have hl := lv_entry ([.int x]) (n := 1) (Nat.le_of_ble_eq_true rfl)
  rw [lg_entry_eq]
  generalize (lg_sl ([.int x]) ++ List.replicate (1 - (lg_sl ([.int x])).length) Slot.unset).toArray = ls at hl ⊢
  have hl : lv_has ls 1 [(0, .int x)] := hl
  refine lv_iload_n hx hb d_B_isDay_0 rfl (lv_at hl 0 rfl) ?_
  refine lv_if_lt (x := x) (tgt := 14) hx hb d_B_isDay_1 (by decide) (fun c1 => ?_) (fun c1 => ?_)
  · refine lv_iconst (v := nI 0) hx hb d_B_isDay_14 (by decide +kernel) ?_
    exact W.zret (v := nI 0) (ty := .boolean) hx hb hr rfl (fun t9 ht9 hW9 => ⟨nI 0, rfl, Or.inr ⟨by first | exact inR_neg (by decide) (by assumption) | exact inR_gt (n := 100000) (by decide) (by assumption), rfl⟩, ht9⟩) (fun q h => nomatch h) d_B_isDay_15
  · refine lv_iload_n hx hb d_B_isDay_4 rfl (lv_at hl 0 rfl) ?_
    refine lv_ldc (own := R_B) (v := 100000) hx hb hown (htg _ k1_202) d_B_isDay_5 ?_
    refine bk_topi (y := nI 100000) (by decide +kernel) ?_
    refine lv_icmp_gt (x := x) (y := nI 100000) (tgt := 14) hx hb d_B_isDay_7 (by decide) (fun c7 => ?_) (fun c7 => ?_)
    · refine lv_iconst (v := nI 0) hx hb d_B_isDay_14 (by decide +kernel) ?_
      exact W.zret (v := nI 0) (ty := .boolean) hx hb hr rfl (fun t9 ht9 hW9 => ⟨nI 0, rfl, Or.inr ⟨by first | exact inR_neg (by decide) (by assumption) | exact inR_gt (n := 100000) (by decide) (by assumption), rfl⟩, ht9⟩) (fun q h => nomatch h) d_B_isDay_15
    · refine lv_iconst (v := nI 1) hx hb d_B_isDay_10 (by decide +kernel) ?_
      refine lv_goto (tgt := 15) hx hb d_B_isDay_11 (by decide) ?_
      exact W.zret (v := nI 1) (ty := .boolean) hx hb hr rfl (fun t9 ht9 hW9 => ⟨nI 1, rfl, Or.inl ⟨inR_le (n := 100000) (by decide) (by assumption) (by assumption), rfl⟩, ht9⟩) (fun q h => nomatch h) d_B_isDay_15
set_option maxHeartbeats 4000000 in
set_option maxRecDepth 100000 in
theorem c_B_isWeighed (l : Launch) (dC : Nat → ClassId) (dI : Nat → Nat → Nat) (cI cL cZ : ClassId) (x : Int64) : Met l y_B_isWeighed ws_B_isWeighed { frames := 0, cells := 0, slots := 0, locals := 0 } (va_Pc [.long x] (fun _ => True)) (vp_Si (fun r => (inL 1 1000000000 x ∧ r = nI 1) ∨ (¬ inL 1 1000000000 x ∧ r = nI 0))) 0 0 (fun _ => False) := by
  refine Met.ofW (cc := b_B_isWeighed) (maxL := 2) (ret := (some .boolean)) (by decide) rfl ?_
  intro pr en s m args below meth c s₁ B hml hv
  obtain ⟨rfl, -⟩ := hv
  have hx := B.exec
  have hb := B.bytes
  have hr := B.returns
  have hts := atoms_spec (ws := ws_B_isWeighed) B.pre
  have htg : ∀ w ∈ gW, w.before _ s = true := fun w h => hts w (List.mem_cons_of_mem _ h)
  have hown : s.vm.findClass R_B = some m.cls := findClass_of_methodNamed B.named
  have hlocks := B.notSynchronized
  have hl := lv_entry ([.long x]) (n := 2) (Nat.le_of_ble_eq_true rfl)
  rw [lg_entry_eq]
  generalize (lg_sl ([.long x]) ++ List.replicate (2 - (lg_sl ([.long x])).length) Slot.unset).toArray = ls at hl ⊢
  have hl : lv_has ls 2 [(0, .long x)] := hl
  refine lv_lload_n hx hb d_B_isWeighed_0 rfl (lv_at hl 0 rfl) ?_
  refine lv_lconst (v := lN 1) hx hb d_B_isWeighed_1 (by decide +kernel) ?_
  refine bk_lcmp_lt (x := x) (y := lN 1) (tgt := 18) hx hb d_B_isWeighed_2 d_B_isWeighed_3 (by decide) (fun c2 => ?_) (fun c2 => ?_)
  · refine lv_iconst (v := nI 0) hx hb d_B_isWeighed_18 (by decide +kernel) ?_
    exact W.zret (v := nI 0) (ty := .boolean) hx hb hr rfl (fun t9 ht9 hW9 => ⟨nI 0, rfl, Or.inr ⟨by first | exact inL_low (by decide) (by decide) (by assumption) | exact inL_high (by decide) (by assumption), rfl⟩, ht9⟩) (fun q h => nomatch h) d_B_isWeighed_19
  · refine lv_lload_n hx hb d_B_isWeighed_6 rfl (lv_at hl 0 rfl) ?_
    refine lv_ldc2 (own := R_B) (v := 1000000000) hx hb hown (htg _ k1_209) d_B_isWeighed_7 ?_
    refine bk_topl (y := lN 1000000000) (by decide +kernel) ?_
    refine bk_lcmp_gt (x := x) (y := lN 1000000000) (tgt := 18) hx hb d_B_isWeighed_10 d_B_isWeighed_11 (by decide) (fun c10 => ?_) (fun c10 => ?_)
    · refine lv_iconst (v := nI 0) hx hb d_B_isWeighed_18 (by decide +kernel) ?_
      exact W.zret (v := nI 0) (ty := .boolean) hx hb hr rfl (fun t9 ht9 hW9 => ⟨nI 0, rfl, Or.inr ⟨by first | exact inL_low (by decide) (by decide) (by assumption) | exact inL_high (by decide) (by assumption), rfl⟩, ht9⟩) (fun q h => nomatch h) d_B_isWeighed_19
    · refine lv_iconst (v := nI 1) hx hb d_B_isWeighed_14 (by decide +kernel) ?_
      refine lv_goto (tgt := 19) hx hb d_B_isWeighed_15 (by decide) ?_
      exact W.zret (v := nI 1) (ty := .boolean) hx hb hr rfl (fun t9 ht9 hW9 => ⟨nI 1, rfl, Or.inl ⟨inL_of (by decide) (by decide) (by assumption) (by assumption), rfl⟩, ht9⟩) (fun q h => nomatch h) d_B_isWeighed_19
set_option maxHeartbeats 4000000 in
set_option maxRecDepth 100000 in
theorem c_Bk_has (l : Launch) (dC : Nat → ClassId) (dI : Nat → Nat → Nat) (cI cL cZ : ClassId) (h a1 a2 a3 a4 n : Nat) (x : Int32) (hn : n ≤ 30) : Met l y_Bk_has ws_Bk_has { frames := 0, cells := 0, slots := 0, locals := 0 } (va_Pc [.ref h, .int x] (rdP (dC, dI) vwCl [(cI, .int), (cL, .long), (cZ, .boolean)] [(h, .inr (1, [.ref a1, .ref a2, .ref a3, .ref a4, .int (nI n)]))])) (vp_Si (fun r => (inR n x ∧ r = nI 1) ∨ (¬ inR n x ∧ r = nI 0))) 0 0 (fun _ => False) := by
  refine Met.ofW (cc := b_Bk_has) (maxL := 2) (ret := (some .boolean)) (by decide) rfl ?_
  intro pr en s m args below meth c s₁ B hml hv
  obtain ⟨rfl, hN, hP, hK⟩ := hv
  have hx := B.exec
  have hb := B.bytes
  have hr := B.returns
  have hts := atoms_spec (ws := ws_Bk_has) B.pre
  have htg : ∀ w ∈ gW, w.before _ s = true := fun w h => hts w (List.mem_cons_of_mem _ h)
  have hown : s.vm.findClass R_Bk = some m.cls := findClass_of_methodNamed B.named
  have hlocks := B.notSynchronized
  have hl := lv_entry ([.ref h, .int x]) (n := 2) (Nat.le_of_ble_eq_true rfl)
  rw [lg_entry_eq]
  generalize (lg_sl ([.ref h, .int x]) ++ List.replicate (2 - (lg_sl ([.ref h, .int x])).length) Slot.unset).toArray = ls at hl ⊢
  have hl : lv_has ls 2 [(0, .ref h), (1, .int x)] := hl
  refine lv_iload_n hx hb d_Bk_has_0 rfl (lv_at hl 1 rfl) ?_
  refine lv_if_lt (x := x) (tgt := 16) hx hb d_Bk_has_1 (by decide) (fun c1 => ?_) (fun c1 => ?_)
  · refine lv_iconst (v := nI 0) hx hb d_Bk_has_16 (by decide +kernel) ?_
    exact W.zret (v := nI 0) (ty := .boolean) hx hb hr rfl (fun t9 ht9 hW9 => ⟨nI 0, rfl, Or.inr ⟨by first | exact inR_neg (by omega) (by assumption) | exact inR_big (by omega) (by assumption), rfl⟩, ht9⟩) (fun q h => nomatch h) d_Bk_has_17
  · refine lv_iload_n hx hb d_Bk_has_4 rfl (lv_at hl 1 rfl) ?_
    refine lv_aload_n hx hb d_Bk_has_5 rfl (lv_at hl 0 rfl) ?_
    refine va_get (D := (dC, dI)) (ci := 1) (v := .int (nI n)) (C := R_Bk) (T := F_Bk) (N := 5) hx hb htg iw_Bk hown hK hP 0 rfl rfl 4 (by decide) (htg _ k1_38) (fun _ h9 => h9) rfl d_Bk_has_6 ?_
    refine lv_icmp_ge (x := x) (y := nI n) (tgt := 16) hx hb d_Bk_has_9 (by decide) (fun c9 => ?_) (fun c9 => ?_)
    · refine lv_iconst (v := nI 0) hx hb d_Bk_has_16 (by decide +kernel) ?_
      exact W.zret (v := nI 0) (ty := .boolean) hx hb hr rfl (fun t9 ht9 hW9 => ⟨nI 0, rfl, Or.inr ⟨by first | exact inR_neg (by omega) (by assumption) | exact inR_big (by omega) (by assumption), rfl⟩, ht9⟩) (fun q h => nomatch h) d_Bk_has_17
    · refine lv_iconst (v := nI 1) hx hb d_Bk_has_12 (by decide +kernel) ?_
      refine lv_goto (tgt := 17) hx hb d_Bk_has_13 (by decide) ?_
      exact W.zret (v := nI 1) (ty := .boolean) hx hb hr rfl (fun t9 ht9 hW9 => ⟨nI 1, rfl, Or.inl ⟨inR_of (by omega) (by assumption) (by assumption), rfl⟩, ht9⟩) (fun q h => nomatch h) d_Bk_has_17
set_option maxHeartbeats 4000000 in
set_option maxRecDepth 100000 in
theorem c_Bk_gramsOf (l : Launch) (dC : Nat → ClassId) (dI : Nat → Nat → Nat) (cI cL cZ : ClassId) (h a1 a2 a3 a4 n : Nat) (gr : Nat → Nat) (x : Int32) (hn : n ≤ 30) : Met l y_Bk_gramsOf ws_Bk_gramsOf { frames := 1, cells := 0, slots := 0, locals := 21 } (va_Pc [.ref h, .int x] (rdP (dC, dI) vwCl [(cI, .int), (cL, .long), (cZ, .boolean)] [(h, .inr (1, [.ref a1, .ref a2, .ref a3, .ref a4, .int (nI n)])), (a4, .inl (cL, 30, .inr (.inl (aL gr))))])) (vp_Sl (fun r => (∃ j, j < n ∧ x = nI j ∧ r = lN (gr j)) ∨ (¬ inR n x ∧ r = lN 0))) 0 0 (fun _ => False) := by
  refine Met.ofW (cc := b_Bk_gramsOf) (maxL := 2) (ret := (some .long)) (by decide) rfl ?_
  intro pr en s m args below meth c s₁ B hml hv
  obtain ⟨rfl, hN, hP, hK⟩ := hv
  have hx := B.exec
  have hb := B.bytes
  have hr := B.returns
  have hts := atoms_spec (ws := ws_Bk_gramsOf) B.pre
  have htg : ∀ w ∈ gW, w.before _ s = true := fun w h => hts w (List.mem_cons_of_mem _ h)
  have hown : s.vm.findClass R_Bk = some m.cls := findClass_of_methodNamed B.named
  have hlocks := B.notSynchronized
  have hl := lv_entry ([.ref h, .int x]) (n := 2) (Nat.le_of_ble_eq_true rfl)
  rw [lg_entry_eq]
  generalize (lg_sl ([.ref h, .int x]) ++ List.replicate (2 - (lg_sl ([.ref h, .int x])).length) Slot.unset).toArray = ls at hl ⊢
  have hl : lv_has ls 2 [(0, .ref h), (1, .int x)] := hl
  refine lv_aload_n hx hb d_Bk_gramsOf_0 rfl (lv_at hl 0 rfl) ?_
  refine lv_iload_n hx hb d_Bk_gramsOf_1 rfl (lv_at hl 1 rfl) ?_
  refine vp_callSi (va_runV (As := [.int x]) (rest := []) ⟨hx, hb, hml, hown, htg⟩ (c_Bk_has l dC dI cI cL cZ h a1 a2 a3 a4 n x (by omega)) (cwV 1 htg (gdV k1_230 k1_231 k1_232 k1_2 kc_Bk_has) rfl rfl rfl (by decide +kernel) ⟨Nat.le_of_ble_eq_true rfl, Nat.le_of_ble_eq_true rfl⟩) ⟨bk_blind, va_recv hK hP (ci := 1) (q0 := 0) rfl rfl, fun U hU hW => ⟨rfl, nw_warm hW hN, by rw [hU]; exact hP.sub [0] rfl, va_K.moved hW.alike hK⟩⟩ rfl rfl hl.1 rfl (lv_room (Nat.le_of_ble_eq_true rfl)) d_Bk_gramsOf_2 ⟨Nat.le_of_ble_eq_true rfl, Nat.le_of_ble_eq_true rfl⟩).run (fun r2 e2 => ?_)
  rcases e2 with ⟨⟨j2, hj2, hx2⟩, rfl⟩ | ⟨n2, rfl⟩
  · refine bk_if_eq (a := 1) (tgt := 17) hx hb (by omega) d_Bk_gramsOf_5 (by decide) (fun c5 => absurd c5 (by decide)) (fun c5 => ?_)
    refine lv_aload_n hx hb d_Bk_gramsOf_8 rfl (lv_at hl 0 rfl) ?_
    refine va_get (D := (dC, dI)) (ci := 1) (v := .ref a4) (C := R_Bk) (T := F_Bk) (N := 5) hx hb htg iw_Bk hown hK hP 0 rfl rfl 3 (by decide) (htg _ k1_36) (fun _ h9 => h9) rfl d_Bk_gramsOf_9 ?_
    refine lv_iload_n hx hb d_Bk_gramsOf_12 rfl (lv_at hl 1 rfl) ?_
    refine bk_topi (y := nI j2) hx2 ?_
    refine bk_lald (v := lN (gr j2)) hx hb hK hP 1 1 rfl rfl (by omega) (by decide) rfl d_Bk_gramsOf_13 ?_
    refine lv_goto (tgt := 18) hx hb d_Bk_gramsOf_14 (by decide) ?_
    exact W.lret (v := lN (gr j2)) hx hb hr (fun t9 ht9 hW9 => ⟨lN (gr j2), rfl, Or.inl ⟨_, by assumption, by assumption, rfl⟩, ht9⟩) (fun q h => nomatch h) d_Bk_gramsOf_18
  · refine bk_if_eq (a := 0) (tgt := 17) hx hb (by omega) d_Bk_gramsOf_5 (by decide) (fun c5 => ?_) (fun c5 => absurd c5 (by decide))
    refine lv_lconst (v := lN 0) hx hb d_Bk_gramsOf_17 (by decide +kernel) ?_
    exact W.lret (v := lN 0) hx hb hr (fun t9 ht9 hW9 => ⟨lN 0, rfl, Or.inr ⟨by assumption, rfl⟩, ht9⟩) (fun q h => nomatch h) d_Bk_gramsOf_18
set_option maxHeartbeats 4000000 in
set_option maxRecDepth 100000 in
theorem c_Bk_gramsOfKind (l : Launch) (dC : Nat → ClassId) (dI : Nat → Nat → Nat) (cI cL cZ : ClassId) (h a1 a2 a3 a4 n : Nat) (kd gr : Nat → Nat) (x : Int32) (hn : n ≤ 30) : Met l y_Bk_gramsOfKind ws_Bk_gramsOfKind { frames := 0, cells := 0, slots := 0, locals := 0 } (va_Pc [.ref h, .int x] (rdP (dC, dI) vwCl [(cI, .int), (cL, .long), (cZ, .boolean)] [(h, .inr (1, [.ref a1, .ref a2, .ref a3, .ref a4, .int (nI n)])), (a3, .inl (cI, 30, .inl (aI kd))), (a4, .inl (cL, 30, .inr (.inl (aL gr))))])) (vp_Sl (fun r => r = lN (sumK kd gr x n))) 0 0 (fun _ => False) := by
  refine Met.ofW (cc := b_Bk_gramsOfKind) (maxL := 5) (ret := (some .long)) (by decide) rfl ?_
  intro pr en s m args below meth c s₁ B hml hv
  obtain ⟨rfl, hN, hP, hK⟩ := hv
  have hx := B.exec
  have hb := B.bytes
  have hr := B.returns
  have hts := atoms_spec (ws := ws_Bk_gramsOfKind) B.pre
  have htg : ∀ w ∈ gW, w.before _ s = true := fun w h => hts w (List.mem_cons_of_mem _ h)
  have hown : s.vm.findClass R_Bk = some m.cls := findClass_of_methodNamed B.named
  have hlocks := B.notSynchronized
  have hl := lv_entry ([.ref h, .int x]) (n := 5) (Nat.le_of_ble_eq_true rfl)
  rw [lg_entry_eq]
  generalize (lg_sl ([.ref h, .int x]) ++ List.replicate (5 - (lg_sl ([.ref h, .int x])).length) Slot.unset).toArray = ls at hl ⊢
  have hl : lv_has ls 5 [(0, .ref h), (1, .int x)] := hl
  refine lv_lconst (v := lN 0) hx hb d_Bk_gramsOfKind_0 (by decide +kernel) ?_
  refine lv_lstore_n (lv' := [(2, .long (lN 0)), (0, .ref h), (1, .int x)]) hx hb d_Bk_gramsOfKind_1 rfl hl (by decide) rfl (fun ls hl => ?_)
  refine lv_iconst (v := nI 0) hx hb d_Bk_gramsOfKind_2 (by decide +kernel) ?_
  refine lv_istore (lv' := [(4, .int (nI 0)), (2, .long (lN 0)), (0, .ref h), (1, .int x)]) hx hb d_Bk_gramsOfKind_3 hl (by decide) rfl (fun ls hl => ?_)
  have J5 : ∀ (k : Nat) (i : Nat) (acc : Nat), (i + k = n) → (acc = sumK kd gr x i) → ∀ (ls : Array Slot), lv_has ls 5 [(0, .ref h), (1, .int x), (2, .long (lN acc)), (4, .int (nI i))] → W pr l en (headSpec ws_Bk_gramsOfKind { frames := 0, cells := 0, slots := 0, locals := 0 }).room s m ([.ref h, .int x] : List Value).toArray below meth c s.heap [] 0 0 (MQ below (vp_Sl (fun r => r = lN (sumK kd gr x n))) ([.ref h, .int x] : List Value).toArray s 0 0 (fun _ => False)) (F0 m 5 ls []) := by
    intro k
    induction k with
    | zero =>
      intro i acc hk hacc ls hl
      refine lv_iload hx hb d_Bk_gramsOfKind_5 (lv_at hl 3 rfl) ?_
      refine lv_aload_n hx hb d_Bk_gramsOfKind_7 rfl (lv_at hl 0 rfl) ?_
      refine va_get (D := (dC, dI)) (ci := 1) (v := .int (nI n)) (C := R_Bk) (T := F_Bk) (N := 5) hx hb htg iw_Bk hown hK hP 0 rfl rfl 4 (by decide) (htg _ k1_38) (fun _ h9 => h9) rfl d_Bk_gramsOfKind_8 ?_
      refine bk_icmp_ge (a := i) (b := n) (tgt := 41) hx hb (by omega) (by omega) d_Bk_gramsOfKind_11 (by decide) (fun c11 => ?_) (fun c11 => by exfalso; omega)
      refine lv_lload_n hx hb d_Bk_gramsOfKind_41 rfl (lv_at hl 2 rfl) ?_
      exact W.lret (v := lN acc) hx hb hr (fun t9 ht9 hW9 => ⟨lN acc, rfl, (by rw [hacc, show i = n by omega]), ht9⟩) (fun q h => nomatch h) d_Bk_gramsOfKind_42
    | succ k ih5 =>
      intro i acc hk hacc ls hl
      refine lv_iload hx hb d_Bk_gramsOfKind_5 (lv_at hl 3 rfl) ?_
      refine lv_aload_n hx hb d_Bk_gramsOfKind_7 rfl (lv_at hl 0 rfl) ?_
      refine va_get (D := (dC, dI)) (ci := 1) (v := .int (nI n)) (C := R_Bk) (T := F_Bk) (N := 5) hx hb htg iw_Bk hown hK hP 0 rfl rfl 4 (by decide) (htg _ k1_38) (fun _ h9 => h9) rfl d_Bk_gramsOfKind_8 ?_
      refine bk_icmp_ge (a := i) (b := n) (tgt := 41) hx hb (by omega) (by omega) d_Bk_gramsOfKind_11 (by decide) (fun c11 => by exfalso; omega) (fun c11 => ?_)
      refine lv_aload_n hx hb d_Bk_gramsOfKind_14 rfl (lv_at hl 0 rfl) ?_
      refine va_get (D := (dC, dI)) (ci := 1) (v := .ref a3) (C := R_Bk) (T := F_Bk) (N := 5) hx hb htg iw_Bk hown hK hP 0 rfl rfl 2 (by decide) (htg _ k1_35) (fun _ h9 => h9) rfl d_Bk_gramsOfKind_15 ?_
      refine lv_iload hx hb d_Bk_gramsOfKind_18 (lv_at hl 3 rfl) ?_
      refine bk_iald (v := nI (kd i)) hx hb hK hP 1 0 rfl rfl (by omega) (by decide) rfl d_Bk_gramsOfKind_20 ?_
      refine lv_iload_n hx hb d_Bk_gramsOfKind_21 rfl (lv_at hl 1 rfl) ?_
      refine lv_icmp_ne (x := nI (kd i)) (y := x) (tgt := 35) hx hb d_Bk_gramsOfKind_22 (by decide) (fun c22 => ?_) (fun c22 => ?_)
      · refine lv_iinc (v := nI (i + 1)) (lv' := [(4, .int (nI (i + 1))), (0, .ref h), (1, .int x), (2, .long (lN acc))]) hx hb d_Bk_gramsOfKind_35 hl (k := 3) rfl (bk_inc i) (by decide) rfl (fun ls hl => ?_)
        refine lv_goto (tgt := 5) hx hb d_Bk_gramsOfKind_38 (by decide) ?_
        exact ih5 (i + 1) acc (by omega) (by first | rfl | simp [sumK, hacc, *]) ls (lv_sub hl [1, 2, 3, 0] rfl)
      · refine lv_lload_n hx hb d_Bk_gramsOfKind_25 rfl (lv_at hl 2 rfl) ?_
        refine lv_aload_n hx hb d_Bk_gramsOfKind_26 rfl (lv_at hl 0 rfl) ?_
        refine va_get (D := (dC, dI)) (ci := 1) (v := .ref a4) (C := R_Bk) (T := F_Bk) (N := 5) hx hb htg iw_Bk hown hK hP 0 rfl rfl 3 (by decide) (htg _ k1_36) (fun _ h9 => h9) rfl d_Bk_gramsOfKind_27 ?_
        refine lv_iload hx hb d_Bk_gramsOfKind_30 (lv_at hl 3 rfl) ?_
        refine bk_lald (v := lN (gr i)) hx hb hK hP 2 1 rfl rfl (by omega) (by decide) rfl d_Bk_gramsOfKind_32 ?_
        refine bk_ladd hx hb d_Bk_gramsOfKind_33 ?_
        refine lv_lstore_n (lv' := [(2, .long (lN (acc + (gr i)))), (0, .ref h), (1, .int x), (4, .int (nI i))]) hx hb d_Bk_gramsOfKind_34 rfl hl (by decide) rfl (fun ls hl => ?_)
        refine lv_iinc (v := nI (i + 1)) (lv' := [(4, .int (nI (i + 1))), (2, .long (lN (acc + (gr i)))), (0, .ref h), (1, .int x)]) hx hb d_Bk_gramsOfKind_35 hl (k := 3) rfl (bk_inc i) (by decide) rfl (fun ls hl => ?_)
        refine lv_goto (tgt := 5) hx hb d_Bk_gramsOfKind_38 (by decide) ?_
        exact ih5 (i + 1) (acc + (gr i)) (by omega) (by first | rfl | simp [sumK, hacc, *]) ls (lv_sub hl [2, 3, 1, 0] rfl)
  exact J5 n 0 0 (by omega) (by first | rfl | simp [sumK, hacc, *]) ls (lv_sub hl [2, 3, 1, 0] rfl)
set_option maxHeartbeats 4000000 in
set_option maxRecDepth 100000 in
theorem c_Bk_add (l : Launch) (dC : Nat → ClassId) (dI : Nat → Nat → Nat) (cI cL cZ : ClassId) (sz : Nat) (h a1 a2 a3 a4 n : Nat) (sh dy kd gr : Nat → Nat) (x1 x2 x3 : Int32) (x4 : Int64) (hn : n ≤ 30) : Met l y_Bk_add ws_Bk_add { frames := 1, cells := 0, slots := 0, locals := 21 } (va_Pc [.ref h, .int x1, .int x2, .int x3, .long x4] (wrP (dC, dI) vwCl [(cI, .int), (cL, .long), (cZ, .boolean)] [(h, .inr (1, [.ref a1, .ref a2, .ref a3, .ref a4, .int (nI n)])), (a1, .inl (cI, 30, .inl (aI sh))), (a2, .inl (cI, 30, .inl (aI dy))), (a3, .inl (cI, 30, .inl (aI kd))), (a4, .inl (cL, 30, .inr (.inl (aL gr))))] sz)) (va_Qi (fun (r : Int32) (u : Nat × (Nat → Nat) × (Nat → Nat) × (Nat → Nat) × (Nat → Nat)) => (addOk n x1 x2 x3 x4 ∧ r = nI n ∧ u = (n + 1, va_up sh n (tn x1), va_up dy n (tn x2), va_up kd n (tn x3), va_up gr n (tl x4))) ∨ (¬ addOk n x1 x2 x3 x4 ∧ r = oI none ∧ u = (n, sh, dy, kd, gr))) (fun (u : Nat × (Nat → Nat) × (Nat → Nat) × (Nat → Nat) × (Nat → Nat)) => wrQ (dC, dI) vwCl [(cI, .int), (cL, .long), (cZ, .boolean)] (va_A [(h, .inr (1, [.ref a1, .ref a2, .ref a3, .ref a4, .int (nI n)])), (a1, .inl (cI, 30, .inl (aI sh))), (a2, .inl (cI, 30, .inl (aI dy))), (a3, .inl (cI, 30, .inl (aI kd))), (a4, .inl (cL, 30, .inr (.inl (aL gr))))] sz) [(h, .inr (1, [.ref a1, .ref a2, .ref a3, .ref a4, .int (nI u.1)])), (a1, .inl (cI, 30, .inl (aI u.2.1))), (a2, .inl (cI, 30, .inl (aI u.2.2.1))), (a3, .inl (cI, 30, .inl (aI u.2.2.2.1))), (a4, .inl (cL, 30, .inr (.inl (aL u.2.2.2.2))))]) (va_A [(h, .inr (1, [.ref a1, .ref a2, .ref a3, .ref a4, .int (nI n)])), (a1, .inl (cI, 30, .inl (aI sh))), (a2, .inl (cI, 30, .inl (aI dy))), (a3, .inl (cI, 30, .inl (aI kd))), (a4, .inl (cL, 30, .inr (.inl (aL gr))))] sz)) 0 0 (va_A [(h, .inr (1, [.ref a1, .ref a2, .ref a3, .ref a4, .int (nI n)])), (a1, .inl (cI, 30, .inl (aI sh))), (a2, .inl (cI, 30, .inl (aI dy))), (a3, .inl (cI, 30, .inl (aI kd))), (a4, .inl (cL, 30, .inr (.inl (aL gr))))] sz) := by
  refine Met.ofW (cc := b_Bk_add) (maxL := 7) (ret := (some .int)) (by decide) rfl ?_
  intro pr en s m args below meth c s₁ B hml hv
  obtain ⟨rfl, hN, hsz, hP, hK, hD0⟩ := hv
  have hx := B.exec
  have hb := B.bytes
  have hr := B.returns
  have hts := atoms_spec (ws := ws_Bk_add) B.pre
  have htg : ∀ w ∈ gW, w.before _ s = true := fun w h => hts w (List.mem_cons_of_mem _ h)
  have hown : s.vm.findClass R_Bk = some m.cls := findClass_of_methodNamed B.named
  have hlocks := B.notSynchronized
  subst hsz
  have hD := hD0.self (sz := s.heap.size)
  generalize hAe : va_A [(h, .inr (1, [.ref a1, .ref a2, .ref a3, .ref a4, .int (nI n)])), (a1, .inl (cI, 30, .inl (aI sh))), (a2, .inl (cI, 30, .inl (aI dy))), (a3, .inl (cI, 30, .inl (aI kd))), (a4, .inl (cL, 30, .inr (.inl (aL gr))))] s.heap.size = A at hD ⊢
  have hA : ∀ q : Nat, s.heap.size ≤ q → A q := fun q h => by rw [← hAe]; exact Or.inr h
  have hS : va_S A s.heap s.heap [] := va_S.rf
  have hP : va_P (dC, dI) vwCl [(h, .inr (1, [.ref a1, .ref a2, .ref a3, .ref a4, .int (nI n)])), (a1, .inl (cI, 30, .inl (aI sh))), (a2, .inl (cI, 30, .inl (aI dy))), (a3, .inl (cI, 30, .inl (aI kd))), (a4, .inl (cL, 30, .inr (.inl (aL gr))))] s.heap := hP
  have hl := lv_entry ([.ref h, .int x1, .int x2, .int x3, .long x4]) (n := 7) (Nat.le_of_ble_eq_true rfl)
  rw [lg_entry_eq]
  generalize (lg_sl ([.ref h, .int x1, .int x2, .int x3, .long x4]) ++ List.replicate (7 - (lg_sl ([.ref h, .int x1, .int x2, .int x3, .long x4])).length) Slot.unset).toArray = ls at hl ⊢
  have hl : lv_has ls 7 [(0, .ref h), (1, .int x1), (2, .int x2), (3, .int x3), (4, .long x4)] := hl
  refine lv_aload_n hx hb d_Bk_add_0 rfl (lv_at hl 0 rfl) ?_
  refine va_get (D := (dC, dI)) (ci := 1) (v := .int (nI n)) (C := R_Bk) (T := F_Bk) (N := 5) hx hb htg iw_Bk hown hK hP 0 rfl rfl 4 (by decide) (htg _ k1_38) (fun _ h9 => h9) rfl d_Bk_add_1 ?_
  refine lv_bipush (v := nI 30) hx hb d_Bk_add_4 (by decide +kernel) ?_
  refine bk_icmp_ge (a := n) (b := 30) (tgt := 38) hx hb (by omega) (by omega) d_Bk_add_6 (by decide) (fun c6 => ?_) (fun c6 => ?_)
  · refine lv_iconst (v := oI none) hx hb d_Bk_add_38 (by decide +kernel) ?_
    have hP9 := hP.sub (ws' := [(h, .inr (1, [.ref a1, .ref a2, .ref a3, .ref a4, .int (nI n)])), (a1, .inl (cI, 30, .inl (aI sh))), (a2, .inl (cI, 30, .inl (aI dy))), (a3, .inl (cI, 30, .inl (aI kd))), (a4, .inl (cL, 30, .inr (.inl (aL gr))))]) [0, 1, 2, 3, 4] rfl
    have hD9 := hD.sub (ws' := [(h, .inr (1, [.ref a1, .ref a2, .ref a3, .ref a4, .int (nI n)])), (a1, .inl (cI, 30, .inl (aI sh))), (a2, .inl (cI, 30, .inl (aI dy))), (a3, .inl (cI, 30, .inl (aI kd))), (a4, .inl (cL, 30, .inr (.inl (aL gr))))]) [0, 1, 2, 3, 4] (by decide) rfl
    exact W.iret (v := oI none) hx hb hr (fun t9 ht9 hW9 => ⟨⟨oI none, (n, sh, dy, kd, gr), rfl, Or.inr ⟨fun q => by obtain ⟨q1, q2, q3, q4, q5⟩ := q; first | omega | contradiction, rfl, rfl⟩, by rw [ht9]; exact hP9, va_K.moved hW9.alike hK, hD9⟩, hS.F ht9⟩) hS.2.2 d_Bk_add_39
  · refine lv_iload_n hx hb d_Bk_add_9 rfl (lv_at hl 1 rfl) ?_
    refine vp_callSi (va_runSN (As := [.int x1]) (rest := []) ⟨hx, hb, hml, hown, htg⟩ (c_B_isShip l dC dI cI cL cZ x1 ) ⟨va_cnB 1 htg (gd kc_B_isShip) rfl rfl rfl (hN _ (List.mem_of_getElem? (i := 4) rfl)) (htg _ k1_1) (by decide +kernel) ⟨Nat.le_of_ble_eq_true rfl, Nat.le_of_ble_eq_true rfl⟩, htg _ k1_197, trivial⟩ ⟨bk_blind0, fun U hU hW => ⟨rfl, trivial⟩⟩ rfl rfl hl.1 rfl (lv_room (Nat.le_of_ble_eq_true rfl)) d_Bk_add_10 ⟨Nat.le_of_ble_eq_true rfl, Nat.le_of_ble_eq_true rfl⟩).run (fun r10 e10 => ?_)
    rcases e10 with ⟨⟨j10, hj10, hx10⟩, rfl⟩ | ⟨n10, rfl⟩
    · refine bk_if_eq (a := 1) (tgt := 38) hx hb (by omega) d_Bk_add_13 (by decide) (fun c13 => absurd c13 (by decide)) (fun c13 => ?_)
      refine lv_iload_n hx hb d_Bk_add_16 rfl (lv_at hl 2 rfl) ?_
      refine vp_callSi (va_runSN (As := [.int x2]) (rest := []) ⟨hx, hb, hml, hown, htg⟩ (c_B_isDay l dC dI cI cL cZ x2 ) ⟨va_cnB 1 htg (gd kc_B_isDay) rfl rfl rfl (hN _ (List.mem_of_getElem? (i := 5) rfl)) (htg _ k1_1) (by decide +kernel) ⟨Nat.le_of_ble_eq_true rfl, Nat.le_of_ble_eq_true rfl⟩, htg _ k1_200, trivial⟩ ⟨bk_blind0, fun U hU hW => ⟨rfl, trivial⟩⟩ rfl rfl hl.1 rfl (lv_room (Nat.le_of_ble_eq_true rfl)) d_Bk_add_17 ⟨Nat.le_of_ble_eq_true rfl, Nat.le_of_ble_eq_true rfl⟩).run (fun r17 e17 => ?_)
      rcases e17 with ⟨⟨j17, hj17, hx17⟩, rfl⟩ | ⟨n17, rfl⟩
      · refine bk_if_eq (a := 1) (tgt := 38) hx hb (by omega) d_Bk_add_20 (by decide) (fun c20 => absurd c20 (by decide)) (fun c20 => ?_)
        refine lv_iload_n hx hb d_Bk_add_23 rfl (lv_at hl 3 rfl) ?_
        refine vp_callSi (va_runSN (As := [.int x3]) (rest := []) ⟨hx, hb, hml, hown, htg⟩ (c_B_isKind l dC dI cI cL cZ x3 ) ⟨va_cnB 1 htg (gd kc_B_isKind) rfl rfl rfl (hN _ (List.mem_of_getElem? (i := 6) rfl)) (htg _ k1_1) (by decide +kernel) ⟨Nat.le_of_ble_eq_true rfl, Nat.le_of_ble_eq_true rfl⟩, htg _ k1_204, trivial⟩ ⟨bk_blind0, fun U hU hW => ⟨rfl, trivial⟩⟩ rfl rfl hl.1 rfl (lv_room (Nat.le_of_ble_eq_true rfl)) d_Bk_add_24 ⟨Nat.le_of_ble_eq_true rfl, Nat.le_of_ble_eq_true rfl⟩).run (fun r24 e24 => ?_)
        rcases e24 with ⟨⟨j24, hj24, hx24⟩, rfl⟩ | ⟨n24, rfl⟩
        · refine bk_if_eq (a := 1) (tgt := 38) hx hb (by omega) d_Bk_add_27 (by decide) (fun c27 => absurd c27 (by decide)) (fun c27 => ?_)
          refine lv_lload hx hb d_Bk_add_30 (lv_at hl 4 rfl) ?_
          refine vp_callSi (va_runSN (As := [.long x4]) (rest := []) ⟨hx, hb, hml, hown, htg⟩ (c_B_isWeighed l dC dI cI cL cZ x4 ) ⟨va_cnB 1 htg (gd kc_B_isWeighed) rfl rfl rfl (hN _ (List.mem_of_getElem? (i := 7) rfl)) (htg _ k1_1) (by decide +kernel) ⟨Nat.le_of_ble_eq_true rfl, Nat.le_of_ble_eq_true rfl⟩, htg _ k1_207, trivial⟩ ⟨bk_blind0, fun U hU hW => ⟨rfl, trivial⟩⟩ rfl rfl hl.1 rfl (lv_room (Nat.le_of_ble_eq_true rfl)) d_Bk_add_32 ⟨Nat.le_of_ble_eq_true rfl, Nat.le_of_ble_eq_true rfl⟩).run (fun r32 e32 => ?_)
          rcases e32 with ⟨⟨j32, ha32, hj32, hx32⟩, rfl⟩ | ⟨n32, rfl⟩
          · refine bk_if_ne (a := 1) (tgt := 40) hx hb (by omega) d_Bk_add_35 (by decide) (fun c35 => ?_) (fun c35 => absurd c35 (by decide))
            refine lv_aload_n hx hb d_Bk_add_40 rfl (lv_at hl 0 rfl) ?_
            refine va_get (D := (dC, dI)) (ci := 1) (v := .int (nI n)) (C := R_Bk) (T := F_Bk) (N := 5) hx hb htg iw_Bk hown hK hP 0 rfl rfl 4 (by decide) (htg _ k1_38) (fun _ h9 => h9) rfl d_Bk_add_41 ?_
            refine lv_istore (lv' := [(6, .int (nI n)), (0, .ref h), (1, .int x1), (2, .int x2), (3, .int x3), (4, .long x4)]) hx hb d_Bk_add_44 hl (by decide) rfl (fun ls hl => ?_)
            refine lv_aload_n hx hb d_Bk_add_46 rfl (lv_at hl 1 rfl) ?_
            refine va_get (D := (dC, dI)) (ci := 1) (v := .ref a1) (C := R_Bk) (T := F_Bk) (N := 5) hx hb htg iw_Bk hown hK hP 0 rfl rfl 0 (by decide) (htg _ k1_30) (fun _ h9 => h9) rfl d_Bk_add_47 ?_
            refine lv_iload hx hb d_Bk_add_50 (lv_at hl 0 rfl) ?_
            refine lv_iload_n hx hb d_Bk_add_52 rfl (lv_at hl 2 rfl) ?_
            refine bk_topi (y := nI j10) hx10 ?_
            refine bk_iast (x := nI j10) (f2 := aI (va_up sh n j10)) hx hb hK hP hD hS 1 0 rfl rfl (by omega) (by decide) (aI_up _ _ _) d_Bk_add_53 (fun H locs hP hD hS => ?_)
            have hP : va_P (dC, dI) vwCl [(h, .inr (1, [.ref a1, .ref a2, .ref a3, .ref a4, .int (nI n)])), (a1, .inl (cI, 30, .inl (aI (va_up sh n j10)))), (a2, .inl (cI, 30, .inl (aI dy))), (a3, .inl (cI, 30, .inl (aI kd))), (a4, .inl (cL, 30, .inr (.inl (aL gr))))] H := hP
            have hD : va_D A [(h, .inr (1, [.ref a1, .ref a2, .ref a3, .ref a4, .int (nI n)])), (a1, .inl (cI, 30, .inl (aI (va_up sh n j10)))), (a2, .inl (cI, 30, .inl (aI dy))), (a3, .inl (cI, 30, .inl (aI kd))), (a4, .inl (cL, 30, .inr (.inl (aL gr))))] := hD
            refine lv_aload_n hx hb d_Bk_add_54 rfl (lv_at hl 1 rfl) ?_
            refine va_get (D := (dC, dI)) (ci := 1) (v := .ref a2) (C := R_Bk) (T := F_Bk) (N := 5) hx hb htg iw_Bk hown hK hP 0 rfl rfl 1 (by decide) (htg _ k1_33) (fun _ h9 => h9) rfl d_Bk_add_55 ?_
            refine lv_iload hx hb d_Bk_add_58 (lv_at hl 0 rfl) ?_
            refine lv_iload_n hx hb d_Bk_add_60 rfl (lv_at hl 3 rfl) ?_
            refine bk_topi (y := nI j17) hx17 ?_
            refine bk_iast (x := nI j17) (f2 := aI (va_up dy n j17)) hx hb hK hP hD hS 2 0 rfl rfl (by omega) (by decide) (aI_up _ _ _) d_Bk_add_61 (fun H locs hP hD hS => ?_)
            have hP : va_P (dC, dI) vwCl [(h, .inr (1, [.ref a1, .ref a2, .ref a3, .ref a4, .int (nI n)])), (a1, .inl (cI, 30, .inl (aI (va_up sh n j10)))), (a2, .inl (cI, 30, .inl (aI (va_up dy n j17)))), (a3, .inl (cI, 30, .inl (aI kd))), (a4, .inl (cL, 30, .inr (.inl (aL gr))))] H := hP
            have hD : va_D A [(h, .inr (1, [.ref a1, .ref a2, .ref a3, .ref a4, .int (nI n)])), (a1, .inl (cI, 30, .inl (aI (va_up sh n j10)))), (a2, .inl (cI, 30, .inl (aI (va_up dy n j17)))), (a3, .inl (cI, 30, .inl (aI kd))), (a4, .inl (cL, 30, .inr (.inl (aL gr))))] := hD
            refine lv_aload_n hx hb d_Bk_add_62 rfl (lv_at hl 1 rfl) ?_
            refine va_get (D := (dC, dI)) (ci := 1) (v := .ref a3) (C := R_Bk) (T := F_Bk) (N := 5) hx hb htg iw_Bk hown hK hP 0 rfl rfl 2 (by decide) (htg _ k1_35) (fun _ h9 => h9) rfl d_Bk_add_63 ?_
            refine lv_iload hx hb d_Bk_add_66 (lv_at hl 0 rfl) ?_
            refine lv_iload_n hx hb d_Bk_add_68 rfl (lv_at hl 4 rfl) ?_
            refine bk_topi (y := nI j24) hx24 ?_
            refine bk_iast (x := nI j24) (f2 := aI (va_up kd n j24)) hx hb hK hP hD hS 3 0 rfl rfl (by omega) (by decide) (aI_up _ _ _) d_Bk_add_69 (fun H locs hP hD hS => ?_)
            have hP : va_P (dC, dI) vwCl [(h, .inr (1, [.ref a1, .ref a2, .ref a3, .ref a4, .int (nI n)])), (a1, .inl (cI, 30, .inl (aI (va_up sh n j10)))), (a2, .inl (cI, 30, .inl (aI (va_up dy n j17)))), (a3, .inl (cI, 30, .inl (aI (va_up kd n j24)))), (a4, .inl (cL, 30, .inr (.inl (aL gr))))] H := hP
            have hD : va_D A [(h, .inr (1, [.ref a1, .ref a2, .ref a3, .ref a4, .int (nI n)])), (a1, .inl (cI, 30, .inl (aI (va_up sh n j10)))), (a2, .inl (cI, 30, .inl (aI (va_up dy n j17)))), (a3, .inl (cI, 30, .inl (aI (va_up kd n j24)))), (a4, .inl (cL, 30, .inr (.inl (aL gr))))] := hD
            refine lv_aload_n hx hb d_Bk_add_70 rfl (lv_at hl 1 rfl) ?_
            refine va_get (D := (dC, dI)) (ci := 1) (v := .ref a4) (C := R_Bk) (T := F_Bk) (N := 5) hx hb htg iw_Bk hown hK hP 0 rfl rfl 3 (by decide) (htg _ k1_36) (fun _ h9 => h9) rfl d_Bk_add_71 ?_
            refine lv_iload hx hb d_Bk_add_74 (lv_at hl 0 rfl) ?_
            refine lv_lload hx hb d_Bk_add_76 (lv_at hl 5 rfl) ?_
            refine bk_topl (y := lN j32) hx32 ?_
            refine bk_last (x := lN j32) (f2 := aL (va_up gr n j32)) hx hb hK hP hD hS 4 1 rfl rfl (by omega) (by decide) (aL_up _ _ _) d_Bk_add_78 (fun H locs hP hD hS => ?_)
            have hP : va_P (dC, dI) vwCl [(h, .inr (1, [.ref a1, .ref a2, .ref a3, .ref a4, .int (nI n)])), (a1, .inl (cI, 30, .inl (aI (va_up sh n j10)))), (a2, .inl (cI, 30, .inl (aI (va_up dy n j17)))), (a3, .inl (cI, 30, .inl (aI (va_up kd n j24)))), (a4, .inl (cL, 30, .inr (.inl (aL (va_up gr n j32)))))] H := hP
            have hD : va_D A [(h, .inr (1, [.ref a1, .ref a2, .ref a3, .ref a4, .int (nI n)])), (a1, .inl (cI, 30, .inl (aI (va_up sh n j10)))), (a2, .inl (cI, 30, .inl (aI (va_up dy n j17)))), (a3, .inl (cI, 30, .inl (aI (va_up kd n j24)))), (a4, .inl (cL, 30, .inr (.inl (aL (va_up gr n j32)))))] := hD
            refine lv_aload_n hx hb d_Bk_add_79 rfl (lv_at hl 1 rfl) ?_
            refine lv_iload hx hb d_Bk_add_80 (lv_at hl 0 rfl) ?_
            refine lv_iconst (v := nI 1) hx hb d_Bk_add_82 (by decide +kernel) ?_
            refine bk_iadd hx hb d_Bk_add_83 ?_
            refine va_put (D := (dC, dI)) (ci := 1) (v := .int (nI (n + 1))) (ty := (t_Bk 4)) (C := R_Bk) (T := F_Bk) (N := 5) hx hb htg iw_Bk t_Bk tk_Bk nm_Bk hown hK hP hD hS 0 rfl rfl 4 (by decide) (htg _ k1_38) (fun _ h9 => h9) rfl (by decide +kernel) rfl rfl (Nat.le_of_ble_eq_true rfl) d_Bk_add_84 (fun H locs hP hD hS => ?_)
            have hP : va_P (dC, dI) vwCl [(h, .inr (1, [.ref a1, .ref a2, .ref a3, .ref a4, .int (nI (n + 1))])), (a1, .inl (cI, 30, .inl (aI (va_up sh n j10)))), (a2, .inl (cI, 30, .inl (aI (va_up dy n j17)))), (a3, .inl (cI, 30, .inl (aI (va_up kd n j24)))), (a4, .inl (cL, 30, .inr (.inl (aL (va_up gr n j32)))))] H := hP
            have hD : va_D A [(h, .inr (1, [.ref a1, .ref a2, .ref a3, .ref a4, .int (nI (n + 1))])), (a1, .inl (cI, 30, .inl (aI (va_up sh n j10)))), (a2, .inl (cI, 30, .inl (aI (va_up dy n j17)))), (a3, .inl (cI, 30, .inl (aI (va_up kd n j24)))), (a4, .inl (cL, 30, .inr (.inl (aL (va_up gr n j32)))))] := hD
            refine lv_iload hx hb d_Bk_add_87 (lv_at hl 0 rfl) ?_
            have hP9 := hP.sub (ws' := [(h, .inr (1, [.ref a1, .ref a2, .ref a3, .ref a4, .int (nI (n + 1))])), (a1, .inl (cI, 30, .inl (aI (va_up sh n j10)))), (a2, .inl (cI, 30, .inl (aI (va_up dy n j17)))), (a3, .inl (cI, 30, .inl (aI (va_up kd n j24)))), (a4, .inl (cL, 30, .inr (.inl (aL (va_up gr n j32)))))]) [0, 1, 2, 3, 4] rfl
            have hD9 := hD.sub (ws' := [(h, .inr (1, [.ref a1, .ref a2, .ref a3, .ref a4, .int (nI (n + 1))])), (a1, .inl (cI, 30, .inl (aI (va_up sh n j10)))), (a2, .inl (cI, 30, .inl (aI (va_up dy n j17)))), (a3, .inl (cI, 30, .inl (aI (va_up kd n j24)))), (a4, .inl (cL, 30, .inr (.inl (aL (va_up gr n j32)))))]) [0, 1, 2, 3, 4] (by decide) rfl
            exact W.iret (v := nI n) hx hb hr (fun t9 ht9 hW9 => ⟨⟨nI n, (n + 1, va_up sh n j10, va_up dy n j17, va_up kd n j24, va_up gr n j32), rfl, Or.inl ⟨⟨by omega, ⟨j10, hj10, hx10⟩, ⟨j17, hj17, hx17⟩, ⟨j24, hj24, hx24⟩, ⟨j32, ha32, hj32, hx32⟩⟩, rfl, by rw [hx10, hx17, hx24, hx32, tn_nI (by omega), tn_nI (by omega), tn_nI (by omega), tl_lN (by omega)]⟩, by rw [ht9]; exact hP9, va_K.moved hW9.alike hK, hD9⟩, hS.F ht9⟩) hS.2.2 d_Bk_add_89
          · refine bk_if_ne (a := 0) (tgt := 40) hx hb (by omega) d_Bk_add_35 (by decide) (fun c35 => absurd c35 (by decide)) (fun c35 => ?_)
            refine lv_iconst (v := oI none) hx hb d_Bk_add_38 (by decide +kernel) ?_
            have hP9 := hP.sub (ws' := [(h, .inr (1, [.ref a1, .ref a2, .ref a3, .ref a4, .int (nI n)])), (a1, .inl (cI, 30, .inl (aI sh))), (a2, .inl (cI, 30, .inl (aI dy))), (a3, .inl (cI, 30, .inl (aI kd))), (a4, .inl (cL, 30, .inr (.inl (aL gr))))]) [0, 1, 2, 3, 4] rfl
            have hD9 := hD.sub (ws' := [(h, .inr (1, [.ref a1, .ref a2, .ref a3, .ref a4, .int (nI n)])), (a1, .inl (cI, 30, .inl (aI sh))), (a2, .inl (cI, 30, .inl (aI dy))), (a3, .inl (cI, 30, .inl (aI kd))), (a4, .inl (cL, 30, .inr (.inl (aL gr))))]) [0, 1, 2, 3, 4] (by decide) rfl
            exact W.iret (v := oI none) hx hb hr (fun t9 ht9 hW9 => ⟨⟨oI none, (n, sh, dy, kd, gr), rfl, Or.inr ⟨fun q => by obtain ⟨q1, q2, q3, q4, q5⟩ := q; first | omega | contradiction, rfl, rfl⟩, by rw [ht9]; exact hP9, va_K.moved hW9.alike hK, hD9⟩, hS.F ht9⟩) hS.2.2 d_Bk_add_39
        · refine bk_if_eq (a := 0) (tgt := 38) hx hb (by omega) d_Bk_add_27 (by decide) (fun c27 => ?_) (fun c27 => absurd c27 (by decide))
          refine lv_iconst (v := oI none) hx hb d_Bk_add_38 (by decide +kernel) ?_
          have hP9 := hP.sub (ws' := [(h, .inr (1, [.ref a1, .ref a2, .ref a3, .ref a4, .int (nI n)])), (a1, .inl (cI, 30, .inl (aI sh))), (a2, .inl (cI, 30, .inl (aI dy))), (a3, .inl (cI, 30, .inl (aI kd))), (a4, .inl (cL, 30, .inr (.inl (aL gr))))]) [0, 1, 2, 3, 4] rfl
          have hD9 := hD.sub (ws' := [(h, .inr (1, [.ref a1, .ref a2, .ref a3, .ref a4, .int (nI n)])), (a1, .inl (cI, 30, .inl (aI sh))), (a2, .inl (cI, 30, .inl (aI dy))), (a3, .inl (cI, 30, .inl (aI kd))), (a4, .inl (cL, 30, .inr (.inl (aL gr))))]) [0, 1, 2, 3, 4] (by decide) rfl
          exact W.iret (v := oI none) hx hb hr (fun t9 ht9 hW9 => ⟨⟨oI none, (n, sh, dy, kd, gr), rfl, Or.inr ⟨fun q => by obtain ⟨q1, q2, q3, q4, q5⟩ := q; first | omega | contradiction, rfl, rfl⟩, by rw [ht9]; exact hP9, va_K.moved hW9.alike hK, hD9⟩, hS.F ht9⟩) hS.2.2 d_Bk_add_39
      · refine bk_if_eq (a := 0) (tgt := 38) hx hb (by omega) d_Bk_add_20 (by decide) (fun c20 => ?_) (fun c20 => absurd c20 (by decide))
        refine lv_iconst (v := oI none) hx hb d_Bk_add_38 (by decide +kernel) ?_
        have hP9 := hP.sub (ws' := [(h, .inr (1, [.ref a1, .ref a2, .ref a3, .ref a4, .int (nI n)])), (a1, .inl (cI, 30, .inl (aI sh))), (a2, .inl (cI, 30, .inl (aI dy))), (a3, .inl (cI, 30, .inl (aI kd))), (a4, .inl (cL, 30, .inr (.inl (aL gr))))]) [0, 1, 2, 3, 4] rfl
        have hD9 := hD.sub (ws' := [(h, .inr (1, [.ref a1, .ref a2, .ref a3, .ref a4, .int (nI n)])), (a1, .inl (cI, 30, .inl (aI sh))), (a2, .inl (cI, 30, .inl (aI dy))), (a3, .inl (cI, 30, .inl (aI kd))), (a4, .inl (cL, 30, .inr (.inl (aL gr))))]) [0, 1, 2, 3, 4] (by decide) rfl
        exact W.iret (v := oI none) hx hb hr (fun t9 ht9 hW9 => ⟨⟨oI none, (n, sh, dy, kd, gr), rfl, Or.inr ⟨fun q => by obtain ⟨q1, q2, q3, q4, q5⟩ := q; first | omega | contradiction, rfl, rfl⟩, by rw [ht9]; exact hP9, va_K.moved hW9.alike hK, hD9⟩, hS.F ht9⟩) hS.2.2 d_Bk_add_39
    · refine bk_if_eq (a := 0) (tgt := 38) hx hb (by omega) d_Bk_add_13 (by decide) (fun c13 => ?_) (fun c13 => absurd c13 (by decide))
      refine lv_iconst (v := oI none) hx hb d_Bk_add_38 (by decide +kernel) ?_
      have hP9 := hP.sub (ws' := [(h, .inr (1, [.ref a1, .ref a2, .ref a3, .ref a4, .int (nI n)])), (a1, .inl (cI, 30, .inl (aI sh))), (a2, .inl (cI, 30, .inl (aI dy))), (a3, .inl (cI, 30, .inl (aI kd))), (a4, .inl (cL, 30, .inr (.inl (aL gr))))]) [0, 1, 2, 3, 4] rfl
      have hD9 := hD.sub (ws' := [(h, .inr (1, [.ref a1, .ref a2, .ref a3, .ref a4, .int (nI n)])), (a1, .inl (cI, 30, .inl (aI sh))), (a2, .inl (cI, 30, .inl (aI dy))), (a3, .inl (cI, 30, .inl (aI kd))), (a4, .inl (cL, 30, .inr (.inl (aL gr))))]) [0, 1, 2, 3, 4] (by decide) rfl
      exact W.iret (v := oI none) hx hb hr (fun t9 ht9 hW9 => ⟨⟨oI none, (n, sh, dy, kd, gr), rfl, Or.inr ⟨fun q => by obtain ⟨q1, q2, q3, q4, q5⟩ := q; first | omega | contradiction, rfl, rfl⟩, by rw [ht9]; exact hP9, va_K.moved hW9.alike hK, hD9⟩, hS.F ht9⟩) hS.2.2 d_Bk_add_39
set_option maxHeartbeats 4000000 in
set_option maxRecDepth 100000 in
theorem c_Bk_lostByGrams (l : Launch) (dC : Nat → ClassId) (dI : Nat → Nat → Nat) (cI cL cZ : ClassId) (a b : Nat) (h1 : 1 ≤ a) (h2 : a ≤ 1000000000) (h3 : 1 ≤ b) (h4 : b ≤ 1000000000) : Met l y_Bk_lostByGrams ws_Bk_lostByGrams { frames := 1, cells := 0, slots := 0, locals := 24 } (va_Pc [.long (lN a), .long (lN b)] (fun _ => True)) (vp_Si (fun r => r = nI (lostG a b))) 0 0 (fun _ => False) := by
  refine Met.ofW (cc := b_Bk_lostByGrams) (maxL := 6) (ret := (some .int)) (by decide) rfl ?_
  intro pr en s m args below meth c s₁ B hml hv
  obtain ⟨rfl, -⟩ := hv
  have hx := B.exec
  have hb := B.bytes
  have hr := B.returns
  have hts := atoms_spec (ws := ws_Bk_lostByGrams) B.pre
  have htg : ∀ w ∈ gW, w.before _ s = true := fun w h => hts w (List.mem_cons_of_mem _ h)
  have hown : s.vm.findClass R_Bk = some m.cls := findClass_of_methodNamed B.named
  have hlocks := B.notSynchronized
  have hl := lv_entry ([.long (lN a), .long (lN b)]) (n := 6) (Nat.le_of_ble_eq_true rfl)
  rw [lg_entry_eq]
  generalize (lg_sl ([.long (lN a), .long (lN b)]) ++ List.replicate (6 - (lg_sl ([.long (lN a), .long (lN b)])).length) Slot.unset).toArray = ls at hl ⊢
  have hl : lv_has ls 6 [(0, .long (lN a)), (2, .long (lN b))] := hl
  refine lv_lload_n hx hb d_Bk_lostByGrams_0 rfl (lv_at hl 0 rfl) ?_
  refine lv_lload_n hx hb d_Bk_lostByGrams_1 rfl (lv_at hl 1 rfl) ?_
  refine va_mmax_long hx hb (by rw [hml]; exact hl.1.symm) hown (htg _ k1_237) (htg _ k1_238) (htg _ k1_10) (htg _ k1_239) (Nat.le_of_ble_eq_true rfl) (Nat.le_of_ble_eq_true rfl) (Nat.le_of_ble_eq_true rfl) (Nat.le_of_ble_eq_true rfl) d_Bk_lostByGrams_2 ?_
  refine bk_topl (y := lN (max a b)) (bk_maxL (by omega) (by omega)) ?_
  refine lv_lstore (lv' := [(4, .long (lN (max a b))), (0, .long (lN a)), (2, .long (lN b))]) hx hb d_Bk_lostByGrams_5 hl (by decide) rfl (fun ls hl => ?_)
  refine lv_lload hx hb d_Bk_lostByGrams_7 (lv_at hl 0 rfl) ?_
  refine lv_lconst (v := lN 0) hx hb d_Bk_lostByGrams_9 (by decide +kernel) ?_
  refine bk_ncmp_le (a := max a b) (b := 0) (tgt := 31) hx hb (by omega) (by omega) d_Bk_lostByGrams_10 d_Bk_lostByGrams_11 (by decide) (fun c10 => by exfalso; omega) (fun c10 => ?_)
  refine lv_ldc2 (own := R_Bk) (v := 900) hx hb hown (htg _ k2_0) d_Bk_lostByGrams_14 ?_
  refine bk_topl (y := lN 900) (by decide +kernel) ?_
  refine lv_lload_n hx hb d_Bk_lostByGrams_17 rfl (lv_at hl 1 rfl) ?_
  refine lv_lload_n hx hb d_Bk_lostByGrams_18 rfl (lv_at hl 2 rfl) ?_
  refine lv_lsub hx hb d_Bk_lostByGrams_19 ?_
  refine va_mabs_long hx hb (by rw [hml]; exact hl.1.symm) hown (htg _ k2_1) (htg _ k2_2) (htg _ k1_10) (htg _ k2_3) (Nat.le_of_ble_eq_true rfl) (Nat.le_of_ble_eq_true rfl) (Nat.le_of_ble_eq_true rfl) (Nat.le_of_ble_eq_true rfl) d_Bk_lostByGrams_20 ?_
  refine bk_topl (y := lN (max a b - min a b)) (bk_absL (by omega) (by omega)) ?_
  refine bk_lmul hx hb d_Bk_lostByGrams_23 ?_
  refine lv_lload hx hb d_Bk_lostByGrams_24 (lv_at hl 0 rfl) ?_
  refine bk_ldiv hx hb (by omega) (by omega) (by omega) d_Bk_lostByGrams_26 ?_
  refine bk_l2i hx hb d_Bk_lostByGrams_27 ?_
  refine lv_goto (tgt := 32) hx hb d_Bk_lostByGrams_28 (by decide) ?_
  exact W.iret (v := nI ((900 * (max a b - min a b)) / (max a b))) hx hb hr (fun t9 ht9 hW9 => ⟨nI ((900 * (max a b - min a b)) / (max a b)), rfl, rfl, ht9⟩) (fun q h => nomatch h) d_Bk_lostByGrams_32
set_option maxHeartbeats 4000000 in
set_option maxRecDepth 100000 in
theorem c_Bk_fitWith (l : Launch) (dC : Nat → ClassId) (dI : Nat → Nat → Nat) (cI cL cZ : ClassId) (h a1 a2 a3 a4 n : Nat) (sh dy kd gr : Nat → Nat) (h2 a12 a22 a32 a42 n2 : Nat) (sh2 dy2 kd2 gr2 : Nat → Nat) (p q : Nat) (hi : bkI n sh dy kd gr) (hi2 : bkI n2 sh2 dy2 kd2 gr2) (hp : p < n) (hq : q < n2) : Met l y_Bk_fitWith ws_Bk_fitWith { frames := 2, cells := 0, slots := 0, locals := 49 } (va_Pc [.ref h, .int (nI p), .ref h2, .int (nI q)] (rdP (dC, dI) vwCl [(cI, .int), (cL, .long), (cZ, .boolean)] [(h, .inr (1, [.ref a1, .ref a2, .ref a3, .ref a4, .int (nI n)])), (a1, .inl (cI, 30, .inl (aI sh))), (a2, .inl (cI, 30, .inl (aI dy))), (a3, .inl (cI, 30, .inl (aI kd))), (a4, .inl (cL, 30, .inr (.inl (aL gr)))), (h2, .inr (1, [.ref a12, .ref a22, .ref a32, .ref a42, .int (nI n2)])), (a12, .inl (cI, 30, .inl (aI sh2))), (a22, .inl (cI, 30, .inl (aI dy2))), (a32, .inl (cI, 30, .inl (aI kd2))), (a42, .inl (cL, 30, .inr (.inl (aL gr2))))])) (vp_Si (fun r => r = nI (ptOf sh dy kd gr sh2 dy2 kd2 gr2 p q))) 0 0 (fun _ => False) := by
  refine Met.ofW (cc := b_Bk_fitWith) (maxL := 6) (ret := (some .int)) (by decide) rfl ?_
  intro pr en s m args below meth c s₁ B hml hv
  obtain ⟨rfl, hN, hP, hK⟩ := hv
  have hx := B.exec
  have hb := B.bytes
  have hr := B.returns
  have hts := atoms_spec (ws := ws_Bk_fitWith) B.pre
  have htg : ∀ w ∈ gW, w.before _ s = true := fun w h => hts w (List.mem_cons_of_mem _ h)
  have hown : s.vm.findClass R_Bk = some m.cls := findClass_of_methodNamed B.named
  have hlocks := B.notSynchronized
  have hl := lv_entry ([.ref h, .int (nI p), .ref h2, .int (nI q)]) (n := 6) (Nat.le_of_ble_eq_true rfl)
  rw [lg_entry_eq]
  generalize (lg_sl ([.ref h, .int (nI p), .ref h2, .int (nI q)]) ++ List.replicate (6 - (lg_sl ([.ref h, .int (nI p), .ref h2, .int (nI q)])).length) Slot.unset).toArray = ls at hl ⊢
  have hl : lv_has ls 6 [(0, .ref h), (1, .int (nI p)), (2, .ref h2), (3, .int (nI q))] := hl
  have hn := hi.1
  have hn2 := hi2.1
  obtain ⟨f1, f2, f3, f4, f5⟩ := hi.2 p hp
  obtain ⟨g1, g2, g3, g4, g5⟩ := hi2.2 q hq
  have hlo := lostG_le (a := gr p) (b := gr2 q)
  refine lv_aload_n hx hb d_Bk_fitWith_0 rfl (lv_at hl 0 rfl) ?_
  refine lv_iload_n hx hb d_Bk_fitWith_1 rfl (lv_at hl 1 rfl) ?_
  refine vp_callSi (va_runV (As := [.int (nI p)]) (rest := []) ⟨hx, hb, hml, hown, htg⟩ (c_Bk_has l dC dI cI cL cZ h a1 a2 a3 a4 n (nI p) (by omega)) (cwV 1 htg (gdV k1_230 k1_231 k1_232 k1_2 kc_Bk_has) rfl rfl rfl (by decide +kernel) ⟨Nat.le_of_ble_eq_true rfl, Nat.le_of_ble_eq_true rfl⟩) ⟨bk_blind, va_recv hK hP (ci := 1) (q0 := 0) rfl rfl, fun U hU hW => ⟨rfl, nw_warm hW hN, by rw [hU]; exact hP.sub [0] rfl, va_K.moved hW.alike hK⟩⟩ rfl rfl hl.1 rfl (lv_room (Nat.le_of_ble_eq_true rfl)) d_Bk_fitWith_2 ⟨Nat.le_of_ble_eq_true rfl, Nat.le_of_ble_eq_true rfl⟩).run (fun r2 e2 => ?_)
  obtain ⟨-, rfl⟩ := e2.resolve_right (fun z9 => z9.1 ⟨p, hp, rfl⟩)
  refine bk_if_eq (a := 1) (tgt := 16) hx hb (by omega) d_Bk_fitWith_5 (by decide) (fun c5 => absurd c5 (by decide)) (fun c5 => ?_)
  refine lv_aload_n hx hb d_Bk_fitWith_8 rfl (lv_at hl 2 rfl) ?_
  refine lv_iload_n hx hb d_Bk_fitWith_9 rfl (lv_at hl 3 rfl) ?_
  refine vp_callSi (va_runV (As := [.int (nI q)]) (rest := []) ⟨hx, hb, hml, hown, htg⟩ (c_Bk_has l dC dI cI cL cZ h2 a12 a22 a32 a42 n2 (nI q) (by omega)) (cwV 1 htg (gdV k1_230 k1_231 k1_232 k1_2 kc_Bk_has) rfl rfl rfl (by decide +kernel) ⟨Nat.le_of_ble_eq_true rfl, Nat.le_of_ble_eq_true rfl⟩) ⟨bk_blind, va_recv hK hP (ci := 1) (q0 := 5) rfl rfl, fun U hU hW => ⟨rfl, nw_warm hW hN, by rw [hU]; exact hP.sub [5] rfl, va_K.moved hW.alike hK⟩⟩ rfl rfl hl.1 rfl (lv_room (Nat.le_of_ble_eq_true rfl)) d_Bk_fitWith_10 ⟨Nat.le_of_ble_eq_true rfl, Nat.le_of_ble_eq_true rfl⟩).run (fun r10 e10 => ?_)
  obtain ⟨-, rfl⟩ := e10.resolve_right (fun z9 => z9.1 ⟨q, hq, rfl⟩)
  refine bk_if_ne (a := 1) (tgt := 18) hx hb (by omega) d_Bk_fitWith_13 (by decide) (fun c13 => ?_) (fun c13 => absurd c13 (by decide))
  refine lv_aload_n hx hb d_Bk_fitWith_18 rfl (lv_at hl 2 rfl) ?_
  refine va_get (D := (dC, dI)) (ci := 1) (v := .ref a22) (C := R_Bk) (T := F_Bk) (N := 5) hx hb htg iw_Bk hown hK hP 5 rfl rfl 1 (by decide) (htg _ k1_33) (fun _ h9 => h9) rfl d_Bk_fitWith_19 ?_
  refine lv_iload_n hx hb d_Bk_fitWith_22 rfl (lv_at hl 3 rfl) ?_
  refine bk_iald (v := nI (dy2 q)) hx hb hK hP 7 0 rfl rfl (by omega) (by decide) rfl d_Bk_fitWith_23 ?_
  refine lv_aload_n hx hb d_Bk_fitWith_24 rfl (lv_at hl 0 rfl) ?_
  refine va_get (D := (dC, dI)) (ci := 1) (v := .ref a2) (C := R_Bk) (T := F_Bk) (N := 5) hx hb htg iw_Bk hown hK hP 0 rfl rfl 1 (by decide) (htg _ k1_33) (fun _ h9 => h9) rfl d_Bk_fitWith_25 ?_
  refine lv_iload_n hx hb d_Bk_fitWith_28 rfl (lv_at hl 1 rfl) ?_
  refine bk_iald (v := nI (dy p)) hx hb hK hP 2 0 rfl rfl (by omega) (by decide) rfl d_Bk_fitWith_29 ?_
  rcases Nat.lt_or_ge (dy2 q) (dy p) with h30 | h30
  · refine lv_isub hx hb d_Bk_fitWith_30 ?_
    refine lv_istore (lv' := [(4, .int ((nI (dy2 q)) - (nI (dy p)))), (0, .ref h), (1, .int (nI p)), (2, .ref h2), (3, .int (nI q))]) hx hb d_Bk_fitWith_31 hl (by decide) rfl (fun ls hl => ?_)
    refine lv_aload_n hx hb d_Bk_fitWith_33 rfl (lv_at hl 1 rfl) ?_
    refine va_get (D := (dC, dI)) (ci := 1) (v := .ref a1) (C := R_Bk) (T := F_Bk) (N := 5) hx hb htg iw_Bk hown hK hP 0 rfl rfl 0 (by decide) (htg _ k1_30) (fun _ h9 => h9) rfl d_Bk_fitWith_34 ?_
    refine lv_iload_n hx hb d_Bk_fitWith_37 rfl (lv_at hl 2 rfl) ?_
    refine bk_iald (v := nI (sh p)) hx hb hK hP 1 0 rfl rfl (by omega) (by decide) rfl d_Bk_fitWith_38 ?_
    refine lv_aload_n hx hb d_Bk_fitWith_39 rfl (lv_at hl 3 rfl) ?_
    refine va_get (D := (dC, dI)) (ci := 1) (v := .ref a12) (C := R_Bk) (T := F_Bk) (N := 5) hx hb htg iw_Bk hown hK hP 5 rfl rfl 0 (by decide) (htg _ k1_30) (fun _ h9 => h9) rfl d_Bk_fitWith_40 ?_
    refine lv_iload_n hx hb d_Bk_fitWith_43 rfl (lv_at hl 4 rfl) ?_
    refine bk_iald (v := nI (sh2 q)) hx hb hK hP 6 0 rfl rfl (by omega) (by decide) rfl d_Bk_fitWith_44 ?_
    refine bk_icmp_ne (a := sh p) (b := sh2 q) (tgt := 67) hx hb (by omega) (by omega) d_Bk_fitWith_45 (by decide) (fun c45 => ?_) (fun c45 => ?_)
    · refine lv_iconst (v := nI 0) hx hb d_Bk_fitWith_67 (by decide +kernel) ?_
      refine lv_istore (lv' := [(5, .int (nI 0)), (4, .int ((nI (dy2 q)) - (nI (dy p)))), (0, .ref h), (1, .int (nI p)), (2, .ref h2), (3, .int (nI q))]) hx hb d_Bk_fitWith_68 hl (by decide) rfl (fun ls hl => ?_)
      refine lv_iload hx hb d_Bk_fitWith_70 (lv_at hl 0 rfl) ?_
      refine bk_if_eq (a := 0) (tgt := 86) hx hb (by omega) d_Bk_fitWith_72 (by decide) (fun c72 => ?_) (fun c72 => absurd c72 (by decide))
      refine lv_iconst (v := nI 0) hx hb d_Bk_fitWith_86 (by decide +kernel) ?_
      exact W.iret (v := nI 0) hx hb hr (fun t9 ht9 hW9 => ⟨nI 0, rfl, (by rw [ptOf, pts, if_neg (by omega)]), ht9⟩) (fun q h => nomatch h) d_Bk_fitWith_87
    · refine lv_aload_n hx hb d_Bk_fitWith_48 rfl (lv_at hl 1 rfl) ?_
      refine va_get (D := (dC, dI)) (ci := 1) (v := .ref a3) (C := R_Bk) (T := F_Bk) (N := 5) hx hb htg iw_Bk hown hK hP 0 rfl rfl 2 (by decide) (htg _ k1_35) (fun _ h9 => h9) rfl d_Bk_fitWith_49 ?_
      refine lv_iload_n hx hb d_Bk_fitWith_52 rfl (lv_at hl 2 rfl) ?_
      refine bk_iald (v := nI (kd p)) hx hb hK hP 3 0 rfl rfl (by omega) (by decide) rfl d_Bk_fitWith_53 ?_
      refine lv_aload_n hx hb d_Bk_fitWith_54 rfl (lv_at hl 3 rfl) ?_
      refine va_get (D := (dC, dI)) (ci := 1) (v := .ref a32) (C := R_Bk) (T := F_Bk) (N := 5) hx hb htg iw_Bk hown hK hP 5 rfl rfl 2 (by decide) (htg _ k1_35) (fun _ h9 => h9) rfl d_Bk_fitWith_55 ?_
      refine lv_iload_n hx hb d_Bk_fitWith_58 rfl (lv_at hl 4 rfl) ?_
      refine bk_iald (v := nI (kd2 q)) hx hb hK hP 8 0 rfl rfl (by omega) (by decide) rfl d_Bk_fitWith_59 ?_
      refine bk_icmp_ne (a := kd p) (b := kd2 q) (tgt := 67) hx hb (by omega) (by omega) d_Bk_fitWith_60 (by decide) (fun c60 => ?_) (fun c60 => ?_)
      · refine lv_iconst (v := nI 0) hx hb d_Bk_fitWith_67 (by decide +kernel) ?_
        refine lv_istore (lv' := [(5, .int (nI 0)), (4, .int ((nI (dy2 q)) - (nI (dy p)))), (0, .ref h), (1, .int (nI p)), (2, .ref h2), (3, .int (nI q))]) hx hb d_Bk_fitWith_68 hl (by decide) rfl (fun ls hl => ?_)
        refine lv_iload hx hb d_Bk_fitWith_70 (lv_at hl 0 rfl) ?_
        refine bk_if_eq (a := 0) (tgt := 86) hx hb (by omega) d_Bk_fitWith_72 (by decide) (fun c72 => ?_) (fun c72 => absurd c72 (by decide))
        refine lv_iconst (v := nI 0) hx hb d_Bk_fitWith_86 (by decide +kernel) ?_
        exact W.iret (v := nI 0) hx hb hr (fun t9 ht9 hW9 => ⟨nI 0, rfl, (by rw [ptOf, pts, if_neg (by omega)]), ht9⟩) (fun q h => nomatch h) d_Bk_fitWith_87
      · refine lv_iconst (v := nI 1) hx hb d_Bk_fitWith_63 (by decide +kernel) ?_
        refine lv_goto (tgt := 68) hx hb d_Bk_fitWith_64 (by decide) ?_
        refine lv_istore (lv' := [(5, .int (nI 1)), (4, .int ((nI (dy2 q)) - (nI (dy p)))), (0, .ref h), (1, .int (nI p)), (2, .ref h2), (3, .int (nI q))]) hx hb d_Bk_fitWith_68 hl (by decide) rfl (fun ls hl => ?_)
        refine lv_iload hx hb d_Bk_fitWith_70 (lv_at hl 0 rfl) ?_
        refine bk_if_eq (a := 1) (tgt := 86) hx hb (by omega) d_Bk_fitWith_72 (by decide) (fun c72 => absurd c72 (by decide)) (fun c72 => ?_)
        refine lv_iload hx hb d_Bk_fitWith_75 (lv_at hl 1 rfl) ?_
        refine lv_if_lt (x := ((nI (dy2 q)) - (nI (dy p)))) (tgt := 86) hx hb d_Bk_fitWith_77 (by decide) (fun c77 => ?_) (fun c77 => absurd (pk_sneg (by omega) h30) c77)
        refine lv_iconst (v := nI 0) hx hb d_Bk_fitWith_86 (by decide +kernel) ?_
        exact W.iret (v := nI 0) hx hb hr (fun t9 ht9 hW9 => ⟨nI 0, rfl, (by rw [ptOf, pts, if_neg (by omega)]), ht9⟩) (fun q h => nomatch h) d_Bk_fitWith_87
  · refine bk_isub hx hb h30 d_Bk_fitWith_30 ?_
    refine lv_istore (lv' := [(4, .int (nI ((dy2 q) - (dy p)))), (0, .ref h), (1, .int (nI p)), (2, .ref h2), (3, .int (nI q))]) hx hb d_Bk_fitWith_31 hl (by decide) rfl (fun ls hl => ?_)
    refine lv_aload_n hx hb d_Bk_fitWith_33 rfl (lv_at hl 1 rfl) ?_
    refine va_get (D := (dC, dI)) (ci := 1) (v := .ref a1) (C := R_Bk) (T := F_Bk) (N := 5) hx hb htg iw_Bk hown hK hP 0 rfl rfl 0 (by decide) (htg _ k1_30) (fun _ h9 => h9) rfl d_Bk_fitWith_34 ?_
    refine lv_iload_n hx hb d_Bk_fitWith_37 rfl (lv_at hl 2 rfl) ?_
    refine bk_iald (v := nI (sh p)) hx hb hK hP 1 0 rfl rfl (by omega) (by decide) rfl d_Bk_fitWith_38 ?_
    refine lv_aload_n hx hb d_Bk_fitWith_39 rfl (lv_at hl 3 rfl) ?_
    refine va_get (D := (dC, dI)) (ci := 1) (v := .ref a12) (C := R_Bk) (T := F_Bk) (N := 5) hx hb htg iw_Bk hown hK hP 5 rfl rfl 0 (by decide) (htg _ k1_30) (fun _ h9 => h9) rfl d_Bk_fitWith_40 ?_
    refine lv_iload_n hx hb d_Bk_fitWith_43 rfl (lv_at hl 4 rfl) ?_
    refine bk_iald (v := nI (sh2 q)) hx hb hK hP 6 0 rfl rfl (by omega) (by decide) rfl d_Bk_fitWith_44 ?_
    refine bk_icmp_ne (a := sh p) (b := sh2 q) (tgt := 67) hx hb (by omega) (by omega) d_Bk_fitWith_45 (by decide) (fun c45 => ?_) (fun c45 => ?_)
    · refine lv_iconst (v := nI 0) hx hb d_Bk_fitWith_67 (by decide +kernel) ?_
      refine lv_istore (lv' := [(5, .int (nI 0)), (4, .int (nI ((dy2 q) - (dy p)))), (0, .ref h), (1, .int (nI p)), (2, .ref h2), (3, .int (nI q))]) hx hb d_Bk_fitWith_68 hl (by decide) rfl (fun ls hl => ?_)
      refine lv_iload hx hb d_Bk_fitWith_70 (lv_at hl 0 rfl) ?_
      refine bk_if_eq (a := 0) (tgt := 86) hx hb (by omega) d_Bk_fitWith_72 (by decide) (fun c72 => ?_) (fun c72 => absurd c72 (by decide))
      refine lv_iconst (v := nI 0) hx hb d_Bk_fitWith_86 (by decide +kernel) ?_
      exact W.iret (v := nI 0) hx hb hr (fun t9 ht9 hW9 => ⟨nI 0, rfl, (by rw [ptOf, pts, if_neg (by omega)]), ht9⟩) (fun q h => nomatch h) d_Bk_fitWith_87
    · refine lv_aload_n hx hb d_Bk_fitWith_48 rfl (lv_at hl 1 rfl) ?_
      refine va_get (D := (dC, dI)) (ci := 1) (v := .ref a3) (C := R_Bk) (T := F_Bk) (N := 5) hx hb htg iw_Bk hown hK hP 0 rfl rfl 2 (by decide) (htg _ k1_35) (fun _ h9 => h9) rfl d_Bk_fitWith_49 ?_
      refine lv_iload_n hx hb d_Bk_fitWith_52 rfl (lv_at hl 2 rfl) ?_
      refine bk_iald (v := nI (kd p)) hx hb hK hP 3 0 rfl rfl (by omega) (by decide) rfl d_Bk_fitWith_53 ?_
      refine lv_aload_n hx hb d_Bk_fitWith_54 rfl (lv_at hl 3 rfl) ?_
      refine va_get (D := (dC, dI)) (ci := 1) (v := .ref a32) (C := R_Bk) (T := F_Bk) (N := 5) hx hb htg iw_Bk hown hK hP 5 rfl rfl 2 (by decide) (htg _ k1_35) (fun _ h9 => h9) rfl d_Bk_fitWith_55 ?_
      refine lv_iload_n hx hb d_Bk_fitWith_58 rfl (lv_at hl 4 rfl) ?_
      refine bk_iald (v := nI (kd2 q)) hx hb hK hP 8 0 rfl rfl (by omega) (by decide) rfl d_Bk_fitWith_59 ?_
      refine bk_icmp_ne (a := kd p) (b := kd2 q) (tgt := 67) hx hb (by omega) (by omega) d_Bk_fitWith_60 (by decide) (fun c60 => ?_) (fun c60 => ?_)
      · refine lv_iconst (v := nI 0) hx hb d_Bk_fitWith_67 (by decide +kernel) ?_
        refine lv_istore (lv' := [(5, .int (nI 0)), (4, .int (nI ((dy2 q) - (dy p)))), (0, .ref h), (1, .int (nI p)), (2, .ref h2), (3, .int (nI q))]) hx hb d_Bk_fitWith_68 hl (by decide) rfl (fun ls hl => ?_)
        refine lv_iload hx hb d_Bk_fitWith_70 (lv_at hl 0 rfl) ?_
        refine bk_if_eq (a := 0) (tgt := 86) hx hb (by omega) d_Bk_fitWith_72 (by decide) (fun c72 => ?_) (fun c72 => absurd c72 (by decide))
        refine lv_iconst (v := nI 0) hx hb d_Bk_fitWith_86 (by decide +kernel) ?_
        exact W.iret (v := nI 0) hx hb hr (fun t9 ht9 hW9 => ⟨nI 0, rfl, (by rw [ptOf, pts, if_neg (by omega)]), ht9⟩) (fun q h => nomatch h) d_Bk_fitWith_87
      · refine lv_iconst (v := nI 1) hx hb d_Bk_fitWith_63 (by decide +kernel) ?_
        refine lv_goto (tgt := 68) hx hb d_Bk_fitWith_64 (by decide) ?_
        refine lv_istore (lv' := [(5, .int (nI 1)), (4, .int (nI ((dy2 q) - (dy p)))), (0, .ref h), (1, .int (nI p)), (2, .ref h2), (3, .int (nI q))]) hx hb d_Bk_fitWith_68 hl (by decide) rfl (fun ls hl => ?_)
        refine lv_iload hx hb d_Bk_fitWith_70 (lv_at hl 0 rfl) ?_
        refine bk_if_eq (a := 1) (tgt := 86) hx hb (by omega) d_Bk_fitWith_72 (by decide) (fun c72 => absurd c72 (by decide)) (fun c72 => ?_)
        refine lv_iload hx hb d_Bk_fitWith_75 (lv_at hl 1 rfl) ?_
        refine bk_if_lt (a := (dy2 q) - (dy p)) (tgt := 86) hx hb (by omega) d_Bk_fitWith_77 (by decide) (fun c77 => c77.elim) (fun c77 => ?_)
        refine lv_iload hx hb d_Bk_fitWith_80 (lv_at hl 1 rfl) ?_
        refine lv_iconst (v := nI 5) hx hb d_Bk_fitWith_82 (by decide +kernel) ?_
        refine bk_icmp_le (a := (dy2 q) - (dy p)) (b := 5) (tgt := 88) hx hb (by omega) (by omega) d_Bk_fitWith_83 (by decide) (fun c83 => ?_) (fun c83 => ?_)
        · refine lv_iconst (v := nI 0) hx hb d_Bk_fitWith_88 (by decide +kernel) ?_
          refine lv_sipush (v := nI 1000) hx hb d_Bk_fitWith_89 (by decide +kernel) ?_
          refine lv_bipush (v := nI 100) hx hb d_Bk_fitWith_92 (by decide +kernel) ?_
          refine lv_iload hx hb d_Bk_fitWith_94 (lv_at hl 1 rfl) ?_
          refine bk_imul hx hb d_Bk_fitWith_96 ?_
          refine bk_isub hx hb (by omega) d_Bk_fitWith_97 ?_
          refine lv_aload_n hx hb d_Bk_fitWith_98 rfl (lv_at hl 2 rfl) ?_
          refine va_get (D := (dC, dI)) (ci := 1) (v := .ref a4) (C := R_Bk) (T := F_Bk) (N := 5) hx hb htg iw_Bk hown hK hP 0 rfl rfl 3 (by decide) (htg _ k1_36) (fun _ h9 => h9) rfl d_Bk_fitWith_99 ?_
          refine lv_iload_n hx hb d_Bk_fitWith_102 rfl (lv_at hl 3 rfl) ?_
          refine bk_lald (v := lN (gr p)) hx hb hK hP 4 1 rfl rfl (by omega) (by decide) rfl d_Bk_fitWith_103 ?_
          refine lv_aload_n hx hb d_Bk_fitWith_104 rfl (lv_at hl 4 rfl) ?_
          refine va_get (D := (dC, dI)) (ci := 1) (v := .ref a42) (C := R_Bk) (T := F_Bk) (N := 5) hx hb htg iw_Bk hown hK hP 5 rfl rfl 3 (by decide) (htg _ k1_36) (fun _ h9 => h9) rfl d_Bk_fitWith_105 ?_
          refine lv_iload_n hx hb d_Bk_fitWith_108 rfl (lv_at hl 5 rfl) ?_
          refine bk_lald (v := lN (gr2 q)) hx hb hK hP 9 1 rfl rfl (by omega) (by decide) rfl d_Bk_fitWith_109 ?_
          refine vp_callSi (va_runS (As := [.long (lN (gr p)), .long (lN (gr2 q))]) (rest := [.int (nI (1000 - (100 * ((dy2 q) - (dy p))))), .int (nI 0)]) ⟨hx, hb, hml, hown, htg⟩ (c_Bk_lostByGrams l dC dI cI cL cZ (gr p) (gr2 q) (by omega) (by omega) (by omega) (by omega)) (va_cwS 2 htg (gdS k1_234 k1_235 k1_2 kc_Bk_lostByGrams) rfl rfl rfl (by decide +kernel) ⟨Nat.le_of_ble_eq_true rfl, Nat.le_of_ble_eq_true rfl⟩) ⟨bk_blind0, fun U hU hW => ⟨rfl, trivial⟩⟩ rfl rfl hl.1 rfl (lv_room (Nat.le_of_ble_eq_true rfl)) d_Bk_fitWith_110 ⟨Nat.le_of_ble_eq_true rfl, Nat.le_of_ble_eq_true rfl⟩).run (fun r110 e110 => ?_)
          subst e110
          refine lv_isub hx hb d_Bk_fitWith_113 ?_
          refine va_mmax hx hb (by rw [hml]; exact hl.1.symm) hown (htg _ k2_4) (htg _ k2_5) (htg _ k1_10) (htg _ k2_6) (Nat.le_of_ble_eq_true rfl) (Nat.le_of_ble_eq_true rfl) (Nat.le_of_ble_eq_true rfl) (Nat.le_of_ble_eq_true rfl) d_Bk_fitWith_114 ?_
          refine bk_topi (y := nI (1000 - 100 * (dy2 q - dy p) - lostG (gr p) (gr2 q))) (bk_max0 (by omega) (by omega)) ?_
          exact W.iret (v := nI (1000 - 100 * (dy2 q - dy p) - lostG (gr p) (gr2 q))) hx hb hr (fun t9 ht9 hW9 => ⟨nI (1000 - 100 * (dy2 q - dy p) - lostG (gr p) (gr2 q)), rfl, (by rw [ptOf, pts, if_pos (by omega)]), ht9⟩) (fun q h => nomatch h) d_Bk_fitWith_117
        · refine lv_iconst (v := nI 0) hx hb d_Bk_fitWith_86 (by decide +kernel) ?_
          exact W.iret (v := nI 0) hx hb hr (fun t9 ht9 hW9 => ⟨nI 0, rfl, (by rw [ptOf, pts, if_neg (by omega)]), ht9⟩) (fun q h => nomatch h) d_Bk_fitWith_87
