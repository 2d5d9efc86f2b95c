set_option maxHeartbeats 4000000 in
set_option maxRecDepth 100000 in
theorem c_Mo_within (l : Launch) (dC : Nat → ClassId) (dI : Nat → Nat → Nat) (cI cL cZ : ClassId) (x : Int64) (lo hi : Nat) (h1 : lo < 2 ^ 62) (h2 : hi < 2 ^ 62) : Met l y_Mo_within ws_Mo_within { frames := 0, cells := 0, slots := 0, locals := 0 } (va_Pc [.long x, .long (lN lo), .long (lN hi)] (fun _ => True)) (vp_Si (fun r => (inL lo hi x ∧ r = nI 1) ∨ (¬ inL lo hi x ∧ r = nI 0))) 0 0 (fun _ => False) := by
  refine Met.ofW (cc := b_Mo_within) (maxL := 6) (ret := (some .boolean)) (by decide) rfl ?_
  intro pr en s m args below meth c s₁ B hml hv
  obtain ⟨rfl, -⟩ := hv
  have hx := B.exec
  have hb := B.bytes
  have hr := B.returns
  have hts := atoms_spec (ws := ws_Mo_within) B.pre
  have htg : ∀ w ∈ gW, w.before _ s = true := fun w h => hts w (List.mem_cons_of_mem _ h)
  have hown : s.vm.findClass R_Mo = some m.cls := findClass_of_methodNamed B.named
  have hlocks := B.notSynchronized
  have hl := lv_entry ([.long x, .long (lN lo), .long (lN hi)]) (n := 6) (Nat.le_of_ble_eq_true rfl)
  rw [lg_entry_eq]
  generalize (lg_sl ([.long x, .long (lN lo), .long (lN hi)]) ++ List.replicate (6 - (lg_sl ([.long x, .long (lN lo), .long (lN hi)])).length) Slot.unset).toArray = ls at hl ⊢
  have hl : lv_has ls 6 [(0, .long x), (2, .long (lN lo)), (4, .long (lN hi))] := hl
  refine lv_lload_n hx hb d_Mo_within_0 rfl (lv_at hl 0 rfl) ?_
  refine lv_lload_n hx hb d_Mo_within_1 rfl (lv_at hl 1 rfl) ?_
  refine bk_lcmp_lt (x := x) (y := lN lo) (tgt := 17) hx hb d_Mo_within_2 d_Mo_within_3 (by decide) (fun c2 => ?_) (fun c2 => ?_)
  · refine lv_iconst (v := nI 0) hx hb d_Mo_within_17 (by decide +kernel) ?_
    exact W.zret (v := nI 0) (ty := .boolean) hx hb hr rfl (fun t9 ht9 hW9 => ⟨nI 0, rfl, Or.inr ⟨by first | exact inL_low (by omega) (by omega) c2 | exact inL_high (by omega) c9, rfl⟩, ht9⟩) (fun q h => nomatch h) d_Mo_within_18
  · refine lv_lload_n hx hb d_Mo_within_6 rfl (lv_at hl 0 rfl) ?_
    refine lv_lload hx hb d_Mo_within_7 (lv_at hl 2 rfl) ?_
    refine bk_lcmp_gt (x := x) (y := lN hi) (tgt := 17) hx hb d_Mo_within_9 d_Mo_within_10 (by decide) (fun c9 => ?_) (fun c9 => ?_)
    · refine lv_iconst (v := nI 0) hx hb d_Mo_within_17 (by decide +kernel) ?_
      exact W.zret (v := nI 0) (ty := .boolean) hx hb hr rfl (fun t9 ht9 hW9 => ⟨nI 0, rfl, Or.inr ⟨by first | exact inL_low (by omega) (by omega) c2 | exact inL_high (by omega) c9, rfl⟩, ht9⟩) (fun q h => nomatch h) d_Mo_within_18
    · refine lv_iconst (v := nI 1) hx hb d_Mo_within_13 (by decide +kernel) ?_
      refine lv_goto (tgt := 18) hx hb d_Mo_within_14 (by decide) ?_
      exact W.zret (v := nI 1) (ty := .boolean) hx hb hr rfl (fun t9 ht9 hW9 => ⟨nI 1, rfl, Or.inl ⟨inL_of (by omega) (by omega) c2 c9, rfl⟩, ht9⟩) (fun q h => nomatch h) d_Mo_within_18
set_option maxHeartbeats 4000000 in
set_option maxRecDepth 100000 in
theorem c_Mo_isTen (l : Launch) (dC : Nat → ClassId) (dI : Nat → Nat → Nat) (cI cL cZ : ClassId) (x : Int32) : Met l y_Mo_isTen ws_Mo_isTen { frames := 0, cells := 0, slots := 0, locals := 0 } (va_Pc [.int x] (fun _ => True)) (vp_Si (fun r => (inR 10 x ∧ r = nI 1) ∨ (¬ inR 10 x ∧ r = nI 0))) 0 0 (fun _ => False) := by
  refine Met.ofW (cc := b_Mo_isTen) (maxL := 1) (ret := (some .boolean)) (by decide) rfl ?_
  intro pr en s m args below meth c s₁ B hml hv
  obtain ⟨rfl, -⟩ := hv
  have hx := B.exec
  have hb := B.bytes
  have hr := B.returns
  have hts := atoms_spec (ws := ws_Mo_isTen) B.pre
  have htg : ∀ w ∈ gW, w.before _ s = true := fun w h => hts w (List.mem_cons_of_mem _ h)
  have hown : s.vm.findClass R_Mo = some m.cls := findClass_of_methodNamed B.named
  have hlocks := B.notSynchronized
  have hl := lv_entry ([.int x]) (n := 1) (Nat.le_of_ble_eq_true rfl)
  rw [lg_entry_eq]
  generalize (lg_sl ([.int x]) ++ List.replicate (1 - (lg_sl ([.int x])).length) Slot.unset).toArray = ls at hl ⊢
  have hl : lv_has ls 1 [(0, .int x)] := hl
  refine lv_iload_n hx hb d_Mo_isTen_0 rfl (lv_at hl 0 rfl) ?_
  refine lv_if_lt (x := x) (tgt := 14) hx hb d_Mo_isTen_1 (by decide) (fun c1 => ?_) (fun c1 => ?_)
  · refine lv_iconst (v := nI 0) hx hb d_Mo_isTen_14 (by decide +kernel) ?_
    exact W.zret (v := nI 0) (ty := .boolean) hx hb hr rfl (fun t9 ht9 hW9 => ⟨nI 0, rfl, Or.inr ⟨by first | exact inR_neg (by decide) (by assumption) | exact inR_big (by decide) (by assumption), rfl⟩, ht9⟩) (fun q h => nomatch h) d_Mo_isTen_15
  · refine lv_iload_n hx hb d_Mo_isTen_4 rfl (lv_at hl 0 rfl) ?_
    refine lv_bipush (v := nI 10) hx hb d_Mo_isTen_5 (by decide +kernel) ?_
    refine lv_icmp_ge (x := x) (y := nI 10) (tgt := 14) hx hb d_Mo_isTen_7 (by decide) (fun c7 => ?_) (fun c7 => ?_)
    · refine lv_iconst (v := nI 0) hx hb d_Mo_isTen_14 (by decide +kernel) ?_
      exact W.zret (v := nI 0) (ty := .boolean) hx hb hr rfl (fun t9 ht9 hW9 => ⟨nI 0, rfl, Or.inr ⟨by first | exact inR_neg (by decide) (by assumption) | exact inR_big (by decide) (by assumption), rfl⟩, ht9⟩) (fun q h => nomatch h) d_Mo_isTen_15
    · refine lv_iconst (v := nI 1) hx hb d_Mo_isTen_10 (by decide +kernel) ?_
      refine lv_goto (tgt := 15) hx hb d_Mo_isTen_11 (by decide) ?_
      exact W.zret (v := nI 1) (ty := .boolean) hx hb hr rfl (fun t9 ht9 hW9 => ⟨nI 1, rfl, Or.inl ⟨inR_of (by decide) (by assumption) (by assumption), rfl⟩, ht9⟩) (fun q h => nomatch h) d_Mo_isTen_15
set_option maxHeartbeats 4000000 in
set_option maxRecDepth 100000 in
theorem c_Mo_tell0 (l : Launch) (dC : Nat → ClassId) (dI : Nat → Nat → Nat) (cI cL cZ : ClassId) (sz : Nat) (mo co m2 m3 m4 m5 m6 m7 m8 pn m10 m11 m12 m13 m14 m15 as0 dc m18 tc m20 m21 m22 m23 m24 m25 m26 : Nat) (sd : Int64) (cn : Nat → Nat) (ms : Nat → Nat) (md : Nat → Nat) (mk : Nat → Nat) (mg : Nat → Nat) (so : Nat → Option Nat) (x1 x2 x3 : Int32) (x4 : Int64) (hn : cn 0 ≤ 30) : Met l y_Mo_tell ws_Mo_tell { frames := 1, cells := 0, slots := 0, locals := 25 } (va_Pc [.ref mo, .int (nI 0), .int x1, .int x2, .int x3, .long x4] (wrP (dC, dI) vwCl [(cI, .int), (cL, .long), (cZ, .boolean)] [(mo, .inr (8, [.int (nI co), .long sd, .ref m2, .ref m3, .ref m4, .ref m5, .ref m6, .ref m7, .ref m8, .int (nI pn), .ref m10, .ref m11, .ref m12, .ref m13, .ref m14, .ref m15, .int (nI as0), .int (nI dc), .ref m18, .int (nI tc), .ref m20, .ref m21, .ref m22, .ref m23, .ref m24, .ref m25, .ref m26])), (m2, .inl (cI, 2, .inl (aI cn))), (m3, .inl (cI, 60, .inl (aI ms))), (m4, .inl (cI, 60, .inl (aI md))), (m5, .inl (cI, 60, .inl (aI mk))), (m6, .inl (cL, 60, .inr (.inl (aL mg)))), (m7, .inl (cI, 30, .inl (aO so)))] sz)) (va_Qi (fun (r : Int32) (u : (Nat → Nat) × (Nat → Nat) × (Nat → Nat) × (Nat → Nat) × (Nat → Nat) × (Nat → Option Nat)) => (addOk (cn 0) x1 x2 x3 x4 ∧ r = nI (cn 0) ∧ u = (va_up cn 0 (cn 0 + 1), va_up ms (cn 0) (tn x1), va_up md (cn 0) (tn x2), va_up mk (cn 0) (tn x3), va_up mg (cn 0) (tl x4), va_up so (cn 0) none)) ∨ (¬ addOk (cn 0) x1 x2 x3 x4 ∧ r = oI none ∧ u = (cn, ms, md, mk, mg, so))) (fun (u : (Nat → Nat) × (Nat → Nat) × (Nat → Nat) × (Nat → Nat) × (Nat → Nat) × (Nat → Option Nat)) => wrQ (dC, dI) vwCl [(cI, .int), (cL, .long), (cZ, .boolean)] (va_A [(mo, .inr (8, [.int (nI co), .long sd, .ref m2, .ref m3, .ref m4, .ref m5, .ref m6, .ref m7, .ref m8, .int (nI pn), .ref m10, .ref m11, .ref m12, .ref m13, .ref m14, .ref m15, .int (nI as0), .int (nI dc), .ref m18, .int (nI tc), .ref m20, .ref m21, .ref m22, .ref m23, .ref m24, .ref m25, .ref m26])), (m2, .inl (cI, 2, .inl (aI cn))), (m3, .inl (cI, 60, .inl (aI ms))), (m4, .inl (cI, 60, .inl (aI md))), (m5, .inl (cI, 60, .inl (aI mk))), (m6, .inl (cL, 60, .inr (.inl (aL mg)))), (m7, .inl (cI, 30, .inl (aO so)))] sz) [(mo, .inr (8, [.int (nI 0), .long sd, .ref m2, .ref m3, .ref m4, .ref m5, .ref m6, .ref m7, .ref m8, .int (nI pn), .ref m10, .ref m11, .ref m12, .ref m13, .ref m14, .ref m15, .int (nI as0), .int (nI dc), .ref m18, .int (nI tc), .ref m20, .ref m21, .ref m22, .ref m23, .ref m24, .ref m25, .ref m26])), (m2, .inl (cI, 2, .inl (aI u.1))), (m3, .inl (cI, 60, .inl (aI u.2.1))), (m4, .inl (cI, 60, .inl (aI u.2.2.1))), (m5, .inl (cI, 60, .inl (aI u.2.2.2.1))), (m6, .inl (cL, 60, .inr (.inl (aL u.2.2.2.2.1)))), (m7, .inl (cI, 30, .inl (aO u.2.2.2.2.2)))]) (va_A [(mo, .inr (8, [.int (nI co), .long sd, .ref m2, .ref m3, .ref m4, .ref m5, .ref m6, .ref m7, .ref m8, .int (nI pn), .ref m10, .ref m11, .ref m12, .ref m13, .ref m14, .ref m15, .int (nI as0), .int (nI dc), .ref m18, .int (nI tc), .ref m20, .ref m21, .ref m22, .ref m23, .ref m24, .ref m25, .ref m26])), (m2, .inl (cI, 2, .inl (aI cn))), (m3, .inl (cI, 60, .inl (aI ms))), (m4, .inl (cI, 60, .inl (aI md))), (m5, .inl (cI, 60, .inl (aI mk))), (m6, .inl (cL, 60, .inr (.inl (aL mg)))), (m7, .inl (cI, 30, .inl (aO so)))] sz)) 0 0 (va_A [(mo, .inr (8, [.int (nI co), .long sd, .ref m2, .ref m3, .ref m4, .ref m5, .ref m6, .ref m7, .ref m8, .int (nI pn), .ref m10, .ref m11, .ref m12, .ref m13, .ref m14, .ref m15, .int (nI as0), .int (nI dc), .ref m18, .int (nI tc), .ref m20, .ref m21, .ref m22, .ref m23, .ref m24, .ref m25, .ref m26])), (m2, .inl (cI, 2, .inl (aI cn))), (m3, .inl (cI, 60, .inl (aI ms))), (m4, .inl (cI, 60, .inl (aI md))), (m5, .inl (cI, 60, .inl (aI mk))), (m6, .inl (cL, 60, .inr (.inl (aL mg)))), (m7, .inl (cI, 30, .inl (aO so)))] sz) := by
  refine Met.ofW (cc := b_Mo_tell) (maxL := 8) (ret := (some .int)) (by decide) rfl ?_
  intro pr en s m args below meth c s₁ B hml hv
  obtain ⟨rfl, hN, hsz, hP, hK, hD0⟩ := hv
  have hx := B.exec
  have hb := B.bytes
  have hr := B.returns
  have hts := atoms_spec (ws := ws_Mo_tell) B.pre
  have htg : ∀ w ∈ gW, w.before _ s = true := fun w h => hts w (List.mem_cons_of_mem _ h)
  have hown : s.vm.findClass R_Mo = some m.cls := findClass_of_methodNamed B.named
  have hlocks := B.notSynchronized
  subst hsz
  have hD := hD0.self (sz := s.heap.size)
  generalize hAe : va_A [(mo, .inr (8, [.int (nI co), .long sd, .ref m2, .ref m3, .ref m4, .ref m5, .ref m6, .ref m7, .ref m8, .int (nI pn), .ref m10, .ref m11, .ref m12, .ref m13, .ref m14, .ref m15, .int (nI as0), .int (nI dc), .ref m18, .int (nI tc), .ref m20, .ref m21, .ref m22, .ref m23, .ref m24, .ref m25, .ref m26])), (m2, .inl (cI, 2, .inl (aI cn))), (m3, .inl (cI, 60, .inl (aI ms))), (m4, .inl (cI, 60, .inl (aI md))), (m5, .inl (cI, 60, .inl (aI mk))), (m6, .inl (cL, 60, .inr (.inl (aL mg)))), (m7, .inl (cI, 30, .inl (aO so)))] s.heap.size = A at hD ⊢
  have hA : ∀ q : Nat, s.heap.size ≤ q → A q := fun q h => by rw [← hAe]; exact Or.inr h
  have hS : va_S A s.heap s.heap [] := va_S.rf
  have hP : va_P (dC, dI) vwCl [(mo, .inr (8, [.int (nI co), .long sd, .ref m2, .ref m3, .ref m4, .ref m5, .ref m6, .ref m7, .ref m8, .int (nI pn), .ref m10, .ref m11, .ref m12, .ref m13, .ref m14, .ref m15, .int (nI as0), .int (nI dc), .ref m18, .int (nI tc), .ref m20, .ref m21, .ref m22, .ref m23, .ref m24, .ref m25, .ref m26])), (m2, .inl (cI, 2, .inl (aI cn))), (m3, .inl (cI, 60, .inl (aI ms))), (m4, .inl (cI, 60, .inl (aI md))), (m5, .inl (cI, 60, .inl (aI mk))), (m6, .inl (cL, 60, .inr (.inl (aL mg)))), (m7, .inl (cI, 30, .inl (aO so)))] s.heap := hP
  have hl := lv_entry ([.ref mo, .int (nI 0), .int x1, .int x2, .int x3, .long x4]) (n := 8) (Nat.le_of_ble_eq_true rfl)
  rw [lg_entry_eq]
  generalize (lg_sl ([.ref mo, .int (nI 0), .int x1, .int x2, .int x3, .long x4]) ++ List.replicate (8 - (lg_sl ([.ref mo, .int (nI 0), .int x1, .int x2, .int x3, .long x4])).length) Slot.unset).toArray = ls at hl ⊢
  have hl : lv_has ls 8 [(0, .ref mo), (1, .int (nI 0)), (2, .int x1), (3, .int x2), (4, .int x3), (5, .long x4)] := hl
  refine lv_aload_n hx hb d_Mo_tell_0 rfl (lv_at hl 0 rfl) ?_
  refine lv_iconst (v := nI 0) hx hb d_Mo_tell_1 (by decide +kernel) ?_
  refine va_put (D := (dC, dI)) (ci := 8) (v := .int (nI 0)) (ty := (t_Mo 0)) (C := R_Mo) (T := F_Mo) (N := 27) hx hb htg iw_Mo t_Mo tk_Mo nm_Mo hown hK hP hD hS 0 rfl rfl 0 (by decide) (htg _ k3_52) (fun _ h9 => h9) rfl (by decide +kernel) rfl rfl (Nat.le_of_ble_eq_true rfl) d_Mo_tell_2 (fun H locs hP hD hS => ?_)
  have hP : va_P (dC, dI) vwCl [(mo, .inr (8, [.int (nI 0), .long sd, .ref m2, .ref m3, .ref m4, .ref m5, .ref m6, .ref m7, .ref m8, .int (nI pn), .ref m10, .ref m11, .ref m12, .ref m13, .ref m14, .ref m15, .int (nI as0), .int (nI dc), .ref m18, .int (nI tc), .ref m20, .ref m21, .ref m22, .ref m23, .ref m24, .ref m25, .ref m26])), (m2, .inl (cI, 2, .inl (aI cn))), (m3, .inl (cI, 60, .inl (aI ms))), (m4, .inl (cI, 60, .inl (aI md))), (m5, .inl (cI, 60, .inl (aI mk))), (m6, .inl (cL, 60, .inr (.inl (aL mg)))), (m7, .inl (cI, 30, .inl (aO so)))] H := hP
  have hD : va_D A [(mo, .inr (8, [.int (nI 0), .long sd, .ref m2, .ref m3, .ref m4, .ref m5, .ref m6, .ref m7, .ref m8, .int (nI pn), .ref m10, .ref m11, .ref m12, .ref m13, .ref m14, .ref m15, .int (nI as0), .int (nI dc), .ref m18, .int (nI tc), .ref m20, .ref m21, .ref m22, .ref m23, .ref m24, .ref m25, .ref m26])), (m2, .inl (cI, 2, .inl (aI cn))), (m3, .inl (cI, 60, .inl (aI ms))), (m4, .inl (cI, 60, .inl (aI md))), (m5, .inl (cI, 60, .inl (aI mk))), (m6, .inl (cL, 60, .inr (.inl (aL mg)))), (m7, .inl (cI, 30, .inl (aO so)))] := hD
  refine lv_iload_n hx hb d_Mo_tell_5 rfl (lv_at hl 2 rfl) ?_
  refine vp_callSi (va_runS (As := [.int x1]) (rest := []) ⟨hx, hb, hml, hown, htg⟩ (c_Mo_isTen l dC dI cI cL cZ x1 ) (va_cwS 1 htg (gdS k3_147 k3_148 k1_9 kc_Mo_isTen) rfl rfl rfl (by decide +kernel) ⟨Nat.le_of_ble_eq_true rfl, Nat.le_of_ble_eq_true rfl⟩) ⟨bk_blind0, fun U hU hW => ⟨rfl, trivial⟩⟩ rfl rfl hl.1 rfl (lv_room (Nat.le_of_ble_eq_true rfl)) d_Mo_tell_6 ⟨Nat.le_of_ble_eq_true rfl, Nat.le_of_ble_eq_true rfl⟩).run (fun r6 e6 => ?_)
  rcases e6 with ⟨⟨j6, hj6, hx6⟩, rfl⟩ | ⟨n6, rfl⟩
  · refine bk_if_eq (a := 1) (tgt := 55) hx hb (by omega) d_Mo_tell_9 (by decide) (fun c9 => absurd c9 (by decide)) (fun c9 => ?_)
    refine lv_iload_n hx hb d_Mo_tell_12 rfl (lv_at hl 3 rfl) ?_
    refine lv_i2l (v := (x2).toInt64) hx hb d_Mo_tell_13 rfl ?_
    refine lv_lconst (v := lN 0) hx hb d_Mo_tell_14 (by decide +kernel) ?_
    refine lv_ldc2 (own := R_Mo) (v := 100000) hx hb hown (htg _ k3_150) d_Mo_tell_15 ?_
    refine bk_topl (y := lN 100000) (by decide +kernel) ?_
    refine vp_callSi (va_runS (As := [.long ((x2).toInt64), .long (lN 0), .long (lN 100000)]) (rest := []) ⟨hx, hb, hml, hown, htg⟩ (c_Mo_within l dC dI cI cL cZ ((x2).toInt64) 0 100000 (by omega) (by omega)) (va_cwS 3 htg (gdS k3_151 k3_152 k1_9 kc_Mo_within) rfl rfl rfl (by decide +kernel) ⟨Nat.le_of_ble_eq_true rfl, Nat.le_of_ble_eq_true rfl⟩) ⟨bk_blind0, fun U hU hW => ⟨rfl, trivial⟩⟩ rfl rfl hl.1 rfl (lv_room (Nat.le_of_ble_eq_true rfl)) d_Mo_tell_18 ⟨Nat.le_of_ble_eq_true rfl, Nat.le_of_ble_eq_true rfl⟩).run (fun r18 e18 => ?_)
    rcases e18 with ⟨y18, rfl⟩ | ⟨y18, rfl⟩
    · obtain ⟨j18, hj18, hx18⟩ := i64_day.mp y18
      refine bk_if_eq (a := 1) (tgt := 55) hx hb (by omega) d_Mo_tell_21 (by decide) (fun c21 => absurd c21 (by decide)) (fun c21 => ?_)
      refine lv_iload hx hb d_Mo_tell_24 (lv_at hl 4 rfl) ?_
      refine vp_callSi (va_runS (As := [.int x3]) (rest := []) ⟨hx, hb, hml, hown, htg⟩ (c_Mo_isTen l dC dI cI cL cZ x3 ) (va_cwS 1 htg (gdS k3_147 k3_148 k1_9 kc_Mo_isTen) rfl rfl rfl (by decide +kernel) ⟨Nat.le_of_ble_eq_true rfl, Nat.le_of_ble_eq_true rfl⟩) ⟨bk_blind0, fun U hU hW => ⟨rfl, trivial⟩⟩ rfl rfl hl.1 rfl (lv_room (Nat.le_of_ble_eq_true rfl)) d_Mo_tell_26 ⟨Nat.le_of_ble_eq_true rfl, Nat.le_of_ble_eq_true rfl⟩).run (fun r26 e26 => ?_)
      rcases e26 with ⟨⟨j26, hj26, hx26⟩, rfl⟩ | ⟨n26, rfl⟩
      · refine bk_if_eq (a := 1) (tgt := 55) hx hb (by omega) d_Mo_tell_29 (by decide) (fun c29 => absurd c29 (by decide)) (fun c29 => ?_)
        refine lv_lload hx hb d_Mo_tell_32 (lv_at hl 5 rfl) ?_
        refine lv_lconst (v := lN 1) hx hb d_Mo_tell_34 (by decide +kernel) ?_
        refine lv_ldc2 (own := R_Mo) (v := 1000000000) hx hb hown (htg _ k3_154) d_Mo_tell_35 ?_
        refine bk_topl (y := lN 1000000000) (by decide +kernel) ?_
        refine vp_callSi (va_runS (As := [.long x4, .long (lN 1), .long (lN 1000000000)]) (rest := []) ⟨hx, hb, hml, hown, htg⟩ (c_Mo_within l dC dI cI cL cZ x4 1 1000000000 (by omega) (by omega)) (va_cwS 3 htg (gdS k3_151 k3_152 k1_9 kc_Mo_within) rfl rfl rfl (by decide +kernel) ⟨Nat.le_of_ble_eq_true rfl, Nat.le_of_ble_eq_true rfl⟩) ⟨bk_blind0, fun U hU hW => ⟨rfl, trivial⟩⟩ rfl rfl hl.1 rfl (lv_room (Nat.le_of_ble_eq_true rfl)) d_Mo_tell_38 ⟨Nat.le_of_ble_eq_true rfl, Nat.le_of_ble_eq_true rfl⟩).run (fun r38 e38 => ?_)
        rcases e38 with ⟨⟨j38, ha38, hj38, hx38⟩, rfl⟩ | ⟨n38, rfl⟩
        · refine bk_if_eq (a := 1) (tgt := 55) hx hb (by omega) d_Mo_tell_41 (by decide) (fun c41 => absurd c41 (by decide)) (fun c41 => ?_)
          refine lv_aload_n hx hb d_Mo_tell_44 rfl (lv_at hl 0 rfl) ?_
          refine va_get (D := (dC, dI)) (ci := 8) (v := .ref m2) (C := R_Mo) (T := F_Mo) (N := 27) hx hb htg iw_Mo hown hK hP 0 rfl rfl 2 (by decide) (htg _ k3_54) (fun _ h9 => h9) rfl d_Mo_tell_45 ?_
          refine lv_iload_n hx hb d_Mo_tell_48 rfl (lv_at hl 1 rfl) ?_
          refine bk_iald (v := nI (cn 0)) hx hb hK hP 1 0 rfl rfl (by omega) (by decide) rfl d_Mo_tell_49 ?_
          refine lv_bipush (v := nI 30) hx hb d_Mo_tell_50 (by decide +kernel) ?_
          refine bk_icmp_ne (a := cn 0) (b := 30) (tgt := 57) hx hb (by omega) (by omega) d_Mo_tell_52 (by decide) (fun c52 => ?_) (fun c52 => ?_)
          · refine lv_bipush (v := nI 30) hx hb d_Mo_tell_57 (by decide +kernel) ?_
            refine lv_iload_n hx hb d_Mo_tell_59 rfl (lv_at hl 1 rfl) ?_
            refine bk_imul hx hb d_Mo_tell_60 ?_
            refine lv_aload_n hx hb d_Mo_tell_61 rfl (lv_at hl 0 rfl) ?_
            refine va_get (D := (dC, dI)) (ci := 8) (v := .ref m2) (C := R_Mo) (T := F_Mo) (N := 27) hx hb htg iw_Mo hown hK hP 0 rfl rfl 2 (by decide) (htg _ k3_54) (fun _ h9 => h9) rfl d_Mo_tell_62 ?_
            refine lv_iload_n hx hb d_Mo_tell_65 rfl (lv_at hl 1 rfl) ?_
            refine bk_iald (v := nI (cn 0)) hx hb hK hP 1 0 rfl rfl (by omega) (by decide) rfl d_Mo_tell_66 ?_
            refine bk_iadd hx hb d_Mo_tell_67 ?_
            refine bk_topi (y := nI (cn 0)) (by rw [Nat.zero_add]) ?_
            refine lv_istore (lv' := [(7, .int (nI (cn 0))), (0, .ref mo), (1, .int (nI 0)), (2, .int x1), (3, .int x2), (4, .int x3), (5, .long x4)]) hx hb d_Mo_tell_68 hl (by decide) rfl (fun ls hl => ?_)
            refine lv_aload_n hx hb d_Mo_tell_70 rfl (lv_at hl 1 rfl) ?_
            refine va_get (D := (dC, dI)) (ci := 8) (v := .ref m3) (C := R_Mo) (T := F_Mo) (N := 27) hx hb htg iw_Mo hown hK hP 0 rfl rfl 3 (by decide) (htg _ k3_55) (fun _ h9 => h9) rfl d_Mo_tell_71 ?_
            refine lv_iload hx hb d_Mo_tell_74 (lv_at hl 0 rfl) ?_
            refine lv_iload_n hx hb d_Mo_tell_76 rfl (lv_at hl 3 rfl) ?_
            refine bk_topi (y := nI j6) hx6 ?_
            refine bk_iast (x := nI j6) (f2 := aI (va_up ms (cn 0) j6)) hx hb hK hP hD hS 2 0 rfl rfl (by omega) (by decide) (aI_up _ _ _) d_Mo_tell_77 (fun H locs hP hD hS => ?_)
            have hP : va_P (dC, dI) vwCl [(mo, .inr (8, [.int (nI 0), .long sd, .ref m2, .ref m3, .ref m4, .ref m5, .ref m6, .ref m7, .ref m8, .int (nI pn), .ref m10, .ref m11, .ref m12, .ref m13, .ref m14, .ref m15, .int (nI as0), .int (nI dc), .ref m18, .int (nI tc), .ref m20, .ref m21, .ref m22, .ref m23, .ref m24, .ref m25, .ref m26])), (m2, .inl (cI, 2, .inl (aI cn))), (m3, .inl (cI, 60, .inl (aI (va_up ms (cn 0) j6)))), (m4, .inl (cI, 60, .inl (aI md))), (m5, .inl (cI, 60, .inl (aI mk))), (m6, .inl (cL, 60, .inr (.inl (aL mg)))), (m7, .inl (cI, 30, .inl (aO so)))] H := hP
            have hD : va_D A [(mo, .inr (8, [.int (nI 0), .long sd, .ref m2, .ref m3, .ref m4, .ref m5, .ref m6, .ref m7, .ref m8, .int (nI pn), .ref m10, .ref m11, .ref m12, .ref m13, .ref m14, .ref m15, .int (nI as0), .int (nI dc), .ref m18, .int (nI tc), .ref m20, .ref m21, .ref m22, .ref m23, .ref m24, .ref m25, .ref m26])), (m2, .inl (cI, 2, .inl (aI cn))), (m3, .inl (cI, 60, .inl (aI (va_up ms (cn 0) j6)))), (m4, .inl (cI, 60, .inl (aI md))), (m5, .inl (cI, 60, .inl (aI mk))), (m6, .inl (cL, 60, .inr (.inl (aL mg)))), (m7, .inl (cI, 30, .inl (aO so)))] := hD
            refine lv_aload_n hx hb d_Mo_tell_78 rfl (lv_at hl 1 rfl) ?_
            refine va_get (D := (dC, dI)) (ci := 8) (v := .ref m4) (C := R_Mo) (T := F_Mo) (N := 27) hx hb htg iw_Mo hown hK hP 0 rfl rfl 4 (by decide) (htg _ k3_56) (fun _ h9 => h9) rfl d_Mo_tell_79 ?_
            refine lv_iload hx hb d_Mo_tell_82 (lv_at hl 0 rfl) ?_
            refine lv_iload_n hx hb d_Mo_tell_84 rfl (lv_at hl 4 rfl) ?_
            refine bk_topi (y := nI j18) hx18 ?_
            refine bk_iast (x := nI j18) (f2 := aI (va_up md (cn 0) j18)) hx hb hK hP hD hS 3 0 rfl rfl (by omega) (by decide) (aI_up _ _ _) d_Mo_tell_85 (fun H locs hP hD hS => ?_)
            have hP : va_P (dC, dI) vwCl [(mo, .inr (8, [.int (nI 0), .long sd, .ref m2, .ref m3, .ref m4, .ref m5, .ref m6, .ref m7, .ref m8, .int (nI pn), .ref m10, .ref m11, .ref m12, .ref m13, .ref m14, .ref m15, .int (nI as0), .int (nI dc), .ref m18, .int (nI tc), .ref m20, .ref m21, .ref m22, .ref m23, .ref m24, .ref m25, .ref m26])), (m2, .inl (cI, 2, .inl (aI cn))), (m3, .inl (cI, 60, .inl (aI (va_up ms (cn 0) j6)))), (m4, .inl (cI, 60, .inl (aI (va_up md (cn 0) j18)))), (m5, .inl (cI, 60, .inl (aI mk))), (m6, .inl (cL, 60, .inr (.inl (aL mg)))), (m7, .inl (cI, 30, .inl (aO so)))] H := hP
            have hD : va_D A [(mo, .inr (8, [.int (nI 0), .long sd, .ref m2, .ref m3, .ref m4, .ref m5, .ref m6, .ref m7, .ref m8, .int (nI pn), .ref m10, .ref m11, .ref m12, .ref m13, .ref m14, .ref m15, .int (nI as0), .int (nI dc), .ref m18, .int (nI tc), .ref m20, .ref m21, .ref m22, .ref m23, .ref m24, .ref m25, .ref m26])), (m2, .inl (cI, 2, .inl (aI cn))), (m3, .inl (cI, 60, .inl (aI (va_up ms (cn 0) j6)))), (m4, .inl (cI, 60, .inl (aI (va_up md (cn 0) j18)))), (m5, .inl (cI, 60, .inl (aI mk))), (m6, .inl (cL, 60, .inr (.inl (aL mg)))), (m7, .inl (cI, 30, .inl (aO so)))] := hD
            refine lv_aload_n hx hb d_Mo_tell_86 rfl (lv_at hl 1 rfl) ?_
            refine va_get (D := (dC, dI)) (ci := 8) (v := .ref m5) (C := R_Mo) (T := F_Mo) (N := 27) hx hb htg iw_Mo hown hK hP 0 rfl rfl 5 (by decide) (htg _ k3_57) (fun _ h9 => h9) rfl d_Mo_tell_87 ?_
            refine lv_iload hx hb d_Mo_tell_90 (lv_at hl 0 rfl) ?_
            refine lv_iload hx hb d_Mo_tell_92 (lv_at hl 5 rfl) ?_
            refine bk_topi (y := nI j26) hx26 ?_
            refine bk_iast (x := nI j26) (f2 := aI (va_up mk (cn 0) j26)) hx hb hK hP hD hS 4 0 rfl rfl (by omega) (by decide) (aI_up _ _ _) d_Mo_tell_94 (fun H locs hP hD hS => ?_)
            have hP : va_P (dC, dI) vwCl [(mo, .inr (8, [.int (nI 0), .long sd, .ref m2, .ref m3, .ref m4, .ref m5, .ref m6, .ref m7, .ref m8, .int (nI pn), .ref m10, .ref m11, .ref m12, .ref m13, .ref m14, .ref m15, .int (nI as0), .int (nI dc), .ref m18, .int (nI tc), .ref m20, .ref m21, .ref m22, .ref m23, .ref m24, .ref m25, .ref m26])), (m2, .inl (cI, 2, .inl (aI cn))), (m3, .inl (cI, 60, .inl (aI (va_up ms (cn 0) j6)))), (m4, .inl (cI, 60, .inl (aI (va_up md (cn 0) j18)))), (m5, .inl (cI, 60, .inl (aI (va_up mk (cn 0) j26)))), (m6, .inl (cL, 60, .inr (.inl (aL mg)))), (m7, .inl (cI, 30, .inl (aO so)))] H := hP
            have hD : va_D A [(mo, .inr (8, [.int (nI 0), .long sd, .ref m2, .ref m3, .ref m4, .ref m5, .ref m6, .ref m7, .ref m8, .int (nI pn), .ref m10, .ref m11, .ref m12, .ref m13, .ref m14, .ref m15, .int (nI as0), .int (nI dc), .ref m18, .int (nI tc), .ref m20, .ref m21, .ref m22, .ref m23, .ref m24, .ref m25, .ref m26])), (m2, .inl (cI, 2, .inl (aI cn))), (m3, .inl (cI, 60, .inl (aI (va_up ms (cn 0) j6)))), (m4, .inl (cI, 60, .inl (aI (va_up md (cn 0) j18)))), (m5, .inl (cI, 60, .inl (aI (va_up mk (cn 0) j26)))), (m6, .inl (cL, 60, .inr (.inl (aL mg)))), (m7, .inl (cI, 30, .inl (aO so)))] := hD
            refine lv_aload_n hx hb d_Mo_tell_95 rfl (lv_at hl 1 rfl) ?_
            refine va_get (D := (dC, dI)) (ci := 8) (v := .ref m6) (C := R_Mo) (T := F_Mo) (N := 27) hx hb htg iw_Mo hown hK hP 0 rfl rfl 6 (by decide) (htg _ k3_58) (fun _ h9 => h9) rfl d_Mo_tell_96 ?_
            refine lv_iload hx hb d_Mo_tell_99 (lv_at hl 0 rfl) ?_
            refine lv_lload hx hb d_Mo_tell_101 (lv_at hl 6 rfl) ?_
            refine bk_topl (y := lN j38) hx38 ?_
            refine bk_last (x := lN j38) (f2 := aL (va_up mg (cn 0) j38)) hx hb hK hP hD hS 5 1 rfl rfl (by omega) (by decide) (aL_up _ _ _) d_Mo_tell_103 (fun H locs hP hD hS => ?_)
            have hP : va_P (dC, dI) vwCl [(mo, .inr (8, [.int (nI 0), .long sd, .ref m2, .ref m3, .ref m4, .ref m5, .ref m6, .ref m7, .ref m8, .int (nI pn), .ref m10, .ref m11, .ref m12, .ref m13, .ref m14, .ref m15, .int (nI as0), .int (nI dc), .ref m18, .int (nI tc), .ref m20, .ref m21, .ref m22, .ref m23, .ref m24, .ref m25, .ref m26])), (m2, .inl (cI, 2, .inl (aI cn))), (m3, .inl (cI, 60, .inl (aI (va_up ms (cn 0) j6)))), (m4, .inl (cI, 60, .inl (aI (va_up md (cn 0) j18)))), (m5, .inl (cI, 60, .inl (aI (va_up mk (cn 0) j26)))), (m6, .inl (cL, 60, .inr (.inl (aL (va_up mg (cn 0) j38))))), (m7, .inl (cI, 30, .inl (aO so)))] H := hP
            have hD : va_D A [(mo, .inr (8, [.int (nI 0), .long sd, .ref m2, .ref m3, .ref m4, .ref m5, .ref m6, .ref m7, .ref m8, .int (nI pn), .ref m10, .ref m11, .ref m12, .ref m13, .ref m14, .ref m15, .int (nI as0), .int (nI dc), .ref m18, .int (nI tc), .ref m20, .ref m21, .ref m22, .ref m23, .ref m24, .ref m25, .ref m26])), (m2, .inl (cI, 2, .inl (aI cn))), (m3, .inl (cI, 60, .inl (aI (va_up ms (cn 0) j6)))), (m4, .inl (cI, 60, .inl (aI (va_up md (cn 0) j18)))), (m5, .inl (cI, 60, .inl (aI (va_up mk (cn 0) j26)))), (m6, .inl (cL, 60, .inr (.inl (aL (va_up mg (cn 0) j38))))), (m7, .inl (cI, 30, .inl (aO so)))] := hD
            refine lv_iload_n hx hb d_Mo_tell_104 rfl (lv_at hl 2 rfl) ?_
            refine bk_if_ne (a := 0) (tgt := 119) hx hb (by omega) d_Mo_tell_105 (by decide) (fun c105 => absurd c105 (by decide)) (fun c105 => ?_)
            refine lv_aload_n hx hb d_Mo_tell_108 rfl (lv_at hl 1 rfl) ?_
            refine va_get (D := (dC, dI)) (ci := 8) (v := .ref m7) (C := R_Mo) (T := F_Mo) (N := 27) hx hb htg iw_Mo hown hK hP 0 rfl rfl 7 (by decide) (htg _ k3_59) (fun _ h9 => h9) rfl d_Mo_tell_109 ?_
            refine lv_iload hx hb d_Mo_tell_112 (lv_at hl 0 rfl) ?_
            refine lv_iconst (v := oI none) hx hb d_Mo_tell_114 (by decide +kernel) ?_
            refine bk_iast (x := oI none) (f2 := aO (va_up so (cn 0) none)) hx hb hK hP hD hS 6 0 rfl rfl (by omega) (by decide) (aO_up _ _ none) d_Mo_tell_115 (fun H locs hP hD hS => ?_)
            have hP : va_P (dC, dI) vwCl [(mo, .inr (8, [.int (nI 0), .long sd, .ref m2, .ref m3, .ref m4, .ref m5, .ref m6, .ref m7, .ref m8, .int (nI pn), .ref m10, .ref m11, .ref m12, .ref m13, .ref m14, .ref m15, .int (nI as0), .int (nI dc), .ref m18, .int (nI tc), .ref m20, .ref m21, .ref m22, .ref m23, .ref m24, .ref m25, .ref m26])), (m2, .inl (cI, 2, .inl (aI cn))), (m3, .inl (cI, 60, .inl (aI (va_up ms (cn 0) j6)))), (m4, .inl (cI, 60, .inl (aI (va_up md (cn 0) j18)))), (m5, .inl (cI, 60, .inl (aI (va_up mk (cn 0) j26)))), (m6, .inl (cL, 60, .inr (.inl (aL (va_up mg (cn 0) j38))))), (m7, .inl (cI, 30, .inl (aO (va_up so (cn 0) none))))] H := hP
            have hD : va_D A [(mo, .inr (8, [.int (nI 0), .long sd, .ref m2, .ref m3, .ref m4, .ref m5, .ref m6, .ref m7, .ref m8, .int (nI pn), .ref m10, .ref m11, .ref m12, .ref m13, .ref m14, .ref m15, .int (nI as0), .int (nI dc), .ref m18, .int (nI tc), .ref m20, .ref m21, .ref m22, .ref m23, .ref m24, .ref m25, .ref m26])), (m2, .inl (cI, 2, .inl (aI cn))), (m3, .inl (cI, 60, .inl (aI (va_up ms (cn 0) j6)))), (m4, .inl (cI, 60, .inl (aI (va_up md (cn 0) j18)))), (m5, .inl (cI, 60, .inl (aI (va_up mk (cn 0) j26)))), (m6, .inl (cL, 60, .inr (.inl (aL (va_up mg (cn 0) j38))))), (m7, .inl (cI, 30, .inl (aO (va_up so (cn 0) none))))] := hD
            refine lv_goto (tgt := 130) hx hb d_Mo_tell_116 (by decide) ?_
            refine lv_aload_n hx hb d_Mo_tell_130 rfl (lv_at hl 1 rfl) ?_
            refine va_get (D := (dC, dI)) (ci := 8) (v := .ref m2) (C := R_Mo) (T := F_Mo) (N := 27) hx hb htg iw_Mo hown hK hP 0 rfl rfl 2 (by decide) (htg _ k3_54) (fun _ h9 => h9) rfl d_Mo_tell_131 ?_
            refine lv_iload_n hx hb d_Mo_tell_134 rfl (lv_at hl 2 rfl) ?_
            refine lv_dup2_11 hx hb d_Mo_tell_135 rfl rfl ?_
            refine bk_iald (v := nI (cn 0)) hx hb hK hP 1 0 rfl rfl (by omega) (by decide) rfl d_Mo_tell_136 ?_
            refine lv_iconst (v := nI 1) hx hb d_Mo_tell_137 (by decide +kernel) ?_
            refine bk_iadd hx hb d_Mo_tell_138 ?_
            refine bk_iast (x := nI ((cn 0) + 1)) (f2 := aI (va_up cn 0 ((cn 0) + 1))) hx hb hK hP hD hS 1 0 rfl rfl (by omega) (by decide) (aI_up _ _ _) d_Mo_tell_139 (fun H locs hP hD hS => ?_)
            have hP : va_P (dC, dI) vwCl [(mo, .inr (8, [.int (nI 0), .long sd, .ref m2, .ref m3, .ref m4, .ref m5, .ref m6, .ref m7, .ref m8, .int (nI pn), .ref m10, .ref m11, .ref m12, .ref m13, .ref m14, .ref m15, .int (nI as0), .int (nI dc), .ref m18, .int (nI tc), .ref m20, .ref m21, .ref m22, .ref m23, .ref m24, .ref m25, .ref m26])), (m2, .inl (cI, 2, .inl (aI (va_up cn 0 ((cn 0) + 1))))), (m3, .inl (cI, 60, .inl (aI (va_up ms (cn 0) j6)))), (m4, .inl (cI, 60, .inl (aI (va_up md (cn 0) j18)))), (m5, .inl (cI, 60, .inl (aI (va_up mk (cn 0) j26)))), (m6, .inl (cL, 60, .inr (.inl (aL (va_up mg (cn 0) j38))))), (m7, .inl (cI, 30, .inl (aO (va_up so (cn 0) none))))] H := hP
            have hD : va_D A [(mo, .inr (8, [.int (nI 0), .long sd, .ref m2, .ref m3, .ref m4, .ref m5, .ref m6, .ref m7, .ref m8, .int (nI pn), .ref m10, .ref m11, .ref m12, .ref m13, .ref m14, .ref m15, .int (nI as0), .int (nI dc), .ref m18, .int (nI tc), .ref m20, .ref m21, .ref m22, .ref m23, .ref m24, .ref m25, .ref m26])), (m2, .inl (cI, 2, .inl (aI (va_up cn 0 ((cn 0) + 1))))), (m3, .inl (cI, 60, .inl (aI (va_up ms (cn 0) j6)))), (m4, .inl (cI, 60, .inl (aI (va_up md (cn 0) j18)))), (m5, .inl (cI, 60, .inl (aI (va_up mk (cn 0) j26)))), (m6, .inl (cL, 60, .inr (.inl (aL (va_up mg (cn 0) j38))))), (m7, .inl (cI, 30, .inl (aO (va_up so (cn 0) none))))] := hD
            refine lv_aload_n hx hb d_Mo_tell_140 rfl (lv_at hl 1 rfl) ?_
            refine va_get (D := (dC, dI)) (ci := 8) (v := .ref m2) (C := R_Mo) (T := F_Mo) (N := 27) hx hb htg iw_Mo hown hK hP 0 rfl rfl 2 (by decide) (htg _ k3_54) (fun _ h9 => h9) rfl d_Mo_tell_141 ?_
            refine lv_iload_n hx hb d_Mo_tell_144 rfl (lv_at hl 2 rfl) ?_
            refine bk_iald (v := nI ((va_up cn 0 ((cn 0) + 1)) 0)) hx hb hK hP 1 0 rfl rfl (by omega) (by decide) rfl d_Mo_tell_145 ?_
            refine bk_topi (y := nI (cn 0 + 1)) (congrArg nI (if_pos rfl)) ?_
            refine lv_iconst (v := nI 1) hx hb d_Mo_tell_146 (by decide +kernel) ?_
            refine bk_isub hx hb (by omega) d_Mo_tell_147 ?_
            refine bk_topi (y := nI (cn 0)) (by rw [Nat.add_sub_cancel]) ?_
            have hP9 := hP.sub (ws' := [(mo, .inr (8, [.int (nI 0), .long sd, .ref m2, .ref m3, .ref m4, .ref m5, .ref m6, .ref m7, .ref m8, .int (nI pn), .ref m10, .ref m11, .ref m12, .ref m13, .ref m14, .ref m15, .int (nI as0), .int (nI dc), .ref m18, .int (nI tc), .ref m20, .ref m21, .ref m22, .ref m23, .ref m24, .ref m25, .ref m26])), (m2, .inl (cI, 2, .inl (aI (va_up cn 0 (cn 0 + 1))))), (m3, .inl (cI, 60, .inl (aI (va_up ms (cn 0) j6)))), (m4, .inl (cI, 60, .inl (aI (va_up md (cn 0) j18)))), (m5, .inl (cI, 60, .inl (aI (va_up mk (cn 0) j26)))), (m6, .inl (cL, 60, .inr (.inl (aL (va_up mg (cn 0) j38))))), (m7, .inl (cI, 30, .inl (aO (va_up so (cn 0) none))))]) [0, 1, 2, 3, 4, 5, 6] rfl
            have hD9 := hD.sub (ws' := [(mo, .inr (8, [.int (nI 0), .long sd, .ref m2, .ref m3, .ref m4, .ref m5, .ref m6, .ref m7, .ref m8, .int (nI pn), .ref m10, .ref m11, .ref m12, .ref m13, .ref m14, .ref m15, .int (nI as0), .int (nI dc), .ref m18, .int (nI tc), .ref m20, .ref m21, .ref m22, .ref m23, .ref m24, .ref m25, .ref m26])), (m2, .inl (cI, 2, .inl (aI (va_up cn 0 (cn 0 + 1))))), (m3, .inl (cI, 60, .inl (aI (va_up ms (cn 0) j6)))), (m4, .inl (cI, 60, .inl (aI (va_up md (cn 0) j18)))), (m5, .inl (cI, 60, .inl (aI (va_up mk (cn 0) j26)))), (m6, .inl (cL, 60, .inr (.inl (aL (va_up mg (cn 0) j38))))), (m7, .inl (cI, 30, .inl (aO (va_up so (cn 0) none))))]) [0, 1, 2, 3, 4, 5, 6] (by decide) rfl
            exact W.iret (v := nI (cn 0)) hx hb hr (fun t9 ht9 hW9 => ⟨⟨nI (cn 0), (va_up cn 0 (cn 0 + 1), va_up ms (cn 0) j6, va_up md (cn 0) j18, va_up mk (cn 0) j26, va_up mg (cn 0) j38, va_up so (cn 0) none), rfl, Or.inl ⟨⟨by omega, ⟨j6, hj6, hx6⟩, ⟨j18, hj18, hx18⟩, ⟨j26, hj26, hx26⟩, ⟨j38, ha38, hj38, hx38⟩⟩, rfl, by rw [hx6, hx18, hx26, hx38, tn_nI (by omega), tn_nI (by omega), tn_nI (by omega), tl_lN (by omega)]⟩, by rw [ht9]; exact hP9, va_K.moved hW9.alike hK, hD9⟩, hS.F ht9⟩) hS.2.2 d_Mo_tell_148
          · refine lv_iconst (v := oI none) hx hb d_Mo_tell_55 (by decide +kernel) ?_
            have hP9 := hP.sub (ws' := [(mo, .inr (8, [.int (nI 0), .long sd, .ref m2, .ref m3, .ref m4, .ref m5, .ref m6, .ref m7, .ref m8, .int (nI pn), .ref m10, .ref m11, .ref m12, .ref m13, .ref m14, .ref m15, .int (nI as0), .int (nI dc), .ref m18, .int (nI tc), .ref m20, .ref m21, .ref m22, .ref m23, .ref m24, .ref m25, .ref m26])), (m2, .inl (cI, 2, .inl (aI cn))), (m3, .inl (cI, 60, .inl (aI ms))), (m4, .inl (cI, 60, .inl (aI md))), (m5, .inl (cI, 60, .inl (aI mk))), (m6, .inl (cL, 60, .inr (.inl (aL mg)))), (m7, .inl (cI, 30, .inl (aO so)))]) [0, 1, 2, 3, 4, 5, 6] rfl
            have hD9 := hD.sub (ws' := [(mo, .inr (8, [.int (nI 0), .long sd, .ref m2, .ref m3, .ref m4, .ref m5, .ref m6, .ref m7, .ref m8, .int (nI pn), .ref m10, .ref m11, .ref m12, .ref m13, .ref m14, .ref m15, .int (nI as0), .int (nI dc), .ref m18, .int (nI tc), .ref m20, .ref m21, .ref m22, .ref m23, .ref m24, .ref m25, .ref m26])), (m2, .inl (cI, 2, .inl (aI cn))), (m3, .inl (cI, 60, .inl (aI ms))), (m4, .inl (cI, 60, .inl (aI md))), (m5, .inl (cI, 60, .inl (aI mk))), (m6, .inl (cL, 60, .inr (.inl (aL mg)))), (m7, .inl (cI, 30, .inl (aO so)))]) [0, 1, 2, 3, 4, 5, 6] (by decide) rfl
            exact W.iret (v := oI none) hx hb hr (fun t9 ht9 hW9 => ⟨⟨oI none, (cn, ms, md, mk, mg, so), rfl, Or.inr ⟨fun q => by obtain ⟨q1, q2, q3, q4, q5⟩ := q; first | omega | contradiction | exact n18 q3, rfl, rfl⟩, by rw [ht9]; exact hP9, va_K.moved hW9.alike hK, hD9⟩, hS.F ht9⟩) hS.2.2 d_Mo_tell_56
        · refine bk_if_eq (a := 0) (tgt := 55) hx hb (by omega) d_Mo_tell_41 (by decide) (fun c41 => ?_) (fun c41 => absurd c41 (by decide))
          refine lv_iconst (v := oI none) hx hb d_Mo_tell_55 (by decide +kernel) ?_
          have hP9 := hP.sub (ws' := [(mo, .inr (8, [.int (nI 0), .long sd, .ref m2, .ref m3, .ref m4, .ref m5, .ref m6, .ref m7, .ref m8, .int (nI pn), .ref m10, .ref m11, .ref m12, .ref m13, .ref m14, .ref m15, .int (nI as0), .int (nI dc), .ref m18, .int (nI tc), .ref m20, .ref m21, .ref m22, .ref m23, .ref m24, .ref m25, .ref m26])), (m2, .inl (cI, 2, .inl (aI cn))), (m3, .inl (cI, 60, .inl (aI ms))), (m4, .inl (cI, 60, .inl (aI md))), (m5, .inl (cI, 60, .inl (aI mk))), (m6, .inl (cL, 60, .inr (.inl (aL mg)))), (m7, .inl (cI, 30, .inl (aO so)))]) [0, 1, 2, 3, 4, 5, 6] rfl
          have hD9 := hD.sub (ws' := [(mo, .inr (8, [.int (nI 0), .long sd, .ref m2, .ref m3, .ref m4, .ref m5, .ref m6, .ref m7, .ref m8, .int (nI pn), .ref m10, .ref m11, .ref m12, .ref m13, .ref m14, .ref m15, .int (nI as0), .int (nI dc), .ref m18, .int (nI tc), .ref m20, .ref m21, .ref m22, .ref m23, .ref m24, .ref m25, .ref m26])), (m2, .inl (cI, 2, .inl (aI cn))), (m3, .inl (cI, 60, .inl (aI ms))), (m4, .inl (cI, 60, .inl (aI md))), (m5, .inl (cI, 60, .inl (aI mk))), (m6, .inl (cL, 60, .inr (.inl (aL mg)))), (m7, .inl (cI, 30, .inl (aO so)))]) [0, 1, 2, 3, 4, 5, 6] (by decide) rfl
          exact W.iret (v := oI none) hx hb hr (fun t9 ht9 hW9 => ⟨⟨oI none, (cn, ms, md, mk, mg, so), rfl, Or.inr ⟨fun q => by obtain ⟨q1, q2, q3, q4, q5⟩ := q; first | omega | contradiction | exact n18 q3, rfl, rfl⟩, by rw [ht9]; exact hP9, va_K.moved hW9.alike hK, hD9⟩, hS.F ht9⟩) hS.2.2 d_Mo_tell_56
      · refine bk_if_eq (a := 0) (tgt := 55) hx hb (by omega) d_Mo_tell_29 (by decide) (fun c29 => ?_) (fun c29 => absurd c29 (by decide))
        refine lv_iconst (v := oI none) hx hb d_Mo_tell_55 (by decide +kernel) ?_
        have hP9 := hP.sub (ws' := [(mo, .inr (8, [.int (nI 0), .long sd, .ref m2, .ref m3, .ref m4, .ref m5, .ref m6, .ref m7, .ref m8, .int (nI pn), .ref m10, .ref m11, .ref m12, .ref m13, .ref m14, .ref m15, .int (nI as0), .int (nI dc), .ref m18, .int (nI tc), .ref m20, .ref m21, .ref m22, .ref m23, .ref m24, .ref m25, .ref m26])), (m2, .inl (cI, 2, .inl (aI cn))), (m3, .inl (cI, 60, .inl (aI ms))), (m4, .inl (cI, 60, .inl (aI md))), (m5, .inl (cI, 60, .inl (aI mk))), (m6, .inl (cL, 60, .inr (.inl (aL mg)))), (m7, .inl (cI, 30, .inl (aO so)))]) [0, 1, 2, 3, 4, 5, 6] rfl
        have hD9 := hD.sub (ws' := [(mo, .inr (8, [.int (nI 0), .long sd, .ref m2, .ref m3, .ref m4, .ref m5, .ref m6, .ref m7, .ref m8, .int (nI pn), .ref m10, .ref m11, .ref m12, .ref m13, .ref m14, .ref m15, .int (nI as0), .int (nI dc), .ref m18, .int (nI tc), .ref m20, .ref m21, .ref m22, .ref m23, .ref m24, .ref m25, .ref m26])), (m2, .inl (cI, 2, .inl (aI cn))), (m3, .inl (cI, 60, .inl (aI ms))), (m4, .inl (cI, 60, .inl (aI md))), (m5, .inl (cI, 60, .inl (aI mk))), (m6, .inl (cL, 60, .inr (.inl (aL mg)))), (m7, .inl (cI, 30, .inl (aO so)))]) [0, 1, 2, 3, 4, 5, 6] (by decide) rfl
        exact W.iret (v := oI none) hx hb hr (fun t9 ht9 hW9 => ⟨⟨oI none, (cn, ms, md, mk, mg, so), rfl, Or.inr ⟨fun q => by obtain ⟨q1, q2, q3, q4, q5⟩ := q; first | omega | contradiction | exact n18 q3, rfl, rfl⟩, by rw [ht9]; exact hP9, va_K.moved hW9.alike hK, hD9⟩, hS.F ht9⟩) hS.2.2 d_Mo_tell_56
    · have n18 := fun z9 => y18 (i64_day.mpr z9)
      refine bk_if_eq (a := 0) (tgt := 55) hx hb (by omega) d_Mo_tell_21 (by decide) (fun c21 => ?_) (fun c21 => absurd c21 (by decide))
      refine lv_iconst (v := oI none) hx hb d_Mo_tell_55 (by decide +kernel) ?_
      have hP9 := hP.sub (ws' := [(mo, .inr (8, [.int (nI 0), .long sd, .ref m2, .ref m3, .ref m4, .ref m5, .ref m6, .ref m7, .ref m8, .int (nI pn), .ref m10, .ref m11, .ref m12, .ref m13, .ref m14, .ref m15, .int (nI as0), .int (nI dc), .ref m18, .int (nI tc), .ref m20, .ref m21, .ref m22, .ref m23, .ref m24, .ref m25, .ref m26])), (m2, .inl (cI, 2, .inl (aI cn))), (m3, .inl (cI, 60, .inl (aI ms))), (m4, .inl (cI, 60, .inl (aI md))), (m5, .inl (cI, 60, .inl (aI mk))), (m6, .inl (cL, 60, .inr (.inl (aL mg)))), (m7, .inl (cI, 30, .inl (aO so)))]) [0, 1, 2, 3, 4, 5, 6] rfl
      have hD9 := hD.sub (ws' := [(mo, .inr (8, [.int (nI 0), .long sd, .ref m2, .ref m3, .ref m4, .ref m5, .ref m6, .ref m7, .ref m8, .int (nI pn), .ref m10, .ref m11, .ref m12, .ref m13, .ref m14, .ref m15, .int (nI as0), .int (nI dc), .ref m18, .int (nI tc), .ref m20, .ref m21, .ref m22, .ref m23, .ref m24, .ref m25, .ref m26])), (m2, .inl (cI, 2, .inl (aI cn))), (m3, .inl (cI, 60, .inl (aI ms))), (m4, .inl (cI, 60, .inl (aI md))), (m5, .inl (cI, 60, .inl (aI mk))), (m6, .inl (cL, 60, .inr (.inl (aL mg)))), (m7, .inl (cI, 30, .inl (aO so)))]) [0, 1, 2, 3, 4, 5, 6] (by decide) rfl
      exact W.iret (v := oI none) hx hb hr (fun t9 ht9 hW9 => ⟨⟨oI none, (cn, ms, md, mk, mg, so), rfl, Or.inr ⟨fun q => by obtain ⟨q1, q2, q3, q4, q5⟩ := q; first | omega | contradiction | exact n18 q3, rfl, rfl⟩, by rw [ht9]; exact hP9, va_K.moved hW9.alike hK, hD9⟩, hS.F ht9⟩) hS.2.2 d_Mo_tell_56
  · refine bk_if_eq (a := 0) (tgt := 55) hx hb (by omega) d_Mo_tell_9 (by decide) (fun c9 => ?_) (fun c9 => absurd c9 (by decide))
    refine lv_iconst (v := oI none) hx hb d_Mo_tell_55 (by decide +kernel) ?_
    have hP9 := hP.sub (ws' := [(mo, .inr (8, [.int (nI 0), .long sd, .ref m2, .ref m3, .ref m4, .ref m5, .ref m6, .ref m7, .ref m8, .int (nI pn), .ref m10, .ref m11, .ref m12, .ref m13, .ref m14, .ref m15, .int (nI as0), .int (nI dc), .ref m18, .int (nI tc), .ref m20, .ref m21, .ref m22, .ref m23, .ref m24, .ref m25, .ref m26])), (m2, .inl (cI, 2, .inl (aI cn))), (m3, .inl (cI, 60, .inl (aI ms))), (m4, .inl (cI, 60, .inl (aI md))), (m5, .inl (cI, 60, .inl (aI mk))), (m6, .inl (cL, 60, .inr (.inl (aL mg)))), (m7, .inl (cI, 30, .inl (aO so)))]) [0, 1, 2, 3, 4, 5, 6] rfl
    have hD9 := hD.sub (ws' := [(mo, .inr (8, [.int (nI 0), .long sd, .ref m2, .ref m3, .ref m4, .ref m5, .ref m6, .ref m7, .ref m8, .int (nI pn), .ref m10, .ref m11, .ref m12, .ref m13, .ref m14, .ref m15, .int (nI as0), .int (nI dc), .ref m18, .int (nI tc), .ref m20, .ref m21, .ref m22, .ref m23, .ref m24, .ref m25, .ref m26])), (m2, .inl (cI, 2, .inl (aI cn))), (m3, .inl (cI, 60, .inl (aI ms))), (m4, .inl (cI, 60, .inl (aI md))), (m5, .inl (cI, 60, .inl (aI mk))), (m6, .inl (cL, 60, .inr (.inl (aL mg)))), (m7, .inl (cI, 30, .inl (aO so)))]) [0, 1, 2, 3, 4, 5, 6] (by decide) rfl
    exact W.iret (v := oI none) hx hb hr (fun t9 ht9 hW9 => ⟨⟨oI none, (cn, ms, md, mk, mg, so), rfl, Or.inr ⟨fun q => by obtain ⟨q1, q2, q3, q4, q5⟩ := q; first | omega | contradiction | exact n18 q3, rfl, rfl⟩, by rw [ht9]; exact hP9, va_K.moved hW9.alike hK, hD9⟩, hS.F ht9⟩) hS.2.2 d_Mo_tell_56
set_option maxHeartbeats 4000000 in
set_option maxRecDepth 100000 in
theorem c_Mo_page (l : Launch) (dC : Nat → ClassId) (dI : Nat → Nat → Nat) (cI cL cZ : ClassId) (sz : Nat) (mo co m2 m3 m4 m5 m6 m7 m8 pn m10 m11 m12 m13 m14 m15 as0 dc m18 tc m20 m21 m22 m23 m24 m25 m26 : Nat) (sd : Int64) (cn : Nat → Nat) (ms : Nat → Nat) (md : Nat → Nat) (mk : Nat → Nat) (mg : Nat → Nat) (so : Nat → Option Nat) (x1 x2 x3 : Int32) (x4 : Int64) (hn : cn 0 ≤ 30) : Met l y_Mo_page ws_Mo_page { frames := 2, cells := 0, slots := 0, locals := 52 } (va_Pc [.ref mo, .int x1, .int x2, .int x3, .long x4] (wrP (dC, dI) vwCl [(cI, .int), (cL, .long), (cZ, .boolean)] [(mo, .inr (8, [.int (nI co), .long sd, .ref m2, .ref m3, .ref m4, .ref m5, .ref m6, .ref m7, .ref m8, .int (nI pn), .ref m10, .ref m11, .ref m12, .ref m13, .ref m14, .ref m15, .int (nI as0), .int (nI dc), .ref m18, .int (nI tc), .ref m20, .ref m21, .ref m22, .ref m23, .ref m24, .ref m25, .ref m26])), (m2, .inl (cI, 2, .inl (aI cn))), (m3, .inl (cI, 60, .inl (aI ms))), (m4, .inl (cI, 60, .inl (aI md))), (m5, .inl (cI, 60, .inl (aI mk))), (m6, .inl (cL, 60, .inr (.inl (aL mg)))), (m7, .inl (cI, 30, .inl (aO so)))] sz)) (va_Qi (fun (r : Int32) (u : (Nat → Nat) × (Nat → Nat) × (Nat → Nat) × (Nat → Nat) × (Nat → Nat) × (Nat → Option Nat)) => (addOk (cn 0) x1 x2 x3 x4 ∧ r = nI (cn 0) ∧ u = (va_up cn 0 (cn 0 + 1), va_up ms (cn 0) (tn x1), va_up md (cn 0) (tn x2), va_up mk (cn 0) (tn x3), va_up mg (cn 0) (tl x4), va_up so (cn 0) none)) ∨ (¬ addOk (cn 0) x1 x2 x3 x4 ∧ r = oI none ∧ u = (cn, ms, md, mk, mg, so))) (fun (u : (Nat → Nat) × (Nat → Nat) × (Nat → Nat) × (Nat → Nat) × (Nat → Nat) × (Nat → Option Nat)) => wrQ (dC, dI) vwCl [(cI, .int), (cL, .long), (cZ, .boolean)] (va_A [(mo, .inr (8, [.int (nI co), .long sd, .ref m2, .ref m3, .ref m4, .ref m5, .ref m6, .ref m7, .ref m8, .int (nI pn), .ref m10, .ref m11, .ref m12, .ref m13, .ref m14, .ref m15, .int (nI as0), .int (nI dc), .ref m18, .int (nI tc), .ref m20, .ref m21, .ref m22, .ref m23, .ref m24, .ref m25, .ref m26])), (m2, .inl (cI, 2, .inl (aI cn))), (m3, .inl (cI, 60, .inl (aI ms))), (m4, .inl (cI, 60, .inl (aI md))), (m5, .inl (cI, 60, .inl (aI mk))), (m6, .inl (cL, 60, .inr (.inl (aL mg)))), (m7, .inl (cI, 30, .inl (aO so)))] sz) [(mo, .inr (8, [.int (nI 0), .long sd, .ref m2, .ref m3, .ref m4, .ref m5, .ref m6, .ref m7, .ref m8, .int (nI pn), .ref m10, .ref m11, .ref m12, .ref m13, .ref m14, .ref m15, .int (nI as0), .int (nI dc), .ref m18, .int (nI tc), .ref m20, .ref m21, .ref m22, .ref m23, .ref m24, .ref m25, .ref m26])), (m2, .inl (cI, 2, .inl (aI u.1))), (m3, .inl (cI, 60, .inl (aI u.2.1))), (m4, .inl (cI, 60, .inl (aI u.2.2.1))), (m5, .inl (cI, 60, .inl (aI u.2.2.2.1))), (m6, .inl (cL, 60, .inr (.inl (aL u.2.2.2.2.1)))), (m7, .inl (cI, 30, .inl (aO u.2.2.2.2.2)))]) (va_A [(mo, .inr (8, [.int (nI co), .long sd, .ref m2, .ref m3, .ref m4, .ref m5, .ref m6, .ref m7, .ref m8, .int (nI pn), .ref m10, .ref m11, .ref m12, .ref m13, .ref m14, .ref m15, .int (nI as0), .int (nI dc), .ref m18, .int (nI tc), .ref m20, .ref m21, .ref m22, .ref m23, .ref m24, .ref m25, .ref m26])), (m2, .inl (cI, 2, .inl (aI cn))), (m3, .inl (cI, 60, .inl (aI ms))), (m4, .inl (cI, 60, .inl (aI md))), (m5, .inl (cI, 60, .inl (aI mk))), (m6, .inl (cL, 60, .inr (.inl (aL mg)))), (m7, .inl (cI, 30, .inl (aO so)))] sz)) 0 0 (va_A [(mo, .inr (8, [.int (nI co), .long sd, .ref m2, .ref m3, .ref m4, .ref m5, .ref m6, .ref m7, .ref m8, .int (nI pn), .ref m10, .ref m11, .ref m12, .ref m13, .ref m14, .ref m15, .int (nI as0), .int (nI dc), .ref m18, .int (nI tc), .ref m20, .ref m21, .ref m22, .ref m23, .ref m24, .ref m25, .ref m26])), (m2, .inl (cI, 2, .inl (aI cn))), (m3, .inl (cI, 60, .inl (aI ms))), (m4, .inl (cI, 60, .inl (aI md))), (m5, .inl (cI, 60, .inl (aI mk))), (m6, .inl (cL, 60, .inr (.inl (aL mg)))), (m7, .inl (cI, 30, .inl (aO so)))] sz) := by
  refine Met.ofW (cc := b_Mo_page) (maxL := 6) (ret := (some .int)) (by decide) rfl ?_
  intro pr en s m args below meth c s₁ B hml hv
  obtain ⟨rfl, hN, hsz, hP, hK, hD0⟩ := hv
  have hx := B.exec
  have hb := B.bytes
  have hr := B.returns
  have hts := atoms_spec (ws := ws_Mo_page) B.pre
  have htg : ∀ w ∈ gW, w.before _ s = true := fun w h => hts w (List.mem_cons_of_mem _ h)
  have hown : s.vm.findClass R_Mo = some m.cls := findClass_of_methodNamed B.named
  have hlocks := B.notSynchronized
  subst hsz
  have hD := hD0.self (sz := s.heap.size)
  generalize hAe : va_A [(mo, .inr (8, [.int (nI co), .long sd, .ref m2, .ref m3, .ref m4, .ref m5, .ref m6, .ref m7, .ref m8, .int (nI pn), .ref m10, .ref m11, .ref m12, .ref m13, .ref m14, .ref m15, .int (nI as0), .int (nI dc), .ref m18, .int (nI tc), .ref m20, .ref m21, .ref m22, .ref m23, .ref m24, .ref m25, .ref m26])), (m2, .inl (cI, 2, .inl (aI cn))), (m3, .inl (cI, 60, .inl (aI ms))), (m4, .inl (cI, 60, .inl (aI md))), (m5, .inl (cI, 60, .inl (aI mk))), (m6, .inl (cL, 60, .inr (.inl (aL mg)))), (m7, .inl (cI, 30, .inl (aO so)))] s.heap.size = A at hD ⊢
  have hA : ∀ q : Nat, s.heap.size ≤ q → A q := fun q h => by rw [← hAe]; exact Or.inr h
  have hS : va_S A s.heap s.heap [] := va_S.rf
  have hP : va_P (dC, dI) vwCl [(mo, .inr (8, [.int (nI co), .long sd, .ref m2, .ref m3, .ref m4, .ref m5, .ref m6, .ref m7, .ref m8, .int (nI pn), .ref m10, .ref m11, .ref m12, .ref m13, .ref m14, .ref m15, .int (nI as0), .int (nI dc), .ref m18, .int (nI tc), .ref m20, .ref m21, .ref m22, .ref m23, .ref m24, .ref m25, .ref m26])), (m2, .inl (cI, 2, .inl (aI cn))), (m3, .inl (cI, 60, .inl (aI ms))), (m4, .inl (cI, 60, .inl (aI md))), (m5, .inl (cI, 60, .inl (aI mk))), (m6, .inl (cL, 60, .inr (.inl (aL mg)))), (m7, .inl (cI, 30, .inl (aO so)))] s.heap := hP
  have hl := lv_entry ([.ref mo, .int x1, .int x2, .int x3, .long x4]) (n := 6) (Nat.le_of_ble_eq_true rfl)
  rw [lg_entry_eq]
  generalize (lg_sl ([.ref mo, .int x1, .int x2, .int x3, .long x4]) ++ List.replicate (6 - (lg_sl ([.ref mo, .int x1, .int x2, .int x3, .long x4])).length) Slot.unset).toArray = ls at hl ⊢
  have hl : lv_has ls 6 [(0, .ref mo), (1, .int x1), (2, .int x2), (3, .int x3), (4, .long x4)] := hl
  refine lv_aload_n hx hb d_Mo_page_0 rfl (lv_at hl 0 rfl) ?_
  refine lv_iconst (v := nI 0) hx hb d_Mo_page_1 (by decide +kernel) ?_
  refine lv_iload_n hx hb d_Mo_page_2 rfl (lv_at hl 1 rfl) ?_
  refine lv_iload_n hx hb d_Mo_page_3 rfl (lv_at hl 2 rfl) ?_
  refine lv_iload_n hx hb d_Mo_page_4 rfl (lv_at hl 3 rfl) ?_
  refine lv_lload hx hb d_Mo_page_5 (lv_at hl 4 rfl) ?_
  have hPc := hP.sub (ws' := [(mo, .inr (8, [.int (nI co), .long sd, .ref m2, .ref m3, .ref m4, .ref m5, .ref m6, .ref m7, .ref m8, .int (nI pn), .ref m10, .ref m11, .ref m12, .ref m13, .ref m14, .ref m15, .int (nI as0), .int (nI dc), .ref m18, .int (nI tc), .ref m20, .ref m21, .ref m22, .ref m23, .ref m24, .ref m25, .ref m26])), (m2, .inl (cI, 2, .inl (aI cn))), (m3, .inl (cI, 60, .inl (aI ms))), (m4, .inl (cI, 60, .inl (aI md))), (m5, .inl (cI, 60, .inl (aI mk))), (m6, .inl (cL, 60, .inr (.inl (aL mg)))), (m7, .inl (cI, 30, .inl (aO so)))]) [0, 1, 2, 3, 4, 5, 6] rfl
  have hDc := hD.sub (ws' := [(mo, .inr (8, [.int (nI co), .long sd, .ref m2, .ref m3, .ref m4, .ref m5, .ref m6, .ref m7, .ref m8, .int (nI pn), .ref m10, .ref m11, .ref m12, .ref m13, .ref m14, .ref m15, .int (nI as0), .int (nI dc), .ref m18, .int (nI tc), .ref m20, .ref m21, .ref m22, .ref m23, .ref m24, .ref m25, .ref m26])), (m2, .inl (cI, 2, .inl (aI cn))), (m3, .inl (cI, 60, .inl (aI ms))), (m4, .inl (cI, 60, .inl (aI md))), (m5, .inl (cI, 60, .inl (aI mk))), (m6, .inl (cL, 60, .inr (.inl (aL mg)))), (m7, .inl (cI, 30, .inl (aO so)))]) [0, 1, 2, 3, 4, 5, 6] (by decide) rfl
  have hFc := va_free (wc := [(mo, .inr (8, [.int (nI co), .long sd, .ref m2, .ref m3, .ref m4, .ref m5, .ref m6, .ref m7, .ref m8, .int (nI pn), .ref m10, .ref m11, .ref m12, .ref m13, .ref m14, .ref m15, .int (nI as0), .int (nI dc), .ref m18, .int (nI tc), .ref m20, .ref m21, .ref m22, .ref m23, .ref m24, .ref m25, .ref m26])), (m2, .inl (cI, 2, .inl (aI cn))), (m3, .inl (cI, 60, .inl (aI ms))), (m4, .inl (cI, 60, .inl (aI md))), (m5, .inl (cI, 60, .inl (aI mk))), (m6, .inl (cL, 60, .inr (.inl (aL mg)))), (m7, .inl (cI, 30, .inl (aO so)))]) hD hS hA [0, 1, 2, 3, 4, 5, 6] rfl
  refine va_calli (va_runV (As := [.int (nI 0), .int x1, .int x2, .int x3, .long x4]) (rest := []) ⟨hx, hb, hml, hown, htg⟩ (c_Mo_tell0 l dC dI cI cL cZ s.heap.size mo co m2 m3 m4 m5 m6 m7 m8 pn m10 m11 m12 m13 m14 m15 as0 dc m18 tc m20 m21 m22 m23 m24 m25 m26 sd cn ms md mk mg so x1 x2 x3 x4 (by omega)) (cwV 5 htg (gdV k3_143 k3_145 ks_Mo_tell k1_9 kc_Mo_tell) rfl rfl rfl (by decide +kernel) ⟨Nat.le_of_ble_eq_true rfl, Nat.le_of_ble_eq_true rfl⟩) ⟨bk_blindW, va_recv hK hP (ci := 8) (q0 := 0) rfl rfl, fun U hU hW => ⟨rfl, nw_warm hW hN, by rw [hU], by rw [hU]; exact hPc, va_K.moved hW.alike hK, hDc.weaken (fun _ _ _ _ => trivial)⟩⟩ rfl rfl hl.1 rfl (lv_room (Nat.le_of_ble_eq_true rfl)) d_Mo_page_7 ⟨Nat.le_of_ble_eq_true rfl, Nat.le_of_ble_eq_true rfl⟩) hS (fun q _ h => hFc q h) hFc (fun r7 u t H1 locs ht hvm e7 hB hz1 hk1 hS => ?_)
  obtain ⟨hP1, hK1, hD1⟩ := hB
  rw [ht] at hP1
  try dsimp only at e7
  rcases e7 with ⟨ok7, rfl, rfl⟩ | ⟨no7, rfl, rfl⟩
  · obtain ⟨hP, hD⟩ := va_join (wr := []) (w1 := [(mo, .inr (8, [.int (nI 0), .long sd, .ref m2, .ref m3, .ref m4, .ref m5, .ref m6, .ref m7, .ref m8, .int (nI pn), .ref m10, .ref m11, .ref m12, .ref m13, .ref m14, .ref m15, .int (nI as0), .int (nI dc), .ref m18, .int (nI tc), .ref m20, .ref m21, .ref m22, .ref m23, .ref m24, .ref m25, .ref m26])), (m2, .inl (cI, 2, .inl (aI (va_up cn 0 (cn 0 + 1))))), (m3, .inl (cI, 60, .inl (aI (va_up ms (cn 0) (tn x1))))), (m4, .inl (cI, 60, .inl (aI (va_up md (cn 0) (tn x2))))), (m5, .inl (cI, 60, .inl (aI (va_up mk (cn 0) (tn x3))))), (m6, .inl (cL, 60, .inr (.inl (aL (va_up mg (cn 0) (tl x4)))))), (m7, .inl (cI, 30, .inl (aO (va_up so (cn 0) none))))]) hP hD [0, 1, 2, 3, 4, 5, 6] [] rfl rfl (by decide) (by decide) hk1 hFc hP1 hD1
    generalize H1 = H at hP hS ⊢
    have hP : va_P (dC, dI) vwCl [(mo, .inr (8, [.int (nI 0), .long sd, .ref m2, .ref m3, .ref m4, .ref m5, .ref m6, .ref m7, .ref m8, .int (nI pn), .ref m10, .ref m11, .ref m12, .ref m13, .ref m14, .ref m15, .int (nI as0), .int (nI dc), .ref m18, .int (nI tc), .ref m20, .ref m21, .ref m22, .ref m23, .ref m24, .ref m25, .ref m26])), (m2, .inl (cI, 2, .inl (aI (va_up cn 0 (cn 0 + 1))))), (m3, .inl (cI, 60, .inl (aI (va_up ms (cn 0) (tn x1))))), (m4, .inl (cI, 60, .inl (aI (va_up md (cn 0) (tn x2))))), (m5, .inl (cI, 60, .inl (aI (va_up mk (cn 0) (tn x3))))), (m6, .inl (cL, 60, .inr (.inl (aL (va_up mg (cn 0) (tl x4)))))), (m7, .inl (cI, 30, .inl (aO (va_up so (cn 0) none))))] H := hP.sub [0, 1, 2, 3, 4, 5, 6] rfl
    have hD : va_D A [(mo, .inr (8, [.int (nI 0), .long sd, .ref m2, .ref m3, .ref m4, .ref m5, .ref m6, .ref m7, .ref m8, .int (nI pn), .ref m10, .ref m11, .ref m12, .ref m13, .ref m14, .ref m15, .int (nI as0), .int (nI dc), .ref m18, .int (nI tc), .ref m20, .ref m21, .ref m22, .ref m23, .ref m24, .ref m25, .ref m26])), (m2, .inl (cI, 2, .inl (aI (va_up cn 0 (cn 0 + 1))))), (m3, .inl (cI, 60, .inl (aI (va_up ms (cn 0) (tn x1))))), (m4, .inl (cI, 60, .inl (aI (va_up md (cn 0) (tn x2))))), (m5, .inl (cI, 60, .inl (aI (va_up mk (cn 0) (tn x3))))), (m6, .inl (cL, 60, .inr (.inl (aL (va_up mg (cn 0) (tl x4)))))), (m7, .inl (cI, 30, .inl (aO (va_up so (cn 0) none))))] := hD.sub [0, 1, 2, 3, 4, 5, 6] (by decide) rfl
    have hP9 := hP.sub (ws' := [(mo, .inr (8, [.int (nI 0), .long sd, .ref m2, .ref m3, .ref m4, .ref m5, .ref m6, .ref m7, .ref m8, .int (nI pn), .ref m10, .ref m11, .ref m12, .ref m13, .ref m14, .ref m15, .int (nI as0), .int (nI dc), .ref m18, .int (nI tc), .ref m20, .ref m21, .ref m22, .ref m23, .ref m24, .ref m25, .ref m26])), (m2, .inl (cI, 2, .inl (aI (va_up cn 0 (cn 0 + 1))))), (m3, .inl (cI, 60, .inl (aI (va_up ms (cn 0) (tn x1))))), (m4, .inl (cI, 60, .inl (aI (va_up md (cn 0) (tn x2))))), (m5, .inl (cI, 60, .inl (aI (va_up mk (cn 0) (tn x3))))), (m6, .inl (cL, 60, .inr (.inl (aL (va_up mg (cn 0) (tl x4)))))), (m7, .inl (cI, 30, .inl (aO (va_up so (cn 0) none))))]) [0, 1, 2, 3, 4, 5, 6] rfl
    have hD9 := hD.sub (ws' := [(mo, .inr (8, [.int (nI 0), .long sd, .ref m2, .ref m3, .ref m4, .ref m5, .ref m6, .ref m7, .ref m8, .int (nI pn), .ref m10, .ref m11, .ref m12, .ref m13, .ref m14, .ref m15, .int (nI as0), .int (nI dc), .ref m18, .int (nI tc), .ref m20, .ref m21, .ref m22, .ref m23, .ref m24, .ref m25, .ref m26])), (m2, .inl (cI, 2, .inl (aI (va_up cn 0 (cn 0 + 1))))), (m3, .inl (cI, 60, .inl (aI (va_up ms (cn 0) (tn x1))))), (m4, .inl (cI, 60, .inl (aI (va_up md (cn 0) (tn x2))))), (m5, .inl (cI, 60, .inl (aI (va_up mk (cn 0) (tn x3))))), (m6, .inl (cL, 60, .inr (.inl (aL (va_up mg (cn 0) (tl x4)))))), (m7, .inl (cI, 30, .inl (aO (va_up so (cn 0) none))))]) [0, 1, 2, 3, 4, 5, 6] (by decide) rfl
    exact W.iret (v := nI (cn 0)) hx hb hr (fun t9 ht9 hW9 => ⟨⟨nI (cn 0), (va_up cn 0 (cn 0 + 1), va_up ms (cn 0) (tn x1), va_up md (cn 0) (tn x2), va_up mk (cn 0) (tn x3), va_up mg (cn 0) (tl x4), va_up so (cn 0) none), rfl, Or.inl ⟨ok7, rfl, rfl⟩, by rw [ht9]; exact hP9, va_K.moved hW9.alike hK, hD9⟩, hS.F ht9⟩) hS.2.2 d_Mo_page_10
  · obtain ⟨hP, hD⟩ := va_join (wr := []) (w1 := [(mo, .inr (8, [.int (nI 0), .long sd, .ref m2, .ref m3, .ref m4, .ref m5, .ref m6, .ref m7, .ref m8, .int (nI pn), .ref m10, .ref m11, .ref m12, .ref m13, .ref m14, .ref m15, .int (nI as0), .int (nI dc), .ref m18, .int (nI tc), .ref m20, .ref m21, .ref m22, .ref m23, .ref m24, .ref m25, .ref m26])), (m2, .inl (cI, 2, .inl (aI cn))), (m3, .inl (cI, 60, .inl (aI ms))), (m4, .inl (cI, 60, .inl (aI md))), (m5, .inl (cI, 60, .inl (aI mk))), (m6, .inl (cL, 60, .inr (.inl (aL mg)))), (m7, .inl (cI, 30, .inl (aO so)))]) hP hD [0, 1, 2, 3, 4, 5, 6] [] rfl rfl (by decide) (by decide) hk1 hFc hP1 hD1
    generalize H1 = H at hP hS ⊢
    have hP : va_P (dC, dI) vwCl [(mo, .inr (8, [.int (nI 0), .long sd, .ref m2, .ref m3, .ref m4, .ref m5, .ref m6, .ref m7, .ref m8, .int (nI pn), .ref m10, .ref m11, .ref m12, .ref m13, .ref m14, .ref m15, .int (nI as0), .int (nI dc), .ref m18, .int (nI tc), .ref m20, .ref m21, .ref m22, .ref m23, .ref m24, .ref m25, .ref m26])), (m2, .inl (cI, 2, .inl (aI cn))), (m3, .inl (cI, 60, .inl (aI ms))), (m4, .inl (cI, 60, .inl (aI md))), (m5, .inl (cI, 60, .inl (aI mk))), (m6, .inl (cL, 60, .inr (.inl (aL mg)))), (m7, .inl (cI, 30, .inl (aO so)))] H := hP.sub [0, 1, 2, 3, 4, 5, 6] rfl
    have hD : va_D A [(mo, .inr (8, [.int (nI 0), .long sd, .ref m2, .ref m3, .ref m4, .ref m5, .ref m6, .ref m7, .ref m8, .int (nI pn), .ref m10, .ref m11, .ref m12, .ref m13, .ref m14, .ref m15, .int (nI as0), .int (nI dc), .ref m18, .int (nI tc), .ref m20, .ref m21, .ref m22, .ref m23, .ref m24, .ref m25, .ref m26])), (m2, .inl (cI, 2, .inl (aI cn))), (m3, .inl (cI, 60, .inl (aI ms))), (m4, .inl (cI, 60, .inl (aI md))), (m5, .inl (cI, 60, .inl (aI mk))), (m6, .inl (cL, 60, .inr (.inl (aL mg)))), (m7, .inl (cI, 30, .inl (aO so)))] := hD.sub [0, 1, 2, 3, 4, 5, 6] (by decide) rfl
    have hP9 := hP.sub (ws' := [(mo, .inr (8, [.int (nI 0), .long sd, .ref m2, .ref m3, .ref m4, .ref m5, .ref m6, .ref m7, .ref m8, .int (nI pn), .ref m10, .ref m11, .ref m12, .ref m13, .ref m14, .ref m15, .int (nI as0), .int (nI dc), .ref m18, .int (nI tc), .ref m20, .ref m21, .ref m22, .ref m23, .ref m24, .ref m25, .ref m26])), (m2, .inl (cI, 2, .inl (aI cn))), (m3, .inl (cI, 60, .inl (aI ms))), (m4, .inl (cI, 60, .inl (aI md))), (m5, .inl (cI, 60, .inl (aI mk))), (m6, .inl (cL, 60, .inr (.inl (aL mg)))), (m7, .inl (cI, 30, .inl (aO so)))]) [0, 1, 2, 3, 4, 5, 6] rfl
    have hD9 := hD.sub (ws' := [(mo, .inr (8, [.int (nI 0), .long sd, .ref m2, .ref m3, .ref m4, .ref m5, .ref m6, .ref m7, .ref m8, .int (nI pn), .ref m10, .ref m11, .ref m12, .ref m13, .ref m14, .ref m15, .int (nI as0), .int (nI dc), .ref m18, .int (nI tc), .ref m20, .ref m21, .ref m22, .ref m23, .ref m24, .ref m25, .ref m26])), (m2, .inl (cI, 2, .inl (aI cn))), (m3, .inl (cI, 60, .inl (aI ms))), (m4, .inl (cI, 60, .inl (aI md))), (m5, .inl (cI, 60, .inl (aI mk))), (m6, .inl (cL, 60, .inr (.inl (aL mg)))), (m7, .inl (cI, 30, .inl (aO so)))]) [0, 1, 2, 3, 4, 5, 6] (by decide) rfl
    exact W.iret (v := oI none) hx hb hr (fun t9 ht9 hW9 => ⟨⟨oI none, (cn, ms, md, mk, mg, so), rfl, Or.inr ⟨no7, rfl, rfl⟩, by rw [ht9]; exact hP9, va_K.moved hW9.alike hK, hD9⟩, hS.F ht9⟩) hS.2.2 d_Mo_page_10
set_option maxHeartbeats 4000000 in
set_option maxRecDepth 100000 in
theorem c_Mo_tell1 (l : Launch) (dC : Nat → ClassId) (dI : Nat → Nat → Nat) (cI cL cZ : ClassId) (sz : Nat) (mo co m2 m3 m4 m5 m6 m7 m8 pn m10 m11 m12 m13 m14 m15 as0 dc m18 tc m20 m21 m22 m23 m24 m25 m26 : Nat) (sd : Int64) (cn : Nat → Nat) (ms : Nat → Nat) (md : Nat → Nat) (mk : Nat → Nat) (mg : Nat → Nat) (bo : Nat → Bool) (x1 x2 x3 : Int32) (x4 : Int64) (hn : cn 1 ≤ 30) : Met l y_Mo_tell ws_Mo_tell { frames := 1, cells := 0, slots := 0, locals := 25 } (va_Pc [.ref mo, .int (nI 1), .int x1, .int x2, .int x3, .long x4] (wrP (dC, dI) vwCl [(cI, .int), (cL, .long), (cZ, .boolean)] [(mo, .inr (8, [.int (nI co), .long sd, .ref m2, .ref m3, .ref m4, .ref m5, .ref m6, .ref m7, .ref m8, .int (nI pn), .ref m10, .ref m11, .ref m12, .ref m13, .ref m14, .ref m15, .int (nI as0), .int (nI dc), .ref m18, .int (nI tc), .ref m20, .ref m21, .ref m22, .ref m23, .ref m24, .ref m25, .ref m26])), (m2, .inl (cI, 2, .inl (aI cn))), (m3, .inl (cI, 60, .inl (aI ms))), (m4, .inl (cI, 60, .inl (aI md))), (m5, .inl (cI, 60, .inl (aI mk))), (m6, .inl (cL, 60, .inr (.inl (aL mg)))), (m8, .inl (cZ, 30, .inl (aB bo)))] sz)) (va_Qi (fun (r : Int32) (u : (Nat → Nat) × (Nat → Nat) × (Nat → Nat) × (Nat → Nat) × (Nat → Nat) × (Nat → Bool)) => (addOk (cn 1) x1 x2 x3 x4 ∧ r = nI (cn 1) ∧ u = (va_up cn 1 (cn 1 + 1), va_up ms (30 + (cn 1)) (tn x1), va_up md (30 + (cn 1)) (tn x2), va_up mk (30 + (cn 1)) (tn x3), va_up mg (30 + (cn 1)) (tl x4), va_up bo (cn 1) false)) ∨ (¬ addOk (cn 1) x1 x2 x3 x4 ∧ r = oI none ∧ u = (cn, ms, md, mk, mg, bo))) (fun (u : (Nat → Nat) × (Nat → Nat) × (Nat → Nat) × (Nat → Nat) × (Nat → Nat) × (Nat → Bool)) => wrQ (dC, dI) vwCl [(cI, .int), (cL, .long), (cZ, .boolean)] (va_A [(mo, .inr (8, [.int (nI co), .long sd, .ref m2, .ref m3, .ref m4, .ref m5, .ref m6, .ref m7, .ref m8, .int (nI pn), .ref m10, .ref m11, .ref m12, .ref m13, .ref m14, .ref m15, .int (nI as0), .int (nI dc), .ref m18, .int (nI tc), .ref m20, .ref m21, .ref m22, .ref m23, .ref m24, .ref m25, .ref m26])), (m2, .inl (cI, 2, .inl (aI cn))), (m3, .inl (cI, 60, .inl (aI ms))), (m4, .inl (cI, 60, .inl (aI md))), (m5, .inl (cI, 60, .inl (aI mk))), (m6, .inl (cL, 60, .inr (.inl (aL mg)))), (m8, .inl (cZ, 30, .inl (aB bo)))] sz) [(mo, .inr (8, [.int (nI 0), .long sd, .ref m2, .ref m3, .ref m4, .ref m5, .ref m6, .ref m7, .ref m8, .int (nI pn), .ref m10, .ref m11, .ref m12, .ref m13, .ref m14, .ref m15, .int (nI as0), .int (nI dc), .ref m18, .int (nI tc), .ref m20, .ref m21, .ref m22, .ref m23, .ref m24, .ref m25, .ref m26])), (m2, .inl (cI, 2, .inl (aI u.1))), (m3, .inl (cI, 60, .inl (aI u.2.1))), (m4, .inl (cI, 60, .inl (aI u.2.2.1))), (m5, .inl (cI, 60, .inl (aI u.2.2.2.1))), (m6, .inl (cL, 60, .inr (.inl (aL u.2.2.2.2.1)))), (m8, .inl (cZ, 30, .inl (aB u.2.2.2.2.2)))]) (va_A [(mo, .inr (8, [.int (nI co), .long sd, .ref m2, .ref m3, .ref m4, .ref m5, .ref m6, .ref m7, .ref m8, .int (nI pn), .ref m10, .ref m11, .ref m12, .ref m13, .ref m14, .ref m15, .int (nI as0), .int (nI dc), .ref m18, .int (nI tc), .ref m20, .ref m21, .ref m22, .ref m23, .ref m24, .ref m25, .ref m26])), (m2, .inl (cI, 2, .inl (aI cn))), (m3, .inl (cI, 60, .inl (aI ms))), (m4, .inl (cI, 60, .inl (aI md))), (m5, .inl (cI, 60, .inl (aI mk))), (m6, .inl (cL, 60, .inr (.inl (aL mg)))), (m8, .inl (cZ, 30, .inl (aB bo)))] sz)) 0 0 (va_A [(mo, .inr (8, [.int (nI co), .long sd, .ref m2, .ref m3, .ref m4, .ref m5, .ref m6, .ref m7, .ref m8, .int (nI pn), .ref m10, .ref m11, .ref m12, .ref m13, .ref m14, .ref m15, .int (nI as0), .int (nI dc), .ref m18, .int (nI tc), .ref m20, .ref m21, .ref m22, .ref m23, .ref m24, .ref m25, .ref m26])), (m2, .inl (cI, 2, .inl (aI cn))), (m3, .inl (cI, 60, .inl (aI ms))), (m4, .inl (cI, 60, .inl (aI md))), (m5, .inl (cI, 60, .inl (aI mk))), (m6, .inl (cL, 60, .inr (.inl (aL mg)))), (m8, .inl (cZ, 30, .inl (aB bo)))] sz) := by
  refine Met.ofW (cc := b_Mo_tell) (maxL := 8) (ret := (some .int)) (by decide) rfl ?_
  intro pr en s m args below meth c s₁ B hml hv
  obtain ⟨rfl, hN, hsz, hP, hK, hD0⟩ := hv
  have hx := B.exec
  have hb := B.bytes
  have hr := B.returns
  have hts := atoms_spec (ws := ws_Mo_tell) B.pre
  have htg : ∀ w ∈ gW, w.before _ s = true := fun w h => hts w (List.mem_cons_of_mem _ h)
  have hown : s.vm.findClass R_Mo = some m.cls := findClass_of_methodNamed B.named
  have hlocks := B.notSynchronized
  subst hsz
  have hD := hD0.self (sz := s.heap.size)
  generalize hAe : va_A [(mo, .inr (8, [.int (nI co), .long sd, .ref m2, .ref m3, .ref m4, .ref m5, .ref m6, .ref m7, .ref m8, .int (nI pn), .ref m10, .ref m11, .ref m12, .ref m13, .ref m14, .ref m15, .int (nI as0), .int (nI dc), .ref m18, .int (nI tc), .ref m20, .ref m21, .ref m22, .ref m23, .ref m24, .ref m25, .ref m26])), (m2, .inl (cI, 2, .inl (aI cn))), (m3, .inl (cI, 60, .inl (aI ms))), (m4, .inl (cI, 60, .inl (aI md))), (m5, .inl (cI, 60, .inl (aI mk))), (m6, .inl (cL, 60, .inr (.inl (aL mg)))), (m8, .inl (cZ, 30, .inl (aB bo)))] s.heap.size = A at hD ⊢
  have hA : ∀ q : Nat, s.heap.size ≤ q → A q := fun q h => by rw [← hAe]; exact Or.inr h
  have hS : va_S A s.heap s.heap [] := va_S.rf
  have hP : va_P (dC, dI) vwCl [(mo, .inr (8, [.int (nI co), .long sd, .ref m2, .ref m3, .ref m4, .ref m5, .ref m6, .ref m7, .ref m8, .int (nI pn), .ref m10, .ref m11, .ref m12, .ref m13, .ref m14, .ref m15, .int (nI as0), .int (nI dc), .ref m18, .int (nI tc), .ref m20, .ref m21, .ref m22, .ref m23, .ref m24, .ref m25, .ref m26])), (m2, .inl (cI, 2, .inl (aI cn))), (m3, .inl (cI, 60, .inl (aI ms))), (m4, .inl (cI, 60, .inl (aI md))), (m5, .inl (cI, 60, .inl (aI mk))), (m6, .inl (cL, 60, .inr (.inl (aL mg)))), (m8, .inl (cZ, 30, .inl (aB bo)))] s.heap := hP
  have hl := lv_entry ([.ref mo, .int (nI 1), .int x1, .int x2, .int x3, .long x4]) (n := 8) (Nat.le_of_ble_eq_true rfl)
  rw [lg_entry_eq]
  generalize (lg_sl ([.ref mo, .int (nI 1), .int x1, .int x2, .int x3, .long x4]) ++ List.replicate (8 - (lg_sl ([.ref mo, .int (nI 1), .int x1, .int x2, .int x3, .long x4])).length) Slot.unset).toArray = ls at hl ⊢
  have hl : lv_has ls 8 [(0, .ref mo), (1, .int (nI 1)), (2, .int x1), (3, .int x2), (4, .int x3), (5, .long x4)] := hl
  refine lv_aload_n hx hb d_Mo_tell_0 rfl (lv_at hl 0 rfl) ?_
  refine lv_iconst (v := nI 0) hx hb d_Mo_tell_1 (by decide +kernel) ?_
  refine va_put (D := (dC, dI)) (ci := 8) (v := .int (nI 0)) (ty := (t_Mo 0)) (C := R_Mo) (T := F_Mo) (N := 27) hx hb htg iw_Mo t_Mo tk_Mo nm_Mo hown hK hP hD hS 0 rfl rfl 0 (by decide) (htg _ k3_52) (fun _ h9 => h9) rfl (by decide +kernel) rfl rfl (Nat.le_of_ble_eq_true rfl) d_Mo_tell_2 (fun H locs hP hD hS => ?_)
  have hP : va_P (dC, dI) vwCl [(mo, .inr (8, [.int (nI 0), .long sd, .ref m2, .ref m3, .ref m4, .ref m5, .ref m6, .ref m7, .ref m8, .int (nI pn), .ref m10, .ref m11, .ref m12, .ref m13, .ref m14, .ref m15, .int (nI as0), .int (nI dc), .ref m18, .int (nI tc), .ref m20, .ref m21, .ref m22, .ref m23, .ref m24, .ref m25, .ref m26])), (m2, .inl (cI, 2, .inl (aI cn))), (m3, .inl (cI, 60, .inl (aI ms))), (m4, .inl (cI, 60, .inl (aI md))), (m5, .inl (cI, 60, .inl (aI mk))), (m6, .inl (cL, 60, .inr (.inl (aL mg)))), (m8, .inl (cZ, 30, .inl (aB bo)))] H := hP
  have hD : va_D A [(mo, .inr (8, [.int (nI 0), .long sd, .ref m2, .ref m3, .ref m4, .ref m5, .ref m6, .ref m7, .ref m8, .int (nI pn), .ref m10, .ref m11, .ref m12, .ref m13, .ref m14, .ref m15, .int (nI as0), .int (nI dc), .ref m18, .int (nI tc), .ref m20, .ref m21, .ref m22, .ref m23, .ref m24, .ref m25, .ref m26])), (m2, .inl (cI, 2, .inl (aI cn))), (m3, .inl (cI, 60, .inl (aI ms))), (m4, .inl (cI, 60, .inl (aI md))), (m5, .inl (cI, 60, .inl (aI mk))), (m6, .inl (cL, 60, .inr (.inl (aL mg)))), (m8, .inl (cZ, 30, .inl (aB bo)))] := hD
  refine lv_iload_n hx hb d_Mo_tell_5 rfl (lv_at hl 2 rfl) ?_
  refine vp_callSi (va_runS (As := [.int x1]) (rest := []) ⟨hx, hb, hml, hown, htg⟩ (c_Mo_isTen l dC dI cI cL cZ x1 ) (va_cwS 1 htg (gdS k3_147 k3_148 k1_9 kc_Mo_isTen) rfl rfl rfl (by decide +kernel) ⟨Nat.le_of_ble_eq_true rfl, Nat.le_of_ble_eq_true rfl⟩) ⟨bk_blind0, fun U hU hW => ⟨rfl, trivial⟩⟩ rfl rfl hl.1 rfl (lv_room (Nat.le_of_ble_eq_true rfl)) d_Mo_tell_6 ⟨Nat.le_of_ble_eq_true rfl, Nat.le_of_ble_eq_true rfl⟩).run (fun r6 e6 => ?_)
  rcases e6 with ⟨⟨j6, hj6, hx6⟩, rfl⟩ | ⟨n6, rfl⟩
  · refine bk_if_eq (a := 1) (tgt := 55) hx hb (by omega) d_Mo_tell_9 (by decide) (fun c9 => absurd c9 (by decide)) (fun c9 => ?_)
    refine lv_iload_n hx hb d_Mo_tell_12 rfl (lv_at hl 3 rfl) ?_
    refine lv_i2l (v := (x2).toInt64) hx hb d_Mo_tell_13 rfl ?_
    refine lv_lconst (v := lN 0) hx hb d_Mo_tell_14 (by decide +kernel) ?_
    refine lv_ldc2 (own := R_Mo) (v := 100000) hx hb hown (htg _ k3_150) d_Mo_tell_15 ?_
    refine bk_topl (y := lN 100000) (by decide +kernel) ?_
    refine vp_callSi (va_runS (As := [.long ((x2).toInt64), .long (lN 0), .long (lN 100000)]) (rest := []) ⟨hx, hb, hml, hown, htg⟩ (c_Mo_within l dC dI cI cL cZ ((x2).toInt64) 0 100000 (by omega) (by omega)) (va_cwS 3 htg (gdS k3_151 k3_152 k1_9 kc_Mo_within) rfl rfl rfl (by decide +kernel) ⟨Nat.le_of_ble_eq_true rfl, Nat.le_of_ble_eq_true rfl⟩) ⟨bk_blind0, fun U hU hW => ⟨rfl, trivial⟩⟩ rfl rfl hl.1 rfl (lv_room (Nat.le_of_ble_eq_true rfl)) d_Mo_tell_18 ⟨Nat.le_of_ble_eq_true rfl, Nat.le_of_ble_eq_true rfl⟩).run (fun r18 e18 => ?_)
    rcases e18 with ⟨y18, rfl⟩ | ⟨y18, rfl⟩
    · obtain ⟨j18, hj18, hx18⟩ := i64_day.mp y18
      refine bk_if_eq (a := 1) (tgt := 55) hx hb (by omega) d_Mo_tell_21 (by decide) (fun c21 => absurd c21 (by decide)) (fun c21 => ?_)
      refine lv_iload hx hb d_Mo_tell_24 (lv_at hl 4 rfl) ?_
      refine vp_callSi (va_runS (As := [.int x3]) (rest := []) ⟨hx, hb, hml, hown, htg⟩ (c_Mo_isTen l dC dI cI cL cZ x3 ) (va_cwS 1 htg (gdS k3_147 k3_148 k1_9 kc_Mo_isTen) rfl rfl rfl (by decide +kernel) ⟨Nat.le_of_ble_eq_true rfl, Nat.le_of_ble_eq_true rfl⟩) ⟨bk_blind0, fun U hU hW => ⟨rfl, trivial⟩⟩ rfl rfl hl.1 rfl (lv_room (Nat.le_of_ble_eq_true rfl)) d_Mo_tell_26 ⟨Nat.le_of_ble_eq_true rfl, Nat.le_of_ble_eq_true rfl⟩).run (fun r26 e26 => ?_)
      rcases e26 with ⟨⟨j26, hj26, hx26⟩, rfl⟩ | ⟨n26, rfl⟩
      · refine bk_if_eq (a := 1) (tgt := 55) hx hb (by omega) d_Mo_tell_29 (by decide) (fun c29 => absurd c29 (by decide)) (fun c29 => ?_)
        refine lv_lload hx hb d_Mo_tell_32 (lv_at hl 5 rfl) ?_
        refine lv_lconst (v := lN 1) hx hb d_Mo_tell_34 (by decide +kernel) ?_
        refine lv_ldc2 (own := R_Mo) (v := 1000000000) hx hb hown (htg _ k3_154) d_Mo_tell_35 ?_
        refine bk_topl (y := lN 1000000000) (by decide +kernel) ?_
        refine vp_callSi (va_runS (As := [.long x4, .long (lN 1), .long (lN 1000000000)]) (rest := []) ⟨hx, hb, hml, hown, htg⟩ (c_Mo_within l dC dI cI cL cZ x4 1 1000000000 (by omega) (by omega)) (va_cwS 3 htg (gdS k3_151 k3_152 k1_9 kc_Mo_within) rfl rfl rfl (by decide +kernel) ⟨Nat.le_of_ble_eq_true rfl, Nat.le_of_ble_eq_true rfl⟩) ⟨bk_blind0, fun U hU hW => ⟨rfl, trivial⟩⟩ rfl rfl hl.1 rfl (lv_room (Nat.le_of_ble_eq_true rfl)) d_Mo_tell_38 ⟨Nat.le_of_ble_eq_true rfl, Nat.le_of_ble_eq_true rfl⟩).run (fun r38 e38 => ?_)
        rcases e38 with ⟨⟨j38, ha38, hj38, hx38⟩, rfl⟩ | ⟨n38, rfl⟩
        · refine bk_if_eq (a := 1) (tgt := 55) hx hb (by omega) d_Mo_tell_41 (by decide) (fun c41 => absurd c41 (by decide)) (fun c41 => ?_)
          refine lv_aload_n hx hb d_Mo_tell_44 rfl (lv_at hl 0 rfl) ?_
          refine va_get (D := (dC, dI)) (ci := 8) (v := .ref m2) (C := R_Mo) (T := F_Mo) (N := 27) hx hb htg iw_Mo hown hK hP 0 rfl rfl 2 (by decide) (htg _ k3_54) (fun _ h9 => h9) rfl d_Mo_tell_45 ?_
          refine lv_iload_n hx hb d_Mo_tell_48 rfl (lv_at hl 1 rfl) ?_
          refine bk_iald (v := nI (cn 1)) hx hb hK hP 1 0 rfl rfl (by omega) (by decide) rfl d_Mo_tell_49 ?_
          refine lv_bipush (v := nI 30) hx hb d_Mo_tell_50 (by decide +kernel) ?_
          refine bk_icmp_ne (a := cn 1) (b := 30) (tgt := 57) hx hb (by omega) (by omega) d_Mo_tell_52 (by decide) (fun c52 => ?_) (fun c52 => ?_)
          · refine lv_bipush (v := nI 30) hx hb d_Mo_tell_57 (by decide +kernel) ?_
            refine lv_iload_n hx hb d_Mo_tell_59 rfl (lv_at hl 1 rfl) ?_
            refine bk_imul hx hb d_Mo_tell_60 ?_
            refine lv_aload_n hx hb d_Mo_tell_61 rfl (lv_at hl 0 rfl) ?_
            refine va_get (D := (dC, dI)) (ci := 8) (v := .ref m2) (C := R_Mo) (T := F_Mo) (N := 27) hx hb htg iw_Mo hown hK hP 0 rfl rfl 2 (by decide) (htg _ k3_54) (fun _ h9 => h9) rfl d_Mo_tell_62 ?_
            refine lv_iload_n hx hb d_Mo_tell_65 rfl (lv_at hl 1 rfl) ?_
            refine bk_iald (v := nI (cn 1)) hx hb hK hP 1 0 rfl rfl (by omega) (by decide) rfl d_Mo_tell_66 ?_
            refine bk_iadd hx hb d_Mo_tell_67 ?_
            refine lv_istore (lv' := [(7, .int (nI (30 + (cn 1)))), (0, .ref mo), (1, .int (nI 1)), (2, .int x1), (3, .int x2), (4, .int x3), (5, .long x4)]) hx hb d_Mo_tell_68 hl (by decide) rfl (fun ls hl => ?_)
            refine lv_aload_n hx hb d_Mo_tell_70 rfl (lv_at hl 1 rfl) ?_
            refine va_get (D := (dC, dI)) (ci := 8) (v := .ref m3) (C := R_Mo) (T := F_Mo) (N := 27) hx hb htg iw_Mo hown hK hP 0 rfl rfl 3 (by decide) (htg _ k3_55) (fun _ h9 => h9) rfl d_Mo_tell_71 ?_
            refine lv_iload hx hb d_Mo_tell_74 (lv_at hl 0 rfl) ?_
            refine lv_iload_n hx hb d_Mo_tell_76 rfl (lv_at hl 3 rfl) ?_
            refine bk_topi (y := nI j6) hx6 ?_
            refine bk_iast (x := nI j6) (f2 := aI (va_up ms (30 + (cn 1)) j6)) hx hb hK hP hD hS 2 0 rfl rfl (by omega) (by decide) (aI_up _ _ _) d_Mo_tell_77 (fun H locs hP hD hS => ?_)
            have hP : va_P (dC, dI) vwCl [(mo, .inr (8, [.int (nI 0), .long sd, .ref m2, .ref m3, .ref m4, .ref m5, .ref m6, .ref m7, .ref m8, .int (nI pn), .ref m10, .ref m11, .ref m12, .ref m13, .ref m14, .ref m15, .int (nI as0), .int (nI dc), .ref m18, .int (nI tc), .ref m20, .ref m21, .ref m22, .ref m23, .ref m24, .ref m25, .ref m26])), (m2, .inl (cI, 2, .inl (aI cn))), (m3, .inl (cI, 60, .inl (aI (va_up ms (30 + (cn 1)) j6)))), (m4, .inl (cI, 60, .inl (aI md))), (m5, .inl (cI, 60, .inl (aI mk))), (m6, .inl (cL, 60, .inr (.inl (aL mg)))), (m8, .inl (cZ, 30, .inl (aB bo)))] H := hP
            have hD : va_D A [(mo, .inr (8, [.int (nI 0), .long sd, .ref m2, .ref m3, .ref m4, .ref m5, .ref m6, .ref m7, .ref m8, .int (nI pn), .ref m10, .ref m11, .ref m12, .ref m13, .ref m14, .ref m15, .int (nI as0), .int (nI dc), .ref m18, .int (nI tc), .ref m20, .ref m21, .ref m22, .ref m23, .ref m24, .ref m25, .ref m26])), (m2, .inl (cI, 2, .inl (aI cn))), (m3, .inl (cI, 60, .inl (aI (va_up ms (30 + (cn 1)) j6)))), (m4, .inl (cI, 60, .inl (aI md))), (m5, .inl (cI, 60, .inl (aI mk))), (m6, .inl (cL, 60, .inr (.inl (aL mg)))), (m8, .inl (cZ, 30, .inl (aB bo)))] := hD
            refine lv_aload_n hx hb d_Mo_tell_78 rfl (lv_at hl 1 rfl) ?_
            refine va_get (D := (dC, dI)) (ci := 8) (v := .ref m4) (C := R_Mo) (T := F_Mo) (N := 27) hx hb htg iw_Mo hown hK hP 0 rfl rfl 4 (by decide) (htg _ k3_56) (fun _ h9 => h9) rfl d_Mo_tell_79 ?_
            refine lv_iload hx hb d_Mo_tell_82 (lv_at hl 0 rfl) ?_
            refine lv_iload_n hx hb d_Mo_tell_84 rfl (lv_at hl 4 rfl) ?_
            refine bk_topi (y := nI j18) hx18 ?_
            refine bk_iast (x := nI j18) (f2 := aI (va_up md (30 + (cn 1)) j18)) hx hb hK hP hD hS 3 0 rfl rfl (by omega) (by decide) (aI_up _ _ _) d_Mo_tell_85 (fun H locs hP hD hS => ?_)
            have hP : va_P (dC, dI) vwCl [(mo, .inr (8, [.int (nI 0), .long sd, .ref m2, .ref m3, .ref m4, .ref m5, .ref m6, .ref m7, .ref m8, .int (nI pn), .ref m10, .ref m11, .ref m12, .ref m13, .ref m14, .ref m15, .int (nI as0), .int (nI dc), .ref m18, .int (nI tc), .ref m20, .ref m21, .ref m22, .ref m23, .ref m24, .ref m25, .ref m26])), (m2, .inl (cI, 2, .inl (aI cn))), (m3, .inl (cI, 60, .inl (aI (va_up ms (30 + (cn 1)) j6)))), (m4, .inl (cI, 60, .inl (aI (va_up md (30 + (cn 1)) j18)))), (m5, .inl (cI, 60, .inl (aI mk))), (m6, .inl (cL, 60, .inr (.inl (aL mg)))), (m8, .inl (cZ, 30, .inl (aB bo)))] H := hP
            have hD : va_D A [(mo, .inr (8, [.int (nI 0), .long sd, .ref m2, .ref m3, .ref m4, .ref m5, .ref m6, .ref m7, .ref m8, .int (nI pn), .ref m10, .ref m11, .ref m12, .ref m13, .ref m14, .ref m15, .int (nI as0), .int (nI dc), .ref m18, .int (nI tc), .ref m20, .ref m21, .ref m22, .ref m23, .ref m24, .ref m25, .ref m26])), (m2, .inl (cI, 2, .inl (aI cn))), (m3, .inl (cI, 60, .inl (aI (va_up ms (30 + (cn 1)) j6)))), (m4, .inl (cI, 60, .inl (aI (va_up md (30 + (cn 1)) j18)))), (m5, .inl (cI, 60, .inl (aI mk))), (m6, .inl (cL, 60, .inr (.inl (aL mg)))), (m8, .inl (cZ, 30, .inl (aB bo)))] := hD
            refine lv_aload_n hx hb d_Mo_tell_86 rfl (lv_at hl 1 rfl) ?_
            refine va_get (D := (dC, dI)) (ci := 8) (v := .ref m5) (C := R_Mo) (T := F_Mo) (N := 27) hx hb htg iw_Mo hown hK hP 0 rfl rfl 5 (by decide) (htg _ k3_57) (fun _ h9 => h9) rfl d_Mo_tell_87 ?_
            refine lv_iload hx hb d_Mo_tell_90 (lv_at hl 0 rfl) ?_
            refine lv_iload hx hb d_Mo_tell_92 (lv_at hl 5 rfl) ?_
            refine bk_topi (y := nI j26) hx26 ?_
            refine bk_iast (x := nI j26) (f2 := aI (va_up mk (30 + (cn 1)) j26)) hx hb hK hP hD hS 4 0 rfl rfl (by omega) (by decide) (aI_up _ _ _) d_Mo_tell_94 (fun H locs hP hD hS => ?_)
            have hP : va_P (dC, dI) vwCl [(mo, .inr (8, [.int (nI 0), .long sd, .ref m2, .ref m3, .ref m4, .ref m5, .ref m6, .ref m7, .ref m8, .int (nI pn), .ref m10, .ref m11, .ref m12, .ref m13, .ref m14, .ref m15, .int (nI as0), .int (nI dc), .ref m18, .int (nI tc), .ref m20, .ref m21, .ref m22, .ref m23, .ref m24, .ref m25, .ref m26])), (m2, .inl (cI, 2, .inl (aI cn))), (m3, .inl (cI, 60, .inl (aI (va_up ms (30 + (cn 1)) j6)))), (m4, .inl (cI, 60, .inl (aI (va_up md (30 + (cn 1)) j18)))), (m5, .inl (cI, 60, .inl (aI (va_up mk (30 + (cn 1)) j26)))), (m6, .inl (cL, 60, .inr (.inl (aL mg)))), (m8, .inl (cZ, 30, .inl (aB bo)))] H := hP
            have hD : va_D A [(mo, .inr (8, [.int (nI 0), .long sd, .ref m2, .ref m3, .ref m4, .ref m5, .ref m6, .ref m7, .ref m8, .int (nI pn), .ref m10, .ref m11, .ref m12, .ref m13, .ref m14, .ref m15, .int (nI as0), .int (nI dc), .ref m18, .int (nI tc), .ref m20, .ref m21, .ref m22, .ref m23, .ref m24, .ref m25, .ref m26])), (m2, .inl (cI, 2, .inl (aI cn))), (m3, .inl (cI, 60, .inl (aI (va_up ms (30 + (cn 1)) j6)))), (m4, .inl (cI, 60, .inl (aI (va_up md (30 + (cn 1)) j18)))), (m5, .inl (cI, 60, .inl (aI (va_up mk (30 + (cn 1)) j26)))), (m6, .inl (cL, 60, .inr (.inl (aL mg)))), (m8, .inl (cZ, 30, .inl (aB bo)))] := hD
            refine lv_aload_n hx hb d_Mo_tell_95 rfl (lv_at hl 1 rfl) ?_
            refine va_get (D := (dC, dI)) (ci := 8) (v := .ref m6) (C := R_Mo) (T := F_Mo) (N := 27) hx hb htg iw_Mo hown hK hP 0 rfl rfl 6 (by decide) (htg _ k3_58) (fun _ h9 => h9) rfl d_Mo_tell_96 ?_
            refine lv_iload hx hb d_Mo_tell_99 (lv_at hl 0 rfl) ?_
            refine lv_lload hx hb d_Mo_tell_101 (lv_at hl 6 rfl) ?_
            refine bk_topl (y := lN j38) hx38 ?_
            refine bk_last (x := lN j38) (f2 := aL (va_up mg (30 + (cn 1)) j38)) hx hb hK hP hD hS 5 1 rfl rfl (by omega) (by decide) (aL_up _ _ _) d_Mo_tell_103 (fun H locs hP hD hS => ?_)
            have hP : va_P (dC, dI) vwCl [(mo, .inr (8, [.int (nI 0), .long sd, .ref m2, .ref m3, .ref m4, .ref m5, .ref m6, .ref m7, .ref m8, .int (nI pn), .ref m10, .ref m11, .ref m12, .ref m13, .ref m14, .ref m15, .int (nI as0), .int (nI dc), .ref m18, .int (nI tc), .ref m20, .ref m21, .ref m22, .ref m23, .ref m24, .ref m25, .ref m26])), (m2, .inl (cI, 2, .inl (aI cn))), (m3, .inl (cI, 60, .inl (aI (va_up ms (30 + (cn 1)) j6)))), (m4, .inl (cI, 60, .inl (aI (va_up md (30 + (cn 1)) j18)))), (m5, .inl (cI, 60, .inl (aI (va_up mk (30 + (cn 1)) j26)))), (m6, .inl (cL, 60, .inr (.inl (aL (va_up mg (30 + (cn 1)) j38))))), (m8, .inl (cZ, 30, .inl (aB bo)))] H := hP
            have hD : va_D A [(mo, .inr (8, [.int (nI 0), .long sd, .ref m2, .ref m3, .ref m4, .ref m5, .ref m6, .ref m7, .ref m8, .int (nI pn), .ref m10, .ref m11, .ref m12, .ref m13, .ref m14, .ref m15, .int (nI as0), .int (nI dc), .ref m18, .int (nI tc), .ref m20, .ref m21, .ref m22, .ref m23, .ref m24, .ref m25, .ref m26])), (m2, .inl (cI, 2, .inl (aI cn))), (m3, .inl (cI, 60, .inl (aI (va_up ms (30 + (cn 1)) j6)))), (m4, .inl (cI, 60, .inl (aI (va_up md (30 + (cn 1)) j18)))), (m5, .inl (cI, 60, .inl (aI (va_up mk (30 + (cn 1)) j26)))), (m6, .inl (cL, 60, .inr (.inl (aL (va_up mg (30 + (cn 1)) j38))))), (m8, .inl (cZ, 30, .inl (aB bo)))] := hD
            refine lv_iload_n hx hb d_Mo_tell_104 rfl (lv_at hl 2 rfl) ?_
            refine bk_if_ne (a := 1) (tgt := 119) hx hb (by omega) d_Mo_tell_105 (by decide) (fun c105 => ?_) (fun c105 => absurd c105 (by decide))
            refine lv_aload_n hx hb d_Mo_tell_119 rfl (lv_at hl 1 rfl) ?_
            refine va_get (D := (dC, dI)) (ci := 8) (v := .ref m8) (C := R_Mo) (T := F_Mo) (N := 27) hx hb htg iw_Mo hown hK hP 0 rfl rfl 8 (by decide) (htg _ k3_60) (fun _ h9 => h9) rfl d_Mo_tell_120 ?_
            refine lv_iload hx hb d_Mo_tell_123 (lv_at hl 0 rfl) ?_
            refine lv_bipush (v := nI 30) hx hb d_Mo_tell_125 (by decide +kernel) ?_
            refine bk_isub hx hb (by omega) d_Mo_tell_127 ?_
            refine bk_topi (y := nI (cn 1)) (by rw [Nat.add_sub_cancel_left]) ?_
            refine lv_iconst (v := nI 0) hx hb d_Mo_tell_128 (by decide +kernel) ?_
            refine bk_zast (x := nI 0) (f2 := aB (va_up bo (cn 1) false)) hx hb hK hP hD hS 6 2 rfl rfl (by omega) (by decide) (aB_up _ _ false) d_Mo_tell_129 (fun H locs hP hD hS => ?_)
            have hP : va_P (dC, dI) vwCl [(mo, .inr (8, [.int (nI 0), .long sd, .ref m2, .ref m3, .ref m4, .ref m5, .ref m6, .ref m7, .ref m8, .int (nI pn), .ref m10, .ref m11, .ref m12, .ref m13, .ref m14, .ref m15, .int (nI as0), .int (nI dc), .ref m18, .int (nI tc), .ref m20, .ref m21, .ref m22, .ref m23, .ref m24, .ref m25, .ref m26])), (m2, .inl (cI, 2, .inl (aI cn))), (m3, .inl (cI, 60, .inl (aI (va_up ms (30 + (cn 1)) j6)))), (m4, .inl (cI, 60, .inl (aI (va_up md (30 + (cn 1)) j18)))), (m5, .inl (cI, 60, .inl (aI (va_up mk (30 + (cn 1)) j26)))), (m6, .inl (cL, 60, .inr (.inl (aL (va_up mg (30 + (cn 1)) j38))))), (m8, .inl (cZ, 30, .inl (aB (va_up bo (cn 1) false))))] H := hP
            have hD : va_D A [(mo, .inr (8, [.int (nI 0), .long sd, .ref m2, .ref m3, .ref m4, .ref m5, .ref m6, .ref m7, .ref m8, .int (nI pn), .ref m10, .ref m11, .ref m12, .ref m13, .ref m14, .ref m15, .int (nI as0), .int (nI dc), .ref m18, .int (nI tc), .ref m20, .ref m21, .ref m22, .ref m23, .ref m24, .ref m25, .ref m26])), (m2, .inl (cI, 2, .inl (aI cn))), (m3, .inl (cI, 60, .inl (aI (va_up ms (30 + (cn 1)) j6)))), (m4, .inl (cI, 60, .inl (aI (va_up md (30 + (cn 1)) j18)))), (m5, .inl (cI, 60, .inl (aI (va_up mk (30 + (cn 1)) j26)))), (m6, .inl (cL, 60, .inr (.inl (aL (va_up mg (30 + (cn 1)) j38))))), (m8, .inl (cZ, 30, .inl (aB (va_up bo (cn 1) false))))] := hD
            refine lv_aload_n hx hb d_Mo_tell_130 rfl (lv_at hl 1 rfl) ?_
            refine va_get (D := (dC, dI)) (ci := 8) (v := .ref m2) (C := R_Mo) (T := F_Mo) (N := 27) hx hb htg iw_Mo hown hK hP 0 rfl rfl 2 (by decide) (htg _ k3_54) (fun _ h9 => h9) rfl d_Mo_tell_131 ?_
            refine lv_iload_n hx hb d_Mo_tell_134 rfl (lv_at hl 2 rfl) ?_
            refine lv_dup2_11 hx hb d_Mo_tell_135 rfl rfl ?_
            refine bk_iald (v := nI (cn 1)) hx hb hK hP 1 0 rfl rfl (by omega) (by decide) rfl d_Mo_tell_136 ?_
            refine lv_iconst (v := nI 1) hx hb d_Mo_tell_137 (by decide +kernel) ?_
            refine bk_iadd hx hb d_Mo_tell_138 ?_
            refine bk_iast (x := nI ((cn 1) + 1)) (f2 := aI (va_up cn 1 ((cn 1) + 1))) hx hb hK hP hD hS 1 0 rfl rfl (by omega) (by decide) (aI_up _ _ _) d_Mo_tell_139 (fun H locs hP hD hS => ?_)
            have hP : va_P (dC, dI) vwCl [(mo, .inr (8, [.int (nI 0), .long sd, .ref m2, .ref m3, .ref m4, .ref m5, .ref m6, .ref m7, .ref m8, .int (nI pn), .ref m10, .ref m11, .ref m12, .ref m13, .ref m14, .ref m15, .int (nI as0), .int (nI dc), .ref m18, .int (nI tc), .ref m20, .ref m21, .ref m22, .ref m23, .ref m24, .ref m25, .ref m26])), (m2, .inl (cI, 2, .inl (aI (va_up cn 1 ((cn 1) + 1))))), (m3, .inl (cI, 60, .inl (aI (va_up ms (30 + (cn 1)) j6)))), (m4, .inl (cI, 60, .inl (aI (va_up md (30 + (cn 1)) j18)))), (m5, .inl (cI, 60, .inl (aI (va_up mk (30 + (cn 1)) j26)))), (m6, .inl (cL, 60, .inr (.inl (aL (va_up mg (30 + (cn 1)) j38))))), (m8, .inl (cZ, 30, .inl (aB (va_up bo (cn 1) false))))] H := hP
            have hD : va_D A [(mo, .inr (8, [.int (nI 0), .long sd, .ref m2, .ref m3, .ref m4, .ref m5, .ref m6, .ref m7, .ref m8, .int (nI pn), .ref m10, .ref m11, .ref m12, .ref m13, .ref m14, .ref m15, .int (nI as0), .int (nI dc), .ref m18, .int (nI tc), .ref m20, .ref m21, .ref m22, .ref m23, .ref m24, .ref m25, .ref m26])), (m2, .inl (cI, 2, .inl (aI (va_up cn 1 ((cn 1) + 1))))), (m3, .inl (cI, 60, .inl (aI (va_up ms (30 + (cn 1)) j6)))), (m4, .inl (cI, 60, .inl (aI (va_up md (30 + (cn 1)) j18)))), (m5, .inl (cI, 60, .inl (aI (va_up mk (30 + (cn 1)) j26)))), (m6, .inl (cL, 60, .inr (.inl (aL (va_up mg (30 + (cn 1)) j38))))), (m8, .inl (cZ, 30, .inl (aB (va_up bo (cn 1) false))))] := hD
            refine lv_aload_n hx hb d_Mo_tell_140 rfl (lv_at hl 1 rfl) ?_
            refine va_get (D := (dC, dI)) (ci := 8) (v := .ref m2) (C := R_Mo) (T := F_Mo) (N := 27) hx hb htg iw_Mo hown hK hP 0 rfl rfl 2 (by decide) (htg _ k3_54) (fun _ h9 => h9) rfl d_Mo_tell_141 ?_
            refine lv_iload_n hx hb d_Mo_tell_144 rfl (lv_at hl 2 rfl) ?_
            refine bk_iald (v := nI ((va_up cn 1 ((cn 1) + 1)) 1)) hx hb hK hP 1 0 rfl rfl (by omega) (by decide) rfl d_Mo_tell_145 ?_
            refine bk_topi (y := nI (cn 1 + 1)) (congrArg nI (if_pos rfl)) ?_
            refine lv_iconst (v := nI 1) hx hb d_Mo_tell_146 (by decide +kernel) ?_
            refine bk_isub hx hb (by omega) d_Mo_tell_147 ?_
            refine bk_topi (y := nI (cn 1)) (by rw [Nat.add_sub_cancel]) ?_
            have hP9 := hP.sub (ws' := [(mo, .inr (8, [.int (nI 0), .long sd, .ref m2, .ref m3, .ref m4, .ref m5, .ref m6, .ref m7, .ref m8, .int (nI pn), .ref m10, .ref m11, .ref m12, .ref m13, .ref m14, .ref m15, .int (nI as0), .int (nI dc), .ref m18, .int (nI tc), .ref m20, .ref m21, .ref m22, .ref m23, .ref m24, .ref m25, .ref m26])), (m2, .inl (cI, 2, .inl (aI (va_up cn 1 (cn 1 + 1))))), (m3, .inl (cI, 60, .inl (aI (va_up ms (30 + (cn 1)) j6)))), (m4, .inl (cI, 60, .inl (aI (va_up md (30 + (cn 1)) j18)))), (m5, .inl (cI, 60, .inl (aI (va_up mk (30 + (cn 1)) j26)))), (m6, .inl (cL, 60, .inr (.inl (aL (va_up mg (30 + (cn 1)) j38))))), (m8, .inl (cZ, 30, .inl (aB (va_up bo (cn 1) false))))]) [0, 1, 2, 3, 4, 5, 6] rfl
            have hD9 := hD.sub (ws' := [(mo, .inr (8, [.int (nI 0), .long sd, .ref m2, .ref m3, .ref m4, .ref m5, .ref m6, .ref m7, .ref m8, .int (nI pn), .ref m10, .ref m11, .ref m12, .ref m13, .ref m14, .ref m15, .int (nI as0), .int (nI dc), .ref m18, .int (nI tc), .ref m20, .ref m21, .ref m22, .ref m23, .ref m24, .ref m25, .ref m26])), (m2, .inl (cI, 2, .inl (aI (va_up cn 1 (cn 1 + 1))))), (m3, .inl (cI, 60, .inl (aI (va_up ms (30 + (cn 1)) j6)))), (m4, .inl (cI, 60, .inl (aI (va_up md (30 + (cn 1)) j18)))), (m5, .inl (cI, 60, .inl (aI (va_up mk (30 + (cn 1)) j26)))), (m6, .inl (cL, 60, .inr (.inl (aL (va_up mg (30 + (cn 1)) j38))))), (m8, .inl (cZ, 30, .inl (aB (va_up bo (cn 1) false))))]) [0, 1, 2, 3, 4, 5, 6] (by decide) rfl
            exact W.iret (v := nI (cn 1)) hx hb hr (fun t9 ht9 hW9 => ⟨⟨nI (cn 1), (va_up cn 1 (cn 1 + 1), va_up ms (30 + (cn 1)) j6, va_up md (30 + (cn 1)) j18, va_up mk (30 + (cn 1)) j26, va_up mg (30 + (cn 1)) j38, va_up bo (cn 1) false), rfl, Or.inl ⟨⟨by omega, ⟨j6, hj6, hx6⟩, ⟨j18, hj18, hx18⟩, ⟨j26, hj26, hx26⟩, ⟨j38, ha38, hj38, hx38⟩⟩, rfl, by rw [hx6, hx18, hx26, hx38, tn_nI (by omega), tn_nI (by omega), tn_nI (by omega), tl_lN (by omega)]⟩, by rw [ht9]; exact hP9, va_K.moved hW9.alike hK, hD9⟩, hS.F ht9⟩) hS.2.2 d_Mo_tell_148
          · refine lv_iconst (v := oI none) hx hb d_Mo_tell_55 (by decide +kernel) ?_
            have hP9 := hP.sub (ws' := [(mo, .inr (8, [.int (nI 0), .long sd, .ref m2, .ref m3, .ref m4, .ref m5, .ref m6, .ref m7, .ref m8, .int (nI pn), .ref m10, .ref m11, .ref m12, .ref m13, .ref m14, .ref m15, .int (nI as0), .int (nI dc), .ref m18, .int (nI tc), .ref m20, .ref m21, .ref m22, .ref m23, .ref m24, .ref m25, .ref m26])), (m2, .inl (cI, 2, .inl (aI cn))), (m3, .inl (cI, 60, .inl (aI ms))), (m4, .inl (cI, 60, .inl (aI md))), (m5, .inl (cI, 60, .inl (aI mk))), (m6, .inl (cL, 60, .inr (.inl (aL mg)))), (m8, .inl (cZ, 30, .inl (aB bo)))]) [0, 1, 2, 3, 4, 5, 6] rfl
            have hD9 := hD.sub (ws' := [(mo, .inr (8, [.int (nI 0), .long sd, .ref m2, .ref m3, .ref m4, .ref m5, .ref m6, .ref m7, .ref m8, .int (nI pn), .ref m10, .ref m11, .ref m12, .ref m13, .ref m14, .ref m15, .int (nI as0), .int (nI dc), .ref m18, .int (nI tc), .ref m20, .ref m21, .ref m22, .ref m23, .ref m24, .ref m25, .ref m26])), (m2, .inl (cI, 2, .inl (aI cn))), (m3, .inl (cI, 60, .inl (aI ms))), (m4, .inl (cI, 60, .inl (aI md))), (m5, .inl (cI, 60, .inl (aI mk))), (m6, .inl (cL, 60, .inr (.inl (aL mg)))), (m8, .inl (cZ, 30, .inl (aB bo)))]) [0, 1, 2, 3, 4, 5, 6] (by decide) rfl
            exact W.iret (v := oI none) hx hb hr (fun t9 ht9 hW9 => ⟨⟨oI none, (cn, ms, md, mk, mg, bo), rfl, Or.inr ⟨fun q => by obtain ⟨q1, q2, q3, q4, q5⟩ := q; first | omega | contradiction | exact n18 q3, rfl, rfl⟩, by rw [ht9]; exact hP9, va_K.moved hW9.alike hK, hD9⟩, hS.F ht9⟩) hS.2.2 d_Mo_tell_56
        · refine bk_if_eq (a := 0) (tgt := 55) hx hb (by omega) d_Mo_tell_41 (by decide) (fun c41 => ?_) (fun c41 => absurd c41 (by decide))
          refine lv_iconst (v := oI none) hx hb d_Mo_tell_55 (by decide +kernel) ?_
          have hP9 := hP.sub (ws' := [(mo, .inr (8, [.int (nI 0), .long sd, .ref m2, .ref m3, .ref m4, .ref m5, .ref m6, .ref m7, .ref m8, .int (nI pn), .ref m10, .ref m11, .ref m12, .ref m13, .ref m14, .ref m15, .int (nI as0), .int (nI dc), .ref m18, .int (nI tc), .ref m20, .ref m21, .ref m22, .ref m23, .ref m24, .ref m25, .ref m26])), (m2, .inl (cI, 2, .inl (aI cn))), (m3, .inl (cI, 60, .inl (aI ms))), (m4, .inl (cI, 60, .inl (aI md))), (m5, .inl (cI, 60, .inl (aI mk))), (m6, .inl (cL, 60, .inr (.inl (aL mg)))), (m8, .inl (cZ, 30, .inl (aB bo)))]) [0, 1, 2, 3, 4, 5, 6] rfl
          have hD9 := hD.sub (ws' := [(mo, .inr (8, [.int (nI 0), .long sd, .ref m2, .ref m3, .ref m4, .ref m5, .ref m6, .ref m7, .ref m8, .int (nI pn), .ref m10, .ref m11, .ref m12, .ref m13, .ref m14, .ref m15, .int (nI as0), .int (nI dc), .ref m18, .int (nI tc), .ref m20, .ref m21, .ref m22, .ref m23, .ref m24, .ref m25, .ref m26])), (m2, .inl (cI, 2, .inl (aI cn))), (m3, .inl (cI, 60, .inl (aI ms))), (m4, .inl (cI, 60, .inl (aI md))), (m5, .inl (cI, 60, .inl (aI mk))), (m6, .inl (cL, 60, .inr (.inl (aL mg)))), (m8, .inl (cZ, 30, .inl (aB bo)))]) [0, 1, 2, 3, 4, 5, 6] (by decide) rfl
          exact W.iret (v := oI none) hx hb hr (fun t9 ht9 hW9 => ⟨⟨oI none, (cn, ms, md, mk, mg, bo), rfl, Or.inr ⟨fun q => by obtain ⟨q1, q2, q3, q4, q5⟩ := q; first | omega | contradiction | exact n18 q3, rfl, rfl⟩, by rw [ht9]; exact hP9, va_K.moved hW9.alike hK, hD9⟩, hS.F ht9⟩) hS.2.2 d_Mo_tell_56
      · refine bk_if_eq (a := 0) (tgt := 55) hx hb (by omega) d_Mo_tell_29 (by decide) (fun c29 => ?_) (fun c29 => absurd c29 (by decide))
        refine lv_iconst (v := oI none) hx hb d_Mo_tell_55 (by decide +kernel) ?_
        have hP9 := hP.sub (ws' := [(mo, .inr (8, [.int (nI 0), .long sd, .ref m2, .ref m3, .ref m4, .ref m5, .ref m6, .ref m7, .ref m8, .int (nI pn), .ref m10, .ref m11, .ref m12, .ref m13, .ref m14, .ref m15, .int (nI as0), .int (nI dc), .ref m18, .int (nI tc), .ref m20, .ref m21, .ref m22, .ref m23, .ref m24, .ref m25, .ref m26])), (m2, .inl (cI, 2, .inl (aI cn))), (m3, .inl (cI, 60, .inl (aI ms))), (m4, .inl (cI, 60, .inl (aI md))), (m5, .inl (cI, 60, .inl (aI mk))), (m6, .inl (cL, 60, .inr (.inl (aL mg)))), (m8, .inl (cZ, 30, .inl (aB bo)))]) [0, 1, 2, 3, 4, 5, 6] rfl
        have hD9 := hD.sub (ws' := [(mo, .inr (8, [.int (nI 0), .long sd, .ref m2, .ref m3, .ref m4, .ref m5, .ref m6, .ref m7, .ref m8, .int (nI pn), .ref m10, .ref m11, .ref m12, .ref m13, .ref m14, .ref m15, .int (nI as0), .int (nI dc), .ref m18, .int (nI tc), .ref m20, .ref m21, .ref m22, .ref m23, .ref m24, .ref m25, .ref m26])), (m2, .inl (cI, 2, .inl (aI cn))), (m3, .inl (cI, 60, .inl (aI ms))), (m4, .inl (cI, 60, .inl (aI md))), (m5, .inl (cI, 60, .inl (aI mk))), (m6, .inl (cL, 60, .inr (.inl (aL mg)))), (m8, .inl (cZ, 30, .inl (aB bo)))]) [0, 1, 2, 3, 4, 5, 6] (by decide) rfl
        exact W.iret (v := oI none) hx hb hr (fun t9 ht9 hW9 => ⟨⟨oI none, (cn, ms, md, mk, mg, bo), rfl, Or.inr ⟨fun q => by obtain ⟨q1, q2, q3, q4, q5⟩ := q; first | omega | contradiction | exact n18 q3, rfl, rfl⟩, by rw [ht9]; exact hP9, va_K.moved hW9.alike hK, hD9⟩, hS.F ht9⟩) hS.2.2 d_Mo_tell_56
    · have n18 := fun z9 => y18 (i64_day.mpr z9)
      refine bk_if_eq (a := 0) (tgt := 55) hx hb (by omega) d_Mo_tell_21 (by decide) (fun c21 => ?_) (fun c21 => absurd c21 (by decide))
      refine lv_iconst (v := oI none) hx hb d_Mo_tell_55 (by decide +kernel) ?_
      have hP9 := hP.sub (ws' := [(mo, .inr (8, [.int (nI 0), .long sd, .ref m2, .ref m3, .ref m4, .ref m5, .ref m6, .ref m7, .ref m8, .int (nI pn), .ref m10, .ref m11, .ref m12, .ref m13, .ref m14, .ref m15, .int (nI as0), .int (nI dc), .ref m18, .int (nI tc), .ref m20, .ref m21, .ref m22, .ref m23, .ref m24, .ref m25, .ref m26])), (m2, .inl (cI, 2, .inl (aI cn))), (m3, .inl (cI, 60, .inl (aI ms))), (m4, .inl (cI, 60, .inl (aI md))), (m5, .inl (cI, 60, .inl (aI mk))), (m6, .inl (cL, 60, .inr (.inl (aL mg)))), (m8, .inl (cZ, 30, .inl (aB bo)))]) [0, 1, 2, 3, 4, 5, 6] rfl
      have hD9 := hD.sub (ws' := [(mo, .inr (8, [.int (nI 0), .long sd, .ref m2, .ref m3, .ref m4, .ref m5, .ref m6, .ref m7, .ref m8, .int (nI pn), .ref m10, .ref m11, .ref m12, .ref m13, .ref m14, .ref m15, .int (nI as0), .int (nI dc), .ref m18, .int (nI tc), .ref m20, .ref m21, .ref m22, .ref m23, .ref m24, .ref m25, .ref m26])), (m2, .inl (cI, 2, .inl (aI cn))), (m3, .inl (cI, 60, .inl (aI ms))), (m4, .inl (cI, 60, .inl (aI md))), (m5, .inl (cI, 60, .inl (aI mk))), (m6, .inl (cL, 60, .inr (.inl (aL mg)))), (m8, .inl (cZ, 30, .inl (aB bo)))]) [0, 1, 2, 3, 4, 5, 6] (by decide) rfl
      exact W.iret (v := oI none) hx hb hr (fun t9 ht9 hW9 => ⟨⟨oI none, (cn, ms, md, mk, mg, bo), rfl, Or.inr ⟨fun q => by obtain ⟨q1, q2, q3, q4, q5⟩ := q; first | omega | contradiction | exact n18 q3, rfl, rfl⟩, by rw [ht9]; exact hP9, va_K.moved hW9.alike hK, hD9⟩, hS.F ht9⟩) hS.2.2 d_Mo_tell_56
  · refine bk_if_eq (a := 0) (tgt := 55) hx hb (by omega) d_Mo_tell_9 (by decide) (fun c9 => ?_) (fun c9 => absurd c9 (by decide))
    refine lv_iconst (v := oI none) hx hb d_Mo_tell_55 (by decide +kernel) ?_
    have hP9 := hP.sub (ws' := [(mo, .inr (8, [.int (nI 0), .long sd, .ref m2, .ref m3, .ref m4, .ref m5, .ref m6, .ref m7, .ref m8, .int (nI pn), .ref m10, .ref m11, .ref m12, .ref m13, .ref m14, .ref m15, .int (nI as0), .int (nI dc), .ref m18, .int (nI tc), .ref m20, .ref m21, .ref m22, .ref m23, .ref m24, .ref m25, .ref m26])), (m2, .inl (cI, 2, .inl (aI cn))), (m3, .inl (cI, 60, .inl (aI ms))), (m4, .inl (cI, 60, .inl (aI md))), (m5, .inl (cI, 60, .inl (aI mk))), (m6, .inl (cL, 60, .inr (.inl (aL mg)))), (m8, .inl (cZ, 30, .inl (aB bo)))]) [0, 1, 2, 3, 4, 5, 6] rfl
    have hD9 := hD.sub (ws' := [(mo, .inr (8, [.int (nI 0), .long sd, .ref m2, .ref m3, .ref m4, .ref m5, .ref m6, .ref m7, .ref m8, .int (nI pn), .ref m10, .ref m11, .ref m12, .ref m13, .ref m14, .ref m15, .int (nI as0), .int (nI dc), .ref m18, .int (nI tc), .ref m20, .ref m21, .ref m22, .ref m23, .ref m24, .ref m25, .ref m26])), (m2, .inl (cI, 2, .inl (aI cn))), (m3, .inl (cI, 60, .inl (aI ms))), (m4, .inl (cI, 60, .inl (aI md))), (m5, .inl (cI, 60, .inl (aI mk))), (m6, .inl (cL, 60, .inr (.inl (aL mg)))), (m8, .inl (cZ, 30, .inl (aB bo)))]) [0, 1, 2, 3, 4, 5, 6] (by decide) rfl
    exact W.iret (v := oI none) hx hb hr (fun t9 ht9 hW9 => ⟨⟨oI none, (cn, ms, md, mk, mg, bo), rfl, Or.inr ⟨fun q => by obtain ⟨q1, q2, q3, q4, q5⟩ := q; first | omega | contradiction | exact n18 q3, rfl, rfl⟩, by rw [ht9]; exact hP9, va_K.moved hW9.alike hK, hD9⟩, hS.F ht9⟩) hS.2.2 d_Mo_tell_56
set_option maxHeartbeats 4000000 in
set_option maxRecDepth 100000 in
theorem c_Mo_sale (l : Launch) (dC : Nat → ClassId) (dI : Nat → Nat → Nat) (cI cL cZ : ClassId) (sz : Nat) (mo co m2 m3 m4 m5 m6 m7 m8 pn m10 m11 m12 m13 m14 m15 as0 dc m18 tc m20 m21 m22 m23 m24 m25 m26 : Nat) (sd : Int64) (cn : Nat → Nat) (ms : Nat → Nat) (md : Nat → Nat) (mk : Nat → Nat) (mg : Nat → Nat) (bo : Nat → Bool) (x1 x2 x3 : Int32) (x4 : Int64) (hn : cn 1 ≤ 30) : Met l y_Mo_sale ws_Mo_sale { frames := 2, cells := 0, slots := 0, locals := 52 } (va_Pc [.ref mo, .int x1, .int x2, .int x3, .long x4] (wrP (dC, dI) vwCl [(cI, .int), (cL, .long), (cZ, .boolean)] [(mo, .inr (8, [.int (nI co), .long sd, .ref m2, .ref m3, .ref m4, .ref m5, .ref m6, .ref m7, .ref m8, .int (nI pn), .ref m10, .ref m11, .ref m12, .ref m13, .ref m14, .ref m15, .int (nI as0), .int (nI dc), .ref m18, .int (nI tc), .ref m20, .ref m21, .ref m22, .ref m23, .ref m24, .ref m25, .ref m26])), (m2, .inl (cI, 2, .inl (aI cn))), (m3, .inl (cI, 60, .inl (aI ms))), (m4, .inl (cI, 60, .inl (aI md))), (m5, .inl (cI, 60, .inl (aI mk))), (m6, .inl (cL, 60, .inr (.inl (aL mg)))), (m8, .inl (cZ, 30, .inl (aB bo)))] sz)) (va_Qi (fun (r : Int32) (u : (Nat → Nat) × (Nat → Nat) × (Nat → Nat) × (Nat → Nat) × (Nat → Nat) × (Nat → Bool)) => (addOk (cn 1) x1 x2 x3 x4 ∧ r = nI (cn 1) ∧ u = (va_up cn 1 (cn 1 + 1), va_up ms (30 + (cn 1)) (tn x1), va_up md (30 + (cn 1)) (tn x2), va_up mk (30 + (cn 1)) (tn x3), va_up mg (30 + (cn 1)) (tl x4), va_up bo (cn 1) false)) ∨ (¬ addOk (cn 1) x1 x2 x3 x4 ∧ r = oI none ∧ u = (cn, ms, md, mk, mg, bo))) (fun (u : (Nat → Nat) × (Nat → Nat) × (Nat → Nat) × (Nat → Nat) × (Nat → Nat) × (Nat → Bool)) => wrQ (dC, dI) vwCl [(cI, .int), (cL, .long), (cZ, .boolean)] (va_A [(mo, .inr (8, [.int (nI co), .long sd, .ref m2, .ref m3, .ref m4, .ref m5, .ref m6, .ref m7, .ref m8, .int (nI pn), .ref m10, .ref m11, .ref m12, .ref m13, .ref m14, .ref m15, .int (nI as0), .int (nI dc), .ref m18, .int (nI tc), .ref m20, .ref m21, .ref m22, .ref m23, .ref m24, .ref m25, .ref m26])), (m2, .inl (cI, 2, .inl (aI cn))), (m3, .inl (cI, 60, .inl (aI ms))), (m4, .inl (cI, 60, .inl (aI md))), (m5, .inl (cI, 60, .inl (aI mk))), (m6, .inl (cL, 60, .inr (.inl (aL mg)))), (m8, .inl (cZ, 30, .inl (aB bo)))] sz) [(mo, .inr (8, [.int (nI 0), .long sd, .ref m2, .ref m3, .ref m4, .ref m5, .ref m6, .ref m7, .ref m8, .int (nI pn), .ref m10, .ref m11, .ref m12, .ref m13, .ref m14, .ref m15, .int (nI as0), .int (nI dc), .ref m18, .int (nI tc), .ref m20, .ref m21, .ref m22, .ref m23, .ref m24, .ref m25, .ref m26])), (m2, .inl (cI, 2, .inl (aI u.1))), (m3, .inl (cI, 60, .inl (aI u.2.1))), (m4, .inl (cI, 60, .inl (aI u.2.2.1))), (m5, .inl (cI, 60, .inl (aI u.2.2.2.1))), (m6, .inl (cL, 60, .inr (.inl (aL u.2.2.2.2.1)))), (m8, .inl (cZ, 30, .inl (aB u.2.2.2.2.2)))]) (va_A [(mo, .inr (8, [.int (nI co), .long sd, .ref m2, .ref m3, .ref m4, .ref m5, .ref m6, .ref m7, .ref m8, .int (nI pn), .ref m10, .ref m11, .ref m12, .ref m13, .ref m14, .ref m15, .int (nI as0), .int (nI dc), .ref m18, .int (nI tc), .ref m20, .ref m21, .ref m22, .ref m23, .ref m24, .ref m25, .ref m26])), (m2, .inl (cI, 2, .inl (aI cn))), (m3, .inl (cI, 60, .inl (aI ms))), (m4, .inl (cI, 60, .inl (aI md))), (m5, .inl (cI, 60, .inl (aI mk))), (m6, .inl (cL, 60, .inr (.inl (aL mg)))), (m8, .inl (cZ, 30, .inl (aB bo)))] sz)) 0 0 (va_A [(mo, .inr (8, [.int (nI co), .long sd, .ref m2, .ref m3, .ref m4, .ref m5, .ref m6, .ref m7, .ref m8, .int (nI pn), .ref m10, .ref m11, .ref m12, .ref m13, .ref m14, .ref m15, .int (nI as0), .int (nI dc), .ref m18, .int (nI tc), .ref m20, .ref m21, .ref m22, .ref m23, .ref m24, .ref m25, .ref m26])), (m2, .inl (cI, 2, .inl (aI cn))), (m3, .inl (cI, 60, .inl (aI ms))), (m4, .inl (cI, 60, .inl (aI md))), (m5, .inl (cI, 60, .inl (aI mk))), (m6, .inl (cL, 60, .inr (.inl (aL mg)))), (m8, .inl (cZ, 30, .inl (aB bo)))] sz) := by
  refine Met.ofW (cc := b_Mo_sale) (maxL := 6) (ret := (some .int)) (by decide) rfl ?_
  intro pr en s m args below meth c s₁ B hml hv
  obtain ⟨rfl, hN, hsz, hP, hK, hD0⟩ := hv
  have hx := B.exec
  have hb := B.bytes
  have hr := B.returns
  have hts := atoms_spec (ws := ws_Mo_sale) B.pre
  have htg : ∀ w ∈ gW, w.before _ s = true := fun w h => hts w (List.mem_cons_of_mem _ h)
  have hown : s.vm.findClass R_Mo = some m.cls := findClass_of_methodNamed B.named
  have hlocks := B.notSynchronized
  subst hsz
  have hD := hD0.self (sz := s.heap.size)
  generalize hAe : va_A [(mo, .inr (8, [.int (nI co), .long sd, .ref m2, .ref m3, .ref m4, .ref m5, .ref m6, .ref m7, .ref m8, .int (nI pn), .ref m10, .ref m11, .ref m12, .ref m13, .ref m14, .ref m15, .int (nI as0), .int (nI dc), .ref m18, .int (nI tc), .ref m20, .ref m21, .ref m22, .ref m23, .ref m24, .ref m25, .ref m26])), (m2, .inl (cI, 2, .inl (aI cn))), (m3, .inl (cI, 60, .inl (aI ms))), (m4, .inl (cI, 60, .inl (aI md))), (m5, .inl (cI, 60, .inl (aI mk))), (m6, .inl (cL, 60, .inr (.inl (aL mg)))), (m8, .inl (cZ, 30, .inl (aB bo)))] s.heap.size = A at hD ⊢
  have hA : ∀ q : Nat, s.heap.size ≤ q → A q := fun q h => by rw [← hAe]; exact Or.inr h
  have hS : va_S A s.heap s.heap [] := va_S.rf
  have hP : va_P (dC, dI) vwCl [(mo, .inr (8, [.int (nI co), .long sd, .ref m2, .ref m3, .ref m4, .ref m5, .ref m6, .ref m7, .ref m8, .int (nI pn), .ref m10, .ref m11, .ref m12, .ref m13, .ref m14, .ref m15, .int (nI as0), .int (nI dc), .ref m18, .int (nI tc), .ref m20, .ref m21, .ref m22, .ref m23, .ref m24, .ref m25, .ref m26])), (m2, .inl (cI, 2, .inl (aI cn))), (m3, .inl (cI, 60, .inl (aI ms))), (m4, .inl (cI, 60, .inl (aI md))), (m5, .inl (cI, 60, .inl (aI mk))), (m6, .inl (cL, 60, .inr (.inl (aL mg)))), (m8, .inl (cZ, 30, .inl (aB bo)))] s.heap := hP
  have hl := lv_entry ([.ref mo, .int x1, .int x2, .int x3, .long x4]) (n := 6) (Nat.le_of_ble_eq_true rfl)
  rw [lg_entry_eq]
  generalize (lg_sl ([.ref mo, .int x1, .int x2, .int x3, .long x4]) ++ List.replicate (6 - (lg_sl ([.ref mo, .int x1, .int x2, .int x3, .long x4])).length) Slot.unset).toArray = ls at hl ⊢
  have hl : lv_has ls 6 [(0, .ref mo), (1, .int x1), (2, .int x2), (3, .int x3), (4, .long x4)] := hl
  refine lv_aload_n hx hb d_Mo_sale_0 rfl (lv_at hl 0 rfl) ?_
  refine lv_iconst (v := nI 1) hx hb d_Mo_sale_1 (by decide +kernel) ?_
  refine lv_iload_n hx hb d_Mo_sale_2 rfl (lv_at hl 1 rfl) ?_
  refine lv_iload_n hx hb d_Mo_sale_3 rfl (lv_at hl 2 rfl) ?_
  refine lv_iload_n hx hb d_Mo_sale_4 rfl (lv_at hl 3 rfl) ?_
  refine lv_lload hx hb d_Mo_sale_5 (lv_at hl 4 rfl) ?_
  have hPc := hP.sub (ws' := [(mo, .inr (8, [.int (nI co), .long sd, .ref m2, .ref m3, .ref m4, .ref m5, .ref m6, .ref m7, .ref m8, .int (nI pn), .ref m10, .ref m11, .ref m12, .ref m13, .ref m14, .ref m15, .int (nI as0), .int (nI dc), .ref m18, .int (nI tc), .ref m20, .ref m21, .ref m22, .ref m23, .ref m24, .ref m25, .ref m26])), (m2, .inl (cI, 2, .inl (aI cn))), (m3, .inl (cI, 60, .inl (aI ms))), (m4, .inl (cI, 60, .inl (aI md))), (m5, .inl (cI, 60, .inl (aI mk))), (m6, .inl (cL, 60, .inr (.inl (aL mg)))), (m8, .inl (cZ, 30, .inl (aB bo)))]) [0, 1, 2, 3, 4, 5, 6] rfl
  have hDc := hD.sub (ws' := [(mo, .inr (8, [.int (nI co), .long sd, .ref m2, .ref m3, .ref m4, .ref m5, .ref m6, .ref m7, .ref m8, .int (nI pn), .ref m10, .ref m11, .ref m12, .ref m13, .ref m14, .ref m15, .int (nI as0), .int (nI dc), .ref m18, .int (nI tc), .ref m20, .ref m21, .ref m22, .ref m23, .ref m24, .ref m25, .ref m26])), (m2, .inl (cI, 2, .inl (aI cn))), (m3, .inl (cI, 60, .inl (aI ms))), (m4, .inl (cI, 60, .inl (aI md))), (m5, .inl (cI, 60, .inl (aI mk))), (m6, .inl (cL, 60, .inr (.inl (aL mg)))), (m8, .inl (cZ, 30, .inl (aB bo)))]) [0, 1, 2, 3, 4, 5, 6] (by decide) rfl
  have hFc := va_free (wc := [(mo, .inr (8, [.int (nI co), .long sd, .ref m2, .ref m3, .ref m4, .ref m5, .ref m6, .ref m7, .ref m8, .int (nI pn), .ref m10, .ref m11, .ref m12, .ref m13, .ref m14, .ref m15, .int (nI as0), .int (nI dc), .ref m18, .int (nI tc), .ref m20, .ref m21, .ref m22, .ref m23, .ref m24, .ref m25, .ref m26])), (m2, .inl (cI, 2, .inl (aI cn))), (m3, .inl (cI, 60, .inl (aI ms))), (m4, .inl (cI, 60, .inl (aI md))), (m5, .inl (cI, 60, .inl (aI mk))), (m6, .inl (cL, 60, .inr (.inl (aL mg)))), (m8, .inl (cZ, 30, .inl (aB bo)))]) hD hS hA [0, 1, 2, 3, 4, 5, 6] rfl
  refine va_calli (va_runV (As := [.int (nI 1), .int x1, .int x2, .int x3, .long x4]) (rest := []) ⟨hx, hb, hml, hown, htg⟩ (c_Mo_tell1 l dC dI cI cL cZ s.heap.size mo co m2 m3 m4 m5 m6 m7 m8 pn m10 m11 m12 m13 m14 m15 as0 dc m18 tc m20 m21 m22 m23 m24 m25 m26 sd cn ms md mk mg bo x1 x2 x3 x4 (by omega)) (cwV 5 htg (gdV k3_143 k3_145 ks_Mo_tell k1_9 kc_Mo_tell) rfl rfl rfl (by decide +kernel) ⟨Nat.le_of_ble_eq_true rfl, Nat.le_of_ble_eq_true rfl⟩) ⟨bk_blindW, va_recv hK hP (ci := 8) (q0 := 0) rfl rfl, fun U hU hW => ⟨rfl, nw_warm hW hN, by rw [hU], by rw [hU]; exact hPc, va_K.moved hW.alike hK, hDc.weaken (fun _ _ _ _ => trivial)⟩⟩ rfl rfl hl.1 rfl (lv_room (Nat.le_of_ble_eq_true rfl)) d_Mo_sale_7 ⟨Nat.le_of_ble_eq_true rfl, Nat.le_of_ble_eq_true rfl⟩) hS (fun q _ h => hFc q h) hFc (fun r7 u t H1 locs ht hvm e7 hB hz1 hk1 hS => ?_)
  obtain ⟨hP1, hK1, hD1⟩ := hB
  rw [ht] at hP1
  try dsimp only at e7
  rcases e7 with ⟨ok7, rfl, rfl⟩ | ⟨no7, rfl, rfl⟩
  · obtain ⟨hP, hD⟩ := va_join (wr := []) (w1 := [(mo, .inr (8, [.int (nI 0), .long sd, .ref m2, .ref m3, .ref m4, .ref m5, .ref m6, .ref m7, .ref m8, .int (nI pn), .ref m10, .ref m11, .ref m12, .ref m13, .ref m14, .ref m15, .int (nI as0), .int (nI dc), .ref m18, .int (nI tc), .ref m20, .ref m21, .ref m22, .ref m23, .ref m24, .ref m25, .ref m26])), (m2, .inl (cI, 2, .inl (aI (va_up cn 1 (cn 1 + 1))))), (m3, .inl (cI, 60, .inl (aI (va_up ms (30 + (cn 1)) (tn x1))))), (m4, .inl (cI, 60, .inl (aI (va_up md (30 + (cn 1)) (tn x2))))), (m5, .inl (cI, 60, .inl (aI (va_up mk (30 + (cn 1)) (tn x3))))), (m6, .inl (cL, 60, .inr (.inl (aL (va_up mg (30 + (cn 1)) (tl x4)))))), (m8, .inl (cZ, 30, .inl (aB (va_up bo (cn 1) false))))]) hP hD [0, 1, 2, 3, 4, 5, 6] [] rfl rfl (by decide) (by decide) hk1 hFc hP1 hD1
    generalize H1 = H at hP hS ⊢
    have hP : va_P (dC, dI) vwCl [(mo, .inr (8, [.int (nI 0), .long sd, .ref m2, .ref m3, .ref m4, .ref m5, .ref m6, .ref m7, .ref m8, .int (nI pn), .ref m10, .ref m11, .ref m12, .ref m13, .ref m14, .ref m15, .int (nI as0), .int (nI dc), .ref m18, .int (nI tc), .ref m20, .ref m21, .ref m22, .ref m23, .ref m24, .ref m25, .ref m26])), (m2, .inl (cI, 2, .inl (aI (va_up cn 1 (cn 1 + 1))))), (m3, .inl (cI, 60, .inl (aI (va_up ms (30 + (cn 1)) (tn x1))))), (m4, .inl (cI, 60, .inl (aI (va_up md (30 + (cn 1)) (tn x2))))), (m5, .inl (cI, 60, .inl (aI (va_up mk (30 + (cn 1)) (tn x3))))), (m6, .inl (cL, 60, .inr (.inl (aL (va_up mg (30 + (cn 1)) (tl x4)))))), (m8, .inl (cZ, 30, .inl (aB (va_up bo (cn 1) false))))] H := hP.sub [0, 1, 2, 3, 4, 5, 6] rfl
    have hD : va_D A [(mo, .inr (8, [.int (nI 0), .long sd, .ref m2, .ref m3, .ref m4, .ref m5, .ref m6, .ref m7, .ref m8, .int (nI pn), .ref m10, .ref m11, .ref m12, .ref m13, .ref m14, .ref m15, .int (nI as0), .int (nI dc), .ref m18, .int (nI tc), .ref m20, .ref m21, .ref m22, .ref m23, .ref m24, .ref m25, .ref m26])), (m2, .inl (cI, 2, .inl (aI (va_up cn 1 (cn 1 + 1))))), (m3, .inl (cI, 60, .inl (aI (va_up ms (30 + (cn 1)) (tn x1))))), (m4, .inl (cI, 60, .inl (aI (va_up md (30 + (cn 1)) (tn x2))))), (m5, .inl (cI, 60, .inl (aI (va_up mk (30 + (cn 1)) (tn x3))))), (m6, .inl (cL, 60, .inr (.inl (aL (va_up mg (30 + (cn 1)) (tl x4)))))), (m8, .inl (cZ, 30, .inl (aB (va_up bo (cn 1) false))))] := hD.sub [0, 1, 2, 3, 4, 5, 6] (by decide) rfl
    have hP9 := hP.sub (ws' := [(mo, .inr (8, [.int (nI 0), .long sd, .ref m2, .ref m3, .ref m4, .ref m5, .ref m6, .ref m7, .ref m8, .int (nI pn), .ref m10, .ref m11, .ref m12, .ref m13, .ref m14, .ref m15, .int (nI as0), .int (nI dc), .ref m18, .int (nI tc), .ref m20, .ref m21, .ref m22, .ref m23, .ref m24, .ref m25, .ref m26])), (m2, .inl (cI, 2, .inl (aI (va_up cn 1 (cn 1 + 1))))), (m3, .inl (cI, 60, .inl (aI (va_up ms (30 + (cn 1)) (tn x1))))), (m4, .inl (cI, 60, .inl (aI (va_up md (30 + (cn 1)) (tn x2))))), (m5, .inl (cI, 60, .inl (aI (va_up mk (30 + (cn 1)) (tn x3))))), (m6, .inl (cL, 60, .inr (.inl (aL (va_up mg (30 + (cn 1)) (tl x4)))))), (m8, .inl (cZ, 30, .inl (aB (va_up bo (cn 1) false))))]) [0, 1, 2, 3, 4, 5, 6] rfl
    have hD9 := hD.sub (ws' := [(mo, .inr (8, [.int (nI 0), .long sd, .ref m2, .ref m3, .ref m4, .ref m5, .ref m6, .ref m7, .ref m8, .int (nI pn), .ref m10, .ref m11, .ref m12, .ref m13, .ref m14, .ref m15, .int (nI as0), .int (nI dc), .ref m18, .int (nI tc), .ref m20, .ref m21, .ref m22, .ref m23, .ref m24, .ref m25, .ref m26])), (m2, .inl (cI, 2, .inl (aI (va_up cn 1 (cn 1 + 1))))), (m3, .inl (cI, 60, .inl (aI (va_up ms (30 + (cn 1)) (tn x1))))), (m4, .inl (cI, 60, .inl (aI (va_up md (30 + (cn 1)) (tn x2))))), (m5, .inl (cI, 60, .inl (aI (va_up mk (30 + (cn 1)) (tn x3))))), (m6, .inl (cL, 60, .inr (.inl (aL (va_up mg (30 + (cn 1)) (tl x4)))))), (m8, .inl (cZ, 30, .inl (aB (va_up bo (cn 1) false))))]) [0, 1, 2, 3, 4, 5, 6] (by decide) rfl
    exact W.iret (v := nI (cn 1)) hx hb hr (fun t9 ht9 hW9 => ⟨⟨nI (cn 1), (va_up cn 1 (cn 1 + 1), va_up ms (30 + (cn 1)) (tn x1), va_up md (30 + (cn 1)) (tn x2), va_up mk (30 + (cn 1)) (tn x3), va_up mg (30 + (cn 1)) (tl x4), va_up bo (cn 1) false), rfl, Or.inl ⟨ok7, rfl, rfl⟩, by rw [ht9]; exact hP9, va_K.moved hW9.alike hK, hD9⟩, hS.F ht9⟩) hS.2.2 d_Mo_sale_10
  · obtain ⟨hP, hD⟩ := va_join (wr := []) (w1 := [(mo, .inr (8, [.int (nI 0), .long sd, .ref m2, .ref m3, .ref m4, .ref m5, .ref m6, .ref m7, .ref m8, .int (nI pn), .ref m10, .ref m11, .ref m12, .ref m13, .ref m14, .ref m15, .int (nI as0), .int (nI dc), .ref m18, .int (nI tc), .ref m20, .ref m21, .ref m22, .ref m23, .ref m24, .ref m25, .ref m26])), (m2, .inl (cI, 2, .inl (aI cn))), (m3, .inl (cI, 60, .inl (aI ms))), (m4, .inl (cI, 60, .inl (aI md))), (m5, .inl (cI, 60, .inl (aI mk))), (m6, .inl (cL, 60, .inr (.inl (aL mg)))), (m8, .inl (cZ, 30, .inl (aB bo)))]) hP hD [0, 1, 2, 3, 4, 5, 6] [] rfl rfl (by decide) (by decide) hk1 hFc hP1 hD1
    generalize H1 = H at hP hS ⊢
    have hP : va_P (dC, dI) vwCl [(mo, .inr (8, [.int (nI 0), .long sd, .ref m2, .ref m3, .ref m4, .ref m5, .ref m6, .ref m7, .ref m8, .int (nI pn), .ref m10, .ref m11, .ref m12, .ref m13, .ref m14, .ref m15, .int (nI as0), .int (nI dc), .ref m18, .int (nI tc), .ref m20, .ref m21, .ref m22, .ref m23, .ref m24, .ref m25, .ref m26])), (m2, .inl (cI, 2, .inl (aI cn))), (m3, .inl (cI, 60, .inl (aI ms))), (m4, .inl (cI, 60, .inl (aI md))), (m5, .inl (cI, 60, .inl (aI mk))), (m6, .inl (cL, 60, .inr (.inl (aL mg)))), (m8, .inl (cZ, 30, .inl (aB bo)))] H := hP.sub [0, 1, 2, 3, 4, 5, 6] rfl
    have hD : va_D A [(mo, .inr (8, [.int (nI 0), .long sd, .ref m2, .ref m3, .ref m4, .ref m5, .ref m6, .ref m7, .ref m8, .int (nI pn), .ref m10, .ref m11, .ref m12, .ref m13, .ref m14, .ref m15, .int (nI as0), .int (nI dc), .ref m18, .int (nI tc), .ref m20, .ref m21, .ref m22, .ref m23, .ref m24, .ref m25, .ref m26])), (m2, .inl (cI, 2, .inl (aI cn))), (m3, .inl (cI, 60, .inl (aI ms))), (m4, .inl (cI, 60, .inl (aI md))), (m5, .inl (cI, 60, .inl (aI mk))), (m6, .inl (cL, 60, .inr (.inl (aL mg)))), (m8, .inl (cZ, 30, .inl (aB bo)))] := hD.sub [0, 1, 2, 3, 4, 5, 6] (by decide) rfl
    have hP9 := hP.sub (ws' := [(mo, .inr (8, [.int (nI 0), .long sd, .ref m2, .ref m3, .ref m4, .ref m5, .ref m6, .ref m7, .ref m8, .int (nI pn), .ref m10, .ref m11, .ref m12, .ref m13, .ref m14, .ref m15, .int (nI as0), .int (nI dc), .ref m18, .int (nI tc), .ref m20, .ref m21, .ref m22, .ref m23, .ref m24, .ref m25, .ref m26])), (m2, .inl (cI, 2, .inl (aI cn))), (m3, .inl (cI, 60, .inl (aI ms))), (m4, .inl (cI, 60, .inl (aI md))), (m5, .inl (cI, 60, .inl (aI mk))), (m6, .inl (cL, 60, .inr (.inl (aL mg)))), (m8, .inl (cZ, 30, .inl (aB bo)))]) [0, 1, 2, 3, 4, 5, 6] rfl
    have hD9 := hD.sub (ws' := [(mo, .inr (8, [.int (nI 0), .long sd, .ref m2, .ref m3, .ref m4, .ref m5, .ref m6, .ref m7, .ref m8, .int (nI pn), .ref m10, .ref m11, .ref m12, .ref m13, .ref m14, .ref m15, .int (nI as0), .int (nI dc), .ref m18, .int (nI tc), .ref m20, .ref m21, .ref m22, .ref m23, .ref m24, .ref m25, .ref m26])), (m2, .inl (cI, 2, .inl (aI cn))), (m3, .inl (cI, 60, .inl (aI ms))), (m4, .inl (cI, 60, .inl (aI md))), (m5, .inl (cI, 60, .inl (aI mk))), (m6, .inl (cL, 60, .inr (.inl (aL mg)))), (m8, .inl (cZ, 30, .inl (aB bo)))]) [0, 1, 2, 3, 4, 5, 6] (by decide) rfl
    exact W.iret (v := oI none) hx hb hr (fun t9 ht9 hW9 => ⟨⟨oI none, (cn, ms, md, mk, mg, bo), rfl, Or.inr ⟨no7, rfl, rfl⟩, by rw [ht9]; exact hP9, va_K.moved hW9.alike hK, hD9⟩, hS.F ht9⟩) hS.2.2 d_Mo_sale_10
set_option maxHeartbeats 4000000 in
set_option maxRecDepth 100000 in
theorem c_Mo_pointsOf (l : Launch) (dC : Nat → ClassId) (dI : Nat → Nat → Nat) (cI cL cZ : ClassId) (mo co m2 m3 m4 m5 m6 m7 m8 pn m10 m11 m12 m13 m14 m15 as0 dc m18 tc m20 m21 m22 m23 m24 m25 m26 : Nat) (sd : Int64) (cn : Nat → Nat) (ms : Nat → Nat) (md : Nat → Nat) (mk : Nat → Nat) (mg : Nat → Nat) (p q : Nat) (hi : bkI (cn 0) ms md mk mg) (hi2 : bkI (cn 1) (sh30 ms) (sh30 md) (sh30 mk) (sh30 mg)) (hp : p < cn 0) (hq : q < cn 1) : Met l y_Mo_pointsOf ws_Mo_pointsOf { frames := 0, cells := 0, slots := 0, locals := 0 } (va_Pc [.ref mo, .int (nI p), .int (nI q)] (rdP (dC, dI) vwCl [(cI, .int), (cL, .long), (cZ, .boolean)] [(mo, .inr (8, [.int (nI co), .long sd, .ref m2, .ref m3, .ref m4, .ref m5, .ref m6, .ref m7, .ref m8, .int (nI pn), .ref m10, .ref m11, .ref m12, .ref m13, .ref m14, .ref m15, .int (nI as0), .int (nI dc), .ref m18, .int (nI tc), .ref m20, .ref m21, .ref m22, .ref m23, .ref m24, .ref m25, .ref m26])), (m2, .inl (cI, 2, .inl (aI cn))), (m3, .inl (cI, 60, .inl (aI ms))), (m4, .inl (cI, 60, .inl (aI md))), (m5, .inl (cI, 60, .inl (aI mk))), (m6, .inl (cL, 60, .inr (.inl (aL mg))))])) (vp_Si (fun r => r = nI ((ptOf ms md mk mg (sh30 ms) (sh30 md) (sh30 mk) (sh30 mg)) p q))) 0 0 (fun _ => False) := by
  refine Met.ofW (cc := b_Mo_pointsOf) (maxL := 10) (ret := (some .int)) (by decide) rfl ?_
  intro pr en s m args below meth c s₁ B hml hv
  obtain ⟨rfl, hN, hP, hK⟩ := hv
  have hx := B.exec
  have hb := B.bytes
  have hr := B.returns
  have hts := atoms_spec (ws := ws_Mo_pointsOf) B.pre
  have htg : ∀ w ∈ gW, w.before _ s = true := fun w h => hts w (List.mem_cons_of_mem _ h)
  have hown : s.vm.findClass R_Mo = some m.cls := findClass_of_methodNamed B.named
  have hlocks := B.notSynchronized
  have hl := lv_entry ([.ref mo, .int (nI p), .int (nI q)]) (n := 10) (Nat.le_of_ble_eq_true rfl)
  rw [lg_entry_eq]
  generalize (lg_sl ([.ref mo, .int (nI p), .int (nI q)]) ++ List.replicate (10 - (lg_sl ([.ref mo, .int (nI p), .int (nI q)])).length) Slot.unset).toArray = ls at hl ⊢
  have hl : lv_has ls 10 [(0, .ref mo), (1, .int (nI p)), (2, .int (nI q))] := hl
  have hn := hi.1
  have hn2 := hi2.1
  obtain ⟨f1, f2, f3, f4, f5⟩ := hi.2 p hp
  obtain ⟨g1, g2, g3, g4, g5⟩ : ms (30 + q) < 10 ∧ md (30 + q) ≤ 100000 ∧ mk (30 + q) < 10 ∧ 1 ≤ mg (30 + q) ∧ mg (30 + q) ≤ 1000000000 := hi2.2 q hq
  have hlo := lostG_le (a := mg p) (b := mg (30 + q))
  refine lv_bipush (v := nI 30) hx hb d_Mo_pointsOf_0 (by decide +kernel) ?_
  refine lv_iload_n hx hb d_Mo_pointsOf_2 rfl (lv_at hl 2 rfl) ?_
  refine bk_iadd hx hb d_Mo_pointsOf_3 ?_
  refine lv_istore_n (lv' := [(3, .int (nI (30 + q))), (0, .ref mo), (1, .int (nI p)), (2, .int (nI q))]) hx hb d_Mo_pointsOf_4 rfl hl (by decide) rfl (fun ls hl => ?_)
  refine lv_aload_n hx hb d_Mo_pointsOf_5 rfl (lv_at hl 1 rfl) ?_
  refine va_get (D := (dC, dI)) (ci := 8) (v := .ref m4) (C := R_Mo) (T := F_Mo) (N := 27) hx hb htg iw_Mo hown hK hP 0 rfl rfl 4 (by decide) (htg _ k3_56) (fun _ h9 => h9) rfl d_Mo_pointsOf_6 ?_
  refine lv_iload_n hx hb d_Mo_pointsOf_9 rfl (lv_at hl 0 rfl) ?_
  refine bk_iald (v := nI (md (30 + q))) hx hb hK hP 3 0 rfl rfl (by omega) (by decide) rfl d_Mo_pointsOf_10 ?_
  refine lv_aload_n hx hb d_Mo_pointsOf_11 rfl (lv_at hl 1 rfl) ?_
  refine va_get (D := (dC, dI)) (ci := 8) (v := .ref m4) (C := R_Mo) (T := F_Mo) (N := 27) hx hb htg iw_Mo hown hK hP 0 rfl rfl 4 (by decide) (htg _ k3_56) (fun _ h9 => h9) rfl d_Mo_pointsOf_12 ?_
  refine lv_iload_n hx hb d_Mo_pointsOf_15 rfl (lv_at hl 2 rfl) ?_
  refine bk_iald (v := nI (md p)) hx hb hK hP 3 0 rfl rfl (by omega) (by decide) rfl d_Mo_pointsOf_16 ?_
  rcases Nat.lt_or_ge (md (30 + q)) (md p) with h17 | h17
  · refine lv_isub hx hb d_Mo_pointsOf_17 ?_
    refine lv_istore (lv' := [(4, .int ((nI (md (30 + q))) - (nI (md p)))), (3, .int (nI (30 + q))), (0, .ref mo), (1, .int (nI p)), (2, .int (nI q))]) hx hb d_Mo_pointsOf_18 hl (by decide) rfl (fun ls hl => ?_)
    refine lv_aload_n hx hb d_Mo_pointsOf_20 rfl (lv_at hl 2 rfl) ?_
    refine va_get (D := (dC, dI)) (ci := 8) (v := .ref m3) (C := R_Mo) (T := F_Mo) (N := 27) hx hb htg iw_Mo hown hK hP 0 rfl rfl 3 (by decide) (htg _ k3_55) (fun _ h9 => h9) rfl d_Mo_pointsOf_21 ?_
    refine lv_iload_n hx hb d_Mo_pointsOf_24 rfl (lv_at hl 1 rfl) ?_
    refine bk_iald (v := nI (ms (30 + q))) hx hb hK hP 2 0 rfl rfl (by omega) (by decide) rfl d_Mo_pointsOf_25 ?_
    refine lv_aload_n hx hb d_Mo_pointsOf_26 rfl (lv_at hl 2 rfl) ?_
    refine va_get (D := (dC, dI)) (ci := 8) (v := .ref m3) (C := R_Mo) (T := F_Mo) (N := 27) hx hb htg iw_Mo hown hK hP 0 rfl rfl 3 (by decide) (htg _ k3_55) (fun _ h9 => h9) rfl d_Mo_pointsOf_27 ?_
    refine lv_iload_n hx hb d_Mo_pointsOf_30 rfl (lv_at hl 3 rfl) ?_
    refine bk_iald (v := nI (ms p)) hx hb hK hP 2 0 rfl rfl (by omega) (by decide) rfl d_Mo_pointsOf_31 ?_
    refine bk_icmp_ne (a := ms (30 + q)) (b := ms p) (tgt := 61) hx hb (by omega) (by omega) d_Mo_pointsOf_32 (by decide) (fun c32 => ?_) (fun c32 => ?_)
    · refine lv_iconst (v := nI 0) hx hb d_Mo_pointsOf_61 (by decide +kernel) ?_
      exact W.iret (v := nI 0) hx hb hr (fun t9 ht9 hW9 => ⟨nI 0, rfl, (congrArg nI (ptM_no (by omega)).symm), ht9⟩) (fun q h => nomatch h) d_Mo_pointsOf_62
    · refine lv_aload_n hx hb d_Mo_pointsOf_35 rfl (lv_at hl 2 rfl) ?_
      refine va_get (D := (dC, dI)) (ci := 8) (v := .ref m5) (C := R_Mo) (T := F_Mo) (N := 27) hx hb htg iw_Mo hown hK hP 0 rfl rfl 5 (by decide) (htg _ k3_57) (fun _ h9 => h9) rfl d_Mo_pointsOf_36 ?_
      refine lv_iload_n hx hb d_Mo_pointsOf_39 rfl (lv_at hl 1 rfl) ?_
      refine bk_iald (v := nI (mk (30 + q))) hx hb hK hP 4 0 rfl rfl (by omega) (by decide) rfl d_Mo_pointsOf_40 ?_
      refine lv_aload_n hx hb d_Mo_pointsOf_41 rfl (lv_at hl 2 rfl) ?_
      refine va_get (D := (dC, dI)) (ci := 8) (v := .ref m5) (C := R_Mo) (T := F_Mo) (N := 27) hx hb htg iw_Mo hown hK hP 0 rfl rfl 5 (by decide) (htg _ k3_57) (fun _ h9 => h9) rfl d_Mo_pointsOf_42 ?_
      refine lv_iload_n hx hb d_Mo_pointsOf_45 rfl (lv_at hl 3 rfl) ?_
      refine bk_iald (v := nI (mk p)) hx hb hK hP 4 0 rfl rfl (by omega) (by decide) rfl d_Mo_pointsOf_46 ?_
      refine bk_icmp_ne (a := mk (30 + q)) (b := mk p) (tgt := 61) hx hb (by omega) (by omega) d_Mo_pointsOf_47 (by decide) (fun c47 => ?_) (fun c47 => ?_)
      · refine lv_iconst (v := nI 0) hx hb d_Mo_pointsOf_61 (by decide +kernel) ?_
        exact W.iret (v := nI 0) hx hb hr (fun t9 ht9 hW9 => ⟨nI 0, rfl, (congrArg nI (ptM_no (by omega)).symm), ht9⟩) (fun q h => nomatch h) d_Mo_pointsOf_62
      · refine lv_iload hx hb d_Mo_pointsOf_50 (lv_at hl 0 rfl) ?_
        refine lv_if_lt (x := ((nI (md (30 + q))) - (nI (md p)))) (tgt := 61) hx hb d_Mo_pointsOf_52 (by decide) (fun c52 => ?_) (fun c52 => absurd (pk_sneg (by omega) h17) c52)
        refine lv_iconst (v := nI 0) hx hb d_Mo_pointsOf_61 (by decide +kernel) ?_
        exact W.iret (v := nI 0) hx hb hr (fun t9 ht9 hW9 => ⟨nI 0, rfl, (congrArg nI (ptM_no (by omega)).symm), ht9⟩) (fun q h => nomatch h) d_Mo_pointsOf_62
  · refine bk_isub hx hb h17 d_Mo_pointsOf_17 ?_
    refine lv_istore (lv' := [(4, .int (nI ((md (30 + q)) - (md p)))), (3, .int (nI (30 + q))), (0, .ref mo), (1, .int (nI p)), (2, .int (nI q))]) hx hb d_Mo_pointsOf_18 hl (by decide) rfl (fun ls hl => ?_)
    refine lv_aload_n hx hb d_Mo_pointsOf_20 rfl (lv_at hl 2 rfl) ?_
    refine va_get (D := (dC, dI)) (ci := 8) (v := .ref m3) (C := R_Mo) (T := F_Mo) (N := 27) hx hb htg iw_Mo hown hK hP 0 rfl rfl 3 (by decide) (htg _ k3_55) (fun _ h9 => h9) rfl d_Mo_pointsOf_21 ?_
    refine lv_iload_n hx hb d_Mo_pointsOf_24 rfl (lv_at hl 1 rfl) ?_
    refine bk_iald (v := nI (ms (30 + q))) hx hb hK hP 2 0 rfl rfl (by omega) (by decide) rfl d_Mo_pointsOf_25 ?_
    refine lv_aload_n hx hb d_Mo_pointsOf_26 rfl (lv_at hl 2 rfl) ?_
    refine va_get (D := (dC, dI)) (ci := 8) (v := .ref m3) (C := R_Mo) (T := F_Mo) (N := 27) hx hb htg iw_Mo hown hK hP 0 rfl rfl 3 (by decide) (htg _ k3_55) (fun _ h9 => h9) rfl d_Mo_pointsOf_27 ?_
    refine lv_iload_n hx hb d_Mo_pointsOf_30 rfl (lv_at hl 3 rfl) ?_
    refine bk_iald (v := nI (ms p)) hx hb hK hP 2 0 rfl rfl (by omega) (by decide) rfl d_Mo_pointsOf_31 ?_
    refine bk_icmp_ne (a := ms (30 + q)) (b := ms p) (tgt := 61) hx hb (by omega) (by omega) d_Mo_pointsOf_32 (by decide) (fun c32 => ?_) (fun c32 => ?_)
    · refine lv_iconst (v := nI 0) hx hb d_Mo_pointsOf_61 (by decide +kernel) ?_
      exact W.iret (v := nI 0) hx hb hr (fun t9 ht9 hW9 => ⟨nI 0, rfl, (congrArg nI (ptM_no (by omega)).symm), ht9⟩) (fun q h => nomatch h) d_Mo_pointsOf_62
    · refine lv_aload_n hx hb d_Mo_pointsOf_35 rfl (lv_at hl 2 rfl) ?_
      refine va_get (D := (dC, dI)) (ci := 8) (v := .ref m5) (C := R_Mo) (T := F_Mo) (N := 27) hx hb htg iw_Mo hown hK hP 0 rfl rfl 5 (by decide) (htg _ k3_57) (fun _ h9 => h9) rfl d_Mo_pointsOf_36 ?_
      refine lv_iload_n hx hb d_Mo_pointsOf_39 rfl (lv_at hl 1 rfl) ?_
      refine bk_iald (v := nI (mk (30 + q))) hx hb hK hP 4 0 rfl rfl (by omega) (by decide) rfl d_Mo_pointsOf_40 ?_
      refine lv_aload_n hx hb d_Mo_pointsOf_41 rfl (lv_at hl 2 rfl) ?_
      refine va_get (D := (dC, dI)) (ci := 8) (v := .ref m5) (C := R_Mo) (T := F_Mo) (N := 27) hx hb htg iw_Mo hown hK hP 0 rfl rfl 5 (by decide) (htg _ k3_57) (fun _ h9 => h9) rfl d_Mo_pointsOf_42 ?_
      refine lv_iload_n hx hb d_Mo_pointsOf_45 rfl (lv_at hl 3 rfl) ?_
      refine bk_iald (v := nI (mk p)) hx hb hK hP 4 0 rfl rfl (by omega) (by decide) rfl d_Mo_pointsOf_46 ?_
      refine bk_icmp_ne (a := mk (30 + q)) (b := mk p) (tgt := 61) hx hb (by omega) (by omega) d_Mo_pointsOf_47 (by decide) (fun c47 => ?_) (fun c47 => ?_)
      · refine lv_iconst (v := nI 0) hx hb d_Mo_pointsOf_61 (by decide +kernel) ?_
        exact W.iret (v := nI 0) hx hb hr (fun t9 ht9 hW9 => ⟨nI 0, rfl, (congrArg nI (ptM_no (by omega)).symm), ht9⟩) (fun q h => nomatch h) d_Mo_pointsOf_62
      · refine lv_iload hx hb d_Mo_pointsOf_50 (lv_at hl 0 rfl) ?_
        refine bk_if_lt (a := (md (30 + q)) - (md p)) (tgt := 61) hx hb (by omega) d_Mo_pointsOf_52 (by decide) (fun c52 => c52.elim) (fun c52 => ?_)
        refine lv_iload hx hb d_Mo_pointsOf_55 (lv_at hl 0 rfl) ?_
        refine lv_iconst (v := nI 5) hx hb d_Mo_pointsOf_57 (by decide +kernel) ?_
        refine bk_icmp_le (a := (md (30 + q)) - (md p)) (b := 5) (tgt := 63) hx hb (by omega) (by omega) d_Mo_pointsOf_58 (by decide) (fun c58 => ?_) (fun c58 => ?_)
        · refine lv_aload_n hx hb d_Mo_pointsOf_63 rfl (lv_at hl 2 rfl) ?_
          refine va_get (D := (dC, dI)) (ci := 8) (v := .ref m6) (C := R_Mo) (T := F_Mo) (N := 27) hx hb htg iw_Mo hown hK hP 0 rfl rfl 6 (by decide) (htg _ k3_58) (fun _ h9 => h9) rfl d_Mo_pointsOf_64 ?_
          refine lv_iload_n hx hb d_Mo_pointsOf_67 rfl (lv_at hl 1 rfl) ?_
          refine bk_lald (v := lN (mg (30 + q))) hx hb hK hP 5 1 rfl rfl (by omega) (by decide) rfl d_Mo_pointsOf_68 ?_
          refine lv_aload_n hx hb d_Mo_pointsOf_69 rfl (lv_at hl 2 rfl) ?_
          refine va_get (D := (dC, dI)) (ci := 8) (v := .ref m6) (C := R_Mo) (T := F_Mo) (N := 27) hx hb htg iw_Mo hown hK hP 0 rfl rfl 6 (by decide) (htg _ k3_58) (fun _ h9 => h9) rfl d_Mo_pointsOf_70 ?_
          refine lv_iload_n hx hb d_Mo_pointsOf_73 rfl (lv_at hl 3 rfl) ?_
          refine bk_lald (v := lN (mg p)) hx hb hK hP 5 1 rfl rfl (by omega) (by decide) rfl d_Mo_pointsOf_74 ?_
          refine bk_ncmp_le (a := mg (30 + q)) (b := mg p) (tgt := 88) hx hb (by omega) (by omega) d_Mo_pointsOf_75 d_Mo_pointsOf_76 (by decide) (fun c75 => ?_) (fun c75 => ?_)
          · refine lv_aload_n hx hb d_Mo_pointsOf_88 rfl (lv_at hl 2 rfl) ?_
            refine va_get (D := (dC, dI)) (ci := 8) (v := .ref m6) (C := R_Mo) (T := F_Mo) (N := 27) hx hb htg iw_Mo hown hK hP 0 rfl rfl 6 (by decide) (htg _ k3_58) (fun _ h9 => h9) rfl d_Mo_pointsOf_89 ?_
            refine lv_iload_n hx hb d_Mo_pointsOf_92 rfl (lv_at hl 3 rfl) ?_
            refine bk_lald (v := lN (mg p)) hx hb hK hP 5 1 rfl rfl (by omega) (by decide) rfl d_Mo_pointsOf_93 ?_
            refine lv_lstore (lv' := [(5, .long (lN (mg p))), (4, .int (nI ((md (30 + q)) - (md p)))), (3, .int (nI (30 + q))), (0, .ref mo), (1, .int (nI p)), (2, .int (nI q))]) hx hb d_Mo_pointsOf_94 hl (by decide) rfl (fun ls hl => ?_)
            refine lv_aload_n hx hb d_Mo_pointsOf_96 rfl (lv_at hl 3 rfl) ?_
            refine va_get (D := (dC, dI)) (ci := 8) (v := .ref m6) (C := R_Mo) (T := F_Mo) (N := 27) hx hb htg iw_Mo hown hK hP 0 rfl rfl 6 (by decide) (htg _ k3_58) (fun _ h9 => h9) rfl d_Mo_pointsOf_97 ?_
            refine lv_iload_n hx hb d_Mo_pointsOf_100 rfl (lv_at hl 2 rfl) ?_
            refine bk_lald (v := lN (mg (30 + q))) hx hb hK hP 5 1 rfl rfl (by omega) (by decide) rfl d_Mo_pointsOf_101 ?_
            refine lv_aload_n hx hb d_Mo_pointsOf_102 rfl (lv_at hl 3 rfl) ?_
            refine va_get (D := (dC, dI)) (ci := 8) (v := .ref m6) (C := R_Mo) (T := F_Mo) (N := 27) hx hb htg iw_Mo hown hK hP 0 rfl rfl 6 (by decide) (htg _ k3_58) (fun _ h9 => h9) rfl d_Mo_pointsOf_103 ?_
            refine lv_iload_n hx hb d_Mo_pointsOf_106 rfl (lv_at hl 4 rfl) ?_
            refine bk_lald (v := lN (mg p)) hx hb hK hP 5 1 rfl rfl (by omega) (by decide) rfl d_Mo_pointsOf_107 ?_
            refine bk_ncmp_le (a := mg (30 + q)) (b := mg p) (tgt := 121) hx hb (by omega) (by omega) d_Mo_pointsOf_108 d_Mo_pointsOf_109 (by decide) (fun c108 => ?_) (fun c108 => by exfalso; omega)
            refine lv_aload_n hx hb d_Mo_pointsOf_121 rfl (lv_at hl 3 rfl) ?_
            refine va_get (D := (dC, dI)) (ci := 8) (v := .ref m6) (C := R_Mo) (T := F_Mo) (N := 27) hx hb htg iw_Mo hown hK hP 0 rfl rfl 6 (by decide) (htg _ k3_58) (fun _ h9 => h9) rfl d_Mo_pointsOf_122 ?_
            refine lv_iload_n hx hb d_Mo_pointsOf_125 rfl (lv_at hl 2 rfl) ?_
            refine bk_lald (v := lN (mg (30 + q))) hx hb hK hP 5 1 rfl rfl (by omega) (by decide) rfl d_Mo_pointsOf_126 ?_
            refine lv_lstore (lv' := [(7, .long (lN (mg (30 + q)))), (5, .long (lN (mg p))), (4, .int (nI ((md (30 + q)) - (md p)))), (3, .int (nI (30 + q))), (0, .ref mo), (1, .int (nI p)), (2, .int (nI q))]) hx hb d_Mo_pointsOf_127 hl (by decide) rfl (fun ls hl => ?_)
            refine lv_sipush (v := nI 1000) hx hb d_Mo_pointsOf_129 (by decide +kernel) ?_
            refine lv_bipush (v := nI 100) hx hb d_Mo_pointsOf_132 (by decide +kernel) ?_
            refine lv_iload hx hb d_Mo_pointsOf_134 (lv_at hl 2 rfl) ?_
            refine bk_imul hx hb d_Mo_pointsOf_136 ?_
            refine bk_isub hx hb (by omega) d_Mo_pointsOf_137 ?_
            refine lv_ldc2 (own := R_Mo) (v := 900) hx hb hown (htg _ k3_167) d_Mo_pointsOf_138 ?_
            refine bk_topl (y := lN 900) (by decide +kernel) ?_
            refine lv_lload hx hb d_Mo_pointsOf_141 (lv_at hl 1 rfl) ?_
            refine lv_lload hx hb d_Mo_pointsOf_143 (lv_at hl 0 rfl) ?_
            refine bk_lsub hx hb (by omega) d_Mo_pointsOf_145 ?_
            refine bk_lmul hx hb d_Mo_pointsOf_146 ?_
            refine lv_lload hx hb d_Mo_pointsOf_147 (lv_at hl 1 rfl) ?_
            refine bk_ldiv hx hb (by omega) (by omega) (by omega) d_Mo_pointsOf_149 ?_
            have hlq := lostG_l (a := mg p) (b := mg (30 + q)) (by omega)
            refine bk_l2i hx hb d_Mo_pointsOf_150 ?_
            rcases Nat.lt_or_ge (1000 - (100 * ((md (30 + q)) - (md p)))) ((900 * ((mg p) - (mg (30 + q)))) / (mg p)) with h151 | h151
            · refine lv_isub hx hb d_Mo_pointsOf_151 ?_
              refine lv_istore (lv' := [(9, .int ((nI (1000 - (100 * ((md (30 + q)) - (md p))))) - (nI ((900 * ((mg p) - (mg (30 + q)))) / (mg p))))), (7, .long (lN (mg (30 + q)))), (5, .long (lN (mg p))), (4, .int (nI ((md (30 + q)) - (md p)))), (3, .int (nI (30 + q))), (0, .ref mo), (1, .int (nI p)), (2, .int (nI q))]) hx hb d_Mo_pointsOf_152 hl (by decide) rfl (fun ls hl => ?_)
              refine lv_iload hx hb d_Mo_pointsOf_154 (lv_at hl 0 rfl) ?_
              refine lv_if_le (x := ((nI (1000 - (100 * ((md (30 + q)) - (md p))))) - (nI ((900 * ((mg p) - (mg (30 + q)))) / (mg p))))) (tgt := 164) hx hb d_Mo_pointsOf_156 (by decide) (fun c156 => ?_) (fun c156 => absurd (pk_sle (by omega) h151) c156)
              refine lv_iconst (v := nI 0) hx hb d_Mo_pointsOf_164 (by decide +kernel) ?_
              exact W.iret (v := nI 0) hx hb hr (fun t9 ht9 hW9 => ⟨nI 0, rfl, (by show _ = nI ((ptOf ms md mk mg (sh30 ms) (sh30 md) (sh30 mk) (sh30 mg)) p q); rw [ptM_yes (by omega), hlq] <;> first | rfl | (congr 1; omega)), ht9⟩) (fun q h => nomatch h) d_Mo_pointsOf_165
            · refine bk_isub hx hb h151 d_Mo_pointsOf_151 ?_
              refine lv_istore (lv' := [(9, .int (nI ((1000 - (100 * ((md (30 + q)) - (md p)))) - ((900 * ((mg p) - (mg (30 + q)))) / (mg p))))), (7, .long (lN (mg (30 + q)))), (5, .long (lN (mg p))), (4, .int (nI ((md (30 + q)) - (md p)))), (3, .int (nI (30 + q))), (0, .ref mo), (1, .int (nI p)), (2, .int (nI q))]) hx hb d_Mo_pointsOf_152 hl (by decide) rfl (fun ls hl => ?_)
              refine lv_iload hx hb d_Mo_pointsOf_154 (lv_at hl 0 rfl) ?_
              refine bk_if_le (a := (1000 - (100 * ((md (30 + q)) - (md p)))) - ((900 * ((mg p) - (mg (30 + q)))) / (mg p))) (tgt := 164) hx hb (by omega) d_Mo_pointsOf_156 (by decide) (fun c156 => ?_) (fun c156 => ?_)
              · refine lv_iconst (v := nI 0) hx hb d_Mo_pointsOf_164 (by decide +kernel) ?_
                exact W.iret (v := nI 0) hx hb hr (fun t9 ht9 hW9 => ⟨nI 0, rfl, (by show _ = nI ((ptOf ms md mk mg (sh30 ms) (sh30 md) (sh30 mk) (sh30 mg)) p q); rw [ptM_yes (by omega), hlq] <;> first | rfl | (congr 1; omega)), ht9⟩) (fun q h => nomatch h) d_Mo_pointsOf_165
              · refine lv_iload hx hb d_Mo_pointsOf_159 (lv_at hl 0 rfl) ?_
                refine lv_goto (tgt := 165) hx hb d_Mo_pointsOf_161 (by decide) ?_
                exact W.iret (v := nI ((1000 - (100 * ((md (30 + q)) - (md p)))) - ((900 * ((mg p) - (mg (30 + q)))) / (mg p)))) hx hb hr (fun t9 ht9 hW9 => ⟨nI ((1000 - (100 * ((md (30 + q)) - (md p)))) - ((900 * ((mg p) - (mg (30 + q)))) / (mg p))), rfl, (by show _ = nI ((ptOf ms md mk mg (sh30 ms) (sh30 md) (sh30 mk) (sh30 mg)) p q); rw [ptM_yes (by omega), hlq] <;> first | rfl | (congr 1; omega)), ht9⟩) (fun q h => nomatch h) d_Mo_pointsOf_165
          · refine lv_aload_n hx hb d_Mo_pointsOf_79 rfl (lv_at hl 2 rfl) ?_
            refine va_get (D := (dC, dI)) (ci := 8) (v := .ref m6) (C := R_Mo) (T := F_Mo) (N := 27) hx hb htg iw_Mo hown hK hP 0 rfl rfl 6 (by decide) (htg _ k3_58) (fun _ h9 => h9) rfl d_Mo_pointsOf_80 ?_
            refine lv_iload_n hx hb d_Mo_pointsOf_83 rfl (lv_at hl 1 rfl) ?_
            refine bk_lald (v := lN (mg (30 + q))) hx hb hK hP 5 1 rfl rfl (by omega) (by decide) rfl d_Mo_pointsOf_84 ?_
            refine lv_goto (tgt := 94) hx hb d_Mo_pointsOf_85 (by decide) ?_
            refine lv_lstore (lv' := [(5, .long (lN (mg (30 + q)))), (4, .int (nI ((md (30 + q)) - (md p)))), (3, .int (nI (30 + q))), (0, .ref mo), (1, .int (nI p)), (2, .int (nI q))]) hx hb d_Mo_pointsOf_94 hl (by decide) rfl (fun ls hl => ?_)
            refine lv_aload_n hx hb d_Mo_pointsOf_96 rfl (lv_at hl 3 rfl) ?_
            refine va_get (D := (dC, dI)) (ci := 8) (v := .ref m6) (C := R_Mo) (T := F_Mo) (N := 27) hx hb htg iw_Mo hown hK hP 0 rfl rfl 6 (by decide) (htg _ k3_58) (fun _ h9 => h9) rfl d_Mo_pointsOf_97 ?_
            refine lv_iload_n hx hb d_Mo_pointsOf_100 rfl (lv_at hl 2 rfl) ?_
            refine bk_lald (v := lN (mg (30 + q))) hx hb hK hP 5 1 rfl rfl (by omega) (by decide) rfl d_Mo_pointsOf_101 ?_
            refine lv_aload_n hx hb d_Mo_pointsOf_102 rfl (lv_at hl 3 rfl) ?_
            refine va_get (D := (dC, dI)) (ci := 8) (v := .ref m6) (C := R_Mo) (T := F_Mo) (N := 27) hx hb htg iw_Mo hown hK hP 0 rfl rfl 6 (by decide) (htg _ k3_58) (fun _ h9 => h9) rfl d_Mo_pointsOf_103 ?_
            refine lv_iload_n hx hb d_Mo_pointsOf_106 rfl (lv_at hl 4 rfl) ?_
            refine bk_lald (v := lN (mg p)) hx hb hK hP 5 1 rfl rfl (by omega) (by decide) rfl d_Mo_pointsOf_107 ?_
            refine bk_ncmp_le (a := mg (30 + q)) (b := mg p) (tgt := 121) hx hb (by omega) (by omega) d_Mo_pointsOf_108 d_Mo_pointsOf_109 (by decide) (fun c108 => by exfalso; omega) (fun c108 => ?_)
            refine lv_aload_n hx hb d_Mo_pointsOf_112 rfl (lv_at hl 3 rfl) ?_
            refine va_get (D := (dC, dI)) (ci := 8) (v := .ref m6) (C := R_Mo) (T := F_Mo) (N := 27) hx hb htg iw_Mo hown hK hP 0 rfl rfl 6 (by decide) (htg _ k3_58) (fun _ h9 => h9) rfl d_Mo_pointsOf_113 ?_
            refine lv_iload_n hx hb d_Mo_pointsOf_116 rfl (lv_at hl 4 rfl) ?_
            refine bk_lald (v := lN (mg p)) hx hb hK hP 5 1 rfl rfl (by omega) (by decide) rfl d_Mo_pointsOf_117 ?_
            refine lv_goto (tgt := 127) hx hb d_Mo_pointsOf_118 (by decide) ?_
            refine lv_lstore (lv' := [(7, .long (lN (mg p))), (5, .long (lN (mg (30 + q)))), (4, .int (nI ((md (30 + q)) - (md p)))), (3, .int (nI (30 + q))), (0, .ref mo), (1, .int (nI p)), (2, .int (nI q))]) hx hb d_Mo_pointsOf_127 hl (by decide) rfl (fun ls hl => ?_)
            refine lv_sipush (v := nI 1000) hx hb d_Mo_pointsOf_129 (by decide +kernel) ?_
            refine lv_bipush (v := nI 100) hx hb d_Mo_pointsOf_132 (by decide +kernel) ?_
            refine lv_iload hx hb d_Mo_pointsOf_134 (lv_at hl 2 rfl) ?_
            refine bk_imul hx hb d_Mo_pointsOf_136 ?_
            refine bk_isub hx hb (by omega) d_Mo_pointsOf_137 ?_
            refine lv_ldc2 (own := R_Mo) (v := 900) hx hb hown (htg _ k3_167) d_Mo_pointsOf_138 ?_
            refine bk_topl (y := lN 900) (by decide +kernel) ?_
            refine lv_lload hx hb d_Mo_pointsOf_141 (lv_at hl 1 rfl) ?_
            refine lv_lload hx hb d_Mo_pointsOf_143 (lv_at hl 0 rfl) ?_
            refine bk_lsub hx hb (by omega) d_Mo_pointsOf_145 ?_
            refine bk_lmul hx hb d_Mo_pointsOf_146 ?_
            refine lv_lload hx hb d_Mo_pointsOf_147 (lv_at hl 1 rfl) ?_
            refine bk_ldiv hx hb (by omega) (by omega) (by omega) d_Mo_pointsOf_149 ?_
            have hlq := lostG_r (a := mg p) (b := mg (30 + q)) (by omega)
            refine bk_l2i hx hb d_Mo_pointsOf_150 ?_
            rcases Nat.lt_or_ge (1000 - (100 * ((md (30 + q)) - (md p)))) ((900 * ((mg (30 + q)) - (mg p))) / (mg (30 + q))) with h151 | h151
            · refine lv_isub hx hb d_Mo_pointsOf_151 ?_
              refine lv_istore (lv' := [(9, .int ((nI (1000 - (100 * ((md (30 + q)) - (md p))))) - (nI ((900 * ((mg (30 + q)) - (mg p))) / (mg (30 + q)))))), (7, .long (lN (mg p))), (5, .long (lN (mg (30 + q)))), (4, .int (nI ((md (30 + q)) - (md p)))), (3, .int (nI (30 + q))), (0, .ref mo), (1, .int (nI p)), (2, .int (nI q))]) hx hb d_Mo_pointsOf_152 hl (by decide) rfl (fun ls hl => ?_)
              refine lv_iload hx hb d_Mo_pointsOf_154 (lv_at hl 0 rfl) ?_
              refine lv_if_le (x := ((nI (1000 - (100 * ((md (30 + q)) - (md p))))) - (nI ((900 * ((mg (30 + q)) - (mg p))) / (mg (30 + q)))))) (tgt := 164) hx hb d_Mo_pointsOf_156 (by decide) (fun c156 => ?_) (fun c156 => absurd (pk_sle (by omega) h151) c156)
              refine lv_iconst (v := nI 0) hx hb d_Mo_pointsOf_164 (by decide +kernel) ?_
              exact W.iret (v := nI 0) hx hb hr (fun t9 ht9 hW9 => ⟨nI 0, rfl, (by show _ = nI ((ptOf ms md mk mg (sh30 ms) (sh30 md) (sh30 mk) (sh30 mg)) p q); rw [ptM_yes (by omega), hlq] <;> first | rfl | (congr 1; omega)), ht9⟩) (fun q h => nomatch h) d_Mo_pointsOf_165
            · refine bk_isub hx hb h151 d_Mo_pointsOf_151 ?_
              refine lv_istore (lv' := [(9, .int (nI ((1000 - (100 * ((md (30 + q)) - (md p)))) - ((900 * ((mg (30 + q)) - (mg p))) / (mg (30 + q)))))), (7, .long (lN (mg p))), (5, .long (lN (mg (30 + q)))), (4, .int (nI ((md (30 + q)) - (md p)))), (3, .int (nI (30 + q))), (0, .ref mo), (1, .int (nI p)), (2, .int (nI q))]) hx hb d_Mo_pointsOf_152 hl (by decide) rfl (fun ls hl => ?_)
              refine lv_iload hx hb d_Mo_pointsOf_154 (lv_at hl 0 rfl) ?_
              refine bk_if_le (a := (1000 - (100 * ((md (30 + q)) - (md p)))) - ((900 * ((mg (30 + q)) - (mg p))) / (mg (30 + q)))) (tgt := 164) hx hb (by omega) d_Mo_pointsOf_156 (by decide) (fun c156 => ?_) (fun c156 => ?_)
              · refine lv_iconst (v := nI 0) hx hb d_Mo_pointsOf_164 (by decide +kernel) ?_
                exact W.iret (v := nI 0) hx hb hr (fun t9 ht9 hW9 => ⟨nI 0, rfl, (by show _ = nI ((ptOf ms md mk mg (sh30 ms) (sh30 md) (sh30 mk) (sh30 mg)) p q); rw [ptM_yes (by omega), hlq] <;> first | rfl | (congr 1; omega)), ht9⟩) (fun q h => nomatch h) d_Mo_pointsOf_165
              · refine lv_iload hx hb d_Mo_pointsOf_159 (lv_at hl 0 rfl) ?_
                refine lv_goto (tgt := 165) hx hb d_Mo_pointsOf_161 (by decide) ?_
                exact W.iret (v := nI ((1000 - (100 * ((md (30 + q)) - (md p)))) - ((900 * ((mg (30 + q)) - (mg p))) / (mg (30 + q))))) hx hb hr (fun t9 ht9 hW9 => ⟨nI ((1000 - (100 * ((md (30 + q)) - (md p)))) - ((900 * ((mg (30 + q)) - (mg p))) / (mg (30 + q)))), rfl, (by show _ = nI ((ptOf ms md mk mg (sh30 ms) (sh30 md) (sh30 mk) (sh30 mg)) p q); rw [ptM_yes (by omega), hlq] <;> first | rfl | (congr 1; omega)), ht9⟩) (fun q h => nomatch h) d_Mo_pointsOf_165
        · refine lv_iconst (v := nI 0) hx hb d_Mo_pointsOf_61 (by decide +kernel) ?_
          exact W.iret (v := nI 0) hx hb hr (fun t9 ht9 hW9 => ⟨nI 0, rfl, (congrArg nI (ptM_no (by omega)).symm), ht9⟩) (fun q h => nomatch h) d_Mo_pointsOf_62
set_option maxHeartbeats 4000000 in
set_option maxRecDepth 100000 in
theorem c_Mo_isPage (l : Launch) (dC : Nat → ClassId) (dI : Nat → Nat → Nat) (cI cL cZ : ClassId) (mo co m2 m3 m4 m5 m6 m7 m8 pn m10 m11 m12 m13 m14 m15 as0 dc m18 tc m20 m21 m22 m23 m24 m25 m26 : Nat) (sd : Int64) (cn : Nat → Nat) (x : Int32) (hn : cn 0 ≤ 30) : Met l y_Mo_isPage ws_Mo_isPage { frames := 0, cells := 0, slots := 0, locals := 0 } (va_Pc [.ref mo, .int x] (rdP (dC, dI) vwCl [(cI, .int), (cL, .long), (cZ, .boolean)] [(mo, .inr (8, [.int (nI co), .long sd, .ref m2, .ref m3, .ref m4, .ref m5, .ref m6, .ref m7, .ref m8, .int (nI pn), .ref m10, .ref m11, .ref m12, .ref m13, .ref m14, .ref m15, .int (nI as0), .int (nI dc), .ref m18, .int (nI tc), .ref m20, .ref m21, .ref m22, .ref m23, .ref m24, .ref m25, .ref m26])), (m2, .inl (cI, 2, .inl (aI cn)))])) (vp_Si (fun r => (inR (cn 0) x ∧ r = nI 1) ∨ (¬ inR (cn 0) x ∧ r = nI 0))) 0 0 (fun _ => False) := by
  refine Met.ofW (cc := b_Mo_isPage) (maxL := 2) (ret := (some .boolean)) (by decide) rfl ?_
  intro pr en s m args below meth c s₁ B hml hv
  obtain ⟨rfl, hN, hP, hK⟩ := hv
  have hx := B.exec
  have hb := B.bytes
  have hr := B.returns
  have hts := atoms_spec (ws := ws_Mo_isPage) B.pre
  have htg : ∀ w ∈ gW, w.before _ s = true := fun w h => hts w (List.mem_cons_of_mem _ h)
  have hown : s.vm.findClass R_Mo = some m.cls := findClass_of_methodNamed B.named
  have hlocks := B.notSynchronized
  have hl := lv_entry ([.ref mo, .int x]) (n := 2) (Nat.le_of_ble_eq_true rfl)
  rw [lg_entry_eq]
  generalize (lg_sl ([.ref mo, .int x]) ++ List.replicate (2 - (lg_sl ([.ref mo, .int x])).length) Slot.unset).toArray = ls at hl ⊢
  have hl : lv_has ls 2 [(0, .ref mo), (1, .int x)] := hl
  refine lv_iload_n hx hb d_Mo_isPage_0 rfl (lv_at hl 1 rfl) ?_
  refine lv_if_lt (x := x) (tgt := 18) hx hb d_Mo_isPage_1 (by decide) (fun c1 => ?_) (fun c1 => ?_)
  · refine lv_iconst (v := nI 0) hx hb d_Mo_isPage_18 (by decide +kernel) ?_
    exact W.zret (v := nI 0) (ty := .boolean) hx hb hr rfl (fun t9 ht9 hW9 => ⟨nI 0, rfl, Or.inr ⟨by first | exact inR_neg (by omega) (by assumption) | exact inR_big (by omega) (by assumption), rfl⟩, ht9⟩) (fun q h => nomatch h) d_Mo_isPage_19
  · refine lv_iload_n hx hb d_Mo_isPage_4 rfl (lv_at hl 1 rfl) ?_
    refine lv_aload_n hx hb d_Mo_isPage_5 rfl (lv_at hl 0 rfl) ?_
    refine va_get (D := (dC, dI)) (ci := 8) (v := .ref m2) (C := R_Mo) (T := F_Mo) (N := 27) hx hb htg iw_Mo hown hK hP 0 rfl rfl 2 (by decide) (htg _ k3_54) (fun _ h9 => h9) rfl d_Mo_isPage_6 ?_
    refine lv_iconst (v := nI 0) hx hb d_Mo_isPage_9 (by decide +kernel) ?_
    refine bk_iald (v := nI (cn 0)) hx hb hK hP 1 0 rfl rfl (by omega) (by decide) rfl d_Mo_isPage_10 ?_
    refine lv_icmp_ge (x := x) (y := nI (cn 0)) (tgt := 18) hx hb d_Mo_isPage_11 (by decide) (fun c11 => ?_) (fun c11 => ?_)
    · refine lv_iconst (v := nI 0) hx hb d_Mo_isPage_18 (by decide +kernel) ?_
      exact W.zret (v := nI 0) (ty := .boolean) hx hb hr rfl (fun t9 ht9 hW9 => ⟨nI 0, rfl, Or.inr ⟨by first | exact inR_neg (by omega) (by assumption) | exact inR_big (by omega) (by assumption), rfl⟩, ht9⟩) (fun q h => nomatch h) d_Mo_isPage_19
    · refine lv_iconst (v := nI 1) hx hb d_Mo_isPage_14 (by decide +kernel) ?_
      refine lv_goto (tgt := 19) hx hb d_Mo_isPage_15 (by decide) ?_
      exact W.zret (v := nI 1) (ty := .boolean) hx hb hr rfl (fun t9 ht9 hW9 => ⟨nI 1, rfl, Or.inl ⟨inR_of (by omega) (by assumption) (by assumption), rfl⟩, ht9⟩) (fun q h => nomatch h) d_Mo_isPage_19
set_option maxHeartbeats 4000000 in
set_option maxRecDepth 100000 in
theorem c_Mo_pair (l : Launch) (dC : Nat → ClassId) (dI : Nat → Nat → Nat) (cI cL cZ : ClassId) (sz : Nat) (mo co m2 m3 m4 m5 m6 m7 m8 pn m10 m11 m12 m13 m14 m15 as0 dc m18 tc m20 m21 m22 m23 m24 m25 m26 : Nat) (sd : Int64) (cn : Nat → Nat) (so : Nat → Option Nat) (x : Int32) (hn : cn 0 ≤ 30) : Met l y_Mo_pair ws_Mo_pair { frames := 1, cells := 0, slots := 0, locals := 21 } (va_Pc [.ref mo, .int x] (wrP (dC, dI) vwCl [(cI, .int), (cL, .long), (cZ, .boolean)] [(mo, .inr (8, [.int (nI co), .long sd, .ref m2, .ref m3, .ref m4, .ref m5, .ref m6, .ref m7, .ref m8, .int (nI pn), .ref m10, .ref m11, .ref m12, .ref m13, .ref m14, .ref m15, .int (nI as0), .int (nI dc), .ref m18, .int (nI tc), .ref m20, .ref m21, .ref m22, .ref m23, .ref m24, .ref m25, .ref m26])), (m2, .inl (cI, 2, .inl (aI cn))), (m7, .inl (cI, 30, .inl (aO so)))] sz)) (va_Qi (fun (r : Int32) (u : Unit) => (∃ j, j < cn 0 ∧ x = nI j ∧ r = oI (so j)) ∨ (¬ inR (cn 0) x ∧ r = oI none)) (fun (u : Unit) => wrQ (dC, dI) vwCl [(cI, .int), (cL, .long), (cZ, .boolean)] (va_A [(mo, .inr (8, [.int (nI co), .long sd, .ref m2, .ref m3, .ref m4, .ref m5, .ref m6, .ref m7, .ref m8, .int (nI pn), .ref m10, .ref m11, .ref m12, .ref m13, .ref m14, .ref m15, .int (nI as0), .int (nI dc), .ref m18, .int (nI tc), .ref m20, .ref m21, .ref m22, .ref m23, .ref m24, .ref m25, .ref m26])), (m2, .inl (cI, 2, .inl (aI cn))), (m7, .inl (cI, 30, .inl (aO so)))] sz) [(mo, .inr (8, [.int (nI 0), .long sd, .ref m2, .ref m3, .ref m4, .ref m5, .ref m6, .ref m7, .ref m8, .int (nI pn), .ref m10, .ref m11, .ref m12, .ref m13, .ref m14, .ref m15, .int (nI as0), .int (nI dc), .ref m18, .int (nI tc), .ref m20, .ref m21, .ref m22, .ref m23, .ref m24, .ref m25, .ref m26])), (m2, .inl (cI, 2, .inl (aI cn))), (m7, .inl (cI, 30, .inl (aO so)))]) (va_A [(mo, .inr (8, [.int (nI co), .long sd, .ref m2, .ref m3, .ref m4, .ref m5, .ref m6, .ref m7, .ref m8, .int (nI pn), .ref m10, .ref m11, .ref m12, .ref m13, .ref m14, .ref m15, .int (nI as0), .int (nI dc), .ref m18, .int (nI tc), .ref m20, .ref m21, .ref m22, .ref m23, .ref m24, .ref m25, .ref m26])), (m2, .inl (cI, 2, .inl (aI cn))), (m7, .inl (cI, 30, .inl (aO so)))] sz)) 0 0 (va_A [(mo, .inr (8, [.int (nI co), .long sd, .ref m2, .ref m3, .ref m4, .ref m5, .ref m6, .ref m7, .ref m8, .int (nI pn), .ref m10, .ref m11, .ref m12, .ref m13, .ref m14, .ref m15, .int (nI as0), .int (nI dc), .ref m18, .int (nI tc), .ref m20, .ref m21, .ref m22, .ref m23, .ref m24, .ref m25, .ref m26])), (m2, .inl (cI, 2, .inl (aI cn))), (m7, .inl (cI, 30, .inl (aO so)))] sz) := by
  refine Met.ofW (cc := b_Mo_pair) (maxL := 2) (ret := (some .int)) (by decide) rfl ?_
  intro pr en s m args below meth c s₁ B hml hv
  obtain ⟨rfl, hN, hsz, hP, hK, hD0⟩ := hv
  have hx := B.exec
  have hb := B.bytes
  have hr := B.returns
  have hts := atoms_spec (ws := ws_Mo_pair) B.pre
  have htg : ∀ w ∈ gW, w.before _ s = true := fun w h => hts w (List.mem_cons_of_mem _ h)
  have hown : s.vm.findClass R_Mo = some m.cls := findClass_of_methodNamed B.named
  have hlocks := B.notSynchronized
  subst hsz
  have hD := hD0.self (sz := s.heap.size)
  generalize hAe : va_A [(mo, .inr (8, [.int (nI co), .long sd, .ref m2, .ref m3, .ref m4, .ref m5, .ref m6, .ref m7, .ref m8, .int (nI pn), .ref m10, .ref m11, .ref m12, .ref m13, .ref m14, .ref m15, .int (nI as0), .int (nI dc), .ref m18, .int (nI tc), .ref m20, .ref m21, .ref m22, .ref m23, .ref m24, .ref m25, .ref m26])), (m2, .inl (cI, 2, .inl (aI cn))), (m7, .inl (cI, 30, .inl (aO so)))] s.heap.size = A at hD ⊢
  have hA : ∀ q : Nat, s.heap.size ≤ q → A q := fun q h => by rw [← hAe]; exact Or.inr h
  have hS : va_S A s.heap s.heap [] := va_S.rf
  have hP : va_P (dC, dI) vwCl [(mo, .inr (8, [.int (nI co), .long sd, .ref m2, .ref m3, .ref m4, .ref m5, .ref m6, .ref m7, .ref m8, .int (nI pn), .ref m10, .ref m11, .ref m12, .ref m13, .ref m14, .ref m15, .int (nI as0), .int (nI dc), .ref m18, .int (nI tc), .ref m20, .ref m21, .ref m22, .ref m23, .ref m24, .ref m25, .ref m26])), (m2, .inl (cI, 2, .inl (aI cn))), (m7, .inl (cI, 30, .inl (aO so)))] s.heap := hP
  have hl := lv_entry ([.ref mo, .int x]) (n := 2) (Nat.le_of_ble_eq_true rfl)
  rw [lg_entry_eq]
  generalize (lg_sl ([.ref mo, .int x]) ++ List.replicate (2 - (lg_sl ([.ref mo, .int x])).length) Slot.unset).toArray = ls at hl ⊢
  have hl : lv_has ls 2 [(0, .ref mo), (1, .int x)] := hl
  refine lv_aload_n hx hb d_Mo_pair_0 rfl (lv_at hl 0 rfl) ?_
  refine lv_iconst (v := nI 0) hx hb d_Mo_pair_1 (by decide +kernel) ?_
  refine va_put (D := (dC, dI)) (ci := 8) (v := .int (nI 0)) (ty := (t_Mo 0)) (C := R_Mo) (T := F_Mo) (N := 27) hx hb htg iw_Mo t_Mo tk_Mo nm_Mo hown hK hP hD hS 0 rfl rfl 0 (by decide) (htg _ k3_52) (fun _ h9 => h9) rfl (by decide +kernel) rfl rfl (Nat.le_of_ble_eq_true rfl) d_Mo_pair_2 (fun H locs hP hD hS => ?_)
  have hP : va_P (dC, dI) vwCl [(mo, .inr (8, [.int (nI 0), .long sd, .ref m2, .ref m3, .ref m4, .ref m5, .ref m6, .ref m7, .ref m8, .int (nI pn), .ref m10, .ref m11, .ref m12, .ref m13, .ref m14, .ref m15, .int (nI as0), .int (nI dc), .ref m18, .int (nI tc), .ref m20, .ref m21, .ref m22, .ref m23, .ref m24, .ref m25, .ref m26])), (m2, .inl (cI, 2, .inl (aI cn))), (m7, .inl (cI, 30, .inl (aO so)))] H := hP
  have hD : va_D A [(mo, .inr (8, [.int (nI 0), .long sd, .ref m2, .ref m3, .ref m4, .ref m5, .ref m6, .ref m7, .ref m8, .int (nI pn), .ref m10, .ref m11, .ref m12, .ref m13, .ref m14, .ref m15, .int (nI as0), .int (nI dc), .ref m18, .int (nI tc), .ref m20, .ref m21, .ref m22, .ref m23, .ref m24, .ref m25, .ref m26])), (m2, .inl (cI, 2, .inl (aI cn))), (m7, .inl (cI, 30, .inl (aO so)))] := hD
  refine lv_aload_n hx hb d_Mo_pair_5 rfl (lv_at hl 0 rfl) ?_
  refine lv_iload_n hx hb d_Mo_pair_6 rfl (lv_at hl 1 rfl) ?_
  refine vp_callSi (va_runV (As := [.int x]) (rest := []) ⟨hx, hb, hml, hown, htg⟩ (c_Mo_isPage l dC dI cI cL cZ mo 0 m2 m3 m4 m5 m6 m7 m8 pn m10 m11 m12 m13 m14 m15 as0 dc m18 tc m20 m21 m22 m23 m24 m25 m26 sd cn x (by omega)) (cwV 1 htg (gdV k3_172 k3_174 ks_Mo_isPage k1_9 kc_Mo_isPage) rfl rfl rfl (by decide +kernel) ⟨Nat.le_of_ble_eq_true rfl, Nat.le_of_ble_eq_true rfl⟩) ⟨bk_blind, va_recv hK hP (ci := 8) (q0 := 0) rfl rfl, fun U hU hW => ⟨rfl, nw_warm hW hN, by rw [hU]; exact hP.sub [0, 1] rfl, va_K.moved hW.alike hK⟩⟩ rfl rfl hl.1 rfl (lv_room (Nat.le_of_ble_eq_true rfl)) d_Mo_pair_7 ⟨Nat.le_of_ble_eq_true rfl, Nat.le_of_ble_eq_true rfl⟩).run (fun r7 e7 => ?_)
  rcases e7 with ⟨⟨j7, hj7, hx7⟩, rfl⟩ | ⟨n7, rfl⟩
  · refine bk_if_eq (a := 1) (tgt := 22) hx hb (by omega) d_Mo_pair_10 (by decide) (fun c10 => absurd c10 (by decide)) (fun c10 => ?_)
    refine lv_aload_n hx hb d_Mo_pair_13 rfl (lv_at hl 0 rfl) ?_
    refine va_get (D := (dC, dI)) (ci := 8) (v := .ref m7) (C := R_Mo) (T := F_Mo) (N := 27) hx hb htg iw_Mo hown hK hP 0 rfl rfl 7 (by decide) (htg _ k3_59) (fun _ h9 => h9) rfl d_Mo_pair_14 ?_
    refine lv_iload_n hx hb d_Mo_pair_17 rfl (lv_at hl 1 rfl) ?_
    refine bk_topi (y := nI j7) hx7 ?_
    refine bk_iald (v := oI (so j7)) hx hb hK hP 2 0 rfl rfl (by omega) (by decide) rfl d_Mo_pair_18 ?_
    refine lv_goto (tgt := 23) hx hb d_Mo_pair_19 (by decide) ?_
    have hP9 := hP.sub (ws' := [(mo, .inr (8, [.int (nI 0), .long sd, .ref m2, .ref m3, .ref m4, .ref m5, .ref m6, .ref m7, .ref m8, .int (nI pn), .ref m10, .ref m11, .ref m12, .ref m13, .ref m14, .ref m15, .int (nI as0), .int (nI dc), .ref m18, .int (nI tc), .ref m20, .ref m21, .ref m22, .ref m23, .ref m24, .ref m25, .ref m26])), (m2, .inl (cI, 2, .inl (aI cn))), (m7, .inl (cI, 30, .inl (aO so)))]) [0, 1, 2] rfl
    have hD9 := hD.sub (ws' := [(mo, .inr (8, [.int (nI 0), .long sd, .ref m2, .ref m3, .ref m4, .ref m5, .ref m6, .ref m7, .ref m8, .int (nI pn), .ref m10, .ref m11, .ref m12, .ref m13, .ref m14, .ref m15, .int (nI as0), .int (nI dc), .ref m18, .int (nI tc), .ref m20, .ref m21, .ref m22, .ref m23, .ref m24, .ref m25, .ref m26])), (m2, .inl (cI, 2, .inl (aI cn))), (m7, .inl (cI, 30, .inl (aO so)))]) [0, 1, 2] (by decide) rfl
    exact W.iret (v := oI (so j7)) hx hb hr (fun t9 ht9 hW9 => ⟨⟨oI (so j7), (), rfl, Or.inl ⟨j7, hj7, hx7, rfl⟩, by rw [ht9]; exact hP9, va_K.moved hW9.alike hK, hD9⟩, hS.F ht9⟩) hS.2.2 d_Mo_pair_23
  · refine bk_if_eq (a := 0) (tgt := 22) hx hb (by omega) d_Mo_pair_10 (by decide) (fun c10 => ?_) (fun c10 => absurd c10 (by decide))
    refine lv_iconst (v := oI none) hx hb d_Mo_pair_22 (by decide +kernel) ?_
    have hP9 := hP.sub (ws' := [(mo, .inr (8, [.int (nI 0), .long sd, .ref m2, .ref m3, .ref m4, .ref m5, .ref m6, .ref m7, .ref m8, .int (nI pn), .ref m10, .ref m11, .ref m12, .ref m13, .ref m14, .ref m15, .int (nI as0), .int (nI dc), .ref m18, .int (nI tc), .ref m20, .ref m21, .ref m22, .ref m23, .ref m24, .ref m25, .ref m26])), (m2, .inl (cI, 2, .inl (aI cn))), (m7, .inl (cI, 30, .inl (aO so)))]) [0, 1, 2] rfl
    have hD9 := hD.sub (ws' := [(mo, .inr (8, [.int (nI 0), .long sd, .ref m2, .ref m3, .ref m4, .ref m5, .ref m6, .ref m7, .ref m8, .int (nI pn), .ref m10, .ref m11, .ref m12, .ref m13, .ref m14, .ref m15, .int (nI as0), .int (nI dc), .ref m18, .int (nI tc), .ref m20, .ref m21, .ref m22, .ref m23, .ref m24, .ref m25, .ref m26])), (m2, .inl (cI, 2, .inl (aI cn))), (m7, .inl (cI, 30, .inl (aO so)))]) [0, 1, 2] (by decide) rfl
    exact W.iret (v := oI none) hx hb hr (fun t9 ht9 hW9 => ⟨⟨oI none, (), rfl, Or.inr ⟨n7, rfl⟩, by rw [ht9]; exact hP9, va_K.moved hW9.alike hK, hD9⟩, hS.F ht9⟩) hS.2.2 d_Mo_pair_23
set_option maxHeartbeats 4000000 in
set_option maxRecDepth 100000 in
theorem c_Mo_points (l : Launch) (dC : Nat → ClassId) (dI : Nat → Nat → Nat) (cI cL cZ : ClassId) (sz : Nat) (mo co m2 m3 m4 m5 m6 m7 m8 pn m10 m11 m12 m13 m14 m15 as0 dc m18 tc m20 m21 m22 m23 m24 m25 m26 : Nat) (sd : Int64) (cn : Nat → Nat) (ms : Nat → Nat) (md : Nat → Nat) (mk : Nat → Nat) (mg : Nat → Nat) (so : Nat → Option Nat) (x : Int32) (hi : bkI (cn 0) ms md mk mg) (hi2 : bkI (cn 1) (sh30 ms) (sh30 md) (sh30 mk) (sh30 mg)) (hso : ∀ p k, p < cn 0 → so p = some k → k < cn 1) : Met l y_Mo_points ws_Mo_points { frames := 1, cells := 0, slots := 0, locals := 29 } (va_Pc [.ref mo, .int x] (wrP (dC, dI) vwCl [(cI, .int), (cL, .long), (cZ, .boolean)] [(mo, .inr (8, [.int (nI co), .long sd, .ref m2, .ref m3, .ref m4, .ref m5, .ref m6, .ref m7, .ref m8, .int (nI pn), .ref m10, .ref m11, .ref m12, .ref m13, .ref m14, .ref m15, .int (nI as0), .int (nI dc), .ref m18, .int (nI tc), .ref m20, .ref m21, .ref m22, .ref m23, .ref m24, .ref m25, .ref m26])), (m2, .inl (cI, 2, .inl (aI cn))), (m3, .inl (cI, 60, .inl (aI ms))), (m4, .inl (cI, 60, .inl (aI md))), (m5, .inl (cI, 60, .inl (aI mk))), (m6, .inl (cL, 60, .inr (.inl (aL mg)))), (m7, .inl (cI, 30, .inl (aO so)))] sz)) (va_Qi (fun (r : Int32) (u : Unit) => (∃ j k, j < cn 0 ∧ x = nI j ∧ so j = some k ∧ r = nI ((ptOf ms md mk mg (sh30 ms) (sh30 md) (sh30 mk) (sh30 mg)) j k)) ∨ ((∀ j, j < cn 0 → x = nI j → so j = none) ∧ r = nI 0)) (fun (u : Unit) => wrQ (dC, dI) vwCl [(cI, .int), (cL, .long), (cZ, .boolean)] (va_A [(mo, .inr (8, [.int (nI co), .long sd, .ref m2, .ref m3, .ref m4, .ref m5, .ref m6, .ref m7, .ref m8, .int (nI pn), .ref m10, .ref m11, .ref m12, .ref m13, .ref m14, .ref m15, .int (nI as0), .int (nI dc), .ref m18, .int (nI tc), .ref m20, .ref m21, .ref m22, .ref m23, .ref m24, .ref m25, .ref m26])), (m2, .inl (cI, 2, .inl (aI cn))), (m3, .inl (cI, 60, .inl (aI ms))), (m4, .inl (cI, 60, .inl (aI md))), (m5, .inl (cI, 60, .inl (aI mk))), (m6, .inl (cL, 60, .inr (.inl (aL mg)))), (m7, .inl (cI, 30, .inl (aO so)))] sz) [(mo, .inr (8, [.int (nI 0), .long sd, .ref m2, .ref m3, .ref m4, .ref m5, .ref m6, .ref m7, .ref m8, .int (nI pn), .ref m10, .ref m11, .ref m12, .ref m13, .ref m14, .ref m15, .int (nI as0), .int (nI dc), .ref m18, .int (nI tc), .ref m20, .ref m21, .ref m22, .ref m23, .ref m24, .ref m25, .ref m26])), (m2, .inl (cI, 2, .inl (aI cn))), (m3, .inl (cI, 60, .inl (aI ms))), (m4, .inl (cI, 60, .inl (aI md))), (m5, .inl (cI, 60, .inl (aI mk))), (m6, .inl (cL, 60, .inr (.inl (aL mg)))), (m7, .inl (cI, 30, .inl (aO so)))]) (va_A [(mo, .inr (8, [.int (nI co), .long sd, .ref m2, .ref m3, .ref m4, .ref m5, .ref m6, .ref m7, .ref m8, .int (nI pn), .ref m10, .ref m11, .ref m12, .ref m13, .ref m14, .ref m15, .int (nI as0), .int (nI dc), .ref m18, .int (nI tc), .ref m20, .ref m21, .ref m22, .ref m23, .ref m24, .ref m25, .ref m26])), (m2, .inl (cI, 2, .inl (aI cn))), (m3, .inl (cI, 60, .inl (aI ms))), (m4, .inl (cI, 60, .inl (aI md))), (m5, .inl (cI, 60, .inl (aI mk))), (m6, .inl (cL, 60, .inr (.inl (aL mg)))), (m7, .inl (cI, 30, .inl (aO so)))] sz)) 0 0 (va_A [(mo, .inr (8, [.int (nI co), .long sd, .ref m2, .ref m3, .ref m4, .ref m5, .ref m6, .ref m7, .ref m8, .int (nI pn), .ref m10, .ref m11, .ref m12, .ref m13, .ref m14, .ref m15, .int (nI as0), .int (nI dc), .ref m18, .int (nI tc), .ref m20, .ref m21, .ref m22, .ref m23, .ref m24, .ref m25, .ref m26])), (m2, .inl (cI, 2, .inl (aI cn))), (m3, .inl (cI, 60, .inl (aI ms))), (m4, .inl (cI, 60, .inl (aI md))), (m5, .inl (cI, 60, .inl (aI mk))), (m6, .inl (cL, 60, .inr (.inl (aL mg)))), (m7, .inl (cI, 30, .inl (aO so)))] sz) := by
  refine Met.ofW (cc := b_Mo_points) (maxL := 2) (ret := (some .int)) (by decide) rfl ?_
  intro pr en s m args below meth c s₁ B hml hv
  obtain ⟨rfl, hN, hsz, hP, hK, hD0⟩ := hv
  have hx := B.exec
  have hb := B.bytes
  have hr := B.returns
  have hts := atoms_spec (ws := ws_Mo_points) B.pre
  have htg : ∀ w ∈ gW, w.before _ s = true := fun w h => hts w (List.mem_cons_of_mem _ h)
  have hown : s.vm.findClass R_Mo = some m.cls := findClass_of_methodNamed B.named
  have hlocks := B.notSynchronized
  subst hsz
  have hD := hD0.self (sz := s.heap.size)
  generalize hAe : va_A [(mo, .inr (8, [.int (nI co), .long sd, .ref m2, .ref m3, .ref m4, .ref m5, .ref m6, .ref m7, .ref m8, .int (nI pn), .ref m10, .ref m11, .ref m12, .ref m13, .ref m14, .ref m15, .int (nI as0), .int (nI dc), .ref m18, .int (nI tc), .ref m20, .ref m21, .ref m22, .ref m23, .ref m24, .ref m25, .ref m26])), (m2, .inl (cI, 2, .inl (aI cn))), (m3, .inl (cI, 60, .inl (aI ms))), (m4, .inl (cI, 60, .inl (aI md))), (m5, .inl (cI, 60, .inl (aI mk))), (m6, .inl (cL, 60, .inr (.inl (aL mg)))), (m7, .inl (cI, 30, .inl (aO so)))] s.heap.size = A at hD ⊢
  have hA : ∀ q : Nat, s.heap.size ≤ q → A q := fun q h => by rw [← hAe]; exact Or.inr h
  have hS : va_S A s.heap s.heap [] := va_S.rf
  have hP : va_P (dC, dI) vwCl [(mo, .inr (8, [.int (nI co), .long sd, .ref m2, .ref m3, .ref m4, .ref m5, .ref m6, .ref m7, .ref m8, .int (nI pn), .ref m10, .ref m11, .ref m12, .ref m13, .ref m14, .ref m15, .int (nI as0), .int (nI dc), .ref m18, .int (nI tc), .ref m20, .ref m21, .ref m22, .ref m23, .ref m24, .ref m25, .ref m26])), (m2, .inl (cI, 2, .inl (aI cn))), (m3, .inl (cI, 60, .inl (aI ms))), (m4, .inl (cI, 60, .inl (aI md))), (m5, .inl (cI, 60, .inl (aI mk))), (m6, .inl (cL, 60, .inr (.inl (aL mg)))), (m7, .inl (cI, 30, .inl (aO so)))] s.heap := hP
  have hl := lv_entry ([.ref mo, .int x]) (n := 2) (Nat.le_of_ble_eq_true rfl)
  rw [lg_entry_eq]
  generalize (lg_sl ([.ref mo, .int x]) ++ List.replicate (2 - (lg_sl ([.ref mo, .int x])).length) Slot.unset).toArray = ls at hl ⊢
  have hl : lv_has ls 2 [(0, .ref mo), (1, .int x)] := hl
  have hn := hi.1
  have hn2 := hi2.1
  refine lv_aload_n hx hb d_Mo_points_0 rfl (lv_at hl 0 rfl) ?_
  refine lv_iconst (v := nI 0) hx hb d_Mo_points_1 (by decide +kernel) ?_
  refine va_put (D := (dC, dI)) (ci := 8) (v := .int (nI 0)) (ty := (t_Mo 0)) (C := R_Mo) (T := F_Mo) (N := 27) hx hb htg iw_Mo t_Mo tk_Mo nm_Mo hown hK hP hD hS 0 rfl rfl 0 (by decide) (htg _ k3_52) (fun _ h9 => h9) rfl (by decide +kernel) rfl rfl (Nat.le_of_ble_eq_true rfl) d_Mo_points_2 (fun H locs hP hD hS => ?_)
  have hP : va_P (dC, dI) vwCl [(mo, .inr (8, [.int (nI 0), .long sd, .ref m2, .ref m3, .ref m4, .ref m5, .ref m6, .ref m7, .ref m8, .int (nI pn), .ref m10, .ref m11, .ref m12, .ref m13, .ref m14, .ref m15, .int (nI as0), .int (nI dc), .ref m18, .int (nI tc), .ref m20, .ref m21, .ref m22, .ref m23, .ref m24, .ref m25, .ref m26])), (m2, .inl (cI, 2, .inl (aI cn))), (m3, .inl (cI, 60, .inl (aI ms))), (m4, .inl (cI, 60, .inl (aI md))), (m5, .inl (cI, 60, .inl (aI mk))), (m6, .inl (cL, 60, .inr (.inl (aL mg)))), (m7, .inl (cI, 30, .inl (aO so)))] H := hP
  have hD : va_D A [(mo, .inr (8, [.int (nI 0), .long sd, .ref m2, .ref m3, .ref m4, .ref m5, .ref m6, .ref m7, .ref m8, .int (nI pn), .ref m10, .ref m11, .ref m12, .ref m13, .ref m14, .ref m15, .int (nI as0), .int (nI dc), .ref m18, .int (nI tc), .ref m20, .ref m21, .ref m22, .ref m23, .ref m24, .ref m25, .ref m26])), (m2, .inl (cI, 2, .inl (aI cn))), (m3, .inl (cI, 60, .inl (aI ms))), (m4, .inl (cI, 60, .inl (aI md))), (m5, .inl (cI, 60, .inl (aI mk))), (m6, .inl (cL, 60, .inr (.inl (aL mg)))), (m7, .inl (cI, 30, .inl (aO so)))] := hD
  refine lv_aload_n hx hb d_Mo_points_5 rfl (lv_at hl 0 rfl) ?_
  refine lv_iload_n hx hb d_Mo_points_6 rfl (lv_at hl 1 rfl) ?_
  refine vp_callSi (va_runV (As := [.int x]) (rest := []) ⟨hx, hb, hml, hown, htg⟩ (c_Mo_isPage l dC dI cI cL cZ mo 0 m2 m3 m4 m5 m6 m7 m8 pn m10 m11 m12 m13 m14 m15 as0 dc m18 tc m20 m21 m22 m23 m24 m25 m26 sd cn x (by omega)) (cwV 1 htg (gdV k3_172 k3_174 ks_Mo_isPage k1_9 kc_Mo_isPage) rfl rfl rfl (by decide +kernel) ⟨Nat.le_of_ble_eq_true rfl, Nat.le_of_ble_eq_true rfl⟩) ⟨bk_blind, va_recv hK hP (ci := 8) (q0 := 0) rfl rfl, fun U hU hW => ⟨rfl, nw_warm hW hN, by rw [hU]; exact hP.sub [0, 1] rfl, va_K.moved hW.alike hK⟩⟩ rfl rfl hl.1 rfl (lv_room (Nat.le_of_ble_eq_true rfl)) d_Mo_points_7 ⟨Nat.le_of_ble_eq_true rfl, Nat.le_of_ble_eq_true rfl⟩).run (fun r7 e7 => ?_)
  rcases e7 with ⟨⟨j7, hj7, hx7⟩, rfl⟩ | ⟨n7, rfl⟩
  · refine bk_if_eq (a := 1) (tgt := 36) hx hb (by omega) d_Mo_points_10 (by decide) (fun c10 => absurd c10 (by decide)) (fun c10 => ?_)
    refine lv_aload_n hx hb d_Mo_points_13 rfl (lv_at hl 0 rfl) ?_
    refine va_get (D := (dC, dI)) (ci := 8) (v := .ref m7) (C := R_Mo) (T := F_Mo) (N := 27) hx hb htg iw_Mo hown hK hP 0 rfl rfl 7 (by decide) (htg _ k3_59) (fun _ h9 => h9) rfl d_Mo_points_14 ?_
    refine lv_iload_n hx hb d_Mo_points_17 rfl (lv_at hl 1 rfl) ?_
    refine bk_topi (y := nI j7) hx7 ?_
    refine bk_iald (v := oI (so j7)) hx hb hK hP 6 0 rfl rfl (by omega) (by decide) rfl d_Mo_points_18 ?_
    rcases hsj : so j7 with _ | k
    · refine lv_if_lt (x := oI none) (tgt := 36) hx hb d_Mo_points_19 (by decide) (fun c19 => ?_) (fun c19 => absurd (by decide) c19)
      refine lv_iconst (v := nI 0) hx hb d_Mo_points_36 (by decide +kernel) ?_
      have hP9 := hP.sub (ws' := [(mo, .inr (8, [.int (nI 0), .long sd, .ref m2, .ref m3, .ref m4, .ref m5, .ref m6, .ref m7, .ref m8, .int (nI pn), .ref m10, .ref m11, .ref m12, .ref m13, .ref m14, .ref m15, .int (nI as0), .int (nI dc), .ref m18, .int (nI tc), .ref m20, .ref m21, .ref m22, .ref m23, .ref m24, .ref m25, .ref m26])), (m2, .inl (cI, 2, .inl (aI cn))), (m3, .inl (cI, 60, .inl (aI ms))), (m4, .inl (cI, 60, .inl (aI md))), (m5, .inl (cI, 60, .inl (aI mk))), (m6, .inl (cL, 60, .inr (.inl (aL mg)))), (m7, .inl (cI, 30, .inl (aO so)))]) [0, 1, 2, 3, 4, 5, 6] rfl
      have hD9 := hD.sub (ws' := [(mo, .inr (8, [.int (nI 0), .long sd, .ref m2, .ref m3, .ref m4, .ref m5, .ref m6, .ref m7, .ref m8, .int (nI pn), .ref m10, .ref m11, .ref m12, .ref m13, .ref m14, .ref m15, .int (nI as0), .int (nI dc), .ref m18, .int (nI tc), .ref m20, .ref m21, .ref m22, .ref m23, .ref m24, .ref m25, .ref m26])), (m2, .inl (cI, 2, .inl (aI cn))), (m3, .inl (cI, 60, .inl (aI ms))), (m4, .inl (cI, 60, .inl (aI md))), (m5, .inl (cI, 60, .inl (aI mk))), (m6, .inl (cL, 60, .inr (.inl (aL mg)))), (m7, .inl (cI, 30, .inl (aO so)))]) [0, 1, 2, 3, 4, 5, 6] (by decide) rfl
      exact W.iret (v := nI 0) hx hb hr (fun t9 ht9 hW9 => ⟨⟨nI 0, (), rfl, Or.inr ⟨(fun j9 h9 e9 => by rw [hx7] at e9; rw [← (nI_eq (by omega) (by omega)).mp e9]; exact hsj), rfl⟩, by rw [ht9]; exact hP9, va_K.moved hW9.alike hK, hD9⟩, hS.F ht9⟩) hS.2.2 d_Mo_points_37
    · refine bk_topi (y := nI k) rfl ?_
      have hkn := hso j7 k hj7 hsj
      refine bk_if_lt (a := k) (tgt := 36) hx hb (by omega) d_Mo_points_19 (by decide) (fun c19 => c19.elim) (fun c19 => ?_)
      refine lv_aload_n hx hb d_Mo_points_22 rfl (lv_at hl 0 rfl) ?_
      refine lv_iload_n hx hb d_Mo_points_23 rfl (lv_at hl 1 rfl) ?_
      refine bk_topi (y := nI j7) hx7 ?_
      refine lv_aload_n hx hb d_Mo_points_24 rfl (lv_at hl 0 rfl) ?_
      refine va_get (D := (dC, dI)) (ci := 8) (v := .ref m7) (C := R_Mo) (T := F_Mo) (N := 27) hx hb htg iw_Mo hown hK hP 0 rfl rfl 7 (by decide) (htg _ k3_59) (fun _ h9 => h9) rfl d_Mo_points_25 ?_
      refine lv_iload_n hx hb d_Mo_points_28 rfl (lv_at hl 1 rfl) ?_
      refine bk_topi (y := nI j7) hx7 ?_
      refine bk_iald (v := oI (so j7)) hx hb hK hP 6 0 rfl rfl (by omega) (by decide) rfl d_Mo_points_29 ?_
      refine bk_topi (y := nI k) (by rw [hsj]; rfl) ?_
      refine vp_callSi (va_runV (As := [.int (nI j7), .int (nI k)]) (rest := []) ⟨hx, hb, hml, hown, htg⟩ (c_Mo_pointsOf l dC dI cI cL cZ mo 0 m2 m3 m4 m5 m6 m7 m8 pn m10 m11 m12 m13 m14 m15 as0 dc m18 tc m20 m21 m22 m23 m24 m25 m26 sd cn ms md mk mg j7 k hi hi2 hj7 hkn) (cwV 2 htg (gdV k3_163 k3_165 ks_Mo_pointsOf k1_9 kc_Mo_pointsOf) rfl rfl rfl (by decide +kernel) ⟨Nat.le_of_ble_eq_true rfl, Nat.le_of_ble_eq_true rfl⟩) ⟨bk_blind, va_recv hK hP (ci := 8) (q0 := 0) rfl rfl, fun U hU hW => ⟨rfl, nw_warm hW hN, by rw [hU]; exact hP.sub [0, 1, 2, 3, 4, 5] rfl, va_K.moved hW.alike hK⟩⟩ rfl rfl hl.1 rfl (lv_room (Nat.le_of_ble_eq_true rfl)) d_Mo_points_30 ⟨Nat.le_of_ble_eq_true rfl, Nat.le_of_ble_eq_true rfl⟩).run (fun r30 e30 => ?_)
      subst e30
      refine lv_goto (tgt := 37) hx hb d_Mo_points_33 (by decide) ?_
      have hP9 := hP.sub (ws' := [(mo, .inr (8, [.int (nI 0), .long sd, .ref m2, .ref m3, .ref m4, .ref m5, .ref m6, .ref m7, .ref m8, .int (nI pn), .ref m10, .ref m11, .ref m12, .ref m13, .ref m14, .ref m15, .int (nI as0), .int (nI dc), .ref m18, .int (nI tc), .ref m20, .ref m21, .ref m22, .ref m23, .ref m24, .ref m25, .ref m26])), (m2, .inl (cI, 2, .inl (aI cn))), (m3, .inl (cI, 60, .inl (aI ms))), (m4, .inl (cI, 60, .inl (aI md))), (m5, .inl (cI, 60, .inl (aI mk))), (m6, .inl (cL, 60, .inr (.inl (aL mg)))), (m7, .inl (cI, 30, .inl (aO so)))]) [0, 1, 2, 3, 4, 5, 6] rfl
      have hD9 := hD.sub (ws' := [(mo, .inr (8, [.int (nI 0), .long sd, .ref m2, .ref m3, .ref m4, .ref m5, .ref m6, .ref m7, .ref m8, .int (nI pn), .ref m10, .ref m11, .ref m12, .ref m13, .ref m14, .ref m15, .int (nI as0), .int (nI dc), .ref m18, .int (nI tc), .ref m20, .ref m21, .ref m22, .ref m23, .ref m24, .ref m25, .ref m26])), (m2, .inl (cI, 2, .inl (aI cn))), (m3, .inl (cI, 60, .inl (aI ms))), (m4, .inl (cI, 60, .inl (aI md))), (m5, .inl (cI, 60, .inl (aI mk))), (m6, .inl (cL, 60, .inr (.inl (aL mg)))), (m7, .inl (cI, 30, .inl (aO so)))]) [0, 1, 2, 3, 4, 5, 6] (by decide) rfl
      exact W.iret (v := nI (ptOf ms md mk mg (sh30 ms) (sh30 md) (sh30 mk) (sh30 mg) j7 k)) hx hb hr (fun t9 ht9 hW9 => ⟨⟨nI (ptOf ms md mk mg (sh30 ms) (sh30 md) (sh30 mk) (sh30 mg) j7 k), (), rfl, Or.inl ⟨j7, k, hj7, hx7, hsj, rfl⟩, by rw [ht9]; exact hP9, va_K.moved hW9.alike hK, hD9⟩, hS.F ht9⟩) hS.2.2 d_Mo_points_37
  · refine bk_if_eq (a := 0) (tgt := 36) hx hb (by omega) d_Mo_points_10 (by decide) (fun c10 => ?_) (fun c10 => absurd c10 (by decide))
    refine lv_iconst (v := nI 0) hx hb d_Mo_points_36 (by decide +kernel) ?_
    have hP9 := hP.sub (ws' := [(mo, .inr (8, [.int (nI 0), .long sd, .ref m2, .ref m3, .ref m4, .ref m5, .ref m6, .ref m7, .ref m8, .int (nI pn), .ref m10, .ref m11, .ref m12, .ref m13, .ref m14, .ref m15, .int (nI as0), .int (nI dc), .ref m18, .int (nI tc), .ref m20, .ref m21, .ref m22, .ref m23, .ref m24, .ref m25, .ref m26])), (m2, .inl (cI, 2, .inl (aI cn))), (m3, .inl (cI, 60, .inl (aI ms))), (m4, .inl (cI, 60, .inl (aI md))), (m5, .inl (cI, 60, .inl (aI mk))), (m6, .inl (cL, 60, .inr (.inl (aL mg)))), (m7, .inl (cI, 30, .inl (aO so)))]) [0, 1, 2, 3, 4, 5, 6] rfl
    have hD9 := hD.sub (ws' := [(mo, .inr (8, [.int (nI 0), .long sd, .ref m2, .ref m3, .ref m4, .ref m5, .ref m6, .ref m7, .ref m8, .int (nI pn), .ref m10, .ref m11, .ref m12, .ref m13, .ref m14, .ref m15, .int (nI as0), .int (nI dc), .ref m18, .int (nI tc), .ref m20, .ref m21, .ref m22, .ref m23, .ref m24, .ref m25, .ref m26])), (m2, .inl (cI, 2, .inl (aI cn))), (m3, .inl (cI, 60, .inl (aI ms))), (m4, .inl (cI, 60, .inl (aI md))), (m5, .inl (cI, 60, .inl (aI mk))), (m6, .inl (cL, 60, .inr (.inl (aL mg)))), (m7, .inl (cI, 30, .inl (aO so)))]) [0, 1, 2, 3, 4, 5, 6] (by decide) rfl
    exact W.iret (v := nI 0) hx hb hr (fun t9 ht9 hW9 => ⟨⟨nI 0, (), rfl, Or.inr ⟨(fun j9 h9 e9 => absurd ⟨j9, h9, e9⟩ n7), rfl⟩, by rw [ht9]; exact hP9, va_K.moved hW9.alike hK, hD9⟩, hS.F ht9⟩) hS.2.2 d_Mo_points_37
set_option maxHeartbeats 4000000 in
set_option maxRecDepth 100000 in
theorem c_Mo_differs (l : Launch) (dC : Nat → ClassId) (dI : Nat → Nat → Nat) (cI cL cZ : ClassId) (sz : Nat) (mo co m2 m3 m4 m5 m6 m7 m8 pn m10 m11 m12 m13 m14 m15 as0 dc m18 tc m20 m21 m22 m23 m24 m25 m26 : Nat) (sd : Int64) (cn : Nat → Nat) (ms : Nat → Nat) (md : Nat → Nat) (mk : Nat → Nat) (mg : Nat → Nat) (so : Nat → Option Nat) (x : Int32) (hi : bkI (cn 0) ms md mk mg) (hi2 : bkI (cn 1) (sh30 ms) (sh30 md) (sh30 mk) (sh30 mg)) (hso : ∀ p k, p < cn 0 → so p = some k → k < cn 1) : Met l y_Mo_differs ws_Mo_differs { frames := 1, cells := 0, slots := 0, locals := 21 } (va_Pc [.ref mo, .int x] (wrP (dC, dI) vwCl [(cI, .int), (cL, .long), (cZ, .boolean)] [(mo, .inr (8, [.int (nI co), .long sd, .ref m2, .ref m3, .ref m4, .ref m5, .ref m6, .ref m7, .ref m8, .int (nI pn), .ref m10, .ref m11, .ref m12, .ref m13, .ref m14, .ref m15, .int (nI as0), .int (nI dc), .ref m18, .int (nI tc), .ref m20, .ref m21, .ref m22, .ref m23, .ref m24, .ref m25, .ref m26])), (m2, .inl (cI, 2, .inl (aI cn))), (m3, .inl (cI, 60, .inl (aI ms))), (m4, .inl (cI, 60, .inl (aI md))), (m5, .inl (cI, 60, .inl (aI mk))), (m6, .inl (cL, 60, .inr (.inl (aL mg)))), (m7, .inl (cI, 30, .inl (aO so)))] sz)) (va_Ql (fun (r : Int64) (u : Unit) => (∃ j k, j < cn 0 ∧ x = nI j ∧ so j = some k ∧ r = lN (sh30 mg k) - lN (mg j)) ∨ ((∀ j, j < cn 0 → x = nI j → so j = none) ∧ r = lN 0)) (fun (u : Unit) => wrQ (dC, dI) vwCl [(cI, .int), (cL, .long), (cZ, .boolean)] (va_A [(mo, .inr (8, [.int (nI co), .long sd, .ref m2, .ref m3, .ref m4, .ref m5, .ref m6, .ref m7, .ref m8, .int (nI pn), .ref m10, .ref m11, .ref m12, .ref m13, .ref m14, .ref m15, .int (nI as0), .int (nI dc), .ref m18, .int (nI tc), .ref m20, .ref m21, .ref m22, .ref m23, .ref m24, .ref m25, .ref m26])), (m2, .inl (cI, 2, .inl (aI cn))), (m3, .inl (cI, 60, .inl (aI ms))), (m4, .inl (cI, 60, .inl (aI md))), (m5, .inl (cI, 60, .inl (aI mk))), (m6, .inl (cL, 60, .inr (.inl (aL mg)))), (m7, .inl (cI, 30, .inl (aO so)))] sz) [(mo, .inr (8, [.int (nI 0), .long sd, .ref m2, .ref m3, .ref m4, .ref m5, .ref m6, .ref m7, .ref m8, .int (nI pn), .ref m10, .ref m11, .ref m12, .ref m13, .ref m14, .ref m15, .int (nI as0), .int (nI dc), .ref m18, .int (nI tc), .ref m20, .ref m21, .ref m22, .ref m23, .ref m24, .ref m25, .ref m26])), (m2, .inl (cI, 2, .inl (aI cn))), (m3, .inl (cI, 60, .inl (aI ms))), (m4, .inl (cI, 60, .inl (aI md))), (m5, .inl (cI, 60, .inl (aI mk))), (m6, .inl (cL, 60, .inr (.inl (aL mg)))), (m7, .inl (cI, 30, .inl (aO so)))]) (va_A [(mo, .inr (8, [.int (nI co), .long sd, .ref m2, .ref m3, .ref m4, .ref m5, .ref m6, .ref m7, .ref m8, .int (nI pn), .ref m10, .ref m11, .ref m12, .ref m13, .ref m14, .ref m15, .int (nI as0), .int (nI dc), .ref m18, .int (nI tc), .ref m20, .ref m21, .ref m22, .ref m23, .ref m24, .ref m25, .ref m26])), (m2, .inl (cI, 2, .inl (aI cn))), (m3, .inl (cI, 60, .inl (aI ms))), (m4, .inl (cI, 60, .inl (aI md))), (m5, .inl (cI, 60, .inl (aI mk))), (m6, .inl (cL, 60, .inr (.inl (aL mg)))), (m7, .inl (cI, 30, .inl (aO so)))] sz)) 0 0 (va_A [(mo, .inr (8, [.int (nI co), .long sd, .ref m2, .ref m3, .ref m4, .ref m5, .ref m6, .ref m7, .ref m8, .int (nI pn), .ref m10, .ref m11, .ref m12, .ref m13, .ref m14, .ref m15, .int (nI as0), .int (nI dc), .ref m18, .int (nI tc), .ref m20, .ref m21, .ref m22, .ref m23, .ref m24, .ref m25, .ref m26])), (m2, .inl (cI, 2, .inl (aI cn))), (m3, .inl (cI, 60, .inl (aI ms))), (m4, .inl (cI, 60, .inl (aI md))), (m5, .inl (cI, 60, .inl (aI mk))), (m6, .inl (cL, 60, .inr (.inl (aL mg)))), (m7, .inl (cI, 30, .inl (aO so)))] sz) := by
  refine Met.ofW (cc := b_Mo_differs) (maxL := 2) (ret := (some .long)) (by decide) rfl ?_
  intro pr en s m args below meth c s₁ B hml hv
  obtain ⟨rfl, hN, hsz, hP, hK, hD0⟩ := hv
  have hx := B.exec
  have hb := B.bytes
  have hr := B.returns
  have hts := atoms_spec (ws := ws_Mo_differs) B.pre
  have htg : ∀ w ∈ gW, w.before _ s = true := fun w h => hts w (List.mem_cons_of_mem _ h)
  have hown : s.vm.findClass R_Mo = some m.cls := findClass_of_methodNamed B.named
  have hlocks := B.notSynchronized
  subst hsz
  have hD := hD0.self (sz := s.heap.size)
  generalize hAe : va_A [(mo, .inr (8, [.int (nI co), .long sd, .ref m2, .ref m3, .ref m4, .ref m5, .ref m6, .ref m7, .ref m8, .int (nI pn), .ref m10, .ref m11, .ref m12, .ref m13, .ref m14, .ref m15, .int (nI as0), .int (nI dc), .ref m18, .int (nI tc), .ref m20, .ref m21, .ref m22, .ref m23, .ref m24, .ref m25, .ref m26])), (m2, .inl (cI, 2, .inl (aI cn))), (m3, .inl (cI, 60, .inl (aI ms))), (m4, .inl (cI, 60, .inl (aI md))), (m5, .inl (cI, 60, .inl (aI mk))), (m6, .inl (cL, 60, .inr (.inl (aL mg)))), (m7, .inl (cI, 30, .inl (aO so)))] s.heap.size = A at hD ⊢
  have hA : ∀ q : Nat, s.heap.size ≤ q → A q := fun q h => by rw [← hAe]; exact Or.inr h
  have hS : va_S A s.heap s.heap [] := va_S.rf
  have hP : va_P (dC, dI) vwCl [(mo, .inr (8, [.int (nI co), .long sd, .ref m2, .ref m3, .ref m4, .ref m5, .ref m6, .ref m7, .ref m8, .int (nI pn), .ref m10, .ref m11, .ref m12, .ref m13, .ref m14, .ref m15, .int (nI as0), .int (nI dc), .ref m18, .int (nI tc), .ref m20, .ref m21, .ref m22, .ref m23, .ref m24, .ref m25, .ref m26])), (m2, .inl (cI, 2, .inl (aI cn))), (m3, .inl (cI, 60, .inl (aI ms))), (m4, .inl (cI, 60, .inl (aI md))), (m5, .inl (cI, 60, .inl (aI mk))), (m6, .inl (cL, 60, .inr (.inl (aL mg)))), (m7, .inl (cI, 30, .inl (aO so)))] s.heap := hP
  have hl := lv_entry ([.ref mo, .int x]) (n := 2) (Nat.le_of_ble_eq_true rfl)
  rw [lg_entry_eq]
  generalize (lg_sl ([.ref mo, .int x]) ++ List.replicate (2 - (lg_sl ([.ref mo, .int x])).length) Slot.unset).toArray = ls at hl ⊢
  have hl : lv_has ls 2 [(0, .ref mo), (1, .int x)] := hl
  have hn := hi.1
  have hn2 := hi2.1
  refine lv_aload_n hx hb d_Mo_differs_0 rfl (lv_at hl 0 rfl) ?_
  refine lv_iconst (v := nI 0) hx hb d_Mo_differs_1 (by decide +kernel) ?_
  refine va_put (D := (dC, dI)) (ci := 8) (v := .int (nI 0)) (ty := (t_Mo 0)) (C := R_Mo) (T := F_Mo) (N := 27) hx hb htg iw_Mo t_Mo tk_Mo nm_Mo hown hK hP hD hS 0 rfl rfl 0 (by decide) (htg _ k3_52) (fun _ h9 => h9) rfl (by decide +kernel) rfl rfl (Nat.le_of_ble_eq_true rfl) d_Mo_differs_2 (fun H locs hP hD hS => ?_)
  have hP : va_P (dC, dI) vwCl [(mo, .inr (8, [.int (nI 0), .long sd, .ref m2, .ref m3, .ref m4, .ref m5, .ref m6, .ref m7, .ref m8, .int (nI pn), .ref m10, .ref m11, .ref m12, .ref m13, .ref m14, .ref m15, .int (nI as0), .int (nI dc), .ref m18, .int (nI tc), .ref m20, .ref m21, .ref m22, .ref m23, .ref m24, .ref m25, .ref m26])), (m2, .inl (cI, 2, .inl (aI cn))), (m3, .inl (cI, 60, .inl (aI ms))), (m4, .inl (cI, 60, .inl (aI md))), (m5, .inl (cI, 60, .inl (aI mk))), (m6, .inl (cL, 60, .inr (.inl (aL mg)))), (m7, .inl (cI, 30, .inl (aO so)))] H := hP
  have hD : va_D A [(mo, .inr (8, [.int (nI 0), .long sd, .ref m2, .ref m3, .ref m4, .ref m5, .ref m6, .ref m7, .ref m8, .int (nI pn), .ref m10, .ref m11, .ref m12, .ref m13, .ref m14, .ref m15, .int (nI as0), .int (nI dc), .ref m18, .int (nI tc), .ref m20, .ref m21, .ref m22, .ref m23, .ref m24, .ref m25, .ref m26])), (m2, .inl (cI, 2, .inl (aI cn))), (m3, .inl (cI, 60, .inl (aI ms))), (m4, .inl (cI, 60, .inl (aI md))), (m5, .inl (cI, 60, .inl (aI mk))), (m6, .inl (cL, 60, .inr (.inl (aL mg)))), (m7, .inl (cI, 30, .inl (aO so)))] := hD
  refine lv_aload_n hx hb d_Mo_differs_5 rfl (lv_at hl 0 rfl) ?_
  refine lv_iload_n hx hb d_Mo_differs_6 rfl (lv_at hl 1 rfl) ?_
  refine vp_callSi (va_runV (As := [.int x]) (rest := []) ⟨hx, hb, hml, hown, htg⟩ (c_Mo_isPage l dC dI cI cL cZ mo 0 m2 m3 m4 m5 m6 m7 m8 pn m10 m11 m12 m13 m14 m15 as0 dc m18 tc m20 m21 m22 m23 m24 m25 m26 sd cn x (by omega)) (cwV 1 htg (gdV k3_172 k3_174 ks_Mo_isPage k1_9 kc_Mo_isPage) rfl rfl rfl (by decide +kernel) ⟨Nat.le_of_ble_eq_true rfl, Nat.le_of_ble_eq_true rfl⟩) ⟨bk_blind, va_recv hK hP (ci := 8) (q0 := 0) rfl rfl, fun U hU hW => ⟨rfl, nw_warm hW hN, by rw [hU]; exact hP.sub [0, 1] rfl, va_K.moved hW.alike hK⟩⟩ rfl rfl hl.1 rfl (lv_room (Nat.le_of_ble_eq_true rfl)) d_Mo_differs_7 ⟨Nat.le_of_ble_eq_true rfl, Nat.le_of_ble_eq_true rfl⟩).run (fun r7 e7 => ?_)
  rcases e7 with ⟨⟨j7, hj7, hx7⟩, rfl⟩ | ⟨n7, rfl⟩
  · refine bk_if_eq (a := 1) (tgt := 46) hx hb (by omega) d_Mo_differs_10 (by decide) (fun c10 => absurd c10 (by decide)) (fun c10 => ?_)
    refine lv_aload_n hx hb d_Mo_differs_13 rfl (lv_at hl 0 rfl) ?_
    refine va_get (D := (dC, dI)) (ci := 8) (v := .ref m7) (C := R_Mo) (T := F_Mo) (N := 27) hx hb htg iw_Mo hown hK hP 0 rfl rfl 7 (by decide) (htg _ k3_59) (fun _ h9 => h9) rfl d_Mo_differs_14 ?_
    refine lv_iload_n hx hb d_Mo_differs_17 rfl (lv_at hl 1 rfl) ?_
    refine bk_topi (y := nI j7) hx7 ?_
    refine bk_iald (v := oI (so j7)) hx hb hK hP 6 0 rfl rfl (by omega) (by decide) rfl d_Mo_differs_18 ?_
    rcases hsj : so j7 with _ | k
    · refine lv_if_lt (x := oI none) (tgt := 46) hx hb d_Mo_differs_19 (by decide) (fun c19 => ?_) (fun c19 => absurd (by decide) c19)
      refine lv_lconst (v := lN 0) hx hb d_Mo_differs_46 (by decide +kernel) ?_
      have hP9 := hP.sub (ws' := [(mo, .inr (8, [.int (nI 0), .long sd, .ref m2, .ref m3, .ref m4, .ref m5, .ref m6, .ref m7, .ref m8, .int (nI pn), .ref m10, .ref m11, .ref m12, .ref m13, .ref m14, .ref m15, .int (nI as0), .int (nI dc), .ref m18, .int (nI tc), .ref m20, .ref m21, .ref m22, .ref m23, .ref m24, .ref m25, .ref m26])), (m2, .inl (cI, 2, .inl (aI cn))), (m3, .inl (cI, 60, .inl (aI ms))), (m4, .inl (cI, 60, .inl (aI md))), (m5, .inl (cI, 60, .inl (aI mk))), (m6, .inl (cL, 60, .inr (.inl (aL mg)))), (m7, .inl (cI, 30, .inl (aO so)))]) [0, 1, 2, 3, 4, 5, 6] rfl
      have hD9 := hD.sub (ws' := [(mo, .inr (8, [.int (nI 0), .long sd, .ref m2, .ref m3, .ref m4, .ref m5, .ref m6, .ref m7, .ref m8, .int (nI pn), .ref m10, .ref m11, .ref m12, .ref m13, .ref m14, .ref m15, .int (nI as0), .int (nI dc), .ref m18, .int (nI tc), .ref m20, .ref m21, .ref m22, .ref m23, .ref m24, .ref m25, .ref m26])), (m2, .inl (cI, 2, .inl (aI cn))), (m3, .inl (cI, 60, .inl (aI ms))), (m4, .inl (cI, 60, .inl (aI md))), (m5, .inl (cI, 60, .inl (aI mk))), (m6, .inl (cL, 60, .inr (.inl (aL mg)))), (m7, .inl (cI, 30, .inl (aO so)))]) [0, 1, 2, 3, 4, 5, 6] (by decide) rfl
      exact W.lret (v := lN 0) hx hb hr (fun t9 ht9 hW9 => ⟨⟨lN 0, (), rfl, Or.inr ⟨(fun j9 h9 e9 => by rw [hx7] at e9; rw [← (nI_eq (by omega) (by omega)).mp e9]; exact hsj), rfl⟩, by rw [ht9]; exact hP9, va_K.moved hW9.alike hK, hD9⟩, hS.F ht9⟩) hS.2.2 d_Mo_differs_47
    · refine bk_topi (y := nI k) rfl ?_
      have hkn := hso j7 k hj7 hsj
      refine bk_if_lt (a := k) (tgt := 46) hx hb (by omega) d_Mo_differs_19 (by decide) (fun c19 => c19.elim) (fun c19 => ?_)
      refine lv_aload_n hx hb d_Mo_differs_22 rfl (lv_at hl 0 rfl) ?_
      refine va_get (D := (dC, dI)) (ci := 8) (v := .ref m6) (C := R_Mo) (T := F_Mo) (N := 27) hx hb htg iw_Mo hown hK hP 0 rfl rfl 6 (by decide) (htg _ k3_58) (fun _ h9 => h9) rfl d_Mo_differs_23 ?_
      refine lv_bipush (v := nI 30) hx hb d_Mo_differs_26 (by decide +kernel) ?_
      refine lv_aload_n hx hb d_Mo_differs_28 rfl (lv_at hl 0 rfl) ?_
      refine va_get (D := (dC, dI)) (ci := 8) (v := .ref m7) (C := R_Mo) (T := F_Mo) (N := 27) hx hb htg iw_Mo hown hK hP 0 rfl rfl 7 (by decide) (htg _ k3_59) (fun _ h9 => h9) rfl d_Mo_differs_29 ?_
      refine lv_iload_n hx hb d_Mo_differs_32 rfl (lv_at hl 1 rfl) ?_
      refine bk_topi (y := nI j7) hx7 ?_
      refine bk_iald (v := oI (so j7)) hx hb hK hP 6 0 rfl rfl (by omega) (by decide) rfl d_Mo_differs_33 ?_
      refine bk_topi (y := nI k) (by rw [hsj]; rfl) ?_
      refine bk_iadd hx hb d_Mo_differs_34 ?_
      refine bk_lald (v := lN (mg (30 + k))) hx hb hK hP 5 1 rfl rfl (by omega) (by decide) rfl d_Mo_differs_35 ?_
      refine lv_aload_n hx hb d_Mo_differs_36 rfl (lv_at hl 0 rfl) ?_
      refine va_get (D := (dC, dI)) (ci := 8) (v := .ref m6) (C := R_Mo) (T := F_Mo) (N := 27) hx hb htg iw_Mo hown hK hP 0 rfl rfl 6 (by decide) (htg _ k3_58) (fun _ h9 => h9) rfl d_Mo_differs_37 ?_
      refine lv_iload_n hx hb d_Mo_differs_40 rfl (lv_at hl 1 rfl) ?_
      refine bk_topi (y := nI j7) hx7 ?_
      refine bk_lald (v := lN (mg j7)) hx hb hK hP 5 1 rfl rfl (by omega) (by decide) rfl d_Mo_differs_41 ?_
      refine lv_lsub hx hb d_Mo_differs_42 ?_
      refine lv_goto (tgt := 47) hx hb d_Mo_differs_43 (by decide) ?_
      have hP9 := hP.sub (ws' := [(mo, .inr (8, [.int (nI 0), .long sd, .ref m2, .ref m3, .ref m4, .ref m5, .ref m6, .ref m7, .ref m8, .int (nI pn), .ref m10, .ref m11, .ref m12, .ref m13, .ref m14, .ref m15, .int (nI as0), .int (nI dc), .ref m18, .int (nI tc), .ref m20, .ref m21, .ref m22, .ref m23, .ref m24, .ref m25, .ref m26])), (m2, .inl (cI, 2, .inl (aI cn))), (m3, .inl (cI, 60, .inl (aI ms))), (m4, .inl (cI, 60, .inl (aI md))), (m5, .inl (cI, 60, .inl (aI mk))), (m6, .inl (cL, 60, .inr (.inl (aL mg)))), (m7, .inl (cI, 30, .inl (aO so)))]) [0, 1, 2, 3, 4, 5, 6] rfl
      have hD9 := hD.sub (ws' := [(mo, .inr (8, [.int (nI 0), .long sd, .ref m2, .ref m3, .ref m4, .ref m5, .ref m6, .ref m7, .ref m8, .int (nI pn), .ref m10, .ref m11, .ref m12, .ref m13, .ref m14, .ref m15, .int (nI as0), .int (nI dc), .ref m18, .int (nI tc), .ref m20, .ref m21, .ref m22, .ref m23, .ref m24, .ref m25, .ref m26])), (m2, .inl (cI, 2, .inl (aI cn))), (m3, .inl (cI, 60, .inl (aI ms))), (m4, .inl (cI, 60, .inl (aI md))), (m5, .inl (cI, 60, .inl (aI mk))), (m6, .inl (cL, 60, .inr (.inl (aL mg)))), (m7, .inl (cI, 30, .inl (aO so)))]) [0, 1, 2, 3, 4, 5, 6] (by decide) rfl
      exact W.lret (v := ((lN (mg (30 + k))) - (lN (mg j7)))) hx hb hr (fun t9 ht9 hW9 => ⟨⟨((lN (mg (30 + k))) - (lN (mg j7))), (), rfl, Or.inl ⟨j7, k, hj7, hx7, hsj, rfl⟩, by rw [ht9]; exact hP9, va_K.moved hW9.alike hK, hD9⟩, hS.F ht9⟩) hS.2.2 d_Mo_differs_47
  · refine bk_if_eq (a := 0) (tgt := 46) hx hb (by omega) d_Mo_differs_10 (by decide) (fun c10 => ?_) (fun c10 => absurd c10 (by decide))
    refine lv_lconst (v := lN 0) hx hb d_Mo_differs_46 (by decide +kernel) ?_
    have hP9 := hP.sub (ws' := [(mo, .inr (8, [.int (nI 0), .long sd, .ref m2, .ref m3, .ref m4, .ref m5, .ref m6, .ref m7, .ref m8, .int (nI pn), .ref m10, .ref m11, .ref m12, .ref m13, .ref m14, .ref m15, .int (nI as0), .int (nI dc), .ref m18, .int (nI tc), .ref m20, .ref m21, .ref m22, .ref m23, .ref m24, .ref m25, .ref m26])), (m2, .inl (cI, 2, .inl (aI cn))), (m3, .inl (cI, 60, .inl (aI ms))), (m4, .inl (cI, 60, .inl (aI md))), (m5, .inl (cI, 60, .inl (aI mk))), (m6, .inl (cL, 60, .inr (.inl (aL mg)))), (m7, .inl (cI, 30, .inl (aO so)))]) [0, 1, 2, 3, 4, 5, 6] rfl
    have hD9 := hD.sub (ws' := [(mo, .inr (8, [.int (nI 0), .long sd, .ref m2, .ref m3, .ref m4, .ref m5, .ref m6, .ref m7, .ref m8, .int (nI pn), .ref m10, .ref m11, .ref m12, .ref m13, .ref m14, .ref m15, .int (nI as0), .int (nI dc), .ref m18, .int (nI tc), .ref m20, .ref m21, .ref m22, .ref m23, .ref m24, .ref m25, .ref m26])), (m2, .inl (cI, 2, .inl (aI cn))), (m3, .inl (cI, 60, .inl (aI ms))), (m4, .inl (cI, 60, .inl (aI md))), (m5, .inl (cI, 60, .inl (aI mk))), (m6, .inl (cL, 60, .inr (.inl (aL mg)))), (m7, .inl (cI, 30, .inl (aO so)))]) [0, 1, 2, 3, 4, 5, 6] (by decide) rfl
    exact W.lret (v := lN 0) hx hb hr (fun t9 ht9 hW9 => ⟨⟨lN 0, (), rfl, Or.inr ⟨(fun j9 h9 e9 => absurd ⟨j9, h9, e9⟩ n7), rfl⟩, by rw [ht9]; exact hP9, va_K.moved hW9.alike hK, hD9⟩, hS.F ht9⟩) hS.2.2 d_Mo_differs_47
set_option maxHeartbeats 4000000 in
set_option maxRecDepth 100000 in
theorem c_Mo_waits (l : Launch) (dC : Nat → ClassId) (dI : Nat → Nat → Nat) (cI cL cZ : ClassId) (sz : Nat) (mo co m2 m3 m4 m5 m6 m7 m8 pn m10 m11 m12 m13 m14 m15 as0 dc m18 tc m20 m21 m22 m23 m24 m25 m26 : Nat) (sd : Int64) (cn : Nat → Nat) (ms : Nat → Nat) (md : Nat → Nat) (mk : Nat → Nat) (mg : Nat → Nat) (so : Nat → Option Nat) (x y : Int32) (hi : bkI (cn 0) ms md mk mg) (hi2 : bkI (cn 1) (sh30 ms) (sh30 md) (sh30 mk) (sh30 mg)) (hso : ∀ p k, p < cn 0 → so p = some k → k < cn 1) : Met l y_Mo_waits ws_Mo_waits { frames := 1, cells := 0, slots := 0, locals := 25 } (va_Pc [.ref mo, .int x, .int y] (wrP (dC, dI) vwCl [(cI, .int), (cL, .long), (cZ, .boolean)] [(mo, .inr (8, [.int (nI co), .long sd, .ref m2, .ref m3, .ref m4, .ref m5, .ref m6, .ref m7, .ref m8, .int (nI pn), .ref m10, .ref m11, .ref m12, .ref m13, .ref m14, .ref m15, .int (nI as0), .int (nI dc), .ref m18, .int (nI tc), .ref m20, .ref m21, .ref m22, .ref m23, .ref m24, .ref m25, .ref m26])), (m2, .inl (cI, 2, .inl (aI cn))), (m3, .inl (cI, 60, .inl (aI ms))), (m4, .inl (cI, 60, .inl (aI md))), (m5, .inl (cI, 60, .inl (aI mk))), (m6, .inl (cL, 60, .inr (.inl (aL mg)))), (m7, .inl (cI, 30, .inl (aO so)))] sz)) (va_Qi (fun (r : Int32) (u : Unit) => ∃ o, r = oI o ∧ kth (wB so md x) (cn 0) y o) (fun (u : Unit) => wrQ (dC, dI) vwCl [(cI, .int), (cL, .long), (cZ, .boolean)] (va_A [(mo, .inr (8, [.int (nI co), .long sd, .ref m2, .ref m3, .ref m4, .ref m5, .ref m6, .ref m7, .ref m8, .int (nI pn), .ref m10, .ref m11, .ref m12, .ref m13, .ref m14, .ref m15, .int (nI as0), .int (nI dc), .ref m18, .int (nI tc), .ref m20, .ref m21, .ref m22, .ref m23, .ref m24, .ref m25, .ref m26])), (m2, .inl (cI, 2, .inl (aI cn))), (m3, .inl (cI, 60, .inl (aI ms))), (m4, .inl (cI, 60, .inl (aI md))), (m5, .inl (cI, 60, .inl (aI mk))), (m6, .inl (cL, 60, .inr (.inl (aL mg)))), (m7, .inl (cI, 30, .inl (aO so)))] sz) [(mo, .inr (8, [.int (nI 0), .long sd, .ref m2, .ref m3, .ref m4, .ref m5, .ref m6, .ref m7, .ref m8, .int (nI pn), .ref m10, .ref m11, .ref m12, .ref m13, .ref m14, .ref m15, .int (nI as0), .int (nI dc), .ref m18, .int (nI tc), .ref m20, .ref m21, .ref m22, .ref m23, .ref m24, .ref m25, .ref m26])), (m2, .inl (cI, 2, .inl (aI cn))), (m3, .inl (cI, 60, .inl (aI ms))), (m4, .inl (cI, 60, .inl (aI md))), (m5, .inl (cI, 60, .inl (aI mk))), (m6, .inl (cL, 60, .inr (.inl (aL mg)))), (m7, .inl (cI, 30, .inl (aO so)))]) (va_A [(mo, .inr (8, [.int (nI co), .long sd, .ref m2, .ref m3, .ref m4, .ref m5, .ref m6, .ref m7, .ref m8, .int (nI pn), .ref m10, .ref m11, .ref m12, .ref m13, .ref m14, .ref m15, .int (nI as0), .int (nI dc), .ref m18, .int (nI tc), .ref m20, .ref m21, .ref m22, .ref m23, .ref m24, .ref m25, .ref m26])), (m2, .inl (cI, 2, .inl (aI cn))), (m3, .inl (cI, 60, .inl (aI ms))), (m4, .inl (cI, 60, .inl (aI md))), (m5, .inl (cI, 60, .inl (aI mk))), (m6, .inl (cL, 60, .inr (.inl (aL mg)))), (m7, .inl (cI, 30, .inl (aO so)))] sz)) 0 0 (va_A [(mo, .inr (8, [.int (nI co), .long sd, .ref m2, .ref m3, .ref m4, .ref m5, .ref m6, .ref m7, .ref m8, .int (nI pn), .ref m10, .ref m11, .ref m12, .ref m13, .ref m14, .ref m15, .int (nI as0), .int (nI dc), .ref m18, .int (nI tc), .ref m20, .ref m21, .ref m22, .ref m23, .ref m24, .ref m25, .ref m26])), (m2, .inl (cI, 2, .inl (aI cn))), (m3, .inl (cI, 60, .inl (aI ms))), (m4, .inl (cI, 60, .inl (aI md))), (m5, .inl (cI, 60, .inl (aI mk))), (m6, .inl (cL, 60, .inr (.inl (aL mg)))), (m7, .inl (cI, 30, .inl (aO so)))] sz) := by
  refine Met.ofW (cc := b_Mo_waits) (maxL := 5) (ret := (some .int)) (by decide) rfl ?_
  intro pr en s m args below meth c s₁ B hml hv
  obtain ⟨rfl, hN, hsz, hP, hK, hD0⟩ := hv
  have hx := B.exec
  have hb := B.bytes
  have hr := B.returns
  have hts := atoms_spec (ws := ws_Mo_waits) B.pre
  have htg : ∀ w ∈ gW, w.before _ s = true := fun w h => hts w (List.mem_cons_of_mem _ h)
  have hown : s.vm.findClass R_Mo = some m.cls := findClass_of_methodNamed B.named
  have hlocks := B.notSynchronized
  subst hsz
  have hD := hD0.self (sz := s.heap.size)
  generalize hAe : va_A [(mo, .inr (8, [.int (nI co), .long sd, .ref m2, .ref m3, .ref m4, .ref m5, .ref m6, .ref m7, .ref m8, .int (nI pn), .ref m10, .ref m11, .ref m12, .ref m13, .ref m14, .ref m15, .int (nI as0), .int (nI dc), .ref m18, .int (nI tc), .ref m20, .ref m21, .ref m22, .ref m23, .ref m24, .ref m25, .ref m26])), (m2, .inl (cI, 2, .inl (aI cn))), (m3, .inl (cI, 60, .inl (aI ms))), (m4, .inl (cI, 60, .inl (aI md))), (m5, .inl (cI, 60, .inl (aI mk))), (m6, .inl (cL, 60, .inr (.inl (aL mg)))), (m7, .inl (cI, 30, .inl (aO so)))] s.heap.size = A at hD ⊢
  have hA : ∀ q : Nat, s.heap.size ≤ q → A q := fun q h => by rw [← hAe]; exact Or.inr h
  have hS : va_S A s.heap s.heap [] := va_S.rf
  have hP : va_P (dC, dI) vwCl [(mo, .inr (8, [.int (nI co), .long sd, .ref m2, .ref m3, .ref m4, .ref m5, .ref m6, .ref m7, .ref m8, .int (nI pn), .ref m10, .ref m11, .ref m12, .ref m13, .ref m14, .ref m15, .int (nI as0), .int (nI dc), .ref m18, .int (nI tc), .ref m20, .ref m21, .ref m22, .ref m23, .ref m24, .ref m25, .ref m26])), (m2, .inl (cI, 2, .inl (aI cn))), (m3, .inl (cI, 60, .inl (aI ms))), (m4, .inl (cI, 60, .inl (aI md))), (m5, .inl (cI, 60, .inl (aI mk))), (m6, .inl (cL, 60, .inr (.inl (aL mg)))), (m7, .inl (cI, 30, .inl (aO so)))] s.heap := hP
  have hl := lv_entry ([.ref mo, .int x, .int y]) (n := 5) (Nat.le_of_ble_eq_true rfl)
  rw [lg_entry_eq]
  generalize (lg_sl ([.ref mo, .int x, .int y]) ++ List.replicate (5 - (lg_sl ([.ref mo, .int x, .int y])).length) Slot.unset).toArray = ls at hl ⊢
  have hl : lv_has ls 5 [(0, .ref mo), (1, .int x), (2, .int y)] := hl
  have hn := hi.1
  have hn2 := hi2.1
  refine lv_aload_n hx hb d_Mo_waits_0 rfl (lv_at hl 0 rfl) ?_
  refine lv_iconst (v := nI 0) hx hb d_Mo_waits_1 (by decide +kernel) ?_
  refine va_put (D := (dC, dI)) (ci := 8) (v := .int (nI 0)) (ty := (t_Mo 0)) (C := R_Mo) (T := F_Mo) (N := 27) hx hb htg iw_Mo t_Mo tk_Mo nm_Mo hown hK hP hD hS 0 rfl rfl 0 (by decide) (htg _ k3_52) (fun _ h9 => h9) rfl (by decide +kernel) rfl rfl (Nat.le_of_ble_eq_true rfl) d_Mo_waits_2 (fun H locs hP hD hS => ?_)
  have hP : va_P (dC, dI) vwCl [(mo, .inr (8, [.int (nI 0), .long sd, .ref m2, .ref m3, .ref m4, .ref m5, .ref m6, .ref m7, .ref m8, .int (nI pn), .ref m10, .ref m11, .ref m12, .ref m13, .ref m14, .ref m15, .int (nI as0), .int (nI dc), .ref m18, .int (nI tc), .ref m20, .ref m21, .ref m22, .ref m23, .ref m24, .ref m25, .ref m26])), (m2, .inl (cI, 2, .inl (aI cn))), (m3, .inl (cI, 60, .inl (aI ms))), (m4, .inl (cI, 60, .inl (aI md))), (m5, .inl (cI, 60, .inl (aI mk))), (m6, .inl (cL, 60, .inr (.inl (aL mg)))), (m7, .inl (cI, 30, .inl (aO so)))] H := hP
  have hD : va_D A [(mo, .inr (8, [.int (nI 0), .long sd, .ref m2, .ref m3, .ref m4, .ref m5, .ref m6, .ref m7, .ref m8, .int (nI pn), .ref m10, .ref m11, .ref m12, .ref m13, .ref m14, .ref m15, .int (nI as0), .int (nI dc), .ref m18, .int (nI tc), .ref m20, .ref m21, .ref m22, .ref m23, .ref m24, .ref m25, .ref m26])), (m2, .inl (cI, 2, .inl (aI cn))), (m3, .inl (cI, 60, .inl (aI ms))), (m4, .inl (cI, 60, .inl (aI md))), (m5, .inl (cI, 60, .inl (aI mk))), (m6, .inl (cL, 60, .inr (.inl (aL mg)))), (m7, .inl (cI, 30, .inl (aO so)))] := hD
  refine lv_iload_n hx hb d_Mo_waits_5 rfl (lv_at hl 2 rfl) ?_
  refine lv_istore_n (lv' := [(3, .int y), (0, .ref mo), (1, .int x), (2, .int y)]) hx hb d_Mo_waits_6 rfl hl (by decide) rfl (fun ls hl => ?_)
  refine lv_iconst (v := nI 0) hx hb d_Mo_waits_7 (by decide +kernel) ?_
  refine lv_istore (lv' := [(4, .int (nI 0)), (3, .int y), (0, .ref mo), (1, .int x), (2, .int y)]) hx hb d_Mo_waits_8 hl (by decide) rfl (fun ls hl => ?_)
  have J10 : ∀ (k : Nat) (i : Nat) (b : Nat) (lf : Int32), (i + k = cn 0) → (b = cntB (wB so md x) i) → (noYet (wB so md x) y i) → (lf.toInt = y.toInt - b) → ∀ (H : Heap) (locs : List Loc), va_P (dC, dI) vwCl [(mo, .inr (8, [.int (nI 0), .long sd, .ref m2, .ref m3, .ref m4, .ref m5, .ref m6, .ref m7, .ref m8, .int (nI pn), .ref m10, .ref m11, .ref m12, .ref m13, .ref m14, .ref m15, .int (nI as0), .int (nI dc), .ref m18, .int (nI tc), .ref m20, .ref m21, .ref m22, .ref m23, .ref m24, .ref m25, .ref m26])), (m2, .inl (cI, 2, .inl (aI cn))), (m3, .inl (cI, 60, .inl (aI ms))), (m4, .inl (cI, 60, .inl (aI md))), (m5, .inl (cI, 60, .inl (aI mk))), (m6, .inl (cL, 60, .inr (.inl (aL mg)))), (m7, .inl (cI, 30, .inl (aO so)))] H → va_D A [(mo, .inr (8, [.int (nI 0), .long sd, .ref m2, .ref m3, .ref m4, .ref m5, .ref m6, .ref m7, .ref m8, .int (nI pn), .ref m10, .ref m11, .ref m12, .ref m13, .ref m14, .ref m15, .int (nI as0), .int (nI dc), .ref m18, .int (nI tc), .ref m20, .ref m21, .ref m22, .ref m23, .ref m24, .ref m25, .ref m26])), (m2, .inl (cI, 2, .inl (aI cn))), (m3, .inl (cI, 60, .inl (aI ms))), (m4, .inl (cI, 60, .inl (aI md))), (m5, .inl (cI, 60, .inl (aI mk))), (m6, .inl (cL, 60, .inr (.inl (aL mg)))), (m7, .inl (cI, 30, .inl (aO so)))] → va_S A s.heap H locs → ∀ (ls : Array Slot), lv_has ls 5 [(0, .ref mo), (1, .int x), (2, .int y), (3, .int lf), (4, .int (nI i))] → W pr l en (headSpec ws_Mo_waits { frames := 1, cells := 0, slots := 0, locals := 25 }).room s m ([.ref mo, .int x, .int y] : List Value).toArray below meth c H locs 0 0 (MQ below (va_Qi (fun (r : Int32) (u : Unit) => ∃ o, r = oI o ∧ kth (wB so md x) (cn 0) y o) (fun (u : Unit) => wrQ (dC, dI) vwCl [(cI, .int), (cL, .long), (cZ, .boolean)] A [(mo, .inr (8, [.int (nI 0), .long sd, .ref m2, .ref m3, .ref m4, .ref m5, .ref m6, .ref m7, .ref m8, .int (nI pn), .ref m10, .ref m11, .ref m12, .ref m13, .ref m14, .ref m15, .int (nI as0), .int (nI dc), .ref m18, .int (nI tc), .ref m20, .ref m21, .ref m22, .ref m23, .ref m24, .ref m25, .ref m26])), (m2, .inl (cI, 2, .inl (aI cn))), (m3, .inl (cI, 60, .inl (aI ms))), (m4, .inl (cI, 60, .inl (aI md))), (m5, .inl (cI, 60, .inl (aI mk))), (m6, .inl (cL, 60, .inr (.inl (aL mg)))), (m7, .inl (cI, 30, .inl (aO so)))]) A) ([.ref mo, .int x, .int y] : List Value).toArray s 0 0 A) (F0 m 10 ls []) := by
    intro k
    induction k with
    | zero =>
      intro i b lf hk hc hy hlf H locs hP hD hS ls hl
      refine lv_iload hx hb d_Mo_waits_10 (lv_at hl 4 rfl) ?_
      refine lv_aload_n hx hb d_Mo_waits_12 rfl (lv_at hl 0 rfl) ?_
      refine va_get (D := (dC, dI)) (ci := 8) (v := .ref m2) (C := R_Mo) (T := F_Mo) (N := 27) hx hb htg iw_Mo hown hK hP 0 rfl rfl 2 (by decide) (htg _ k3_54) (fun _ h9 => h9) rfl d_Mo_waits_13 ?_
      refine lv_iconst (v := nI 0) hx hb d_Mo_waits_16 (by decide +kernel) ?_
      refine bk_iald (v := nI (cn 0)) hx hb hK hP 1 0 rfl rfl (by omega) (by decide) rfl d_Mo_waits_17 ?_
      refine bk_icmp_ge (a := i) (b := cn 0) (tgt := 72) hx hb (by omega) (by omega) d_Mo_waits_18 (by decide) (fun c18 => ?_) (fun c18 => by exfalso; omega)
      refine lv_iconst (v := oI none) hx hb d_Mo_waits_72 (by decide +kernel) ?_
      have hP9 := hP.sub (ws' := [(mo, .inr (8, [.int (nI 0), .long sd, .ref m2, .ref m3, .ref m4, .ref m5, .ref m6, .ref m7, .ref m8, .int (nI pn), .ref m10, .ref m11, .ref m12, .ref m13, .ref m14, .ref m15, .int (nI as0), .int (nI dc), .ref m18, .int (nI tc), .ref m20, .ref m21, .ref m22, .ref m23, .ref m24, .ref m25, .ref m26])), (m2, .inl (cI, 2, .inl (aI cn))), (m3, .inl (cI, 60, .inl (aI ms))), (m4, .inl (cI, 60, .inl (aI md))), (m5, .inl (cI, 60, .inl (aI mk))), (m6, .inl (cL, 60, .inr (.inl (aL mg)))), (m7, .inl (cI, 30, .inl (aO so)))]) [0, 1, 2, 3, 4, 5, 6] rfl
      have hD9 := hD.sub (ws' := [(mo, .inr (8, [.int (nI 0), .long sd, .ref m2, .ref m3, .ref m4, .ref m5, .ref m6, .ref m7, .ref m8, .int (nI pn), .ref m10, .ref m11, .ref m12, .ref m13, .ref m14, .ref m15, .int (nI as0), .int (nI dc), .ref m18, .int (nI tc), .ref m20, .ref m21, .ref m22, .ref m23, .ref m24, .ref m25, .ref m26])), (m2, .inl (cI, 2, .inl (aI cn))), (m3, .inl (cI, 60, .inl (aI ms))), (m4, .inl (cI, 60, .inl (aI md))), (m5, .inl (cI, 60, .inl (aI mk))), (m6, .inl (cL, 60, .inr (.inl (aL mg)))), (m7, .inl (cI, 30, .inl (aO so)))]) [0, 1, 2, 3, 4, 5, 6] (by decide) rfl
      exact W.iret (v := oI none) hx hb hr (fun t9 ht9 hW9 => ⟨⟨oI none, (), rfl, ⟨none, rfl, by rw [show i = cn 0 by omega] at hy; exact hy⟩, by rw [ht9]; exact hP9, va_K.moved hW9.alike hK, hD9⟩, hS.F ht9⟩) hS.2.2 d_Mo_waits_73
    | succ k ih10 =>
      intro i b lf hk hc hy hlf H locs hP hD hS ls hl
      have hd := (hi.2 i (by omega)).2.1
      have hle := cntB_le (wB so md x) i
      refine lv_iload hx hb d_Mo_waits_10 (lv_at hl 4 rfl) ?_
      refine lv_aload_n hx hb d_Mo_waits_12 rfl (lv_at hl 0 rfl) ?_
      refine va_get (D := (dC, dI)) (ci := 8) (v := .ref m2) (C := R_Mo) (T := F_Mo) (N := 27) hx hb htg iw_Mo hown hK hP 0 rfl rfl 2 (by decide) (htg _ k3_54) (fun _ h9 => h9) rfl d_Mo_waits_13 ?_
      refine lv_iconst (v := nI 0) hx hb d_Mo_waits_16 (by decide +kernel) ?_
      refine bk_iald (v := nI (cn 0)) hx hb hK hP 1 0 rfl rfl (by omega) (by decide) rfl d_Mo_waits_17 ?_
      refine bk_icmp_ge (a := i) (b := cn 0) (tgt := 72) hx hb (by omega) (by omega) d_Mo_waits_18 (by decide) (fun c18 => by exfalso; omega) (fun c18 => ?_)
      refine lv_iload_n hx hb d_Mo_waits_21 rfl (lv_at hl 3 rfl) ?_
      refine lv_if_lt (x := lf) (tgt := 72) hx hb d_Mo_waits_22 (by decide) (fun c22 => ?_) (fun c22 => ?_)
      · refine lv_iconst (v := oI none) hx hb d_Mo_waits_72 (by decide +kernel) ?_
        have hP9 := hP.sub (ws' := [(mo, .inr (8, [.int (nI 0), .long sd, .ref m2, .ref m3, .ref m4, .ref m5, .ref m6, .ref m7, .ref m8, .int (nI pn), .ref m10, .ref m11, .ref m12, .ref m13, .ref m14, .ref m15, .int (nI as0), .int (nI dc), .ref m18, .int (nI tc), .ref m20, .ref m21, .ref m22, .ref m23, .ref m24, .ref m25, .ref m26])), (m2, .inl (cI, 2, .inl (aI cn))), (m3, .inl (cI, 60, .inl (aI ms))), (m4, .inl (cI, 60, .inl (aI md))), (m5, .inl (cI, 60, .inl (aI mk))), (m6, .inl (cL, 60, .inr (.inl (aL mg)))), (m7, .inl (cI, 30, .inl (aO so)))]) [0, 1, 2, 3, 4, 5, 6] rfl
        have hD9 := hD.sub (ws' := [(mo, .inr (8, [.int (nI 0), .long sd, .ref m2, .ref m3, .ref m4, .ref m5, .ref m6, .ref m7, .ref m8, .int (nI pn), .ref m10, .ref m11, .ref m12, .ref m13, .ref m14, .ref m15, .int (nI as0), .int (nI dc), .ref m18, .int (nI tc), .ref m20, .ref m21, .ref m22, .ref m23, .ref m24, .ref m25, .ref m26])), (m2, .inl (cI, 2, .inl (aI cn))), (m3, .inl (cI, 60, .inl (aI ms))), (m4, .inl (cI, 60, .inl (aI md))), (m5, .inl (cI, 60, .inl (aI mk))), (m6, .inl (cL, 60, .inr (.inl (aL mg)))), (m7, .inl (cI, 30, .inl (aO so)))]) [0, 1, 2, 3, 4, 5, 6] (by decide) rfl
        exact W.iret (v := oI none) hx hb hr (fun t9 ht9 hW9 => ⟨⟨oI none, (), rfl, ⟨none, rfl, kth_low (by omega) hy hc (by rw [Int32.lt_iff_toInt_lt, hlf] at c22; have h0 : (0 : Int32).toInt = 0 := (by decide); omega)⟩, by rw [ht9]; exact hP9, va_K.moved hW9.alike hK, hD9⟩, hS.F ht9⟩) hS.2.2 d_Mo_waits_73
      · refine lv_aload_n hx hb d_Mo_waits_25 rfl (lv_at hl 0 rfl) ?_
        refine va_get (D := (dC, dI)) (ci := 8) (v := .ref m7) (C := R_Mo) (T := F_Mo) (N := 27) hx hb htg iw_Mo hown hK hP 0 rfl rfl 7 (by decide) (htg _ k3_59) (fun _ h9 => h9) rfl d_Mo_waits_26 ?_
        refine lv_iload hx hb d_Mo_waits_29 (lv_at hl 4 rfl) ?_
        refine bk_iald (v := oI (so i)) hx hb hK hP 6 0 rfl rfl (by omega) (by decide) rfl d_Mo_waits_31 ?_
        refine bk_oif_ge (r := so i) (tgt := 66) hx hb (fun k h => by have := hso _ k (by omega) h; omega) d_Mo_waits_32 (by decide) (fun c32 => ?_) (fun c32 => ?_)
        · refine lv_iinc (v := nI (i + 1)) (lv' := [(4, .int (nI (i + 1))), (0, .ref mo), (1, .int x), (2, .int y), (3, .int lf)]) hx hb d_Mo_waits_66 hl (k := 4) rfl (bk_inc i) (by decide) rfl (fun ls hl => ?_)
          refine lv_goto (tgt := 10) hx hb d_Mo_waits_69 (by decide) ?_
          exact ih10 (i + 1) b lf (by omega) (by first | exact cntB_no hc (w_no1 c32) | exact cntB_no hc (w_out hd n50)) (by first | exact noYet_no hy (w_no1 c32) | exact noYet_no hy (w_out hd n50)) hlf _ _ (hP.sub [0, 1, 2, 3, 4, 5, 6] rfl) (hD.sub [0, 1, 2, 3, 4, 5, 6] (by decide) rfl) hS ls (lv_sub hl [1, 2, 3, 4, 0] rfl)
        · refine lv_iload_n hx hb d_Mo_waits_35 rfl (lv_at hl 1 rfl) ?_
          refine lv_i2l (v := (x).toInt64) hx hb d_Mo_waits_36 rfl ?_
          refine lv_aload_n hx hb d_Mo_waits_37 rfl (lv_at hl 0 rfl) ?_
          refine va_get (D := (dC, dI)) (ci := 8) (v := .ref m4) (C := R_Mo) (T := F_Mo) (N := 27) hx hb htg iw_Mo hown hK hP 0 rfl rfl 4 (by decide) (htg _ k3_56) (fun _ h9 => h9) rfl d_Mo_waits_38 ?_
          refine lv_iload hx hb d_Mo_waits_41 (lv_at hl 4 rfl) ?_
          refine bk_iald (v := nI (md i)) hx hb hK hP 3 0 rfl rfl (by omega) (by decide) rfl d_Mo_waits_43 ?_
          refine bk_i2l hx hb (by omega) d_Mo_waits_44 ?_
          refine lv_lsub hx hb d_Mo_waits_45 ?_
          refine lv_lconst (v := lN 0) hx hb d_Mo_waits_46 (by decide +kernel) ?_
          refine lv_ldc2 (own := R_Mo) (v := 5) hx hb hown (htg _ k3_188) d_Mo_waits_47 ?_
          refine bk_topl (y := lN 5) (by decide +kernel) ?_
          refine vp_callSi (va_runS (As := [.long (((x).toInt64) - (lN (md i))), .long (lN 0), .long (lN 5)]) (rest := []) ⟨hx, hb, hml, hown, htg⟩ (c_Mo_within l dC dI cI cL cZ (((x).toInt64) - (lN (md i))) 0 5 (by omega) (by omega)) (va_cwS 3 htg (gdS k3_151 k3_152 k1_9 kc_Mo_within) rfl rfl rfl (by decide +kernel) ⟨Nat.le_of_ble_eq_true rfl, Nat.le_of_ble_eq_true rfl⟩) ⟨bk_blind0, fun U hU hW => ⟨rfl, trivial⟩⟩ rfl rfl hl.1 rfl (lv_room (Nat.le_of_ble_eq_true rfl)) d_Mo_waits_50 ⟨Nat.le_of_ble_eq_true rfl, Nat.le_of_ble_eq_true rfl⟩).run (fun r50 e50 => ?_)
          rcases e50 with ⟨y50, rfl⟩ | ⟨n50, rfl⟩
          · refine bk_if_eq (a := 1) (tgt := 66) hx hb (by omega) d_Mo_waits_53 (by decide) (fun c53 => absurd c53 (by decide)) (fun c53 => ?_)
            refine lv_iload_n hx hb d_Mo_waits_56 rfl (lv_at hl 3 rfl) ?_
            refine lv_if_ne (x := lf) (tgt := 63) hx hb d_Mo_waits_57 (by decide) (fun c57 => ?_) (fun c57 => ?_)
            · refine lv_iinc (v := (lf + -1)) (lv' := [(3, .int (lf + -1)), (0, .ref mo), (1, .int x), (2, .int y), (4, .int (nI i))]) hx hb d_Mo_waits_63 hl (k := 3) rfl rfl (by decide) rfl (fun ls hl => ?_)
              refine lv_iinc (v := nI (i + 1)) (lv' := [(4, .int (nI (i + 1))), (3, .int (lf + -1)), (0, .ref mo), (1, .int x), (2, .int y)]) hx hb d_Mo_waits_66 hl (k := 4) rfl (bk_inc i) (by decide) rfl (fun ls hl => ?_)
              refine lv_goto (tgt := 10) hx hb d_Mo_waits_69 (by decide) ?_
              exact ih10 (i + 1) (b + 1) (lf + (-1)) (by omega) (cntB_yes hc (w_in hd c32 y50)) (noYet_ne hy hc (fun e9 => c57 (Int32.toInt_inj.mp (by rw [hlf, ← e9, nI_toInt (by omega)]; show ((b : Int) - b) = 0; omega)))) (by rw [dec_toInt c22, hlf]; omega) _ _ (hP.sub [0, 1, 2, 3, 4, 5, 6] rfl) (hD.sub [0, 1, 2, 3, 4, 5, 6] (by decide) rfl) hS ls (lv_sub hl [2, 3, 4, 1, 0] rfl)
            · refine lv_iload hx hb d_Mo_waits_60 (lv_at hl 4 rfl) ?_
              have hP9 := hP.sub (ws' := [(mo, .inr (8, [.int (nI 0), .long sd, .ref m2, .ref m3, .ref m4, .ref m5, .ref m6, .ref m7, .ref m8, .int (nI pn), .ref m10, .ref m11, .ref m12, .ref m13, .ref m14, .ref m15, .int (nI as0), .int (nI dc), .ref m18, .int (nI tc), .ref m20, .ref m21, .ref m22, .ref m23, .ref m24, .ref m25, .ref m26])), (m2, .inl (cI, 2, .inl (aI cn))), (m3, .inl (cI, 60, .inl (aI ms))), (m4, .inl (cI, 60, .inl (aI md))), (m5, .inl (cI, 60, .inl (aI mk))), (m6, .inl (cL, 60, .inr (.inl (aL mg)))), (m7, .inl (cI, 30, .inl (aO so)))]) [0, 1, 2, 3, 4, 5, 6] rfl
              have hD9 := hD.sub (ws' := [(mo, .inr (8, [.int (nI 0), .long sd, .ref m2, .ref m3, .ref m4, .ref m5, .ref m6, .ref m7, .ref m8, .int (nI pn), .ref m10, .ref m11, .ref m12, .ref m13, .ref m14, .ref m15, .int (nI as0), .int (nI dc), .ref m18, .int (nI tc), .ref m20, .ref m21, .ref m22, .ref m23, .ref m24, .ref m25, .ref m26])), (m2, .inl (cI, 2, .inl (aI cn))), (m3, .inl (cI, 60, .inl (aI ms))), (m4, .inl (cI, 60, .inl (aI md))), (m5, .inl (cI, 60, .inl (aI mk))), (m6, .inl (cL, 60, .inr (.inl (aL mg)))), (m7, .inl (cI, 30, .inl (aO so)))]) [0, 1, 2, 3, 4, 5, 6] (by decide) rfl
              exact W.iret (v := nI i) hx hb hr (fun t9 ht9 hW9 => ⟨⟨nI i, (), rfl, ⟨some i, rfl, by omega, w_in hd c32 y50, nI_of_toInt (b := cntB (wB so md x) i) (by omega) (by rw [c57] at hlf; have : (0 : Int32).toInt = 0 := (by decide); omega)⟩, by rw [ht9]; exact hP9, va_K.moved hW9.alike hK, hD9⟩, hS.F ht9⟩) hS.2.2 d_Mo_waits_62
          · refine bk_if_eq (a := 0) (tgt := 66) hx hb (by omega) d_Mo_waits_53 (by decide) (fun c53 => ?_) (fun c53 => absurd c53 (by decide))
            refine lv_iinc (v := nI (i + 1)) (lv' := [(4, .int (nI (i + 1))), (0, .ref mo), (1, .int x), (2, .int y), (3, .int lf)]) hx hb d_Mo_waits_66 hl (k := 4) rfl (bk_inc i) (by decide) rfl (fun ls hl => ?_)
            refine lv_goto (tgt := 10) hx hb d_Mo_waits_69 (by decide) ?_
            exact ih10 (i + 1) b lf (by omega) (by first | exact cntB_no hc (w_no1 c32) | exact cntB_no hc (w_out hd n50)) (by first | exact noYet_no hy (w_no1 c32) | exact noYet_no hy (w_out hd n50)) hlf _ _ (hP.sub [0, 1, 2, 3, 4, 5, 6] rfl) (hD.sub [0, 1, 2, 3, 4, 5, 6] (by decide) rfl) hS ls (lv_sub hl [1, 2, 3, 4, 0] rfl)
  exact J10 (cn 0) 0 0 y (by omega) rfl noYet_0 (by omega) _ _ (hP.sub [0, 1, 2, 3, 4, 5, 6] rfl) (hD.sub [0, 1, 2, 3, 4, 5, 6] (by decide) rfl) hS ls (lv_sub hl [2, 3, 4, 1, 0] rfl)
set_option maxHeartbeats 4000000 in
set_option maxRecDepth 100000 in
theorem c_Mo_pageAt (l : Launch) (dC : Nat → ClassId) (dI : Nat → Nat → Nat) (cI cL cZ : ClassId) (sz : Nat) (mo co m2 m3 m4 m5 m6 m7 m8 pn m10 m11 m12 m13 m14 m15 as0 dc m18 tc m20 m21 m22 m23 m24 m25 m26 : Nat) (sd : Int64) (cn : Nat → Nat) (mg : Nat → Nat) (x : Int32) (hn : cn 0 ≤ 30) : Met l y_Mo_pageAt ws_Mo_pageAt { frames := 1, cells := 0, slots := 0, locals := 21 } (va_Pc [.ref mo, .int x] (wrP (dC, dI) vwCl [(cI, .int), (cL, .long), (cZ, .boolean)] [(mo, .inr (8, [.int (nI co), .long sd, .ref m2, .ref m3, .ref m4, .ref m5, .ref m6, .ref m7, .ref m8, .int (nI pn), .ref m10, .ref m11, .ref m12, .ref m13, .ref m14, .ref m15, .int (nI as0), .int (nI dc), .ref m18, .int (nI tc), .ref m20, .ref m21, .ref m22, .ref m23, .ref m24, .ref m25, .ref m26])), (m2, .inl (cI, 2, .inl (aI cn))), (m6, .inl (cL, 60, .inr (.inl (aL mg))))] sz)) (va_Ql (fun (r : Int64) (u : Nat × Nat) => (∃ j, j < cn 0 ∧ x = nI j ∧ r = lN (mg j) ∧ u = (0, 0)) ∨ (¬ inR (cn 0) x ∧ r = lN 0 ∧ u = (1, 0))) (fun (u : Nat × Nat) => wrQ (dC, dI) vwCl [(cI, .int), (cL, .long), (cZ, .boolean)] (va_A [(mo, .inr (8, [.int (nI co), .long sd, .ref m2, .ref m3, .ref m4, .ref m5, .ref m6, .ref m7, .ref m8, .int (nI pn), .ref m10, .ref m11, .ref m12, .ref m13, .ref m14, .ref m15, .int (nI as0), .int (nI dc), .ref m18, .int (nI tc), .ref m20, .ref m21, .ref m22, .ref m23, .ref m24, .ref m25, .ref m26])), (m2, .inl (cI, 2, .inl (aI cn))), (m6, .inl (cL, 60, .inr (.inl (aL mg))))] sz) [(mo, .inr (8, [.int (nI u.1), .long sd, .ref m2, .ref m3, .ref m4, .ref m5, .ref m6, .ref m7, .ref m8, .int (nI pn), .ref m10, .ref m11, .ref m12, .ref m13, .ref m14, .ref m15, .int (nI as0), .int (nI dc), .ref m18, .int (nI tc), .ref m20, .ref m21, .ref m22, .ref m23, .ref m24, .ref m25, .ref m26])), (m2, .inl (cI, 2, .inl (aI cn))), (m6, .inl (cL, 60, .inr (.inl (aL mg))))]) (va_A [(mo, .inr (8, [.int (nI co), .long sd, .ref m2, .ref m3, .ref m4, .ref m5, .ref m6, .ref m7, .ref m8, .int (nI pn), .ref m10, .ref m11, .ref m12, .ref m13, .ref m14, .ref m15, .int (nI as0), .int (nI dc), .ref m18, .int (nI tc), .ref m20, .ref m21, .ref m22, .ref m23, .ref m24, .ref m25, .ref m26])), (m2, .inl (cI, 2, .inl (aI cn))), (m6, .inl (cL, 60, .inr (.inl (aL mg))))] sz)) 0 0 (va_A [(mo, .inr (8, [.int (nI co), .long sd, .ref m2, .ref m3, .ref m4, .ref m5, .ref m6, .ref m7, .ref m8, .int (nI pn), .ref m10, .ref m11, .ref m12, .ref m13, .ref m14, .ref m15, .int (nI as0), .int (nI dc), .ref m18, .int (nI tc), .ref m20, .ref m21, .ref m22, .ref m23, .ref m24, .ref m25, .ref m26])), (m2, .inl (cI, 2, .inl (aI cn))), (m6, .inl (cL, 60, .inr (.inl (aL mg))))] sz) := by
  refine Met.ofW (cc := b_Mo_pageAt) (maxL := 2) (ret := (some .long)) (by decide) rfl ?_
  intro pr en s m args below meth c s₁ B hml hv
  obtain ⟨rfl, hN, hsz, hP, hK, hD0⟩ := hv
  have hx := B.exec
  have hb := B.bytes
  have hr := B.returns
  have hts := atoms_spec (ws := ws_Mo_pageAt) B.pre
  have htg : ∀ w ∈ gW, w.before _ s = true := fun w h => hts w (List.mem_cons_of_mem _ h)
  have hown : s.vm.findClass R_Mo = some m.cls := findClass_of_methodNamed B.named
  have hlocks := B.notSynchronized
  subst hsz
  have hD := hD0.self (sz := s.heap.size)
  generalize hAe : va_A [(mo, .inr (8, [.int (nI co), .long sd, .ref m2, .ref m3, .ref m4, .ref m5, .ref m6, .ref m7, .ref m8, .int (nI pn), .ref m10, .ref m11, .ref m12, .ref m13, .ref m14, .ref m15, .int (nI as0), .int (nI dc), .ref m18, .int (nI tc), .ref m20, .ref m21, .ref m22, .ref m23, .ref m24, .ref m25, .ref m26])), (m2, .inl (cI, 2, .inl (aI cn))), (m6, .inl (cL, 60, .inr (.inl (aL mg))))] s.heap.size = A at hD ⊢
  have hA : ∀ q : Nat, s.heap.size ≤ q → A q := fun q h => by rw [← hAe]; exact Or.inr h
  have hS : va_S A s.heap s.heap [] := va_S.rf
  have hP : va_P (dC, dI) vwCl [(mo, .inr (8, [.int (nI co), .long sd, .ref m2, .ref m3, .ref m4, .ref m5, .ref m6, .ref m7, .ref m8, .int (nI pn), .ref m10, .ref m11, .ref m12, .ref m13, .ref m14, .ref m15, .int (nI as0), .int (nI dc), .ref m18, .int (nI tc), .ref m20, .ref m21, .ref m22, .ref m23, .ref m24, .ref m25, .ref m26])), (m2, .inl (cI, 2, .inl (aI cn))), (m6, .inl (cL, 60, .inr (.inl (aL mg))))] s.heap := hP
  have hl := lv_entry ([.ref mo, .int x]) (n := 2) (Nat.le_of_ble_eq_true rfl)
  rw [lg_entry_eq]
  generalize (lg_sl ([.ref mo, .int x]) ++ List.replicate (2 - (lg_sl ([.ref mo, .int x])).length) Slot.unset).toArray = ls at hl ⊢
  have hl : lv_has ls 2 [(0, .ref mo), (1, .int x)] := hl
  refine lv_aload_n hx hb d_Mo_pageAt_0 rfl (lv_at hl 0 rfl) ?_
  refine lv_aload_n hx hb d_Mo_pageAt_1 rfl (lv_at hl 0 rfl) ?_
  refine lv_iload_n hx hb d_Mo_pageAt_2 rfl (lv_at hl 1 rfl) ?_
  refine vp_callSi (va_runV (As := [.int x]) (rest := [.ref mo]) ⟨hx, hb, hml, hown, htg⟩ (c_Mo_isPage l dC dI cI cL cZ mo co m2 m3 m4 m5 m6 m7 m8 pn m10 m11 m12 m13 m14 m15 as0 dc m18 tc m20 m21 m22 m23 m24 m25 m26 sd cn x (by omega)) (cwV 1 htg (gdV k3_172 k3_174 ks_Mo_isPage k1_9 kc_Mo_isPage) rfl rfl rfl (by decide +kernel) ⟨Nat.le_of_ble_eq_true rfl, Nat.le_of_ble_eq_true rfl⟩) ⟨bk_blind, va_recv hK hP (ci := 8) (q0 := 0) rfl rfl, fun U hU hW => ⟨rfl, nw_warm hW hN, by rw [hU]; exact hP.sub [0, 1] rfl, va_K.moved hW.alike hK⟩⟩ rfl rfl hl.1 rfl (lv_room (Nat.le_of_ble_eq_true rfl)) d_Mo_pageAt_3 ⟨Nat.le_of_ble_eq_true rfl, Nat.le_of_ble_eq_true rfl⟩).run (fun r3 e3 => ?_)
  rcases e3 with ⟨⟨j3, hj3, hx3⟩, rfl⟩ | ⟨n3, rfl⟩
  · refine bk_if_eq (a := 1) (tgt := 13) hx hb (by omega) d_Mo_pageAt_6 (by decide) (fun c6 => absurd c6 (by decide)) (fun c6 => ?_)
    refine lv_iconst (v := nI 0) hx hb d_Mo_pageAt_9 (by decide +kernel) ?_
    refine lv_goto (tgt := 14) hx hb d_Mo_pageAt_10 (by decide) ?_
    refine va_put (D := (dC, dI)) (ci := 8) (v := .int (nI 0)) (ty := (t_Mo 0)) (C := R_Mo) (T := F_Mo) (N := 27) hx hb htg iw_Mo t_Mo tk_Mo nm_Mo hown hK hP hD hS 0 rfl rfl 0 (by decide) (htg _ k3_52) (fun _ h9 => h9) rfl (by decide +kernel) rfl rfl (Nat.le_of_ble_eq_true rfl) d_Mo_pageAt_14 (fun H locs hP hD hS => ?_)
    have hP : va_P (dC, dI) vwCl [(mo, .inr (8, [.int (nI 0), .long sd, .ref m2, .ref m3, .ref m4, .ref m5, .ref m6, .ref m7, .ref m8, .int (nI pn), .ref m10, .ref m11, .ref m12, .ref m13, .ref m14, .ref m15, .int (nI as0), .int (nI dc), .ref m18, .int (nI tc), .ref m20, .ref m21, .ref m22, .ref m23, .ref m24, .ref m25, .ref m26])), (m2, .inl (cI, 2, .inl (aI cn))), (m6, .inl (cL, 60, .inr (.inl (aL mg))))] H := hP
    have hD : va_D A [(mo, .inr (8, [.int (nI 0), .long sd, .ref m2, .ref m3, .ref m4, .ref m5, .ref m6, .ref m7, .ref m8, .int (nI pn), .ref m10, .ref m11, .ref m12, .ref m13, .ref m14, .ref m15, .int (nI as0), .int (nI dc), .ref m18, .int (nI tc), .ref m20, .ref m21, .ref m22, .ref m23, .ref m24, .ref m25, .ref m26])), (m2, .inl (cI, 2, .inl (aI cn))), (m6, .inl (cL, 60, .inr (.inl (aL mg))))] := hD
    refine lv_aload_n hx hb d_Mo_pageAt_17 rfl (lv_at hl 0 rfl) ?_
    refine va_get (D := (dC, dI)) (ci := 8) (v := .int (nI 0)) (C := R_Mo) (T := F_Mo) (N := 27) hx hb htg iw_Mo hown hK hP 0 rfl rfl 0 (by decide) (htg _ k3_52) (fun _ h9 => h9) rfl d_Mo_pageAt_18 ?_
    refine bk_if_ne (a := 0) (tgt := 33) hx hb (by omega) d_Mo_pageAt_21 (by decide) (fun c21 => absurd c21 (by decide)) (fun c21 => ?_)
    refine lv_aload_n hx hb d_Mo_pageAt_24 rfl (lv_at hl 0 rfl) ?_
    refine va_get (D := (dC, dI)) (ci := 8) (v := .ref m6) (C := R_Mo) (T := F_Mo) (N := 27) hx hb htg iw_Mo hown hK hP 0 rfl rfl 6 (by decide) (htg _ k3_58) (fun _ h9 => h9) rfl d_Mo_pageAt_25 ?_
    refine lv_iload_n hx hb d_Mo_pageAt_28 rfl (lv_at hl 1 rfl) ?_
    refine bk_topi (y := nI j3) hx3 ?_
    refine bk_lald (v := lN (mg j3)) hx hb hK hP 2 1 rfl rfl (by omega) (by decide) rfl d_Mo_pageAt_29 ?_
    refine lv_goto (tgt := 34) hx hb d_Mo_pageAt_30 (by decide) ?_
    have hP9 := hP.sub (ws' := [(mo, .inr (8, [.int (nI 0), .long sd, .ref m2, .ref m3, .ref m4, .ref m5, .ref m6, .ref m7, .ref m8, .int (nI pn), .ref m10, .ref m11, .ref m12, .ref m13, .ref m14, .ref m15, .int (nI as0), .int (nI dc), .ref m18, .int (nI tc), .ref m20, .ref m21, .ref m22, .ref m23, .ref m24, .ref m25, .ref m26])), (m2, .inl (cI, 2, .inl (aI cn))), (m6, .inl (cL, 60, .inr (.inl (aL mg))))]) [0, 1, 2] rfl
    have hD9 := hD.sub (ws' := [(mo, .inr (8, [.int (nI 0), .long sd, .ref m2, .ref m3, .ref m4, .ref m5, .ref m6, .ref m7, .ref m8, .int (nI pn), .ref m10, .ref m11, .ref m12, .ref m13, .ref m14, .ref m15, .int (nI as0), .int (nI dc), .ref m18, .int (nI tc), .ref m20, .ref m21, .ref m22, .ref m23, .ref m24, .ref m25, .ref m26])), (m2, .inl (cI, 2, .inl (aI cn))), (m6, .inl (cL, 60, .inr (.inl (aL mg))))]) [0, 1, 2] (by decide) rfl
    exact W.lret (v := lN (mg j3)) hx hb hr (fun t9 ht9 hW9 => ⟨⟨lN (mg j3), (0, 0), rfl, Or.inl ⟨j3, hj3, hx3, rfl, rfl⟩, by rw [ht9]; exact hP9, va_K.moved hW9.alike hK, hD9⟩, hS.F ht9⟩) hS.2.2 d_Mo_pageAt_34
  · refine bk_if_eq (a := 0) (tgt := 13) hx hb (by omega) d_Mo_pageAt_6 (by decide) (fun c6 => ?_) (fun c6 => absurd c6 (by decide))
    refine lv_iconst (v := nI 1) hx hb d_Mo_pageAt_13 (by decide +kernel) ?_
    refine va_put (D := (dC, dI)) (ci := 8) (v := .int (nI 1)) (ty := (t_Mo 0)) (C := R_Mo) (T := F_Mo) (N := 27) hx hb htg iw_Mo t_Mo tk_Mo nm_Mo hown hK hP hD hS 0 rfl rfl 0 (by decide) (htg _ k3_52) (fun _ h9 => h9) rfl (by decide +kernel) rfl rfl (Nat.le_of_ble_eq_true rfl) d_Mo_pageAt_14 (fun H locs hP hD hS => ?_)
    have hP : va_P (dC, dI) vwCl [(mo, .inr (8, [.int (nI 1), .long sd, .ref m2, .ref m3, .ref m4, .ref m5, .ref m6, .ref m7, .ref m8, .int (nI pn), .ref m10, .ref m11, .ref m12, .ref m13, .ref m14, .ref m15, .int (nI as0), .int (nI dc), .ref m18, .int (nI tc), .ref m20, .ref m21, .ref m22, .ref m23, .ref m24, .ref m25, .ref m26])), (m2, .inl (cI, 2, .inl (aI cn))), (m6, .inl (cL, 60, .inr (.inl (aL mg))))] H := hP
    have hD : va_D A [(mo, .inr (8, [.int (nI 1), .long sd, .ref m2, .ref m3, .ref m4, .ref m5, .ref m6, .ref m7, .ref m8, .int (nI pn), .ref m10, .ref m11, .ref m12, .ref m13, .ref m14, .ref m15, .int (nI as0), .int (nI dc), .ref m18, .int (nI tc), .ref m20, .ref m21, .ref m22, .ref m23, .ref m24, .ref m25, .ref m26])), (m2, .inl (cI, 2, .inl (aI cn))), (m6, .inl (cL, 60, .inr (.inl (aL mg))))] := hD
    refine lv_aload_n hx hb d_Mo_pageAt_17 rfl (lv_at hl 0 rfl) ?_
    refine va_get (D := (dC, dI)) (ci := 8) (v := .int (nI 1)) (C := R_Mo) (T := F_Mo) (N := 27) hx hb htg iw_Mo hown hK hP 0 rfl rfl 0 (by decide) (htg _ k3_52) (fun _ h9 => h9) rfl d_Mo_pageAt_18 ?_
    refine bk_if_ne (a := 1) (tgt := 33) hx hb (by omega) d_Mo_pageAt_21 (by decide) (fun c21 => ?_) (fun c21 => absurd c21 (by decide))
    refine lv_lconst (v := lN 0) hx hb d_Mo_pageAt_33 (by decide +kernel) ?_
    have hP9 := hP.sub (ws' := [(mo, .inr (8, [.int (nI 1), .long sd, .ref m2, .ref m3, .ref m4, .ref m5, .ref m6, .ref m7, .ref m8, .int (nI pn), .ref m10, .ref m11, .ref m12, .ref m13, .ref m14, .ref m15, .int (nI as0), .int (nI dc), .ref m18, .int (nI tc), .ref m20, .ref m21, .ref m22, .ref m23, .ref m24, .ref m25, .ref m26])), (m2, .inl (cI, 2, .inl (aI cn))), (m6, .inl (cL, 60, .inr (.inl (aL mg))))]) [0, 1, 2] rfl
    have hD9 := hD.sub (ws' := [(mo, .inr (8, [.int (nI 1), .long sd, .ref m2, .ref m3, .ref m4, .ref m5, .ref m6, .ref m7, .ref m8, .int (nI pn), .ref m10, .ref m11, .ref m12, .ref m13, .ref m14, .ref m15, .int (nI as0), .int (nI dc), .ref m18, .int (nI tc), .ref m20, .ref m21, .ref m22, .ref m23, .ref m24, .ref m25, .ref m26])), (m2, .inl (cI, 2, .inl (aI cn))), (m6, .inl (cL, 60, .inr (.inl (aL mg))))]) [0, 1, 2] (by decide) rfl
    exact W.lret (v := lN 0) hx hb hr (fun t9 ht9 hW9 => ⟨⟨lN 0, (1, 0), rfl, Or.inr ⟨n3, rfl, rfl⟩, by rw [ht9]; exact hP9, va_K.moved hW9.alike hK, hD9⟩, hS.F ht9⟩) hS.2.2 d_Mo_pageAt_34
set_option maxHeartbeats 4000000 in
set_option maxRecDepth 100000 in
theorem c_Mo_thrown (l : Launch) (dC : Nat → ClassId) (dI : Nat → Nat → Nat) (cI cL cZ : ClassId) (mo co m2 m3 m4 m5 m6 m7 m8 pn m10 m11 m12 m13 m14 m15 as0 dc m18 tc m20 m21 m22 m23 m24 m25 m26 : Nat) (sd : Int64) : Met l y_Mo_thrown ws_Mo_thrown { frames := 0, cells := 0, slots := 0, locals := 0 } (va_Pc [.ref mo] (rdP (dC, dI) vwCl [(cI, .int), (cL, .long), (cZ, .boolean)] [(mo, .inr (8, [.int (nI co), .long sd, .ref m2, .ref m3, .ref m4, .ref m5, .ref m6, .ref m7, .ref m8, .int (nI pn), .ref m10, .ref m11, .ref m12, .ref m13, .ref m14, .ref m15, .int (nI as0), .int (nI dc), .ref m18, .int (nI tc), .ref m20, .ref m21, .ref m22, .ref m23, .ref m24, .ref m25, .ref m26]))])) (vp_Si (fun r => r = nI co)) 0 0 (fun _ => False) := by
  refine Met.ofW (cc := b_Mo_thrown) (maxL := 1) (ret := (some .int)) (by decide) rfl ?_
  intro pr en s m args below meth c s₁ B hml hv
  obtain ⟨rfl, hN, hP, hK⟩ := hv
  have hx := B.exec
  have hb := B.bytes
  have hr := B.returns
  have hts := atoms_spec (ws := ws_Mo_thrown) B.pre
  have htg : ∀ w ∈ gW, w.before _ s = true := fun w h => hts w (List.mem_cons_of_mem _ h)
  have hown : s.vm.findClass R_Mo = some m.cls := findClass_of_methodNamed B.named
  have hlocks := B.notSynchronized
  have hl := lv_entry ([.ref mo]) (n := 1) (Nat.le_of_ble_eq_true rfl)
  rw [lg_entry_eq]
  generalize (lg_sl ([.ref mo]) ++ List.replicate (1 - (lg_sl ([.ref mo])).length) Slot.unset).toArray = ls at hl ⊢
  have hl : lv_has ls 1 [(0, .ref mo)] := hl
  refine lv_aload_n hx hb d_Mo_thrown_0 rfl (lv_at hl 0 rfl) ?_
  refine va_get (D := (dC, dI)) (ci := 8) (v := .int (nI co)) (C := R_Mo) (T := F_Mo) (N := 27) hx hb htg iw_Mo hown hK hP 0 rfl rfl 0 (by decide) (htg _ k3_52) (fun _ h9 => h9) rfl d_Mo_thrown_1 ?_
  exact W.iret (v := nI co) hx hb hr (fun t9 ht9 hW9 => ⟨nI co, rfl, rfl, ht9⟩) (fun q h => nomatch h) d_Mo_thrown_4
set_option maxHeartbeats 4000000 in
set_option maxRecDepth 100000 in
theorem c_Mo_balance (l : Launch) (dC : Nat → ClassId) (dI : Nat → Nat → Nat) (cI cL cZ : ClassId) (sz : Nat) (mo co m2 m3 m4 m5 m6 m7 m8 pn m10 m11 m12 m13 m14 m15 as0 dc m18 tc m20 m21 m22 m23 m24 m25 m26 : Nat) (sd : Int64) (cn : Nat → Nat) (ms : Nat → Nat) (md : Nat → Nat) (mk : Nat → Nat) (mg : Nat → Nat) (x : Int32) (hi : bkI (cn 0) ms md mk mg) (hi2 : bkI (cn 1) (sh30 ms) (sh30 md) (sh30 mk) (sh30 mg)) : Met l y_Mo_balance ws_Mo_balance { frames := 0, cells := 0, slots := 0, locals := 0 } (va_Pc [.ref mo, .int x] (wrP (dC, dI) vwCl [(cI, .int), (cL, .long), (cZ, .boolean)] [(mo, .inr (8, [.int (nI co), .long sd, .ref m2, .ref m3, .ref m4, .ref m5, .ref m6, .ref m7, .ref m8, .int (nI pn), .ref m10, .ref m11, .ref m12, .ref m13, .ref m14, .ref m15, .int (nI as0), .int (nI dc), .ref m18, .int (nI tc), .ref m20, .ref m21, .ref m22, .ref m23, .ref m24, .ref m25, .ref m26])), (m2, .inl (cI, 2, .inl (aI cn))), (m3, .inl (cI, 60, .inl (aI ms))), (m4, .inl (cI, 60, .inl (aI md))), (m5, .inl (cI, 60, .inl (aI mk))), (m6, .inl (cL, 60, .inr (.inl (aL mg))))] sz)) (va_Ql (fun (r : Int64) (u : Unit) => r = lN (sumK (sh30 mk) (sh30 mg) x (cn 1)) - lN (sumK mk mg x (cn 0))) (fun (u : Unit) => wrQ (dC, dI) vwCl [(cI, .int), (cL, .long), (cZ, .boolean)] (va_A [(mo, .inr (8, [.int (nI co), .long sd, .ref m2, .ref m3, .ref m4, .ref m5, .ref m6, .ref m7, .ref m8, .int (nI pn), .ref m10, .ref m11, .ref m12, .ref m13, .ref m14, .ref m15, .int (nI as0), .int (nI dc), .ref m18, .int (nI tc), .ref m20, .ref m21, .ref m22, .ref m23, .ref m24, .ref m25, .ref m26])), (m2, .inl (cI, 2, .inl (aI cn))), (m3, .inl (cI, 60, .inl (aI ms))), (m4, .inl (cI, 60, .inl (aI md))), (m5, .inl (cI, 60, .inl (aI mk))), (m6, .inl (cL, 60, .inr (.inl (aL mg))))] sz) [(mo, .inr (8, [.int (nI 0), .long sd, .ref m2, .ref m3, .ref m4, .ref m5, .ref m6, .ref m7, .ref m8, .int (nI pn), .ref m10, .ref m11, .ref m12, .ref m13, .ref m14, .ref m15, .int (nI as0), .int (nI dc), .ref m18, .int (nI tc), .ref m20, .ref m21, .ref m22, .ref m23, .ref m24, .ref m25, .ref m26])), (m2, .inl (cI, 2, .inl (aI cn))), (m3, .inl (cI, 60, .inl (aI ms))), (m4, .inl (cI, 60, .inl (aI md))), (m5, .inl (cI, 60, .inl (aI mk))), (m6, .inl (cL, 60, .inr (.inl (aL mg))))]) (va_A [(mo, .inr (8, [.int (nI co), .long sd, .ref m2, .ref m3, .ref m4, .ref m5, .ref m6, .ref m7, .ref m8, .int (nI pn), .ref m10, .ref m11, .ref m12, .ref m13, .ref m14, .ref m15, .int (nI as0), .int (nI dc), .ref m18, .int (nI tc), .ref m20, .ref m21, .ref m22, .ref m23, .ref m24, .ref m25, .ref m26])), (m2, .inl (cI, 2, .inl (aI cn))), (m3, .inl (cI, 60, .inl (aI ms))), (m4, .inl (cI, 60, .inl (aI md))), (m5, .inl (cI, 60, .inl (aI mk))), (m6, .inl (cL, 60, .inr (.inl (aL mg))))] sz)) 0 0 (va_A [(mo, .inr (8, [.int (nI co), .long sd, .ref m2, .ref m3, .ref m4, .ref m5, .ref m6, .ref m7, .ref m8, .int (nI pn), .ref m10, .ref m11, .ref m12, .ref m13, .ref m14, .ref m15, .int (nI as0), .int (nI dc), .ref m18, .int (nI tc), .ref m20, .ref m21, .ref m22, .ref m23, .ref m24, .ref m25, .ref m26])), (m2, .inl (cI, 2, .inl (aI cn))), (m3, .inl (cI, 60, .inl (aI ms))), (m4, .inl (cI, 60, .inl (aI md))), (m5, .inl (cI, 60, .inl (aI mk))), (m6, .inl (cL, 60, .inr (.inl (aL mg))))] sz) := by
  refine Met.ofW (cc := b_Mo_balance) (maxL := 5) (ret := (some .long)) (by decide) rfl ?_
  intro pr en s m args below meth c s₁ B hml hv
  obtain ⟨rfl, hN, hsz, hP, hK, hD0⟩ := hv
  have hx := B.exec
  have hb := B.bytes
  have hr := B.returns
  have hts := atoms_spec (ws := ws_Mo_balance) B.pre
  have htg : ∀ w ∈ gW, w.before _ s = true := fun w h => hts w (List.mem_cons_of_mem _ h)
  have hown : s.vm.findClass R_Mo = some m.cls := findClass_of_methodNamed B.named
  have hlocks := B.notSynchronized
  subst hsz
  have hD := hD0.self (sz := s.heap.size)
  generalize hAe : va_A [(mo, .inr (8, [.int (nI co), .long sd, .ref m2, .ref m3, .ref m4, .ref m5, .ref m6, .ref m7, .ref m8, .int (nI pn), .ref m10, .ref m11, .ref m12, .ref m13, .ref m14, .ref m15, .int (nI as0), .int (nI dc), .ref m18, .int (nI tc), .ref m20, .ref m21, .ref m22, .ref m23, .ref m24, .ref m25, .ref m26])), (m2, .inl (cI, 2, .inl (aI cn))), (m3, .inl (cI, 60, .inl (aI ms))), (m4, .inl (cI, 60, .inl (aI md))), (m5, .inl (cI, 60, .inl (aI mk))), (m6, .inl (cL, 60, .inr (.inl (aL mg))))] s.heap.size = A at hD ⊢
  have hA : ∀ q : Nat, s.heap.size ≤ q → A q := fun q h => by rw [← hAe]; exact Or.inr h
  have hS : va_S A s.heap s.heap [] := va_S.rf
  have hP : va_P (dC, dI) vwCl [(mo, .inr (8, [.int (nI co), .long sd, .ref m2, .ref m3, .ref m4, .ref m5, .ref m6, .ref m7, .ref m8, .int (nI pn), .ref m10, .ref m11, .ref m12, .ref m13, .ref m14, .ref m15, .int (nI as0), .int (nI dc), .ref m18, .int (nI tc), .ref m20, .ref m21, .ref m22, .ref m23, .ref m24, .ref m25, .ref m26])), (m2, .inl (cI, 2, .inl (aI cn))), (m3, .inl (cI, 60, .inl (aI ms))), (m4, .inl (cI, 60, .inl (aI md))), (m5, .inl (cI, 60, .inl (aI mk))), (m6, .inl (cL, 60, .inr (.inl (aL mg))))] s.heap := hP
  have hl := lv_entry ([.ref mo, .int x]) (n := 5) (Nat.le_of_ble_eq_true rfl)
  rw [lg_entry_eq]
  generalize (lg_sl ([.ref mo, .int x]) ++ List.replicate (5 - (lg_sl ([.ref mo, .int x])).length) Slot.unset).toArray = ls at hl ⊢
  have hl : lv_has ls 5 [(0, .ref mo), (1, .int x)] := hl
  have hn := hi.1
  have hn2 := hi2.1
  refine lv_aload_n hx hb d_Mo_balance_0 rfl (lv_at hl 0 rfl) ?_
  refine lv_iconst (v := nI 0) hx hb d_Mo_balance_1 (by decide +kernel) ?_
  refine va_put (D := (dC, dI)) (ci := 8) (v := .int (nI 0)) (ty := (t_Mo 0)) (C := R_Mo) (T := F_Mo) (N := 27) hx hb htg iw_Mo t_Mo tk_Mo nm_Mo hown hK hP hD hS 0 rfl rfl 0 (by decide) (htg _ k3_52) (fun _ h9 => h9) rfl (by decide +kernel) rfl rfl (Nat.le_of_ble_eq_true rfl) d_Mo_balance_2 (fun H locs hP hD hS => ?_)
  have hP : va_P (dC, dI) vwCl [(mo, .inr (8, [.int (nI 0), .long sd, .ref m2, .ref m3, .ref m4, .ref m5, .ref m6, .ref m7, .ref m8, .int (nI pn), .ref m10, .ref m11, .ref m12, .ref m13, .ref m14, .ref m15, .int (nI as0), .int (nI dc), .ref m18, .int (nI tc), .ref m20, .ref m21, .ref m22, .ref m23, .ref m24, .ref m25, .ref m26])), (m2, .inl (cI, 2, .inl (aI cn))), (m3, .inl (cI, 60, .inl (aI ms))), (m4, .inl (cI, 60, .inl (aI md))), (m5, .inl (cI, 60, .inl (aI mk))), (m6, .inl (cL, 60, .inr (.inl (aL mg))))] H := hP
  have hD : va_D A [(mo, .inr (8, [.int (nI 0), .long sd, .ref m2, .ref m3, .ref m4, .ref m5, .ref m6, .ref m7, .ref m8, .int (nI pn), .ref m10, .ref m11, .ref m12, .ref m13, .ref m14, .ref m15, .int (nI as0), .int (nI dc), .ref m18, .int (nI tc), .ref m20, .ref m21, .ref m22, .ref m23, .ref m24, .ref m25, .ref m26])), (m2, .inl (cI, 2, .inl (aI cn))), (m3, .inl (cI, 60, .inl (aI ms))), (m4, .inl (cI, 60, .inl (aI md))), (m5, .inl (cI, 60, .inl (aI mk))), (m6, .inl (cL, 60, .inr (.inl (aL mg))))] := hD
  refine lv_lconst (v := lN 0) hx hb d_Mo_balance_5 (by decide +kernel) ?_
  refine lv_lstore_n (lv' := [(2, .long (lN 0)), (0, .ref mo), (1, .int x)]) hx hb d_Mo_balance_6 rfl hl (by decide) rfl (fun ls hl => ?_)
  refine lv_iconst (v := nI 0) hx hb d_Mo_balance_7 (by decide +kernel) ?_
  refine lv_istore (lv' := [(4, .int (nI 0)), (2, .long (lN 0)), (0, .ref mo), (1, .int x)]) hx hb d_Mo_balance_8 hl (by decide) rfl (fun ls hl => ?_)
  have J10 : ∀ (k : Nat) (i : Nat) (t : Nat), (i + k = cn 1) → (t = sumK (sh30 mk) (sh30 mg) x i) → ∀ (H : Heap) (locs : List Loc), va_P (dC, dI) vwCl [(mo, .inr (8, [.int (nI 0), .long sd, .ref m2, .ref m3, .ref m4, .ref m5, .ref m6, .ref m7, .ref m8, .int (nI pn), .ref m10, .ref m11, .ref m12, .ref m13, .ref m14, .ref m15, .int (nI as0), .int (nI dc), .ref m18, .int (nI tc), .ref m20, .ref m21, .ref m22, .ref m23, .ref m24, .ref m25, .ref m26])), (m2, .inl (cI, 2, .inl (aI cn))), (m3, .inl (cI, 60, .inl (aI ms))), (m4, .inl (cI, 60, .inl (aI md))), (m5, .inl (cI, 60, .inl (aI mk))), (m6, .inl (cL, 60, .inr (.inl (aL mg))))] H → va_D A [(mo, .inr (8, [.int (nI 0), .long sd, .ref m2, .ref m3, .ref m4, .ref m5, .ref m6, .ref m7, .ref m8, .int (nI pn), .ref m10, .ref m11, .ref m12, .ref m13, .ref m14, .ref m15, .int (nI as0), .int (nI dc), .ref m18, .int (nI tc), .ref m20, .ref m21, .ref m22, .ref m23, .ref m24, .ref m25, .ref m26])), (m2, .inl (cI, 2, .inl (aI cn))), (m3, .inl (cI, 60, .inl (aI ms))), (m4, .inl (cI, 60, .inl (aI md))), (m5, .inl (cI, 60, .inl (aI mk))), (m6, .inl (cL, 60, .inr (.inl (aL mg))))] → va_S A s.heap H locs → ∀ (ls : Array Slot), lv_has ls 5 [(0, .ref mo), (1, .int x), (2, .long (lN t)), (4, .int (nI i))] → W pr l en (headSpec ws_Mo_balance { frames := 0, cells := 0, slots := 0, locals := 0 }).room s m ([.ref mo, .int x] : List Value).toArray below meth c H locs 0 0 (MQ below (va_Ql (fun (r : Int64) (u : Unit) => r = lN (sumK (sh30 mk) (sh30 mg) x (cn 1)) - lN (sumK mk mg x (cn 0))) (fun (u : Unit) => wrQ (dC, dI) vwCl [(cI, .int), (cL, .long), (cZ, .boolean)] A [(mo, .inr (8, [.int (nI 0), .long sd, .ref m2, .ref m3, .ref m4, .ref m5, .ref m6, .ref m7, .ref m8, .int (nI pn), .ref m10, .ref m11, .ref m12, .ref m13, .ref m14, .ref m15, .int (nI as0), .int (nI dc), .ref m18, .int (nI tc), .ref m20, .ref m21, .ref m22, .ref m23, .ref m24, .ref m25, .ref m26])), (m2, .inl (cI, 2, .inl (aI cn))), (m3, .inl (cI, 60, .inl (aI ms))), (m4, .inl (cI, 60, .inl (aI md))), (m5, .inl (cI, 60, .inl (aI mk))), (m6, .inl (cL, 60, .inr (.inl (aL mg))))]) A) ([.ref mo, .int x] : List Value).toArray s 0 0 A) (F0 m 10 ls []) := by
    intro k
    induction k with
    | zero =>
      intro i t hk htt H locs hP hD hS ls hl
      refine lv_iload hx hb d_Mo_balance_10 (lv_at hl 3 rfl) ?_
      refine lv_aload_n hx hb d_Mo_balance_12 rfl (lv_at hl 0 rfl) ?_
      refine va_get (D := (dC, dI)) (ci := 8) (v := .ref m2) (C := R_Mo) (T := F_Mo) (N := 27) hx hb htg iw_Mo hown hK hP 0 rfl rfl 2 (by decide) (htg _ k3_54) (fun _ h9 => h9) rfl d_Mo_balance_13 ?_
      refine lv_iconst (v := nI 1) hx hb d_Mo_balance_16 (by decide +kernel) ?_
      refine bk_iald (v := nI (cn 1)) hx hb hK hP 1 0 rfl rfl (by omega) (by decide) rfl d_Mo_balance_17 ?_
      refine bk_icmp_ge (a := i) (b := cn 1) (tgt := 58) hx hb (by omega) (by omega) d_Mo_balance_18 (by decide) (fun c18 => ?_) (fun c18 => by exfalso; omega)
      refine lv_iconst (v := nI 0) hx hb d_Mo_balance_58 (by decide +kernel) ?_
      refine lv_istore (lv' := [(4, .int (nI 0)), (0, .ref mo), (1, .int x), (2, .long (lN t))]) hx hb d_Mo_balance_59 hl (by decide) rfl (fun ls hl => ?_)
      have J61 : ∀ (k2 : Nat) (i2 : Nat) (ac : Int64), (i2 + k2 = cn 0) → (ac = lN (sumK (sh30 mk) (sh30 mg) x (cn 1)) - lN (sumK mk mg x i2)) → ∀ (H : Heap) (locs : List Loc), va_P (dC, dI) vwCl [(mo, .inr (8, [.int (nI 0), .long sd, .ref m2, .ref m3, .ref m4, .ref m5, .ref m6, .ref m7, .ref m8, .int (nI pn), .ref m10, .ref m11, .ref m12, .ref m13, .ref m14, .ref m15, .int (nI as0), .int (nI dc), .ref m18, .int (nI tc), .ref m20, .ref m21, .ref m22, .ref m23, .ref m24, .ref m25, .ref m26])), (m2, .inl (cI, 2, .inl (aI cn))), (m3, .inl (cI, 60, .inl (aI ms))), (m4, .inl (cI, 60, .inl (aI md))), (m5, .inl (cI, 60, .inl (aI mk))), (m6, .inl (cL, 60, .inr (.inl (aL mg))))] H → va_D A [(mo, .inr (8, [.int (nI 0), .long sd, .ref m2, .ref m3, .ref m4, .ref m5, .ref m6, .ref m7, .ref m8, .int (nI pn), .ref m10, .ref m11, .ref m12, .ref m13, .ref m14, .ref m15, .int (nI as0), .int (nI dc), .ref m18, .int (nI tc), .ref m20, .ref m21, .ref m22, .ref m23, .ref m24, .ref m25, .ref m26])), (m2, .inl (cI, 2, .inl (aI cn))), (m3, .inl (cI, 60, .inl (aI ms))), (m4, .inl (cI, 60, .inl (aI md))), (m5, .inl (cI, 60, .inl (aI mk))), (m6, .inl (cL, 60, .inr (.inl (aL mg))))] → va_S A s.heap H locs → ∀ (ls : Array Slot), lv_has ls 5 [(0, .ref mo), (1, .int x), (2, .long ac), (4, .int (nI i2))] → W pr l en (headSpec ws_Mo_balance { frames := 0, cells := 0, slots := 0, locals := 0 }).room s m ([.ref mo, .int x] : List Value).toArray below meth c H locs 0 0 (MQ below (va_Ql (fun (r : Int64) (u : Unit) => r = lN (sumK (sh30 mk) (sh30 mg) x (cn 1)) - lN (sumK mk mg x (cn 0))) (fun (u : Unit) => wrQ (dC, dI) vwCl [(cI, .int), (cL, .long), (cZ, .boolean)] A [(mo, .inr (8, [.int (nI 0), .long sd, .ref m2, .ref m3, .ref m4, .ref m5, .ref m6, .ref m7, .ref m8, .int (nI pn), .ref m10, .ref m11, .ref m12, .ref m13, .ref m14, .ref m15, .int (nI as0), .int (nI dc), .ref m18, .int (nI tc), .ref m20, .ref m21, .ref m22, .ref m23, .ref m24, .ref m25, .ref m26])), (m2, .inl (cI, 2, .inl (aI cn))), (m3, .inl (cI, 60, .inl (aI ms))), (m4, .inl (cI, 60, .inl (aI md))), (m5, .inl (cI, 60, .inl (aI mk))), (m6, .inl (cL, 60, .inr (.inl (aL mg))))]) A) ([.ref mo, .int x] : List Value).toArray s 0 0 A) (F0 m 61 ls []) := by
        intro k2
        induction k2 with
        | zero =>
          intro i2 ac hk2 hac H locs hP hD hS ls hl
          refine lv_iload hx hb d_Mo_balance_61 (lv_at hl 3 rfl) ?_
          refine lv_aload_n hx hb d_Mo_balance_63 rfl (lv_at hl 0 rfl) ?_
          refine va_get (D := (dC, dI)) (ci := 8) (v := .ref m2) (C := R_Mo) (T := F_Mo) (N := 27) hx hb htg iw_Mo hown hK hP 0 rfl rfl 2 (by decide) (htg _ k3_54) (fun _ h9 => h9) rfl d_Mo_balance_64 ?_
          refine lv_iconst (v := nI 0) hx hb d_Mo_balance_67 (by decide +kernel) ?_
          refine bk_iald (v := nI (cn 0)) hx hb hK hP 1 0 rfl rfl (by omega) (by decide) rfl d_Mo_balance_68 ?_
          refine bk_icmp_ge (a := i2) (b := cn 0) (tgt := 103) hx hb (by omega) (by omega) d_Mo_balance_69 (by decide) (fun c69 => ?_) (fun c69 => by exfalso; omega)
          refine lv_lload_n hx hb d_Mo_balance_103 rfl (lv_at hl 2 rfl) ?_
          have hP9 := hP.sub (ws' := [(mo, .inr (8, [.int (nI 0), .long sd, .ref m2, .ref m3, .ref m4, .ref m5, .ref m6, .ref m7, .ref m8, .int (nI pn), .ref m10, .ref m11, .ref m12, .ref m13, .ref m14, .ref m15, .int (nI as0), .int (nI dc), .ref m18, .int (nI tc), .ref m20, .ref m21, .ref m22, .ref m23, .ref m24, .ref m25, .ref m26])), (m2, .inl (cI, 2, .inl (aI cn))), (m3, .inl (cI, 60, .inl (aI ms))), (m4, .inl (cI, 60, .inl (aI md))), (m5, .inl (cI, 60, .inl (aI mk))), (m6, .inl (cL, 60, .inr (.inl (aL mg))))]) [0, 1, 2, 3, 4, 5] rfl
          have hD9 := hD.sub (ws' := [(mo, .inr (8, [.int (nI 0), .long sd, .ref m2, .ref m3, .ref m4, .ref m5, .ref m6, .ref m7, .ref m8, .int (nI pn), .ref m10, .ref m11, .ref m12, .ref m13, .ref m14, .ref m15, .int (nI as0), .int (nI dc), .ref m18, .int (nI tc), .ref m20, .ref m21, .ref m22, .ref m23, .ref m24, .ref m25, .ref m26])), (m2, .inl (cI, 2, .inl (aI cn))), (m3, .inl (cI, 60, .inl (aI ms))), (m4, .inl (cI, 60, .inl (aI md))), (m5, .inl (cI, 60, .inl (aI mk))), (m6, .inl (cL, 60, .inr (.inl (aL mg))))]) [0, 1, 2, 3, 4, 5] (by decide) rfl
          exact W.lret (v := ac) hx hb hr (fun t9 ht9 hW9 => ⟨⟨ac, (), rfl, (by rw [hac, show i2 = cn 0 by omega]), by rw [ht9]; exact hP9, va_K.moved hW9.alike hK, hD9⟩, hS.F ht9⟩) hS.2.2 d_Mo_balance_104
        | succ k2 ih61 =>
          intro i2 ac hk2 hac H locs hP hD hS ls hl
          refine lv_iload hx hb d_Mo_balance_61 (lv_at hl 3 rfl) ?_
          refine lv_aload_n hx hb d_Mo_balance_63 rfl (lv_at hl 0 rfl) ?_
          refine va_get (D := (dC, dI)) (ci := 8) (v := .ref m2) (C := R_Mo) (T := F_Mo) (N := 27) hx hb htg iw_Mo hown hK hP 0 rfl rfl 2 (by decide) (htg _ k3_54) (fun _ h9 => h9) rfl d_Mo_balance_64 ?_
          refine lv_iconst (v := nI 0) hx hb d_Mo_balance_67 (by decide +kernel) ?_
          refine bk_iald (v := nI (cn 0)) hx hb hK hP 1 0 rfl rfl (by omega) (by decide) rfl d_Mo_balance_68 ?_
          refine bk_icmp_ge (a := i2) (b := cn 0) (tgt := 103) hx hb (by omega) (by omega) d_Mo_balance_69 (by decide) (fun c69 => by exfalso; omega) (fun c69 => ?_)
          refine lv_lload_n hx hb d_Mo_balance_72 rfl (lv_at hl 2 rfl) ?_
          refine lv_aload_n hx hb d_Mo_balance_73 rfl (lv_at hl 0 rfl) ?_
          refine va_get (D := (dC, dI)) (ci := 8) (v := .ref m5) (C := R_Mo) (T := F_Mo) (N := 27) hx hb htg iw_Mo hown hK hP 0 rfl rfl 5 (by decide) (htg _ k3_57) (fun _ h9 => h9) rfl d_Mo_balance_74 ?_
          refine lv_iload hx hb d_Mo_balance_77 (lv_at hl 3 rfl) ?_
          refine bk_iald (v := nI (mk i2)) hx hb hK hP 4 0 rfl rfl (by omega) (by decide) rfl d_Mo_balance_79 ?_
          refine lv_iload_n hx hb d_Mo_balance_80 rfl (lv_at hl 1 rfl) ?_
          refine lv_icmp_ne (x := nI (mk i2)) (y := x) (tgt := 94) hx hb d_Mo_balance_81 (by decide) (fun c81 => ?_) (fun c81 => ?_)
          · refine lv_lconst (v := lN 0) hx hb d_Mo_balance_94 (by decide +kernel) ?_
            refine lv_lsub hx hb d_Mo_balance_95 ?_
            refine lv_lstore_n (lv' := [(2, .long (ac - (lN 0))), (0, .ref mo), (1, .int x), (4, .int (nI i2))]) hx hb d_Mo_balance_96 rfl hl (by decide) rfl (fun ls hl => ?_)
            refine lv_iinc (v := nI (i2 + 1)) (lv' := [(4, .int (nI (i2 + 1))), (2, .long (ac - (lN 0))), (0, .ref mo), (1, .int x)]) hx hb d_Mo_balance_97 hl (k := 3) rfl (bk_inc i2) (by decide) rfl (fun ls hl => ?_)
            refine lv_goto (tgt := 61) hx hb d_Mo_balance_100 (by decide) ?_
            exact ih61 (i2 + 1) (ac - (lN 0)) (by omega) (by rw [hac, lsub2, sumK]; first | (rw [if_pos c81]; done) | (rw [if_neg c81])) _ _ (hP.sub [0, 1, 2, 3, 4, 5] rfl) (hD.sub [0, 1, 2, 3, 4, 5] (by decide) rfl) hS ls (lv_sub hl [2, 3, 1, 0] rfl)
          · refine lv_aload_n hx hb d_Mo_balance_84 rfl (lv_at hl 0 rfl) ?_
            refine va_get (D := (dC, dI)) (ci := 8) (v := .ref m6) (C := R_Mo) (T := F_Mo) (N := 27) hx hb htg iw_Mo hown hK hP 0 rfl rfl 6 (by decide) (htg _ k3_58) (fun _ h9 => h9) rfl d_Mo_balance_85 ?_
            refine lv_iload hx hb d_Mo_balance_88 (lv_at hl 3 rfl) ?_
            refine bk_lald (v := lN (mg i2)) hx hb hK hP 5 1 rfl rfl (by omega) (by decide) rfl d_Mo_balance_90 ?_
            refine lv_goto (tgt := 95) hx hb d_Mo_balance_91 (by decide) ?_
            refine lv_lsub hx hb d_Mo_balance_95 ?_
            refine lv_lstore_n (lv' := [(2, .long (ac - (lN (mg i2)))), (0, .ref mo), (1, .int x), (4, .int (nI i2))]) hx hb d_Mo_balance_96 rfl hl (by decide) rfl (fun ls hl => ?_)
            refine lv_iinc (v := nI (i2 + 1)) (lv' := [(4, .int (nI (i2 + 1))), (2, .long (ac - (lN (mg i2)))), (0, .ref mo), (1, .int x)]) hx hb d_Mo_balance_97 hl (k := 3) rfl (bk_inc i2) (by decide) rfl (fun ls hl => ?_)
            refine lv_goto (tgt := 61) hx hb d_Mo_balance_100 (by decide) ?_
            exact ih61 (i2 + 1) (ac - (lN (mg i2))) (by omega) (by rw [hac, lsub2, sumK]; first | (rw [if_pos c81]; done) | (rw [if_neg c81])) _ _ (hP.sub [0, 1, 2, 3, 4, 5] rfl) (hD.sub [0, 1, 2, 3, 4, 5] (by decide) rfl) hS ls (lv_sub hl [2, 3, 1, 0] rfl)
      exact J61 (cn 0) 0 (lN t) (by omega) (by rw [htt, show i = cn 1 by omega]; exact (lsub0 _).symm) _ _ (hP.sub [0, 1, 2, 3, 4, 5] rfl) (hD.sub [0, 1, 2, 3, 4, 5] (by decide) rfl) hS ls (lv_sub hl [1, 2, 3, 0] rfl)
    | succ k ih10 =>
      intro i t hk htt H locs hP hD hS ls hl
      refine lv_iload hx hb d_Mo_balance_10 (lv_at hl 3 rfl) ?_
      refine lv_aload_n hx hb d_Mo_balance_12 rfl (lv_at hl 0 rfl) ?_
      refine va_get (D := (dC, dI)) (ci := 8) (v := .ref m2) (C := R_Mo) (T := F_Mo) (N := 27) hx hb htg iw_Mo hown hK hP 0 rfl rfl 2 (by decide) (htg _ k3_54) (fun _ h9 => h9) rfl d_Mo_balance_13 ?_
      refine lv_iconst (v := nI 1) hx hb d_Mo_balance_16 (by decide +kernel) ?_
      refine bk_iald (v := nI (cn 1)) hx hb hK hP 1 0 rfl rfl (by omega) (by decide) rfl d_Mo_balance_17 ?_
      refine bk_icmp_ge (a := i) (b := cn 1) (tgt := 58) hx hb (by omega) (by omega) d_Mo_balance_18 (by decide) (fun c18 => by exfalso; omega) (fun c18 => ?_)
      refine lv_lload_n hx hb d_Mo_balance_21 rfl (lv_at hl 2 rfl) ?_
      refine lv_aload_n hx hb d_Mo_balance_22 rfl (lv_at hl 0 rfl) ?_
      refine va_get (D := (dC, dI)) (ci := 8) (v := .ref m5) (C := R_Mo) (T := F_Mo) (N := 27) hx hb htg iw_Mo hown hK hP 0 rfl rfl 5 (by decide) (htg _ k3_57) (fun _ h9 => h9) rfl d_Mo_balance_23 ?_
      refine lv_bipush (v := nI 30) hx hb d_Mo_balance_26 (by decide +kernel) ?_
      refine lv_iload hx hb d_Mo_balance_28 (lv_at hl 3 rfl) ?_
      refine bk_iadd hx hb d_Mo_balance_30 ?_
      refine bk_iald (v := nI (mk (30 + i))) hx hb hK hP 4 0 rfl rfl (by omega) (by decide) rfl d_Mo_balance_31 ?_
      refine lv_iload_n hx hb d_Mo_balance_32 rfl (lv_at hl 1 rfl) ?_
      refine lv_icmp_ne (x := nI (mk (30 + i))) (y := x) (tgt := 49) hx hb d_Mo_balance_33 (by decide) (fun c33 => ?_) (fun c33 => ?_)
      · refine lv_lconst (v := lN 0) hx hb d_Mo_balance_49 (by decide +kernel) ?_
        refine bk_ladd hx hb d_Mo_balance_50 ?_
        refine lv_lstore_n (lv' := [(2, .long (lN (t + 0))), (0, .ref mo), (1, .int x), (4, .int (nI i))]) hx hb d_Mo_balance_51 rfl hl (by decide) rfl (fun ls hl => ?_)
        refine lv_iinc (v := nI (i + 1)) (lv' := [(4, .int (nI (i + 1))), (2, .long (lN (t + 0))), (0, .ref mo), (1, .int x)]) hx hb d_Mo_balance_52 hl (k := 3) rfl (bk_inc i) (by decide) rfl (fun ls hl => ?_)
        refine lv_goto (tgt := 10) hx hb d_Mo_balance_55 (by decide) ?_
        exact ih10 (i + 1) (t + 0) (by omega) (by rw [htt, sumK]; first | (rw [if_pos (show nI (sh30 mk i) = x from c33)]; rfl; done) | (rw [if_neg (show ¬ nI (sh30 mk i) = x from c33)])) _ _ (hP.sub [0, 1, 2, 3, 4, 5] rfl) (hD.sub [0, 1, 2, 3, 4, 5] (by decide) rfl) hS ls (lv_sub hl [2, 3, 1, 0] rfl)
      · refine lv_aload_n hx hb d_Mo_balance_36 rfl (lv_at hl 0 rfl) ?_
        refine va_get (D := (dC, dI)) (ci := 8) (v := .ref m6) (C := R_Mo) (T := F_Mo) (N := 27) hx hb htg iw_Mo hown hK hP 0 rfl rfl 6 (by decide) (htg _ k3_58) (fun _ h9 => h9) rfl d_Mo_balance_37 ?_
        refine lv_bipush (v := nI 30) hx hb d_Mo_balance_40 (by decide +kernel) ?_
        refine lv_iload hx hb d_Mo_balance_42 (lv_at hl 3 rfl) ?_
        refine bk_iadd hx hb d_Mo_balance_44 ?_
        refine bk_lald (v := lN (mg (30 + i))) hx hb hK hP 5 1 rfl rfl (by omega) (by decide) rfl d_Mo_balance_45 ?_
        refine lv_goto (tgt := 50) hx hb d_Mo_balance_46 (by decide) ?_
        refine bk_ladd hx hb d_Mo_balance_50 ?_
        refine lv_lstore_n (lv' := [(2, .long (lN (t + (mg (30 + i))))), (0, .ref mo), (1, .int x), (4, .int (nI i))]) hx hb d_Mo_balance_51 rfl hl (by decide) rfl (fun ls hl => ?_)
        refine lv_iinc (v := nI (i + 1)) (lv' := [(4, .int (nI (i + 1))), (2, .long (lN (t + (mg (30 + i))))), (0, .ref mo), (1, .int x)]) hx hb d_Mo_balance_52 hl (k := 3) rfl (bk_inc i) (by decide) rfl (fun ls hl => ?_)
        refine lv_goto (tgt := 10) hx hb d_Mo_balance_55 (by decide) ?_
        exact ih10 (i + 1) (t + (mg (30 + i))) (by omega) (by rw [htt, sumK]; first | (rw [if_pos (show nI (sh30 mk i) = x from c33)]; rfl; done) | (rw [if_neg (show ¬ nI (sh30 mk i) = x from c33)])) _ _ (hP.sub [0, 1, 2, 3, 4, 5] rfl) (hD.sub [0, 1, 2, 3, 4, 5] (by decide) rfl) hS ls (lv_sub hl [2, 3, 1, 0] rfl)
  exact J10 (cn 1) 0 0 (by omega) rfl _ _ (hP.sub [0, 1, 2, 3, 4, 5] rfl) (hD.sub [0, 1, 2, 3, 4, 5] (by decide) rfl) hS ls (lv_sub hl [2, 3, 1, 0] rfl)
