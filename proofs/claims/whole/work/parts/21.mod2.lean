set_option maxHeartbeats 4000000 in
set_option maxRecDepth 100000 in
theorem c_Mo_run (l : Launch) (dC : Nat → ClassId) (dI : Nat → Nat → Nat) (cI cL cZ : ClassId) (sz : Nat) (mo co m2 m3 m4 m5 m6 m7 m8 pn m10 m11 m12 m13 m14 m15 as0 dc m18 tc m20 m21 m22 m23 m24 m25 m26 : Nat) (sd : Int64) (cn : Nat → Nat) (ms : Nat → Nat) (md : Nat → Nat) (mk : Nat → Nat) (mg : Nat → Nat) (so : Nat → Option Nat) (bo : Nat → Bool) (hi : bkI (cn 0) ms md mk mg) (hi2 : bkI (cn 1) (sh30 ms) (sh30 md) (sh30 mk) (sh30 mg)) : Met l y_Mo_run ws_Mo_run { frames := 1, cells := 0, slots := 0, locals := 29 } (va_Pc [.ref mo] (wrP (dC, dI) vwCl [(cI, .int), (cL, .long), (cZ, .boolean)] [(mo, .inr (8, [.int (nI co), .long sd, .ref m2, .ref m3, .ref m4, .ref m5, .ref m6, .ref m7, .ref m8, .int (nI pn), .ref m10, .ref m11, .ref m12, .ref m13, .ref m14, .ref m15, .int (nI as0), .int (nI dc), .ref m18, .int (nI tc), .ref m20, .ref m21, .ref m22, .ref m23, .ref m24, .ref m25, .ref m26])), (m2, .inl (cI, 2, .inl (aI cn))), (m3, .inl (cI, 60, .inl (aI ms))), (m4, .inl (cI, 60, .inl (aI md))), (m5, .inl (cI, 60, .inl (aI mk))), (m6, .inl (cL, 60, .inr (.inl (aL mg)))), (m7, .inl (cI, 30, .inl (aO so))), (m8, .inl (cZ, 30, .inl (aB bo)))] sz)) (va_Qi (fun (r : Int32) (u : (Nat → Option Nat) × (Nat → Bool)) => ∃ i, r = nI i ∧ i ≤ 30 ∧ isRun (ptOf ms md mk mg (sh30 ms) (sh30 md) (sh30 mk) (sh30 mg)) (cn 0) (cn 1) i ∧ u.1 = (JS (ptOf ms md mk mg (sh30 ms) (sh30 md) (sh30 mk) (sh30 mg)) (cn 0) (cn 1) i).1 ∧ ∀ p k, u.1 p = some k → p < cn 0 ∧ k < cn 1) (fun (u : (Nat → Option Nat) × (Nat → Bool)) => wrQ (dC, dI) vwCl [(cI, .int), (cL, .long), (cZ, .boolean)] (va_A [(mo, .inr (8, [.int (nI co), .long sd, .ref m2, .ref m3, .ref m4, .ref m5, .ref m6, .ref m7, .ref m8, .int (nI pn), .ref m10, .ref m11, .ref m12, .ref m13, .ref m14, .ref m15, .int (nI as0), .int (nI dc), .ref m18, .int (nI tc), .ref m20, .ref m21, .ref m22, .ref m23, .ref m24, .ref m25, .ref m26])), (m2, .inl (cI, 2, .inl (aI cn))), (m3, .inl (cI, 60, .inl (aI ms))), (m4, .inl (cI, 60, .inl (aI md))), (m5, .inl (cI, 60, .inl (aI mk))), (m6, .inl (cL, 60, .inr (.inl (aL mg)))), (m7, .inl (cI, 30, .inl (aO so))), (m8, .inl (cZ, 30, .inl (aB bo)))] sz) [(mo, .inr (8, [.int (nI 0), .long sd, .ref m2, .ref m3, .ref m4, .ref m5, .ref m6, .ref m7, .ref m8, .int (nI pn), .ref m10, .ref m11, .ref m12, .ref m13, .ref m14, .ref m15, .int (nI as0), .int (nI dc), .ref m18, .int (nI tc), .ref m20, .ref m21, .ref m22, .ref m23, .ref m24, .ref m25, .ref m26])), (m2, .inl (cI, 2, .inl (aI cn))), (m3, .inl (cI, 60, .inl (aI ms))), (m4, .inl (cI, 60, .inl (aI md))), (m5, .inl (cI, 60, .inl (aI mk))), (m6, .inl (cL, 60, .inr (.inl (aL mg)))), (m7, .inl (cI, 30, .inl (aO u.1))), (m8, .inl (cZ, 30, .inl (aB u.2)))]) (va_A [(mo, .inr (8, [.int (nI co), .long sd, .ref m2, .ref m3, .ref m4, .ref m5, .ref m6, .ref m7, .ref m8, .int (nI pn), .ref m10, .ref m11, .ref m12, .ref m13, .ref m14, .ref m15, .int (nI as0), .int (nI dc), .ref m18, .int (nI tc), .ref m20, .ref m21, .ref m22, .ref m23, .ref m24, .ref m25, .ref m26])), (m2, .inl (cI, 2, .inl (aI cn))), (m3, .inl (cI, 60, .inl (aI ms))), (m4, .inl (cI, 60, .inl (aI md))), (m5, .inl (cI, 60, .inl (aI mk))), (m6, .inl (cL, 60, .inr (.inl (aL mg)))), (m7, .inl (cI, 30, .inl (aO so))), (m8, .inl (cZ, 30, .inl (aB bo)))] sz)) 0 0 (va_A [(mo, .inr (8, [.int (nI co), .long sd, .ref m2, .ref m3, .ref m4, .ref m5, .ref m6, .ref m7, .ref m8, .int (nI pn), .ref m10, .ref m11, .ref m12, .ref m13, .ref m14, .ref m15, .int (nI as0), .int (nI dc), .ref m18, .int (nI tc), .ref m20, .ref m21, .ref m22, .ref m23, .ref m24, .ref m25, .ref m26])), (m2, .inl (cI, 2, .inl (aI cn))), (m3, .inl (cI, 60, .inl (aI ms))), (m4, .inl (cI, 60, .inl (aI md))), (m5, .inl (cI, 60, .inl (aI mk))), (m6, .inl (cL, 60, .inr (.inl (aL mg)))), (m7, .inl (cI, 30, .inl (aO so))), (m8, .inl (cZ, 30, .inl (aB bo)))] sz) := by
  refine Met.ofW (cc := b_Mo_run) (maxL := 9) (ret := (some .int)) (by decide) rfl ?_
  intro pr en s m args below meth c s₁ B hml hv
  obtain ⟨rfl, hN, hsz, hP, hK, hD0⟩ := hv
  have hx := B.exec
  have hb := B.bytes
  have hr := B.returns
  have hts := atoms_spec (ws := ws_Mo_run) B.pre
  have htg : ∀ w ∈ gW, w.before _ s = true := fun w h => hts w (List.mem_cons_of_mem _ h)
  have hown : s.vm.findClass R_Mo = some m.cls := findClass_of_methodNamed B.named
  have hlocks := B.notSynchronized
  subst hsz
  have hD := hD0.self (sz := s.heap.size)
  generalize hAe : va_A [(mo, .inr (8, [.int (nI co), .long sd, .ref m2, .ref m3, .ref m4, .ref m5, .ref m6, .ref m7, .ref m8, .int (nI pn), .ref m10, .ref m11, .ref m12, .ref m13, .ref m14, .ref m15, .int (nI as0), .int (nI dc), .ref m18, .int (nI tc), .ref m20, .ref m21, .ref m22, .ref m23, .ref m24, .ref m25, .ref m26])), (m2, .inl (cI, 2, .inl (aI cn))), (m3, .inl (cI, 60, .inl (aI ms))), (m4, .inl (cI, 60, .inl (aI md))), (m5, .inl (cI, 60, .inl (aI mk))), (m6, .inl (cL, 60, .inr (.inl (aL mg)))), (m7, .inl (cI, 30, .inl (aO so))), (m8, .inl (cZ, 30, .inl (aB bo)))] s.heap.size = A at hD ⊢
  have hA : ∀ q : Nat, s.heap.size ≤ q → A q := fun q h => by rw [← hAe]; exact Or.inr h
  have hS : va_S A s.heap s.heap [] := va_S.rf
  have hP : va_P (dC, dI) vwCl [(mo, .inr (8, [.int (nI co), .long sd, .ref m2, .ref m3, .ref m4, .ref m5, .ref m6, .ref m7, .ref m8, .int (nI pn), .ref m10, .ref m11, .ref m12, .ref m13, .ref m14, .ref m15, .int (nI as0), .int (nI dc), .ref m18, .int (nI tc), .ref m20, .ref m21, .ref m22, .ref m23, .ref m24, .ref m25, .ref m26])), (m2, .inl (cI, 2, .inl (aI cn))), (m3, .inl (cI, 60, .inl (aI ms))), (m4, .inl (cI, 60, .inl (aI md))), (m5, .inl (cI, 60, .inl (aI mk))), (m6, .inl (cL, 60, .inr (.inl (aL mg)))), (m7, .inl (cI, 30, .inl (aO so))), (m8, .inl (cZ, 30, .inl (aB bo)))] s.heap := hP
  have hl := lv_entry ([.ref mo]) (n := 9) (Nat.le_of_ble_eq_true rfl)
  rw [lg_entry_eq]
  generalize (lg_sl ([.ref mo]) ++ List.replicate (9 - (lg_sl ([.ref mo])).length) Slot.unset).toArray = ls at hl ⊢
  have hl : lv_has ls 9 [(0, .ref mo)] := hl
  have hn := hi.1
  have hn2 := hi2.1
  refine lv_aload_n hx hb d_Mo_run_0 rfl (lv_at hl 0 rfl) ?_
  refine lv_iconst (v := nI 0) hx hb d_Mo_run_1 (by decide +kernel) ?_
  refine va_put (D := (dC, dI)) (ci := 8) (v := .int (nI 0)) (ty := (t_Mo 0)) (C := R_Mo) (T := F_Mo) (N := 27) hx hb htg iw_Mo t_Mo tk_Mo nm_Mo hown hK hP hD hS 0 rfl rfl 0 (by decide) (htg _ k3_52) (fun _ h9 => h9) rfl (by decide +kernel) rfl rfl (Nat.le_of_ble_eq_true rfl) d_Mo_run_2 (fun H locs hP hD hS => ?_)
  have hP : va_P (dC, dI) vwCl [(mo, .inr (8, [.int (nI 0), .long sd, .ref m2, .ref m3, .ref m4, .ref m5, .ref m6, .ref m7, .ref m8, .int (nI pn), .ref m10, .ref m11, .ref m12, .ref m13, .ref m14, .ref m15, .int (nI as0), .int (nI dc), .ref m18, .int (nI tc), .ref m20, .ref m21, .ref m22, .ref m23, .ref m24, .ref m25, .ref m26])), (m2, .inl (cI, 2, .inl (aI cn))), (m3, .inl (cI, 60, .inl (aI ms))), (m4, .inl (cI, 60, .inl (aI md))), (m5, .inl (cI, 60, .inl (aI mk))), (m6, .inl (cL, 60, .inr (.inl (aL mg)))), (m7, .inl (cI, 30, .inl (aO so))), (m8, .inl (cZ, 30, .inl (aB bo)))] H := hP
  have hD : va_D A [(mo, .inr (8, [.int (nI 0), .long sd, .ref m2, .ref m3, .ref m4, .ref m5, .ref m6, .ref m7, .ref m8, .int (nI pn), .ref m10, .ref m11, .ref m12, .ref m13, .ref m14, .ref m15, .int (nI as0), .int (nI dc), .ref m18, .int (nI tc), .ref m20, .ref m21, .ref m22, .ref m23, .ref m24, .ref m25, .ref m26])), (m2, .inl (cI, 2, .inl (aI cn))), (m3, .inl (cI, 60, .inl (aI ms))), (m4, .inl (cI, 60, .inl (aI md))), (m5, .inl (cI, 60, .inl (aI mk))), (m6, .inl (cL, 60, .inr (.inl (aL mg)))), (m7, .inl (cI, 30, .inl (aO so))), (m8, .inl (cZ, 30, .inl (aB bo)))] := hD
  refine lv_iconst (v := nI 0) hx hb d_Mo_run_5 (by decide +kernel) ?_
  refine lv_istore_n (lv' := [(1, .int (nI 0)), (0, .ref mo)]) hx hb d_Mo_run_6 rfl hl (by decide) rfl (fun ls hl => ?_)
  have J7 : ∀ (k : Nat) (i : Nat) (sq : Nat → Option Nat) (bq : Nat → Bool), (i + k = 30) → (∀ j, j < i → sq j = none) → (∀ j, j < i → bq j = false) → ∀ (H : Heap) (locs : List Loc), va_P (dC, dI) vwCl [(mo, .inr (8, [.int (nI 0), .long sd, .ref m2, .ref m3, .ref m4, .ref m5, .ref m6, .ref m7, .ref m8, .int (nI pn), .ref m10, .ref m11, .ref m12, .ref m13, .ref m14, .ref m15, .int (nI as0), .int (nI dc), .ref m18, .int (nI tc), .ref m20, .ref m21, .ref m22, .ref m23, .ref m24, .ref m25, .ref m26])), (m2, .inl (cI, 2, .inl (aI cn))), (m3, .inl (cI, 60, .inl (aI ms))), (m4, .inl (cI, 60, .inl (aI md))), (m5, .inl (cI, 60, .inl (aI mk))), (m6, .inl (cL, 60, .inr (.inl (aL mg)))), (m7, .inl (cI, 30, .inl (aO sq))), (m8, .inl (cZ, 30, .inl (aB bq)))] H → va_D A [(mo, .inr (8, [.int (nI 0), .long sd, .ref m2, .ref m3, .ref m4, .ref m5, .ref m6, .ref m7, .ref m8, .int (nI pn), .ref m10, .ref m11, .ref m12, .ref m13, .ref m14, .ref m15, .int (nI as0), .int (nI dc), .ref m18, .int (nI tc), .ref m20, .ref m21, .ref m22, .ref m23, .ref m24, .ref m25, .ref m26])), (m2, .inl (cI, 2, .inl (aI cn))), (m3, .inl (cI, 60, .inl (aI ms))), (m4, .inl (cI, 60, .inl (aI md))), (m5, .inl (cI, 60, .inl (aI mk))), (m6, .inl (cL, 60, .inr (.inl (aL mg)))), (m7, .inl (cI, 30, .inl (aO sq))), (m8, .inl (cZ, 30, .inl (aB bq)))] → va_S A s.heap H locs → ∀ (ls : Array Slot), lv_has ls 9 [(0, .ref mo), (1, .int (nI i))] → W pr l en (headSpec ws_Mo_run { frames := 1, cells := 0, slots := 0, locals := 29 }).room s m ([.ref mo] : List Value).toArray below meth c H locs 0 0 (MQ below (va_Qi (fun (r : Int32) (u : (Nat → Option Nat) × (Nat → Bool)) => ∃ i, r = nI i ∧ i ≤ 30 ∧ isRun (ptOf ms md mk mg (sh30 ms) (sh30 md) (sh30 mk) (sh30 mg)) (cn 0) (cn 1) i ∧ u.1 = (JS (ptOf ms md mk mg (sh30 ms) (sh30 md) (sh30 mk) (sh30 mg)) (cn 0) (cn 1) i).1 ∧ ∀ p k, u.1 p = some k → p < cn 0 ∧ k < cn 1) (fun (u : (Nat → Option Nat) × (Nat → Bool)) => wrQ (dC, dI) vwCl [(cI, .int), (cL, .long), (cZ, .boolean)] A [(mo, .inr (8, [.int (nI 0), .long sd, .ref m2, .ref m3, .ref m4, .ref m5, .ref m6, .ref m7, .ref m8, .int (nI pn), .ref m10, .ref m11, .ref m12, .ref m13, .ref m14, .ref m15, .int (nI as0), .int (nI dc), .ref m18, .int (nI tc), .ref m20, .ref m21, .ref m22, .ref m23, .ref m24, .ref m25, .ref m26])), (m2, .inl (cI, 2, .inl (aI cn))), (m3, .inl (cI, 60, .inl (aI ms))), (m4, .inl (cI, 60, .inl (aI md))), (m5, .inl (cI, 60, .inl (aI mk))), (m6, .inl (cL, 60, .inr (.inl (aL mg)))), (m7, .inl (cI, 30, .inl (aO u.1))), (m8, .inl (cZ, 30, .inl (aB u.2)))]) A) ([.ref mo] : List Value).toArray s 0 0 A) (F0 m 7 ls []) := by
    intro k
    induction k with
    | zero =>
      intro i sq bq hk hs hq H locs hP hD hS ls hl
      refine lv_iload_n hx hb d_Mo_run_7 rfl (lv_at hl 1 rfl) ?_
      refine lv_bipush (v := nI 30) hx hb d_Mo_run_8 (by decide +kernel) ?_
      refine bk_icmp_ge (a := i) (b := 30) (tgt := 33) hx hb (by omega) (by omega) d_Mo_run_10 (by decide) (fun c10 => ?_) (fun c10 => by exfalso; omega)
      have hP := ext_P hP 6 (y := (30, .inl (aO (fun _ => none)))) rfl (cell_int (fun j hj => by rw [aO, hs j (by omega)]; rfl))
      have hD := ext_D hD 6 (e2 := .inl (cI, 30, .inl (aO (fun _ => none)))) rfl
      have hP : va_P (dC, dI) vwCl [(mo, .inr (8, [.int (nI 0), .long sd, .ref m2, .ref m3, .ref m4, .ref m5, .ref m6, .ref m7, .ref m8, .int (nI pn), .ref m10, .ref m11, .ref m12, .ref m13, .ref m14, .ref m15, .int (nI as0), .int (nI dc), .ref m18, .int (nI tc), .ref m20, .ref m21, .ref m22, .ref m23, .ref m24, .ref m25, .ref m26])), (m2, .inl (cI, 2, .inl (aI cn))), (m3, .inl (cI, 60, .inl (aI ms))), (m4, .inl (cI, 60, .inl (aI md))), (m5, .inl (cI, 60, .inl (aI mk))), (m6, .inl (cL, 60, .inr (.inl (aL mg)))), (m7, .inl (cI, 30, .inl (aO (fun _ => none)))), (m8, .inl (cZ, 30, .inl (aB bq)))] H := hP
      have hD : va_D A [(mo, .inr (8, [.int (nI 0), .long sd, .ref m2, .ref m3, .ref m4, .ref m5, .ref m6, .ref m7, .ref m8, .int (nI pn), .ref m10, .ref m11, .ref m12, .ref m13, .ref m14, .ref m15, .int (nI as0), .int (nI dc), .ref m18, .int (nI tc), .ref m20, .ref m21, .ref m22, .ref m23, .ref m24, .ref m25, .ref m26])), (m2, .inl (cI, 2, .inl (aI cn))), (m3, .inl (cI, 60, .inl (aI ms))), (m4, .inl (cI, 60, .inl (aI md))), (m5, .inl (cI, 60, .inl (aI mk))), (m6, .inl (cL, 60, .inr (.inl (aL mg)))), (m7, .inl (cI, 30, .inl (aO (fun _ => none)))), (m8, .inl (cZ, 30, .inl (aB bq)))] := hD
      have hP := ext_P hP 7 (y := (30, .inl (aB (fun _ => false)))) rfl (cell_int (fun j hj => by rw [aB, hq j (by omega)]; rfl))
      have hD := ext_D hD 7 (e2 := .inl (cZ, 30, .inl (aB (fun _ => false)))) rfl
      have hP : va_P (dC, dI) vwCl [(mo, .inr (8, [.int (nI 0), .long sd, .ref m2, .ref m3, .ref m4, .ref m5, .ref m6, .ref m7, .ref m8, .int (nI pn), .ref m10, .ref m11, .ref m12, .ref m13, .ref m14, .ref m15, .int (nI as0), .int (nI dc), .ref m18, .int (nI tc), .ref m20, .ref m21, .ref m22, .ref m23, .ref m24, .ref m25, .ref m26])), (m2, .inl (cI, 2, .inl (aI cn))), (m3, .inl (cI, 60, .inl (aI ms))), (m4, .inl (cI, 60, .inl (aI md))), (m5, .inl (cI, 60, .inl (aI mk))), (m6, .inl (cL, 60, .inr (.inl (aL mg)))), (m7, .inl (cI, 30, .inl (aO (fun _ => none)))), (m8, .inl (cZ, 30, .inl (aB (fun _ => false))))] H := hP
      have hD : va_D A [(mo, .inr (8, [.int (nI 0), .long sd, .ref m2, .ref m3, .ref m4, .ref m5, .ref m6, .ref m7, .ref m8, .int (nI pn), .ref m10, .ref m11, .ref m12, .ref m13, .ref m14, .ref m15, .int (nI as0), .int (nI dc), .ref m18, .int (nI tc), .ref m20, .ref m21, .ref m22, .ref m23, .ref m24, .ref m25, .ref m26])), (m2, .inl (cI, 2, .inl (aI cn))), (m3, .inl (cI, 60, .inl (aI ms))), (m4, .inl (cI, 60, .inl (aI md))), (m5, .inl (cI, 60, .inl (aI mk))), (m6, .inl (cL, 60, .inr (.inl (aL mg)))), (m7, .inl (cI, 30, .inl (aO (fun _ => none)))), (m8, .inl (cZ, 30, .inl (aB (fun _ => false))))] := hD
      refine lv_iconst (v := nI 0) hx hb d_Mo_run_33 (by decide +kernel) ?_
      refine lv_istore_n (lv' := [(1, .int (nI 0)), (0, .ref mo)]) hx hb d_Mo_run_34 rfl hl (by decide) rfl (fun ls hl => ?_)
      refine lv_iconst (v := nI 1) hx hb d_Mo_run_35 (by decide +kernel) ?_
      refine lv_istore_n (lv' := [(2, .int (nI 1)), (1, .int (nI 0)), (0, .ref mo)]) hx hb d_Mo_run_36 rfl hl (by decide) rfl (fun ls hl => ?_)
      have J37 : ∀ (k1 : Nat) (i : Nat) (sq : Nat → Option Nat) (bq : Nat → Bool), (i + k1 = 31) → ((sq, bq) = JS (ptOf ms md mk mg (sh30 ms) (sh30 md) (sh30 mk) (sh30 mg)) (cn 0) (cn 1) i) → (more (ptOf ms md mk mg (sh30 ms) (sh30 md) (sh30 mk) (sh30 mg)) (cn 0) (cn 1) i) → (∀ p k, sq p = some k → p < cn 0 ∧ k < cn 1) → ∀ (H : Heap) (locs : List Loc), va_P (dC, dI) vwCl [(mo, .inr (8, [.int (nI 0), .long sd, .ref m2, .ref m3, .ref m4, .ref m5, .ref m6, .ref m7, .ref m8, .int (nI pn), .ref m10, .ref m11, .ref m12, .ref m13, .ref m14, .ref m15, .int (nI as0), .int (nI dc), .ref m18, .int (nI tc), .ref m20, .ref m21, .ref m22, .ref m23, .ref m24, .ref m25, .ref m26])), (m2, .inl (cI, 2, .inl (aI cn))), (m3, .inl (cI, 60, .inl (aI ms))), (m4, .inl (cI, 60, .inl (aI md))), (m5, .inl (cI, 60, .inl (aI mk))), (m6, .inl (cL, 60, .inr (.inl (aL mg)))), (m7, .inl (cI, 30, .inl (aO sq))), (m8, .inl (cZ, 30, .inl (aB bq)))] H → va_D A [(mo, .inr (8, [.int (nI 0), .long sd, .ref m2, .ref m3, .ref m4, .ref m5, .ref m6, .ref m7, .ref m8, .int (nI pn), .ref m10, .ref m11, .ref m12, .ref m13, .ref m14, .ref m15, .int (nI as0), .int (nI dc), .ref m18, .int (nI tc), .ref m20, .ref m21, .ref m22, .ref m23, .ref m24, .ref m25, .ref m26])), (m2, .inl (cI, 2, .inl (aI cn))), (m3, .inl (cI, 60, .inl (aI ms))), (m4, .inl (cI, 60, .inl (aI md))), (m5, .inl (cI, 60, .inl (aI mk))), (m6, .inl (cL, 60, .inr (.inl (aL mg)))), (m7, .inl (cI, 30, .inl (aO sq))), (m8, .inl (cZ, 30, .inl (aB bq)))] → va_S A s.heap H locs → ∀ (ls : Array Slot), lv_has ls 9 [(0, .ref mo), (1, .int (nI i)), (2, .int (nI 1))] → W pr l en (headSpec ws_Mo_run { frames := 1, cells := 0, slots := 0, locals := 29 }).room s m ([.ref mo] : List Value).toArray below meth c H locs 0 0 (MQ below (va_Qi (fun (r : Int32) (u : (Nat → Option Nat) × (Nat → Bool)) => ∃ i, r = nI i ∧ i ≤ 30 ∧ isRun (ptOf ms md mk mg (sh30 ms) (sh30 md) (sh30 mk) (sh30 mg)) (cn 0) (cn 1) i ∧ u.1 = (JS (ptOf ms md mk mg (sh30 ms) (sh30 md) (sh30 mk) (sh30 mg)) (cn 0) (cn 1) i).1 ∧ ∀ p k, u.1 p = some k → p < cn 0 ∧ k < cn 1) (fun (u : (Nat → Option Nat) × (Nat → Bool)) => wrQ (dC, dI) vwCl [(cI, .int), (cL, .long), (cZ, .boolean)] A [(mo, .inr (8, [.int (nI 0), .long sd, .ref m2, .ref m3, .ref m4, .ref m5, .ref m6, .ref m7, .ref m8, .int (nI pn), .ref m10, .ref m11, .ref m12, .ref m13, .ref m14, .ref m15, .int (nI as0), .int (nI dc), .ref m18, .int (nI tc), .ref m20, .ref m21, .ref m22, .ref m23, .ref m24, .ref m25, .ref m26])), (m2, .inl (cI, 2, .inl (aI cn))), (m3, .inl (cI, 60, .inl (aI ms))), (m4, .inl (cI, 60, .inl (aI md))), (m5, .inl (cI, 60, .inl (aI mk))), (m6, .inl (cL, 60, .inr (.inl (aL mg)))), (m7, .inl (cI, 30, .inl (aO u.1))), (m8, .inl (cZ, 30, .inl (aB u.2)))]) A) ([.ref mo] : List Value).toArray s 0 0 A) (F0 m 37 ls []) := by
        intro k1
        induction k1 with
        | zero =>
          intro i sq bq hk1 hj hmo hsp H locs hP hD hS ls hl
          exfalso
          have := js_le hmo
          omega
        | succ k1 ih37 =>
          intro i sq bq hk1 hj hmo hsp H locs hP hD hS ls hl
          have hil := js_le hmo
          refine lv_iload_n hx hb d_Mo_run_37 rfl (lv_at hl 2 rfl) ?_
          refine bk_if_eq (a := 1) (tgt := 177) hx hb (by omega) d_Mo_run_38 (by decide) (fun c38 => absurd c38 (by decide)) (fun c38 => ?_)
          refine lv_iconst (v := nI 0) hx hb d_Mo_run_41 (by decide +kernel) ?_
          refine lv_istore_n (lv' := [(3, .int (nI 0)), (0, .ref mo), (1, .int (nI i)), (2, .int (nI 1))]) hx hb d_Mo_run_42 rfl hl (by decide) rfl (fun ls hl => ?_)
          refine lv_iconst (v := nI 0) hx hb d_Mo_run_43 (by decide +kernel) ?_
          refine lv_istore (lv' := [(4, .int (nI 0)), (3, .int (nI 0)), (0, .ref mo), (1, .int (nI i)), (2, .int (nI 1))]) hx hb d_Mo_run_44 hl (by decide) rfl (fun ls hl => ?_)
          refine lv_iconst (v := nI 0) hx hb d_Mo_run_46 (by decide +kernel) ?_
          refine lv_istore (lv' := [(5, .int (nI 0)), (4, .int (nI 0)), (3, .int (nI 0)), (0, .ref mo), (1, .int (nI i)), (2, .int (nI 1))]) hx hb d_Mo_run_47 hl (by decide) rfl (fun ls hl => ?_)
          refine lv_iconst (v := nI 0) hx hb d_Mo_run_49 (by decide +kernel) ?_
          refine lv_istore (lv' := [(6, .int (nI 0)), (5, .int (nI 0)), (4, .int (nI 0)), (3, .int (nI 0)), (0, .ref mo), (1, .int (nI i)), (2, .int (nI 1))]) hx hb d_Mo_run_50 hl (by decide) rfl (fun ls hl => ?_)
          have J52 : ∀ (k2 : Nat) (p : Nat) (b : Nat × Nat × Nat), (p + k2 = cn 0) → (b = scO (vv (ptOf ms md mk mg (sh30 ms) (sh30 md) (sh30 mk) (sh30 mg)) sq bq) (cn 1) p) → (b.1 ≤ 1000) → ∀ (H : Heap) (locs : List Loc), va_P (dC, dI) vwCl [(mo, .inr (8, [.int (nI 0), .long sd, .ref m2, .ref m3, .ref m4, .ref m5, .ref m6, .ref m7, .ref m8, .int (nI pn), .ref m10, .ref m11, .ref m12, .ref m13, .ref m14, .ref m15, .int (nI as0), .int (nI dc), .ref m18, .int (nI tc), .ref m20, .ref m21, .ref m22, .ref m23, .ref m24, .ref m25, .ref m26])), (m2, .inl (cI, 2, .inl (aI cn))), (m3, .inl (cI, 60, .inl (aI ms))), (m4, .inl (cI, 60, .inl (aI md))), (m5, .inl (cI, 60, .inl (aI mk))), (m6, .inl (cL, 60, .inr (.inl (aL mg)))), (m7, .inl (cI, 30, .inl (aO sq))), (m8, .inl (cZ, 30, .inl (aB bq)))] H → va_D A [(mo, .inr (8, [.int (nI 0), .long sd, .ref m2, .ref m3, .ref m4, .ref m5, .ref m6, .ref m7, .ref m8, .int (nI pn), .ref m10, .ref m11, .ref m12, .ref m13, .ref m14, .ref m15, .int (nI as0), .int (nI dc), .ref m18, .int (nI tc), .ref m20, .ref m21, .ref m22, .ref m23, .ref m24, .ref m25, .ref m26])), (m2, .inl (cI, 2, .inl (aI cn))), (m3, .inl (cI, 60, .inl (aI ms))), (m4, .inl (cI, 60, .inl (aI md))), (m5, .inl (cI, 60, .inl (aI mk))), (m6, .inl (cL, 60, .inr (.inl (aL mg)))), (m7, .inl (cI, 30, .inl (aO sq))), (m8, .inl (cZ, 30, .inl (aB bq)))] → va_S A s.heap H locs → ∀ (ls : Array Slot), lv_has ls 9 [(0, .ref mo), (1, .int (nI i)), (2, .int (nI 1)), (3, .int (nI b.1)), (4, .int (nI b.2.1)), (5, .int (nI b.2.2)), (6, .int (nI p))] → W pr l en (headSpec ws_Mo_run { frames := 1, cells := 0, slots := 0, locals := 29 }).room s m ([.ref mo] : List Value).toArray below meth c H locs 0 0 (MQ below (va_Qi (fun (r : Int32) (u : (Nat → Option Nat) × (Nat → Bool)) => ∃ i, r = nI i ∧ i ≤ 30 ∧ isRun (ptOf ms md mk mg (sh30 ms) (sh30 md) (sh30 mk) (sh30 mg)) (cn 0) (cn 1) i ∧ u.1 = (JS (ptOf ms md mk mg (sh30 ms) (sh30 md) (sh30 mk) (sh30 mg)) (cn 0) (cn 1) i).1 ∧ ∀ p k, u.1 p = some k → p < cn 0 ∧ k < cn 1) (fun (u : (Nat → Option Nat) × (Nat → Bool)) => wrQ (dC, dI) vwCl [(cI, .int), (cL, .long), (cZ, .boolean)] A [(mo, .inr (8, [.int (nI 0), .long sd, .ref m2, .ref m3, .ref m4, .ref m5, .ref m6, .ref m7, .ref m8, .int (nI pn), .ref m10, .ref m11, .ref m12, .ref m13, .ref m14, .ref m15, .int (nI as0), .int (nI dc), .ref m18, .int (nI tc), .ref m20, .ref m21, .ref m22, .ref m23, .ref m24, .ref m25, .ref m26])), (m2, .inl (cI, 2, .inl (aI cn))), (m3, .inl (cI, 60, .inl (aI ms))), (m4, .inl (cI, 60, .inl (aI md))), (m5, .inl (cI, 60, .inl (aI mk))), (m6, .inl (cL, 60, .inr (.inl (aL mg)))), (m7, .inl (cI, 30, .inl (aO u.1))), (m8, .inl (cZ, 30, .inl (aB u.2)))]) A) ([.ref mo] : List Value).toArray s 0 0 A) (F0 m 52 ls []) := by
            intro k2
            induction k2 with
            | zero =>
              intro p b hk2 hbb hm H locs hP hD hS ls hl
              refine lv_iload hx hb d_Mo_run_52 (lv_at hl 6 rfl) ?_
              refine lv_aload_n hx hb d_Mo_run_54 rfl (lv_at hl 0 rfl) ?_
              refine va_get (D := (dC, dI)) (ci := 8) (v := .ref m2) (C := R_Mo) (T := F_Mo) (N := 27) hx hb htg iw_Mo hown hK hP 0 rfl rfl 2 (by decide) (htg _ k3_54) (fun _ h9 => h9) rfl d_Mo_run_55 ?_
              refine lv_iconst (v := nI 0) hx hb d_Mo_run_58 (by decide +kernel) ?_
              refine bk_iald (v := nI (cn 0)) hx hb hK hP 1 0 rfl rfl (by omega) (by decide) rfl d_Mo_run_59 ?_
              refine bk_icmp_ge (a := p) (b := cn 0) (tgt := 140) hx hb (by omega) (by omega) d_Mo_run_60 (by decide) (fun c60 => ?_) (fun c60 => by exfalso; omega)
              have hbj : b = jbest (ptOf ms md mk mg (sh30 ms) (sh30 md) (sh30 mk) (sh30 mg)) (cn 0) (cn 1) (sq, bq) := by rw [hbb, show p = cn 0 by omega]; rfl
              refine lv_iload_n hx hb d_Mo_run_140 rfl (lv_at hl 3 rfl) ?_
              refine bk_if_le (a := b.1) (tgt := 148) hx hb (by omega) d_Mo_run_141 (by decide) (fun c141 => ?_) (fun c141 => ?_)
              · refine lv_iconst (v := nI 0) hx hb d_Mo_run_148 (by decide +kernel) ?_
                refine lv_istore_n (lv' := [(2, .int (nI 0)), (0, .ref mo), (1, .int (nI i)), (3, .int (nI b.1)), (4, .int (nI b.2.1)), (5, .int (nI b.2.2)), (6, .int (nI p))]) hx hb d_Mo_run_149 rfl hl (by decide) rfl (fun ls hl => ?_)
                refine lv_iload_n hx hb d_Mo_run_150 rfl (lv_at hl 0 rfl) ?_
                refine bk_if_eq (a := 0) (tgt := 174) hx hb (by omega) d_Mo_run_151 (by decide) (fun c151 => ?_) (fun c151 => absurd c151 (by decide))
                refine lv_goto (tgt := 37) hx hb d_Mo_run_174 (by decide) ?_
                refine lv_iload_n hx hb d_Mo_run_37 rfl (lv_at hl 0 rfl) ?_
                refine bk_if_eq (a := 0) (tgt := 177) hx hb (by omega) d_Mo_run_38 (by decide) (fun c38 => ?_) (fun c38 => absurd c38 (by decide))
                refine lv_iload_n hx hb d_Mo_run_177 rfl (lv_at hl 2 rfl) ?_
                have hP9 := hP.sub (ws' := [(mo, .inr (8, [.int (nI 0), .long sd, .ref m2, .ref m3, .ref m4, .ref m5, .ref m6, .ref m7, .ref m8, .int (nI pn), .ref m10, .ref m11, .ref m12, .ref m13, .ref m14, .ref m15, .int (nI as0), .int (nI dc), .ref m18, .int (nI tc), .ref m20, .ref m21, .ref m22, .ref m23, .ref m24, .ref m25, .ref m26])), (m2, .inl (cI, 2, .inl (aI cn))), (m3, .inl (cI, 60, .inl (aI ms))), (m4, .inl (cI, 60, .inl (aI md))), (m5, .inl (cI, 60, .inl (aI mk))), (m6, .inl (cL, 60, .inr (.inl (aL mg)))), (m7, .inl (cI, 30, .inl (aO sq))), (m8, .inl (cZ, 30, .inl (aB bq)))]) [0, 1, 2, 3, 4, 5, 6, 7] rfl
                have hD9 := hD.sub (ws' := [(mo, .inr (8, [.int (nI 0), .long sd, .ref m2, .ref m3, .ref m4, .ref m5, .ref m6, .ref m7, .ref m8, .int (nI pn), .ref m10, .ref m11, .ref m12, .ref m13, .ref m14, .ref m15, .int (nI as0), .int (nI dc), .ref m18, .int (nI tc), .ref m20, .ref m21, .ref m22, .ref m23, .ref m24, .ref m25, .ref m26])), (m2, .inl (cI, 2, .inl (aI cn))), (m3, .inl (cI, 60, .inl (aI ms))), (m4, .inl (cI, 60, .inl (aI md))), (m5, .inl (cI, 60, .inl (aI mk))), (m6, .inl (cL, 60, .inr (.inl (aL mg)))), (m7, .inl (cI, 30, .inl (aO sq))), (m8, .inl (cZ, 30, .inl (aB bq)))]) [0, 1, 2, 3, 4, 5, 6, 7] (by decide) rfl
                exact W.iret (v := nI i) hx hb hr (fun t9 ht9 hW9 => ⟨⟨nI i, (sq, bq), rfl, ⟨i, rfl, by omega, ⟨by rw [← hj, ← hbj]; exact c141, hmo⟩, by rw [← hj], hsp⟩, by rw [ht9]; exact hP9, va_K.moved hW9.alike hK, hD9⟩, hS.F ht9⟩) hS.2.2 d_Mo_run_178
              · refine lv_iconst (v := nI 1) hx hb d_Mo_run_144 (by decide +kernel) ?_
                refine lv_goto (tgt := 149) hx hb d_Mo_run_145 (by decide) ?_
                refine lv_istore_n (lv' := [(2, .int (nI 1)), (0, .ref mo), (1, .int (nI i)), (3, .int (nI b.1)), (4, .int (nI b.2.1)), (5, .int (nI b.2.2)), (6, .int (nI p))]) hx hb d_Mo_run_149 rfl hl (by decide) rfl (fun ls hl => ?_)
                refine lv_iload_n hx hb d_Mo_run_150 rfl (lv_at hl 0 rfl) ?_
                refine bk_if_eq (a := 1) (tgt := 174) hx hb (by omega) d_Mo_run_151 (by decide) (fun c151 => absurd c151 (by decide)) (fun c151 => ?_)
                obtain ⟨hv1, hv2⟩ : b.2.1 < cn 0 ∧ b.2.2 < cn 1 := by rw [hbj]; exact best_rng (by rw [← hbj]; omega)
                refine lv_aload_n hx hb d_Mo_run_154 rfl (lv_at hl 1 rfl) ?_
                refine va_get (D := (dC, dI)) (ci := 8) (v := .ref m7) (C := R_Mo) (T := F_Mo) (N := 27) hx hb htg iw_Mo hown hK hP 0 rfl rfl 7 (by decide) (htg _ k3_59) (fun _ h9 => h9) rfl d_Mo_run_155 ?_
                refine lv_iload hx hb d_Mo_run_158 (lv_at hl 4 rfl) ?_
                refine lv_iload hx hb d_Mo_run_160 (lv_at hl 5 rfl) ?_
                refine bk_iast (x := nI b.2.2) (f2 := aO (va_up sq b.2.1 (some b.2.2))) hx hb hK hP hD hS 6 0 rfl rfl (by omega) (by decide) (aO_up _ _ (some b.2.2)) d_Mo_run_162 (fun H locs hP hD hS => ?_)
                have hP : va_P (dC, dI) vwCl [(mo, .inr (8, [.int (nI 0), .long sd, .ref m2, .ref m3, .ref m4, .ref m5, .ref m6, .ref m7, .ref m8, .int (nI pn), .ref m10, .ref m11, .ref m12, .ref m13, .ref m14, .ref m15, .int (nI as0), .int (nI dc), .ref m18, .int (nI tc), .ref m20, .ref m21, .ref m22, .ref m23, .ref m24, .ref m25, .ref m26])), (m2, .inl (cI, 2, .inl (aI cn))), (m3, .inl (cI, 60, .inl (aI ms))), (m4, .inl (cI, 60, .inl (aI md))), (m5, .inl (cI, 60, .inl (aI mk))), (m6, .inl (cL, 60, .inr (.inl (aL mg)))), (m7, .inl (cI, 30, .inl (aO (va_up sq b.2.1 (some b.2.2))))), (m8, .inl (cZ, 30, .inl (aB bq)))] H := hP
                have hD : va_D A [(mo, .inr (8, [.int (nI 0), .long sd, .ref m2, .ref m3, .ref m4, .ref m5, .ref m6, .ref m7, .ref m8, .int (nI pn), .ref m10, .ref m11, .ref m12, .ref m13, .ref m14, .ref m15, .int (nI as0), .int (nI dc), .ref m18, .int (nI tc), .ref m20, .ref m21, .ref m22, .ref m23, .ref m24, .ref m25, .ref m26])), (m2, .inl (cI, 2, .inl (aI cn))), (m3, .inl (cI, 60, .inl (aI ms))), (m4, .inl (cI, 60, .inl (aI md))), (m5, .inl (cI, 60, .inl (aI mk))), (m6, .inl (cL, 60, .inr (.inl (aL mg)))), (m7, .inl (cI, 30, .inl (aO (va_up sq b.2.1 (some b.2.2))))), (m8, .inl (cZ, 30, .inl (aB bq)))] := hD
                refine lv_aload_n hx hb d_Mo_run_163 rfl (lv_at hl 1 rfl) ?_
                refine va_get (D := (dC, dI)) (ci := 8) (v := .ref m8) (C := R_Mo) (T := F_Mo) (N := 27) hx hb htg iw_Mo hown hK hP 0 rfl rfl 8 (by decide) (htg _ k3_60) (fun _ h9 => h9) rfl d_Mo_run_164 ?_
                refine lv_iload hx hb d_Mo_run_167 (lv_at hl 5 rfl) ?_
                refine lv_iconst (v := nI 1) hx hb d_Mo_run_169 (by decide +kernel) ?_
                refine bk_zast (x := nI 1) (f2 := aB (va_up bq b.2.2 true)) hx hb hK hP hD hS 7 2 rfl rfl (by omega) (by decide) (aB_up _ _ true) d_Mo_run_170 (fun H locs hP hD hS => ?_)
                have hP : va_P (dC, dI) vwCl [(mo, .inr (8, [.int (nI 0), .long sd, .ref m2, .ref m3, .ref m4, .ref m5, .ref m6, .ref m7, .ref m8, .int (nI pn), .ref m10, .ref m11, .ref m12, .ref m13, .ref m14, .ref m15, .int (nI as0), .int (nI dc), .ref m18, .int (nI tc), .ref m20, .ref m21, .ref m22, .ref m23, .ref m24, .ref m25, .ref m26])), (m2, .inl (cI, 2, .inl (aI cn))), (m3, .inl (cI, 60, .inl (aI ms))), (m4, .inl (cI, 60, .inl (aI md))), (m5, .inl (cI, 60, .inl (aI mk))), (m6, .inl (cL, 60, .inr (.inl (aL mg)))), (m7, .inl (cI, 30, .inl (aO (va_up sq b.2.1 (some b.2.2))))), (m8, .inl (cZ, 30, .inl (aB (va_up bq b.2.2 true))))] H := hP
                have hD : va_D A [(mo, .inr (8, [.int (nI 0), .long sd, .ref m2, .ref m3, .ref m4, .ref m5, .ref m6, .ref m7, .ref m8, .int (nI pn), .ref m10, .ref m11, .ref m12, .ref m13, .ref m14, .ref m15, .int (nI as0), .int (nI dc), .ref m18, .int (nI tc), .ref m20, .ref m21, .ref m22, .ref m23, .ref m24, .ref m25, .ref m26])), (m2, .inl (cI, 2, .inl (aI cn))), (m3, .inl (cI, 60, .inl (aI ms))), (m4, .inl (cI, 60, .inl (aI md))), (m5, .inl (cI, 60, .inl (aI mk))), (m6, .inl (cL, 60, .inr (.inl (aL mg)))), (m7, .inl (cI, 30, .inl (aO (va_up sq b.2.1 (some b.2.2))))), (m8, .inl (cZ, 30, .inl (aB (va_up bq b.2.2 true))))] := hD
                refine lv_iinc (v := nI (i + 1)) (lv' := [(1, .int (nI (i + 1))), (2, .int (nI 1)), (0, .ref mo), (3, .int (nI b.1)), (4, .int (nI b.2.1)), (5, .int (nI b.2.2)), (6, .int (nI p))]) hx hb d_Mo_run_171 hl (k := 2) rfl (bk_inc i) (by decide) rfl (fun ls hl => ?_)
                refine lv_goto (tgt := 37) hx hb d_Mo_run_174 (by decide) ?_
                exact ih37 (i + 1) (va_up sq b.2.1 (some b.2.2)) (va_up bq b.2.2 true) (by omega) (jsM_next (s := (sq, bq)) hj hbj) (more_next hj hmo (by rw [← hbj]; omega)) (rng_up hsp hv1 hv2) _ _ (hP.sub [0, 1, 2, 3, 4, 5, 6, 7] rfl) (hD.sub [0, 1, 2, 3, 4, 5, 6, 7] (by decide) rfl) hS ls (lv_sub hl [2, 0, 1] rfl)
            | succ k2 ih52 =>
              intro p b hk2 hbb hm H locs hP hD hS ls hl
              refine lv_iload hx hb d_Mo_run_52 (lv_at hl 6 rfl) ?_
              refine lv_aload_n hx hb d_Mo_run_54 rfl (lv_at hl 0 rfl) ?_
              refine va_get (D := (dC, dI)) (ci := 8) (v := .ref m2) (C := R_Mo) (T := F_Mo) (N := 27) hx hb htg iw_Mo hown hK hP 0 rfl rfl 2 (by decide) (htg _ k3_54) (fun _ h9 => h9) rfl d_Mo_run_55 ?_
              refine lv_iconst (v := nI 0) hx hb d_Mo_run_58 (by decide +kernel) ?_
              refine bk_iald (v := nI (cn 0)) hx hb hK hP 1 0 rfl rfl (by omega) (by decide) rfl d_Mo_run_59 ?_
              refine bk_icmp_ge (a := p) (b := cn 0) (tgt := 140) hx hb (by omega) (by omega) d_Mo_run_60 (by decide) (fun c60 => by exfalso; omega) (fun c60 => ?_)
              refine lv_iconst (v := nI 0) hx hb d_Mo_run_63 (by decide +kernel) ?_
              refine lv_istore (lv' := [(7, .int (nI 0)), (0, .ref mo), (1, .int (nI i)), (2, .int (nI 1)), (3, .int (nI b.1)), (4, .int (nI b.2.1)), (5, .int (nI b.2.2)), (6, .int (nI p))]) hx hb d_Mo_run_64 hl (by decide) rfl (fun ls hl => ?_)
              have J66 : ∀ (k3 : Nat) (q : Nat) (b : Nat × Nat × Nat), (q + k3 = cn 1) → (b = scI ((vv (ptOf ms md mk mg (sh30 ms) (sh30 md) (sh30 mk) (sh30 mg)) sq bq) p) p (scO (vv (ptOf ms md mk mg (sh30 ms) (sh30 md) (sh30 mk) (sh30 mg)) sq bq) (cn 1) p) q) → (b.1 ≤ 1000) → ∀ (H : Heap) (locs : List Loc), va_P (dC, dI) vwCl [(mo, .inr (8, [.int (nI 0), .long sd, .ref m2, .ref m3, .ref m4, .ref m5, .ref m6, .ref m7, .ref m8, .int (nI pn), .ref m10, .ref m11, .ref m12, .ref m13, .ref m14, .ref m15, .int (nI as0), .int (nI dc), .ref m18, .int (nI tc), .ref m20, .ref m21, .ref m22, .ref m23, .ref m24, .ref m25, .ref m26])), (m2, .inl (cI, 2, .inl (aI cn))), (m3, .inl (cI, 60, .inl (aI ms))), (m4, .inl (cI, 60, .inl (aI md))), (m5, .inl (cI, 60, .inl (aI mk))), (m6, .inl (cL, 60, .inr (.inl (aL mg)))), (m7, .inl (cI, 30, .inl (aO sq))), (m8, .inl (cZ, 30, .inl (aB bq)))] H → va_D A [(mo, .inr (8, [.int (nI 0), .long sd, .ref m2, .ref m3, .ref m4, .ref m5, .ref m6, .ref m7, .ref m8, .int (nI pn), .ref m10, .ref m11, .ref m12, .ref m13, .ref m14, .ref m15, .int (nI as0), .int (nI dc), .ref m18, .int (nI tc), .ref m20, .ref m21, .ref m22, .ref m23, .ref m24, .ref m25, .ref m26])), (m2, .inl (cI, 2, .inl (aI cn))), (m3, .inl (cI, 60, .inl (aI ms))), (m4, .inl (cI, 60, .inl (aI md))), (m5, .inl (cI, 60, .inl (aI mk))), (m6, .inl (cL, 60, .inr (.inl (aL mg)))), (m7, .inl (cI, 30, .inl (aO sq))), (m8, .inl (cZ, 30, .inl (aB bq)))] → va_S A s.heap H locs → ∀ (ls : Array Slot), lv_has ls 9 [(0, .ref mo), (1, .int (nI i)), (2, .int (nI 1)), (3, .int (nI b.1)), (4, .int (nI b.2.1)), (5, .int (nI b.2.2)), (6, .int (nI p)), (7, .int (nI q))] → W pr l en (headSpec ws_Mo_run { frames := 1, cells := 0, slots := 0, locals := 29 }).room s m ([.ref mo] : List Value).toArray below meth c H locs 0 0 (MQ below (va_Qi (fun (r : Int32) (u : (Nat → Option Nat) × (Nat → Bool)) => ∃ i, r = nI i ∧ i ≤ 30 ∧ isRun (ptOf ms md mk mg (sh30 ms) (sh30 md) (sh30 mk) (sh30 mg)) (cn 0) (cn 1) i ∧ u.1 = (JS (ptOf ms md mk mg (sh30 ms) (sh30 md) (sh30 mk) (sh30 mg)) (cn 0) (cn 1) i).1 ∧ ∀ p k, u.1 p = some k → p < cn 0 ∧ k < cn 1) (fun (u : (Nat → Option Nat) × (Nat → Bool)) => wrQ (dC, dI) vwCl [(cI, .int), (cL, .long), (cZ, .boolean)] A [(mo, .inr (8, [.int (nI 0), .long sd, .ref m2, .ref m3, .ref m4, .ref m5, .ref m6, .ref m7, .ref m8, .int (nI pn), .ref m10, .ref m11, .ref m12, .ref m13, .ref m14, .ref m15, .int (nI as0), .int (nI dc), .ref m18, .int (nI tc), .ref m20, .ref m21, .ref m22, .ref m23, .ref m24, .ref m25, .ref m26])), (m2, .inl (cI, 2, .inl (aI cn))), (m3, .inl (cI, 60, .inl (aI ms))), (m4, .inl (cI, 60, .inl (aI md))), (m5, .inl (cI, 60, .inl (aI mk))), (m6, .inl (cL, 60, .inr (.inl (aL mg)))), (m7, .inl (cI, 30, .inl (aO u.1))), (m8, .inl (cZ, 30, .inl (aB u.2)))]) A) ([.ref mo] : List Value).toArray s 0 0 A) (F0 m 66 ls []) := by
                intro k3
                induction k3 with
                | zero =>
                  intro q b hk3 hb2 hm H locs hP hD hS ls hl
                  refine lv_iload hx hb d_Mo_run_66 (lv_at hl 7 rfl) ?_
                  refine lv_aload_n hx hb d_Mo_run_68 rfl (lv_at hl 0 rfl) ?_
                  refine va_get (D := (dC, dI)) (ci := 8) (v := .ref m2) (C := R_Mo) (T := F_Mo) (N := 27) hx hb htg iw_Mo hown hK hP 0 rfl rfl 2 (by decide) (htg _ k3_54) (fun _ h9 => h9) rfl d_Mo_run_69 ?_
                  refine lv_iconst (v := nI 1) hx hb d_Mo_run_72 (by decide +kernel) ?_
                  refine bk_iald (v := nI (cn 1)) hx hb hK hP 1 0 rfl rfl (by omega) (by decide) rfl d_Mo_run_73 ?_
                  refine bk_icmp_ge (a := q) (b := cn 1) (tgt := 134) hx hb (by omega) (by omega) d_Mo_run_74 (by decide) (fun c74 => ?_) (fun c74 => by exfalso; omega)
                  refine lv_iinc (v := nI (p + 1)) (lv' := [(6, .int (nI (p + 1))), (0, .ref mo), (1, .int (nI i)), (2, .int (nI 1)), (3, .int (nI b.1)), (4, .int (nI b.2.1)), (5, .int (nI b.2.2)), (7, .int (nI q))]) hx hb d_Mo_run_134 hl (k := 6) rfl (bk_inc p) (by decide) rfl (fun ls hl => ?_)
                  refine lv_goto (tgt := 52) hx hb d_Mo_run_137 (by decide) ?_
                  exact ih52 (p + 1) b (by omega) (by rw [hb2, show q = cn 1 by omega]; rfl) hm _ _ (hP.sub [0, 1, 2, 3, 4, 5, 6, 7] rfl) (hD.sub [0, 1, 2, 3, 4, 5, 6, 7] (by decide) rfl) hS ls (lv_sub hl [1, 2, 3, 4, 5, 6, 0] rfl)
                | succ k3 ih66 =>
                  intro q b hk3 hb2 hm H locs hP hD hS ls hl
                  have hbl := bN_le (bq q)
                  refine lv_iload hx hb d_Mo_run_66 (lv_at hl 7 rfl) ?_
                  refine lv_aload_n hx hb d_Mo_run_68 rfl (lv_at hl 0 rfl) ?_
                  refine va_get (D := (dC, dI)) (ci := 8) (v := .ref m2) (C := R_Mo) (T := F_Mo) (N := 27) hx hb htg iw_Mo hown hK hP 0 rfl rfl 2 (by decide) (htg _ k3_54) (fun _ h9 => h9) rfl d_Mo_run_69 ?_
                  refine lv_iconst (v := nI 1) hx hb d_Mo_run_72 (by decide +kernel) ?_
                  refine bk_iald (v := nI (cn 1)) hx hb hK hP 1 0 rfl rfl (by omega) (by decide) rfl d_Mo_run_73 ?_
                  refine bk_icmp_ge (a := q) (b := cn 1) (tgt := 134) hx hb (by omega) (by omega) d_Mo_run_74 (by decide) (fun c74 => by exfalso; omega) (fun c74 => ?_)
                  refine lv_aload_n hx hb d_Mo_run_77 rfl (lv_at hl 0 rfl) ?_
                  refine va_get (D := (dC, dI)) (ci := 8) (v := .ref m7) (C := R_Mo) (T := F_Mo) (N := 27) hx hb htg iw_Mo hown hK hP 0 rfl rfl 7 (by decide) (htg _ k3_59) (fun _ h9 => h9) rfl d_Mo_run_78 ?_
                  refine lv_iload hx hb d_Mo_run_81 (lv_at hl 6 rfl) ?_
                  refine bk_iald (v := oI (sq p)) hx hb hK hP 6 0 rfl rfl (by omega) (by decide) rfl d_Mo_run_83 ?_
                  refine bk_oif_ge (r := sq p) (tgt := 108) hx hb (fun k h => by have := (hsp _ k h).2; omega) d_Mo_run_84 (by decide) (fun c84 => ?_) (fun c84 => ?_)
                  · refine lv_iconst (v := nI 0) hx hb d_Mo_run_108 (by decide +kernel) ?_
                    refine lv_istore (lv' := [(8, .int (nI 0)), (0, .ref mo), (1, .int (nI i)), (2, .int (nI 1)), (3, .int (nI b.1)), (4, .int (nI b.2.1)), (5, .int (nI b.2.2)), (6, .int (nI p)), (7, .int (nI q))]) hx hb d_Mo_run_109 hl (by decide) rfl (fun ls hl => ?_)
                    refine lv_iload hx hb d_Mo_run_111 (lv_at hl 0 rfl) ?_
                    refine lv_iload_n hx hb d_Mo_run_113 rfl (lv_at hl 4 rfl) ?_
                    refine bk_icmp_le (a := 0) (b := b.1) (tgt := 128) hx hb (by omega) (by omega) d_Mo_run_114 (by decide) (fun c114 => ?_) (fun c114 => by exfalso; omega)
                    refine lv_iinc (v := nI (q + 1)) (lv' := [(7, .int (nI (q + 1))), (8, .int (nI 0)), (0, .ref mo), (1, .int (nI i)), (2, .int (nI 1)), (3, .int (nI b.1)), (4, .int (nI b.2.1)), (5, .int (nI b.2.2)), (6, .int (nI p))]) hx hb d_Mo_run_128 hl (k := 8) rfl (bk_inc q) (by decide) rfl (fun ls hl => ?_)
                    refine lv_goto (tgt := 66) hx hb d_Mo_run_131 (by decide) ?_
                    exact ih66 (q + 1) b (by omega) (by first | exact scI_keep hb2 (vvM_no1 c84) (Nat.zero_le _) | exact scI_keep hb2 (vvM_no2 c94) (Nat.zero_le _) | exact scI_keep hb2 (vvM_free c84 c94) c114) hm _ _ (hP.sub [0, 1, 2, 3, 4, 5, 6, 7] rfl) (hD.sub [0, 1, 2, 3, 4, 5, 6, 7] (by decide) rfl) hS ls (lv_sub hl [2, 3, 4, 5, 6, 7, 8, 0] rfl)
                  · refine lv_aload_n hx hb d_Mo_run_87 rfl (lv_at hl 0 rfl) ?_
                    refine va_get (D := (dC, dI)) (ci := 8) (v := .ref m8) (C := R_Mo) (T := F_Mo) (N := 27) hx hb htg iw_Mo hown hK hP 0 rfl rfl 8 (by decide) (htg _ k3_60) (fun _ h9 => h9) rfl d_Mo_run_88 ?_
                    refine lv_iload hx hb d_Mo_run_91 (lv_at hl 7 rfl) ?_
                    refine bk_zald (v := nI (bN (bq q))) hx hb hK hP 7 2 rfl rfl (by omega) (by decide) rfl d_Mo_run_93 ?_
                    refine bk_if_ne (a := bN (bq q)) (tgt := 108) hx hb (by omega) d_Mo_run_94 (by decide) (fun c94 => ?_) (fun c94 => ?_)
                    · refine lv_iconst (v := nI 0) hx hb d_Mo_run_108 (by decide +kernel) ?_
                      refine lv_istore (lv' := [(8, .int (nI 0)), (0, .ref mo), (1, .int (nI i)), (2, .int (nI 1)), (3, .int (nI b.1)), (4, .int (nI b.2.1)), (5, .int (nI b.2.2)), (6, .int (nI p)), (7, .int (nI q))]) hx hb d_Mo_run_109 hl (by decide) rfl (fun ls hl => ?_)
                      refine lv_iload hx hb d_Mo_run_111 (lv_at hl 0 rfl) ?_
                      refine lv_iload_n hx hb d_Mo_run_113 rfl (lv_at hl 4 rfl) ?_
                      refine bk_icmp_le (a := 0) (b := b.1) (tgt := 128) hx hb (by omega) (by omega) d_Mo_run_114 (by decide) (fun c114 => ?_) (fun c114 => by exfalso; omega)
                      refine lv_iinc (v := nI (q + 1)) (lv' := [(7, .int (nI (q + 1))), (8, .int (nI 0)), (0, .ref mo), (1, .int (nI i)), (2, .int (nI 1)), (3, .int (nI b.1)), (4, .int (nI b.2.1)), (5, .int (nI b.2.2)), (6, .int (nI p))]) hx hb d_Mo_run_128 hl (k := 8) rfl (bk_inc q) (by decide) rfl (fun ls hl => ?_)
                      refine lv_goto (tgt := 66) hx hb d_Mo_run_131 (by decide) ?_
                      exact ih66 (q + 1) b (by omega) (by first | exact scI_keep hb2 (vvM_no1 c84) (Nat.zero_le _) | exact scI_keep hb2 (vvM_no2 c94) (Nat.zero_le _) | exact scI_keep hb2 (vvM_free c84 c94) c114) hm _ _ (hP.sub [0, 1, 2, 3, 4, 5, 6, 7] rfl) (hD.sub [0, 1, 2, 3, 4, 5, 6, 7] (by decide) rfl) hS ls (lv_sub hl [2, 3, 4, 5, 6, 7, 8, 0] rfl)
                    · refine lv_aload_n hx hb d_Mo_run_97 rfl (lv_at hl 0 rfl) ?_
                      refine lv_iload hx hb d_Mo_run_98 (lv_at hl 6 rfl) ?_
                      refine lv_iload hx hb d_Mo_run_100 (lv_at hl 7 rfl) ?_
                      refine vp_callSi (va_runV (As := [.int (nI p), .int (nI q)]) (rest := []) ⟨hx, hb, hml, hown, htg⟩ (c_Mo_pointsOf l dC dI cI cL cZ mo 0 m2 m3 m4 m5 m6 m7 m8 pn m10 m11 m12 m13 m14 m15 as0 dc m18 tc m20 m21 m22 m23 m24 m25 m26 sd cn ms md mk mg p q hi hi2 (by omega) (by omega)) (cwV 2 htg (gdV k3_163 k3_165 ks_Mo_pointsOf k1_9 kc_Mo_pointsOf) rfl rfl rfl (by decide +kernel) ⟨Nat.le_of_ble_eq_true rfl, Nat.le_of_ble_eq_true rfl⟩) ⟨bk_blind, va_recv hK hP (ci := 8) (q0 := 0) rfl rfl, fun U hU hW => ⟨rfl, nw_warm hW hN, by rw [hU]; exact hP.sub [0, 1, 2, 3, 4, 5] rfl, va_K.moved hW.alike hK⟩⟩ rfl rfl hl.1 rfl (lv_room (Nat.le_of_ble_eq_true rfl)) d_Mo_run_102 ⟨Nat.le_of_ble_eq_true rfl, Nat.le_of_ble_eq_true rfl⟩).run (fun r102 e102 => ?_)
                      subst e102
                      have hpt := ptOf_le (sh := ms) (dy := md) (kd := mk) (gr := mg) (sh2 := sh30 ms) (dy2 := sh30 md) (kd2 := sh30 mk) (gr2 := sh30 mg) (p := p) (q := q)
                      refine lv_goto (tgt := 109) hx hb d_Mo_run_105 (by decide) ?_
                      refine lv_istore (lv' := [(8, .int (nI (ptOf ms md mk mg (sh30 ms) (sh30 md) (sh30 mk) (sh30 mg) p q))), (0, .ref mo), (1, .int (nI i)), (2, .int (nI 1)), (3, .int (nI b.1)), (4, .int (nI b.2.1)), (5, .int (nI b.2.2)), (6, .int (nI p)), (7, .int (nI q))]) hx hb d_Mo_run_109 hl (by decide) rfl (fun ls hl => ?_)
                      refine lv_iload hx hb d_Mo_run_111 (lv_at hl 0 rfl) ?_
                      refine lv_iload_n hx hb d_Mo_run_113 rfl (lv_at hl 4 rfl) ?_
                      refine bk_icmp_le (a := ptOf ms md mk mg (sh30 ms) (sh30 md) (sh30 mk) (sh30 mg) p q) (b := b.1) (tgt := 128) hx hb (by omega) (by omega) d_Mo_run_114 (by decide) (fun c114 => ?_) (fun c114 => ?_)
                      · refine lv_iinc (v := nI (q + 1)) (lv' := [(7, .int (nI (q + 1))), (8, .int (nI (ptOf ms md mk mg (sh30 ms) (sh30 md) (sh30 mk) (sh30 mg) p q))), (0, .ref mo), (1, .int (nI i)), (2, .int (nI 1)), (3, .int (nI b.1)), (4, .int (nI b.2.1)), (5, .int (nI b.2.2)), (6, .int (nI p))]) hx hb d_Mo_run_128 hl (k := 8) rfl (bk_inc q) (by decide) rfl (fun ls hl => ?_)
                        refine lv_goto (tgt := 66) hx hb d_Mo_run_131 (by decide) ?_
                        exact ih66 (q + 1) b (by omega) (by first | exact scI_keep hb2 (vvM_no1 c84) (Nat.zero_le _) | exact scI_keep hb2 (vvM_no2 c94) (Nat.zero_le _) | exact scI_keep hb2 (vvM_free c84 c94) c114) hm _ _ (hP.sub [0, 1, 2, 3, 4, 5, 6, 7] rfl) (hD.sub [0, 1, 2, 3, 4, 5, 6, 7] (by decide) rfl) hS ls (lv_sub hl [2, 3, 4, 5, 6, 7, 8, 0] rfl)
                      · refine lv_iload hx hb d_Mo_run_117 (lv_at hl 0 rfl) ?_
                        refine lv_istore_n (lv' := [(3, .int (nI (ptOf ms md mk mg (sh30 ms) (sh30 md) (sh30 mk) (sh30 mg) p q))), (8, .int (nI (ptOf ms md mk mg (sh30 ms) (sh30 md) (sh30 mk) (sh30 mg) p q))), (0, .ref mo), (1, .int (nI i)), (2, .int (nI 1)), (4, .int (nI b.2.1)), (5, .int (nI b.2.2)), (6, .int (nI p)), (7, .int (nI q))]) hx hb d_Mo_run_119 rfl hl (by decide) rfl (fun ls hl => ?_)
                        refine lv_iload hx hb d_Mo_run_120 (lv_at hl 7 rfl) ?_
                        refine lv_istore (lv' := [(4, .int (nI p)), (3, .int (nI (ptOf ms md mk mg (sh30 ms) (sh30 md) (sh30 mk) (sh30 mg) p q))), (8, .int (nI (ptOf ms md mk mg (sh30 ms) (sh30 md) (sh30 mk) (sh30 mg) p q))), (0, .ref mo), (1, .int (nI i)), (2, .int (nI 1)), (5, .int (nI b.2.2)), (6, .int (nI p)), (7, .int (nI q))]) hx hb d_Mo_run_122 hl (by decide) rfl (fun ls hl => ?_)
                        refine lv_iload hx hb d_Mo_run_124 (lv_at hl 8 rfl) ?_
                        refine lv_istore (lv' := [(5, .int (nI q)), (4, .int (nI p)), (3, .int (nI (ptOf ms md mk mg (sh30 ms) (sh30 md) (sh30 mk) (sh30 mg) p q))), (8, .int (nI (ptOf ms md mk mg (sh30 ms) (sh30 md) (sh30 mk) (sh30 mg) p q))), (0, .ref mo), (1, .int (nI i)), (2, .int (nI 1)), (6, .int (nI p)), (7, .int (nI q))]) hx hb d_Mo_run_126 hl (by decide) rfl (fun ls hl => ?_)
                        refine lv_iinc (v := nI (q + 1)) (lv' := [(7, .int (nI (q + 1))), (5, .int (nI q)), (4, .int (nI p)), (3, .int (nI (ptOf ms md mk mg (sh30 ms) (sh30 md) (sh30 mk) (sh30 mg) p q))), (8, .int (nI (ptOf ms md mk mg (sh30 ms) (sh30 md) (sh30 mk) (sh30 mg) p q))), (0, .ref mo), (1, .int (nI i)), (2, .int (nI 1)), (6, .int (nI p))]) hx hb d_Mo_run_128 hl (k := 8) rfl (bk_inc q) (by decide) rfl (fun ls hl => ?_)
                        refine lv_goto (tgt := 66) hx hb d_Mo_run_131 (by decide) ?_
                        exact ih66 (q + 1) (ptOf ms md mk mg (sh30 ms) (sh30 md) (sh30 mk) (sh30 mg) p q, p, q) (by omega) (scI_take hb2 (vvM_free c84 c94) c114) ptOf_le _ _ (hP.sub [0, 1, 2, 3, 4, 5, 6, 7] rfl) (hD.sub [0, 1, 2, 3, 4, 5, 6, 7] (by decide) rfl) hS ls (lv_sub hl [5, 6, 7, 3, 2, 1, 8, 0] rfl)
              exact J66 (cn 1) 0 b (by omega) (by rw [hbb]; rfl) hm _ _ (hP.sub [0, 1, 2, 3, 4, 5, 6, 7] rfl) (hD.sub [0, 1, 2, 3, 4, 5, 6, 7] (by decide) rfl) hS ls (lv_sub hl [1, 2, 3, 4, 5, 6, 7, 0] rfl)
          exact J52 (cn 0) 0 (0, 0, 0) (by omega) rfl (Nat.zero_le _) _ _ (hP.sub [0, 1, 2, 3, 4, 5, 6, 7] rfl) (hD.sub [0, 1, 2, 3, 4, 5, 6, 7] (by decide) rfl) hS ls (lv_sub hl [4, 5, 6, 3, 2, 1, 0] rfl)
      exact J37 31 0 (fun _ => none) (fun _ => false) (by omega) rfl (fun k h => absurd h (by omega)) (fun p k h => nomatch h) _ _ (hP.sub [0, 1, 2, 3, 4, 5, 6, 7] rfl) (hD.sub [0, 1, 2, 3, 4, 5, 6, 7] (by decide) rfl) hS ls (lv_sub hl [2, 1, 0] rfl)
    | succ k ih7 =>
      intro i sq bq hk hs hq H locs hP hD hS ls hl
      refine lv_iload_n hx hb d_Mo_run_7 rfl (lv_at hl 1 rfl) ?_
      refine lv_bipush (v := nI 30) hx hb d_Mo_run_8 (by decide +kernel) ?_
      refine bk_icmp_ge (a := i) (b := 30) (tgt := 33) hx hb (by omega) (by omega) d_Mo_run_10 (by decide) (fun c10 => by exfalso; omega) (fun c10 => ?_)
      refine lv_aload_n hx hb d_Mo_run_13 rfl (lv_at hl 0 rfl) ?_
      refine va_get (D := (dC, dI)) (ci := 8) (v := .ref m7) (C := R_Mo) (T := F_Mo) (N := 27) hx hb htg iw_Mo hown hK hP 0 rfl rfl 7 (by decide) (htg _ k3_59) (fun _ h9 => h9) rfl d_Mo_run_14 ?_
      refine lv_iload_n hx hb d_Mo_run_17 rfl (lv_at hl 1 rfl) ?_
      refine lv_iconst (v := oI none) hx hb d_Mo_run_18 (by decide +kernel) ?_
      refine bk_iast (x := oI none) (f2 := aO (va_up sq i none)) hx hb hK hP hD hS 6 0 rfl rfl (by omega) (by decide) (aO_up _ _ none) d_Mo_run_19 (fun H locs hP hD hS => ?_)
      have hP : va_P (dC, dI) vwCl [(mo, .inr (8, [.int (nI 0), .long sd, .ref m2, .ref m3, .ref m4, .ref m5, .ref m6, .ref m7, .ref m8, .int (nI pn), .ref m10, .ref m11, .ref m12, .ref m13, .ref m14, .ref m15, .int (nI as0), .int (nI dc), .ref m18, .int (nI tc), .ref m20, .ref m21, .ref m22, .ref m23, .ref m24, .ref m25, .ref m26])), (m2, .inl (cI, 2, .inl (aI cn))), (m3, .inl (cI, 60, .inl (aI ms))), (m4, .inl (cI, 60, .inl (aI md))), (m5, .inl (cI, 60, .inl (aI mk))), (m6, .inl (cL, 60, .inr (.inl (aL mg)))), (m7, .inl (cI, 30, .inl (aO (va_up sq i none)))), (m8, .inl (cZ, 30, .inl (aB bq)))] H := hP
      have hD : va_D A [(mo, .inr (8, [.int (nI 0), .long sd, .ref m2, .ref m3, .ref m4, .ref m5, .ref m6, .ref m7, .ref m8, .int (nI pn), .ref m10, .ref m11, .ref m12, .ref m13, .ref m14, .ref m15, .int (nI as0), .int (nI dc), .ref m18, .int (nI tc), .ref m20, .ref m21, .ref m22, .ref m23, .ref m24, .ref m25, .ref m26])), (m2, .inl (cI, 2, .inl (aI cn))), (m3, .inl (cI, 60, .inl (aI ms))), (m4, .inl (cI, 60, .inl (aI md))), (m5, .inl (cI, 60, .inl (aI mk))), (m6, .inl (cL, 60, .inr (.inl (aL mg)))), (m7, .inl (cI, 30, .inl (aO (va_up sq i none)))), (m8, .inl (cZ, 30, .inl (aB bq)))] := hD
      refine lv_aload_n hx hb d_Mo_run_20 rfl (lv_at hl 0 rfl) ?_
      refine va_get (D := (dC, dI)) (ci := 8) (v := .ref m8) (C := R_Mo) (T := F_Mo) (N := 27) hx hb htg iw_Mo hown hK hP 0 rfl rfl 8 (by decide) (htg _ k3_60) (fun _ h9 => h9) rfl d_Mo_run_21 ?_
      refine lv_iload_n hx hb d_Mo_run_24 rfl (lv_at hl 1 rfl) ?_
      refine lv_iconst (v := nI 0) hx hb d_Mo_run_25 (by decide +kernel) ?_
      refine bk_zast (x := nI 0) (f2 := aB (va_up bq i false)) hx hb hK hP hD hS 7 2 rfl rfl (by omega) (by decide) (aB_up _ _ false) d_Mo_run_26 (fun H locs hP hD hS => ?_)
      have hP : va_P (dC, dI) vwCl [(mo, .inr (8, [.int (nI 0), .long sd, .ref m2, .ref m3, .ref m4, .ref m5, .ref m6, .ref m7, .ref m8, .int (nI pn), .ref m10, .ref m11, .ref m12, .ref m13, .ref m14, .ref m15, .int (nI as0), .int (nI dc), .ref m18, .int (nI tc), .ref m20, .ref m21, .ref m22, .ref m23, .ref m24, .ref m25, .ref m26])), (m2, .inl (cI, 2, .inl (aI cn))), (m3, .inl (cI, 60, .inl (aI ms))), (m4, .inl (cI, 60, .inl (aI md))), (m5, .inl (cI, 60, .inl (aI mk))), (m6, .inl (cL, 60, .inr (.inl (aL mg)))), (m7, .inl (cI, 30, .inl (aO (va_up sq i none)))), (m8, .inl (cZ, 30, .inl (aB (va_up bq i false))))] H := hP
      have hD : va_D A [(mo, .inr (8, [.int (nI 0), .long sd, .ref m2, .ref m3, .ref m4, .ref m5, .ref m6, .ref m7, .ref m8, .int (nI pn), .ref m10, .ref m11, .ref m12, .ref m13, .ref m14, .ref m15, .int (nI as0), .int (nI dc), .ref m18, .int (nI tc), .ref m20, .ref m21, .ref m22, .ref m23, .ref m24, .ref m25, .ref m26])), (m2, .inl (cI, 2, .inl (aI cn))), (m3, .inl (cI, 60, .inl (aI ms))), (m4, .inl (cI, 60, .inl (aI md))), (m5, .inl (cI, 60, .inl (aI mk))), (m6, .inl (cL, 60, .inr (.inl (aL mg)))), (m7, .inl (cI, 30, .inl (aO (va_up sq i none)))), (m8, .inl (cZ, 30, .inl (aB (va_up bq i false))))] := hD
      refine lv_iinc (v := nI (i + 1)) (lv' := [(1, .int (nI (i + 1))), (0, .ref mo)]) hx hb d_Mo_run_27 hl (k := 1) rfl (bk_inc i) (by decide) rfl (fun ls hl => ?_)
      refine lv_goto (tgt := 7) hx hb d_Mo_run_30 (by decide) ?_
      exact ih7 (i + 1) (va_up sq i none) (va_up bq i false) (by omega) (none_up hs) (false_up hq) _ _ (hP.sub [0, 1, 2, 3, 4, 5, 6, 7] rfl) (hD.sub [0, 1, 2, 3, 4, 5, 6, 7] (by decide) rfl) hS ls (lv_sub hl [1, 0] rfl)
  exact J7 30 0 so bo (by omega) (fun j hj => absurd hj (by omega)) (fun j hj => absurd hj (by omega)) _ _ (hP.sub [0, 1, 2, 3, 4, 5, 6, 7] rfl) (hD.sub [0, 1, 2, 3, 4, 5, 6, 7] (by decide) rfl) hS ls (lv_sub hl [1, 0] rfl)
set_option maxHeartbeats 4000000 in
set_option maxRecDepth 100000 in
theorem c_Mo_plant (l : Launch) (dC : Nat → ClassId) (dI : Nat → Nat → Nat) (cI cL cZ : ClassId) (sz : Nat) (mo co m2 m3 m4 m5 m6 m7 m8 pn m10 m11 m12 m13 m14 m15 as0 dc m18 tc m20 m21 m22 m23 m24 m25 m26 : Nat) (sd : Int64) (inn : Nat → Nat) (pk : Nat → Nat) (x1 : Int64) (x2 : Int32) (hn : pn ≤ 8) : Met l y_Mo_plant ws_Mo_plant { frames := 1, cells := 0, slots := 0, locals := 25 } (va_Pc [.ref mo, .long x1, .int x2] (wrP (dC, dI) vwCl [(cI, .int), (cL, .long), (cZ, .boolean)] [(mo, .inr (8, [.int (nI co), .long sd, .ref m2, .ref m3, .ref m4, .ref m5, .ref m6, .ref m7, .ref m8, .int (nI pn), .ref m10, .ref m11, .ref m12, .ref m13, .ref m14, .ref m15, .int (nI as0), .int (nI dc), .ref m18, .int (nI tc), .ref m20, .ref m21, .ref m22, .ref m23, .ref m24, .ref m25, .ref m26])), (m10, .inl (cL, 8, .inr (.inl (aL inn)))), (m11, .inl (cI, 8, .inl (aI pk)))] sz)) (va_Qi (fun (r : Int32) (u : Nat × (Nat → Nat) × (Nat → Nat)) => (plOk pn x1 x2 ∧ r = nI pn ∧ u = (pn + 1, va_up inn pn (tl x1), va_up pk pn (tn x2))) ∨ (¬ plOk pn x1 x2 ∧ r = oI none ∧ u = (pn, inn, pk))) (fun (u : Nat × (Nat → Nat) × (Nat → Nat)) => wrQ (dC, dI) vwCl [(cI, .int), (cL, .long), (cZ, .boolean)] (va_A [(mo, .inr (8, [.int (nI co), .long sd, .ref m2, .ref m3, .ref m4, .ref m5, .ref m6, .ref m7, .ref m8, .int (nI pn), .ref m10, .ref m11, .ref m12, .ref m13, .ref m14, .ref m15, .int (nI as0), .int (nI dc), .ref m18, .int (nI tc), .ref m20, .ref m21, .ref m22, .ref m23, .ref m24, .ref m25, .ref m26])), (m10, .inl (cL, 8, .inr (.inl (aL inn)))), (m11, .inl (cI, 8, .inl (aI pk)))] sz) [(mo, .inr (8, [.int (nI 0), .long sd, .ref m2, .ref m3, .ref m4, .ref m5, .ref m6, .ref m7, .ref m8, .int (nI u.1), .ref m10, .ref m11, .ref m12, .ref m13, .ref m14, .ref m15, .int (nI as0), .int (nI dc), .ref m18, .int (nI tc), .ref m20, .ref m21, .ref m22, .ref m23, .ref m24, .ref m25, .ref m26])), (m10, .inl (cL, 8, .inr (.inl (aL u.2.1)))), (m11, .inl (cI, 8, .inl (aI u.2.2)))]) (va_A [(mo, .inr (8, [.int (nI co), .long sd, .ref m2, .ref m3, .ref m4, .ref m5, .ref m6, .ref m7, .ref m8, .int (nI pn), .ref m10, .ref m11, .ref m12, .ref m13, .ref m14, .ref m15, .int (nI as0), .int (nI dc), .ref m18, .int (nI tc), .ref m20, .ref m21, .ref m22, .ref m23, .ref m24, .ref m25, .ref m26])), (m10, .inl (cL, 8, .inr (.inl (aL inn)))), (m11, .inl (cI, 8, .inl (aI pk)))] sz)) 0 0 (va_A [(mo, .inr (8, [.int (nI co), .long sd, .ref m2, .ref m3, .ref m4, .ref m5, .ref m6, .ref m7, .ref m8, .int (nI pn), .ref m10, .ref m11, .ref m12, .ref m13, .ref m14, .ref m15, .int (nI as0), .int (nI dc), .ref m18, .int (nI tc), .ref m20, .ref m21, .ref m22, .ref m23, .ref m24, .ref m25, .ref m26])), (m10, .inl (cL, 8, .inr (.inl (aL inn)))), (m11, .inl (cI, 8, .inl (aI pk)))] sz) := by
  refine Met.ofW (cc := b_Mo_plant) (maxL := 4) (ret := (some .int)) (by decide) rfl ?_
  intro pr en s m args below meth c s₁ B hml hv
  obtain ⟨rfl, hN, hsz, hP, hK, hD0⟩ := hv
  have hx := B.exec
  have hb := B.bytes
  have hr := B.returns
  have hts := atoms_spec (ws := ws_Mo_plant) B.pre
  have htg : ∀ w ∈ gW, w.before _ s = true := fun w h => hts w (List.mem_cons_of_mem _ h)
  have hown : s.vm.findClass R_Mo = some m.cls := findClass_of_methodNamed B.named
  have hlocks := B.notSynchronized
  subst hsz
  have hD := hD0.self (sz := s.heap.size)
  generalize hAe : va_A [(mo, .inr (8, [.int (nI co), .long sd, .ref m2, .ref m3, .ref m4, .ref m5, .ref m6, .ref m7, .ref m8, .int (nI pn), .ref m10, .ref m11, .ref m12, .ref m13, .ref m14, .ref m15, .int (nI as0), .int (nI dc), .ref m18, .int (nI tc), .ref m20, .ref m21, .ref m22, .ref m23, .ref m24, .ref m25, .ref m26])), (m10, .inl (cL, 8, .inr (.inl (aL inn)))), (m11, .inl (cI, 8, .inl (aI pk)))] s.heap.size = A at hD ⊢
  have hA : ∀ q : Nat, s.heap.size ≤ q → A q := fun q h => by rw [← hAe]; exact Or.inr h
  have hS : va_S A s.heap s.heap [] := va_S.rf
  have hP : va_P (dC, dI) vwCl [(mo, .inr (8, [.int (nI co), .long sd, .ref m2, .ref m3, .ref m4, .ref m5, .ref m6, .ref m7, .ref m8, .int (nI pn), .ref m10, .ref m11, .ref m12, .ref m13, .ref m14, .ref m15, .int (nI as0), .int (nI dc), .ref m18, .int (nI tc), .ref m20, .ref m21, .ref m22, .ref m23, .ref m24, .ref m25, .ref m26])), (m10, .inl (cL, 8, .inr (.inl (aL inn)))), (m11, .inl (cI, 8, .inl (aI pk)))] s.heap := hP
  have hl := lv_entry ([.ref mo, .long x1, .int x2]) (n := 4) (Nat.le_of_ble_eq_true rfl)
  rw [lg_entry_eq]
  generalize (lg_sl ([.ref mo, .long x1, .int x2]) ++ List.replicate (4 - (lg_sl ([.ref mo, .long x1, .int x2])).length) Slot.unset).toArray = ls at hl ⊢
  have hl : lv_has ls 4 [(0, .ref mo), (1, .long x1), (3, .int x2)] := hl
  refine lv_aload_n hx hb d_Mo_plant_0 rfl (lv_at hl 0 rfl) ?_
  refine lv_iconst (v := nI 0) hx hb d_Mo_plant_1 (by decide +kernel) ?_
  refine va_put (D := (dC, dI)) (ci := 8) (v := .int (nI 0)) (ty := (t_Mo 0)) (C := R_Mo) (T := F_Mo) (N := 27) hx hb htg iw_Mo t_Mo tk_Mo nm_Mo hown hK hP hD hS 0 rfl rfl 0 (by decide) (htg _ k3_52) (fun _ h9 => h9) rfl (by decide +kernel) rfl rfl (Nat.le_of_ble_eq_true rfl) d_Mo_plant_2 (fun H locs hP hD hS => ?_)
  have hP : va_P (dC, dI) vwCl [(mo, .inr (8, [.int (nI 0), .long sd, .ref m2, .ref m3, .ref m4, .ref m5, .ref m6, .ref m7, .ref m8, .int (nI pn), .ref m10, .ref m11, .ref m12, .ref m13, .ref m14, .ref m15, .int (nI as0), .int (nI dc), .ref m18, .int (nI tc), .ref m20, .ref m21, .ref m22, .ref m23, .ref m24, .ref m25, .ref m26])), (m10, .inl (cL, 8, .inr (.inl (aL inn)))), (m11, .inl (cI, 8, .inl (aI pk)))] H := hP
  have hD : va_D A [(mo, .inr (8, [.int (nI 0), .long sd, .ref m2, .ref m3, .ref m4, .ref m5, .ref m6, .ref m7, .ref m8, .int (nI pn), .ref m10, .ref m11, .ref m12, .ref m13, .ref m14, .ref m15, .int (nI as0), .int (nI dc), .ref m18, .int (nI tc), .ref m20, .ref m21, .ref m22, .ref m23, .ref m24, .ref m25, .ref m26])), (m10, .inl (cL, 8, .inr (.inl (aL inn)))), (m11, .inl (cI, 8, .inl (aI pk)))] := hD
  refine lv_lload_n hx hb d_Mo_plant_5 rfl (lv_at hl 1 rfl) ?_
  refine lv_lconst (v := lN 0) hx hb d_Mo_plant_6 (by decide +kernel) ?_
  refine lv_ldc2 (own := R_Mo) (v := 1000000000) hx hb hown (htg _ k3_154) d_Mo_plant_7 ?_
  refine bk_topl (y := lN 1000000000) (by decide +kernel) ?_
  refine vp_callSi (va_runS (As := [.long x1, .long (lN 0), .long (lN 1000000000)]) (rest := []) ⟨hx, hb, hml, hown, htg⟩ (c_Mo_within l dC dI cI cL cZ x1 0 1000000000 (by omega) (by omega)) (va_cwS 3 htg (gdS k3_151 k3_152 k1_9 kc_Mo_within) rfl rfl rfl (by decide +kernel) ⟨Nat.le_of_ble_eq_true rfl, Nat.le_of_ble_eq_true rfl⟩) ⟨bk_blind0, fun U hU hW => ⟨rfl, trivial⟩⟩ rfl rfl hl.1 rfl (lv_room (Nat.le_of_ble_eq_true rfl)) d_Mo_plant_10 ⟨Nat.le_of_ble_eq_true rfl, Nat.le_of_ble_eq_true rfl⟩).run (fun r10 e10 => ?_)
  rcases e10 with ⟨⟨j10, ha10, hj10, hx10⟩, rfl⟩ | ⟨n10, rfl⟩
  · refine bk_if_eq (a := 1) (tgt := 32) hx hb (by omega) d_Mo_plant_13 (by decide) (fun c13 => absurd c13 (by decide)) (fun c13 => ?_)
    refine lv_iload_n hx hb d_Mo_plant_16 rfl (lv_at hl 2 rfl) ?_
    refine vp_callSi (va_runS (As := [.int x2]) (rest := []) ⟨hx, hb, hml, hown, htg⟩ (c_Mo_isTen l dC dI cI cL cZ x2 ) (va_cwS 1 htg (gdS k3_147 k3_148 k1_9 kc_Mo_isTen) rfl rfl rfl (by decide +kernel) ⟨Nat.le_of_ble_eq_true rfl, Nat.le_of_ble_eq_true rfl⟩) ⟨bk_blind0, fun U hU hW => ⟨rfl, trivial⟩⟩ rfl rfl hl.1 rfl (lv_room (Nat.le_of_ble_eq_true rfl)) d_Mo_plant_17 ⟨Nat.le_of_ble_eq_true rfl, Nat.le_of_ble_eq_true rfl⟩).run (fun r17 e17 => ?_)
    rcases e17 with ⟨⟨j17, hj17, hx17⟩, rfl⟩ | ⟨n17, rfl⟩
    · refine bk_if_eq (a := 1) (tgt := 32) hx hb (by omega) d_Mo_plant_20 (by decide) (fun c20 => absurd c20 (by decide)) (fun c20 => ?_)
      refine lv_aload_n hx hb d_Mo_plant_23 rfl (lv_at hl 0 rfl) ?_
      refine va_get (D := (dC, dI)) (ci := 8) (v := .int (nI pn)) (C := R_Mo) (T := F_Mo) (N := 27) hx hb htg iw_Mo hown hK hP 0 rfl rfl 9 (by decide) (htg _ k3_61) (fun _ h9 => h9) rfl d_Mo_plant_24 ?_
      refine lv_bipush (v := nI 8) hx hb d_Mo_plant_27 (by decide +kernel) ?_
      refine bk_icmp_ne (a := pn) (b := 8) (tgt := 34) hx hb (by omega) (by omega) d_Mo_plant_29 (by decide) (fun c29 => ?_) (fun c29 => ?_)
      · refine lv_aload_n hx hb d_Mo_plant_34 rfl (lv_at hl 0 rfl) ?_
        refine va_get (D := (dC, dI)) (ci := 8) (v := .ref m10) (C := R_Mo) (T := F_Mo) (N := 27) hx hb htg iw_Mo hown hK hP 0 rfl rfl 10 (by decide) (htg _ k3_62) (fun _ h9 => h9) rfl d_Mo_plant_35 ?_
        refine lv_aload_n hx hb d_Mo_plant_38 rfl (lv_at hl 0 rfl) ?_
        refine va_get (D := (dC, dI)) (ci := 8) (v := .int (nI pn)) (C := R_Mo) (T := F_Mo) (N := 27) hx hb htg iw_Mo hown hK hP 0 rfl rfl 9 (by decide) (htg _ k3_61) (fun _ h9 => h9) rfl d_Mo_plant_39 ?_
        refine lv_lload_n hx hb d_Mo_plant_42 rfl (lv_at hl 1 rfl) ?_
        refine bk_topl (y := lN j10) hx10 ?_
        refine bk_last (x := lN j10) (f2 := aL (va_up inn pn j10)) hx hb hK hP hD hS 1 1 rfl rfl (by omega) (by decide) (aL_up _ _ _) d_Mo_plant_43 (fun H locs hP hD hS => ?_)
        have hP : va_P (dC, dI) vwCl [(mo, .inr (8, [.int (nI 0), .long sd, .ref m2, .ref m3, .ref m4, .ref m5, .ref m6, .ref m7, .ref m8, .int (nI pn), .ref m10, .ref m11, .ref m12, .ref m13, .ref m14, .ref m15, .int (nI as0), .int (nI dc), .ref m18, .int (nI tc), .ref m20, .ref m21, .ref m22, .ref m23, .ref m24, .ref m25, .ref m26])), (m10, .inl (cL, 8, .inr (.inl (aL (va_up inn pn j10))))), (m11, .inl (cI, 8, .inl (aI pk)))] H := hP
        have hD : va_D A [(mo, .inr (8, [.int (nI 0), .long sd, .ref m2, .ref m3, .ref m4, .ref m5, .ref m6, .ref m7, .ref m8, .int (nI pn), .ref m10, .ref m11, .ref m12, .ref m13, .ref m14, .ref m15, .int (nI as0), .int (nI dc), .ref m18, .int (nI tc), .ref m20, .ref m21, .ref m22, .ref m23, .ref m24, .ref m25, .ref m26])), (m10, .inl (cL, 8, .inr (.inl (aL (va_up inn pn j10))))), (m11, .inl (cI, 8, .inl (aI pk)))] := hD
        refine lv_aload_n hx hb d_Mo_plant_44 rfl (lv_at hl 0 rfl) ?_
        refine va_get (D := (dC, dI)) (ci := 8) (v := .ref m11) (C := R_Mo) (T := F_Mo) (N := 27) hx hb htg iw_Mo hown hK hP 0 rfl rfl 11 (by decide) (htg _ k3_63) (fun _ h9 => h9) rfl d_Mo_plant_45 ?_
        refine lv_aload_n hx hb d_Mo_plant_48 rfl (lv_at hl 0 rfl) ?_
        refine va_get (D := (dC, dI)) (ci := 8) (v := .int (nI pn)) (C := R_Mo) (T := F_Mo) (N := 27) hx hb htg iw_Mo hown hK hP 0 rfl rfl 9 (by decide) (htg _ k3_61) (fun _ h9 => h9) rfl d_Mo_plant_49 ?_
        refine lv_iload_n hx hb d_Mo_plant_52 rfl (lv_at hl 2 rfl) ?_
        refine bk_topi (y := nI j17) hx17 ?_
        refine bk_iast (x := nI j17) (f2 := aI (va_up pk pn j17)) hx hb hK hP hD hS 2 0 rfl rfl (by omega) (by decide) (aI_up _ _ _) d_Mo_plant_53 (fun H locs hP hD hS => ?_)
        have hP : va_P (dC, dI) vwCl [(mo, .inr (8, [.int (nI 0), .long sd, .ref m2, .ref m3, .ref m4, .ref m5, .ref m6, .ref m7, .ref m8, .int (nI pn), .ref m10, .ref m11, .ref m12, .ref m13, .ref m14, .ref m15, .int (nI as0), .int (nI dc), .ref m18, .int (nI tc), .ref m20, .ref m21, .ref m22, .ref m23, .ref m24, .ref m25, .ref m26])), (m10, .inl (cL, 8, .inr (.inl (aL (va_up inn pn j10))))), (m11, .inl (cI, 8, .inl (aI (va_up pk pn j17))))] H := hP
        have hD : va_D A [(mo, .inr (8, [.int (nI 0), .long sd, .ref m2, .ref m3, .ref m4, .ref m5, .ref m6, .ref m7, .ref m8, .int (nI pn), .ref m10, .ref m11, .ref m12, .ref m13, .ref m14, .ref m15, .int (nI as0), .int (nI dc), .ref m18, .int (nI tc), .ref m20, .ref m21, .ref m22, .ref m23, .ref m24, .ref m25, .ref m26])), (m10, .inl (cL, 8, .inr (.inl (aL (va_up inn pn j10))))), (m11, .inl (cI, 8, .inl (aI (va_up pk pn j17))))] := hD
        refine lv_aload_n hx hb d_Mo_plant_54 rfl (lv_at hl 0 rfl) ?_
        refine lv_dup hx hb d_Mo_plant_55 rfl ?_
        refine va_get (D := (dC, dI)) (ci := 8) (v := .int (nI pn)) (C := R_Mo) (T := F_Mo) (N := 27) hx hb htg iw_Mo hown hK hP 0 rfl rfl 9 (by decide) (htg _ k3_61) (fun _ h9 => h9) rfl d_Mo_plant_56 ?_
        refine lv_iconst (v := nI 1) hx hb d_Mo_plant_59 (by decide +kernel) ?_
        refine bk_iadd hx hb d_Mo_plant_60 ?_
        refine va_put (D := (dC, dI)) (ci := 8) (v := .int (nI (pn + 1))) (ty := (t_Mo 9)) (C := R_Mo) (T := F_Mo) (N := 27) hx hb htg iw_Mo t_Mo tk_Mo nm_Mo hown hK hP hD hS 0 rfl rfl 9 (by decide) (htg _ k3_61) (fun _ h9 => h9) rfl (by decide +kernel) rfl rfl (Nat.le_of_ble_eq_true rfl) d_Mo_plant_61 (fun H locs hP hD hS => ?_)
        have hP : va_P (dC, dI) vwCl [(mo, .inr (8, [.int (nI 0), .long sd, .ref m2, .ref m3, .ref m4, .ref m5, .ref m6, .ref m7, .ref m8, .int (nI (pn + 1)), .ref m10, .ref m11, .ref m12, .ref m13, .ref m14, .ref m15, .int (nI as0), .int (nI dc), .ref m18, .int (nI tc), .ref m20, .ref m21, .ref m22, .ref m23, .ref m24, .ref m25, .ref m26])), (m10, .inl (cL, 8, .inr (.inl (aL (va_up inn pn j10))))), (m11, .inl (cI, 8, .inl (aI (va_up pk pn j17))))] H := hP
        have hD : va_D A [(mo, .inr (8, [.int (nI 0), .long sd, .ref m2, .ref m3, .ref m4, .ref m5, .ref m6, .ref m7, .ref m8, .int (nI (pn + 1)), .ref m10, .ref m11, .ref m12, .ref m13, .ref m14, .ref m15, .int (nI as0), .int (nI dc), .ref m18, .int (nI tc), .ref m20, .ref m21, .ref m22, .ref m23, .ref m24, .ref m25, .ref m26])), (m10, .inl (cL, 8, .inr (.inl (aL (va_up inn pn j10))))), (m11, .inl (cI, 8, .inl (aI (va_up pk pn j17))))] := hD
        refine lv_aload_n hx hb d_Mo_plant_64 rfl (lv_at hl 0 rfl) ?_
        refine va_get (D := (dC, dI)) (ci := 8) (v := .int (nI (pn + 1))) (C := R_Mo) (T := F_Mo) (N := 27) hx hb htg iw_Mo hown hK hP 0 rfl rfl 9 (by decide) (htg _ k3_61) (fun _ h9 => h9) rfl d_Mo_plant_65 ?_
        refine lv_iconst (v := nI 1) hx hb d_Mo_plant_68 (by decide +kernel) ?_
        refine bk_isub hx hb (by omega) d_Mo_plant_69 ?_
        refine bk_topi (y := nI pn) (by rw [Nat.add_sub_cancel]) ?_
        have hP9 := hP.sub (ws' := [(mo, .inr (8, [.int (nI 0), .long sd, .ref m2, .ref m3, .ref m4, .ref m5, .ref m6, .ref m7, .ref m8, .int (nI (pn + 1)), .ref m10, .ref m11, .ref m12, .ref m13, .ref m14, .ref m15, .int (nI as0), .int (nI dc), .ref m18, .int (nI tc), .ref m20, .ref m21, .ref m22, .ref m23, .ref m24, .ref m25, .ref m26])), (m10, .inl (cL, 8, .inr (.inl (aL (va_up inn pn j10))))), (m11, .inl (cI, 8, .inl (aI (va_up pk pn j17))))]) [0, 1, 2] rfl
        have hD9 := hD.sub (ws' := [(mo, .inr (8, [.int (nI 0), .long sd, .ref m2, .ref m3, .ref m4, .ref m5, .ref m6, .ref m7, .ref m8, .int (nI (pn + 1)), .ref m10, .ref m11, .ref m12, .ref m13, .ref m14, .ref m15, .int (nI as0), .int (nI dc), .ref m18, .int (nI tc), .ref m20, .ref m21, .ref m22, .ref m23, .ref m24, .ref m25, .ref m26])), (m10, .inl (cL, 8, .inr (.inl (aL (va_up inn pn j10))))), (m11, .inl (cI, 8, .inl (aI (va_up pk pn j17))))]) [0, 1, 2] (by decide) rfl
        exact W.iret (v := nI pn) hx hb hr (fun t9 ht9 hW9 => ⟨⟨nI pn, (pn + 1, va_up inn pn j10, va_up pk pn j17), rfl, Or.inl ⟨⟨by omega, ⟨j10, ha10, hj10, hx10⟩, ⟨j17, hj17, hx17⟩⟩, rfl, by rw [hx10, hx17, tn_nI (by omega), tl_lN (by omega)]⟩, by rw [ht9]; exact hP9, va_K.moved hW9.alike hK, hD9⟩, hS.F ht9⟩) hS.2.2 d_Mo_plant_70
      · refine lv_iconst (v := oI none) hx hb d_Mo_plant_32 (by decide +kernel) ?_
        have hP9 := hP.sub (ws' := [(mo, .inr (8, [.int (nI 0), .long sd, .ref m2, .ref m3, .ref m4, .ref m5, .ref m6, .ref m7, .ref m8, .int (nI pn), .ref m10, .ref m11, .ref m12, .ref m13, .ref m14, .ref m15, .int (nI as0), .int (nI dc), .ref m18, .int (nI tc), .ref m20, .ref m21, .ref m22, .ref m23, .ref m24, .ref m25, .ref m26])), (m10, .inl (cL, 8, .inr (.inl (aL inn)))), (m11, .inl (cI, 8, .inl (aI pk)))]) [0, 1, 2] rfl
        have hD9 := hD.sub (ws' := [(mo, .inr (8, [.int (nI 0), .long sd, .ref m2, .ref m3, .ref m4, .ref m5, .ref m6, .ref m7, .ref m8, .int (nI pn), .ref m10, .ref m11, .ref m12, .ref m13, .ref m14, .ref m15, .int (nI as0), .int (nI dc), .ref m18, .int (nI tc), .ref m20, .ref m21, .ref m22, .ref m23, .ref m24, .ref m25, .ref m26])), (m10, .inl (cL, 8, .inr (.inl (aL inn)))), (m11, .inl (cI, 8, .inl (aI pk)))]) [0, 1, 2] (by decide) rfl
        exact W.iret (v := oI none) hx hb hr (fun t9 ht9 hW9 => ⟨⟨oI none, (pn, inn, pk), rfl, Or.inr ⟨fun q => by obtain ⟨q1, q2, q3⟩ := q; first | omega | contradiction, rfl, rfl⟩, by rw [ht9]; exact hP9, va_K.moved hW9.alike hK, hD9⟩, hS.F ht9⟩) hS.2.2 d_Mo_plant_33
    · refine bk_if_eq (a := 0) (tgt := 32) hx hb (by omega) d_Mo_plant_20 (by decide) (fun c20 => ?_) (fun c20 => absurd c20 (by decide))
      refine lv_iconst (v := oI none) hx hb d_Mo_plant_32 (by decide +kernel) ?_
      have hP9 := hP.sub (ws' := [(mo, .inr (8, [.int (nI 0), .long sd, .ref m2, .ref m3, .ref m4, .ref m5, .ref m6, .ref m7, .ref m8, .int (nI pn), .ref m10, .ref m11, .ref m12, .ref m13, .ref m14, .ref m15, .int (nI as0), .int (nI dc), .ref m18, .int (nI tc), .ref m20, .ref m21, .ref m22, .ref m23, .ref m24, .ref m25, .ref m26])), (m10, .inl (cL, 8, .inr (.inl (aL inn)))), (m11, .inl (cI, 8, .inl (aI pk)))]) [0, 1, 2] rfl
      have hD9 := hD.sub (ws' := [(mo, .inr (8, [.int (nI 0), .long sd, .ref m2, .ref m3, .ref m4, .ref m5, .ref m6, .ref m7, .ref m8, .int (nI pn), .ref m10, .ref m11, .ref m12, .ref m13, .ref m14, .ref m15, .int (nI as0), .int (nI dc), .ref m18, .int (nI tc), .ref m20, .ref m21, .ref m22, .ref m23, .ref m24, .ref m25, .ref m26])), (m10, .inl (cL, 8, .inr (.inl (aL inn)))), (m11, .inl (cI, 8, .inl (aI pk)))]) [0, 1, 2] (by decide) rfl
      exact W.iret (v := oI none) hx hb hr (fun t9 ht9 hW9 => ⟨⟨oI none, (pn, inn, pk), rfl, Or.inr ⟨fun q => by obtain ⟨q1, q2, q3⟩ := q; first | omega | contradiction, rfl, rfl⟩, by rw [ht9]; exact hP9, va_K.moved hW9.alike hK, hD9⟩, hS.F ht9⟩) hS.2.2 d_Mo_plant_33
  · refine bk_if_eq (a := 0) (tgt := 32) hx hb (by omega) d_Mo_plant_13 (by decide) (fun c13 => ?_) (fun c13 => absurd c13 (by decide))
    refine lv_iconst (v := oI none) hx hb d_Mo_plant_32 (by decide +kernel) ?_
    have hP9 := hP.sub (ws' := [(mo, .inr (8, [.int (nI 0), .long sd, .ref m2, .ref m3, .ref m4, .ref m5, .ref m6, .ref m7, .ref m8, .int (nI pn), .ref m10, .ref m11, .ref m12, .ref m13, .ref m14, .ref m15, .int (nI as0), .int (nI dc), .ref m18, .int (nI tc), .ref m20, .ref m21, .ref m22, .ref m23, .ref m24, .ref m25, .ref m26])), (m10, .inl (cL, 8, .inr (.inl (aL inn)))), (m11, .inl (cI, 8, .inl (aI pk)))]) [0, 1, 2] rfl
    have hD9 := hD.sub (ws' := [(mo, .inr (8, [.int (nI 0), .long sd, .ref m2, .ref m3, .ref m4, .ref m5, .ref m6, .ref m7, .ref m8, .int (nI pn), .ref m10, .ref m11, .ref m12, .ref m13, .ref m14, .ref m15, .int (nI as0), .int (nI dc), .ref m18, .int (nI tc), .ref m20, .ref m21, .ref m22, .ref m23, .ref m24, .ref m25, .ref m26])), (m10, .inl (cL, 8, .inr (.inl (aL inn)))), (m11, .inl (cI, 8, .inl (aI pk)))]) [0, 1, 2] (by decide) rfl
    exact W.iret (v := oI none) hx hb hr (fun t9 ht9 hW9 => ⟨⟨oI none, (pn, inn, pk), rfl, Or.inr ⟨fun q => by obtain ⟨q1, q2, q3⟩ := q; first | omega | contradiction, rfl, rfl⟩, by rw [ht9]; exact hP9, va_K.moved hW9.alike hK, hD9⟩, hS.F ht9⟩) hS.2.2 d_Mo_plant_33
set_option maxHeartbeats 4000000 in
set_option maxRecDepth 100000 in
theorem c_Mo_isPlant (l : Launch) (dC : Nat → ClassId) (dI : Nat → Nat → Nat) (cI cL cZ : ClassId) (mo co m2 m3 m4 m5 m6 m7 m8 pn m10 m11 m12 m13 m14 m15 as0 dc m18 tc m20 m21 m22 m23 m24 m25 m26 : Nat) (sd : Int64) (x : Int32) (hn : pn ≤ 8) : Met l y_Mo_isPlant ws_Mo_isPlant { frames := 0, cells := 0, slots := 0, locals := 0 } (va_Pc [.ref mo, .int x] (rdP (dC, dI) vwCl [(cI, .int), (cL, .long), (cZ, .boolean)] [(mo, .inr (8, [.int (nI co), .long sd, .ref m2, .ref m3, .ref m4, .ref m5, .ref m6, .ref m7, .ref m8, .int (nI pn), .ref m10, .ref m11, .ref m12, .ref m13, .ref m14, .ref m15, .int (nI as0), .int (nI dc), .ref m18, .int (nI tc), .ref m20, .ref m21, .ref m22, .ref m23, .ref m24, .ref m25, .ref m26]))])) (vp_Si (fun r => (inR pn x ∧ r = nI 1) ∨ (¬ inR pn x ∧ r = nI 0))) 0 0 (fun _ => False) := by
  refine Met.ofW (cc := b_Mo_isPlant) (maxL := 2) (ret := (some .boolean)) (by decide) rfl ?_
  intro pr en s m args below meth c s₁ B hml hv
  obtain ⟨rfl, hN, hP, hK⟩ := hv
  have hx := B.exec
  have hb := B.bytes
  have hr := B.returns
  have hts := atoms_spec (ws := ws_Mo_isPlant) B.pre
  have htg : ∀ w ∈ gW, w.before _ s = true := fun w h => hts w (List.mem_cons_of_mem _ h)
  have hown : s.vm.findClass R_Mo = some m.cls := findClass_of_methodNamed B.named
  have hlocks := B.notSynchronized
  have hl := lv_entry ([.ref mo, .int x]) (n := 2) (Nat.le_of_ble_eq_true rfl)
  rw [lg_entry_eq]
  generalize (lg_sl ([.ref mo, .int x]) ++ List.replicate (2 - (lg_sl ([.ref mo, .int x])).length) Slot.unset).toArray = ls at hl ⊢
  have hl : lv_has ls 2 [(0, .ref mo), (1, .int x)] := hl
  refine lv_iload_n hx hb d_Mo_isPlant_0 rfl (lv_at hl 1 rfl) ?_
  refine lv_if_lt (x := x) (tgt := 16) hx hb d_Mo_isPlant_1 (by decide) (fun c1 => ?_) (fun c1 => ?_)
  · refine lv_iconst (v := nI 0) hx hb d_Mo_isPlant_16 (by decide +kernel) ?_
    exact W.zret (v := nI 0) (ty := .boolean) hx hb hr rfl (fun t9 ht9 hW9 => ⟨nI 0, rfl, Or.inr ⟨by first | exact inR_neg (by omega) (by assumption) | exact inR_big (by omega) (by assumption), rfl⟩, ht9⟩) (fun q h => nomatch h) d_Mo_isPlant_17
  · refine lv_iload_n hx hb d_Mo_isPlant_4 rfl (lv_at hl 1 rfl) ?_
    refine lv_aload_n hx hb d_Mo_isPlant_5 rfl (lv_at hl 0 rfl) ?_
    refine va_get (D := (dC, dI)) (ci := 8) (v := .int (nI pn)) (C := R_Mo) (T := F_Mo) (N := 27) hx hb htg iw_Mo hown hK hP 0 rfl rfl 9 (by decide) (htg _ k3_61) (fun _ h9 => h9) rfl d_Mo_isPlant_6 ?_
    refine lv_icmp_ge (x := x) (y := nI pn) (tgt := 16) hx hb d_Mo_isPlant_9 (by decide) (fun c9 => ?_) (fun c9 => ?_)
    · refine lv_iconst (v := nI 0) hx hb d_Mo_isPlant_16 (by decide +kernel) ?_
      exact W.zret (v := nI 0) (ty := .boolean) hx hb hr rfl (fun t9 ht9 hW9 => ⟨nI 0, rfl, Or.inr ⟨by first | exact inR_neg (by omega) (by assumption) | exact inR_big (by omega) (by assumption), rfl⟩, ht9⟩) (fun q h => nomatch h) d_Mo_isPlant_17
    · refine lv_iconst (v := nI 1) hx hb d_Mo_isPlant_12 (by decide +kernel) ?_
      refine lv_goto (tgt := 17) hx hb d_Mo_isPlant_13 (by decide) ?_
      exact W.zret (v := nI 1) (ty := .boolean) hx hb hr rfl (fun t9 ht9 hW9 => ⟨nI 1, rfl, Or.inl ⟨inR_of (by omega) (by assumption) (by assumption), rfl⟩, ht9⟩) (fun q h => nomatch h) d_Mo_isPlant_17
set_option maxHeartbeats 4000000 in
set_option maxRecDepth 100000 in
theorem c_Mo_out (l : Launch) (dC : Nat → ClassId) (dI : Nat → Nat → Nat) (cI cL cZ : ClassId) (sz : Nat) (mo co m2 m3 m4 m5 m6 m7 m8 pn m10 m11 m12 m13 m14 m15 as0 dc m18 tc m20 m21 m22 m23 m24 m25 m26 : Nat) (sd : Int64) (inn : Nat → Nat) (pk : Nat → Nat) (ou : Nat → Nat) (ok : Nat → Nat) (og : Nat → Nat) (x1 x2 : Int32) (x3 : Int64) (hi : plI pn inn pk ou ok og) : Met l y_Mo_out ws_Mo_out { frames := 1, cells := 0, slots := 0, locals := 25 } (va_Pc [.ref mo, .int x1, .int x2, .long x3] (wrP (dC, dI) vwCl [(cI, .int), (cL, .long), (cZ, .boolean)] [(mo, .inr (8, [.int (nI co), .long sd, .ref m2, .ref m3, .ref m4, .ref m5, .ref m6, .ref m7, .ref m8, .int (nI pn), .ref m10, .ref m11, .ref m12, .ref m13, .ref m14, .ref m15, .int (nI as0), .int (nI dc), .ref m18, .int (nI tc), .ref m20, .ref m21, .ref m22, .ref m23, .ref m24, .ref m25, .ref m26])), (m10, .inl (cL, 8, .inr (.inl (aL inn)))), (m11, .inl (cI, 8, .inl (aI pk))), (m12, .inl (cI, 8, .inl (aI ou))), (m13, .inl (cI, 64, .inl (aI ok))), (m14, .inl (cL, 64, .inr (.inl (aL og))))] sz)) (va_Qi (fun (r : Int32) (u : (Nat → Nat) × (Nat → Nat) × (Nat → Nat)) => (outOk pn ou x1 x2 x3 ∧ r = nI (ou (tn x1)) ∧ u = (va_up ou (tn x1) (ou (tn x1) + 1), va_up ok (tn x1 * 8 + ou (tn x1)) (tn x2), va_up og (tn x1 * 8 + ou (tn x1)) (tl x3))) ∨ (¬ outOk pn ou x1 x2 x3 ∧ r = oI none ∧ u = (ou, ok, og))) (fun (u : (Nat → Nat) × (Nat → Nat) × (Nat → Nat)) => wrQ (dC, dI) vwCl [(cI, .int), (cL, .long), (cZ, .boolean)] (va_A [(mo, .inr (8, [.int (nI co), .long sd, .ref m2, .ref m3, .ref m4, .ref m5, .ref m6, .ref m7, .ref m8, .int (nI pn), .ref m10, .ref m11, .ref m12, .ref m13, .ref m14, .ref m15, .int (nI as0), .int (nI dc), .ref m18, .int (nI tc), .ref m20, .ref m21, .ref m22, .ref m23, .ref m24, .ref m25, .ref m26])), (m10, .inl (cL, 8, .inr (.inl (aL inn)))), (m11, .inl (cI, 8, .inl (aI pk))), (m12, .inl (cI, 8, .inl (aI ou))), (m13, .inl (cI, 64, .inl (aI ok))), (m14, .inl (cL, 64, .inr (.inl (aL og))))] sz) [(mo, .inr (8, [.int (nI 0), .long sd, .ref m2, .ref m3, .ref m4, .ref m5, .ref m6, .ref m7, .ref m8, .int (nI pn), .ref m10, .ref m11, .ref m12, .ref m13, .ref m14, .ref m15, .int (nI as0), .int (nI dc), .ref m18, .int (nI tc), .ref m20, .ref m21, .ref m22, .ref m23, .ref m24, .ref m25, .ref m26])), (m10, .inl (cL, 8, .inr (.inl (aL inn)))), (m11, .inl (cI, 8, .inl (aI pk))), (m12, .inl (cI, 8, .inl (aI u.1))), (m13, .inl (cI, 64, .inl (aI u.2.1))), (m14, .inl (cL, 64, .inr (.inl (aL u.2.2))))]) (va_A [(mo, .inr (8, [.int (nI co), .long sd, .ref m2, .ref m3, .ref m4, .ref m5, .ref m6, .ref m7, .ref m8, .int (nI pn), .ref m10, .ref m11, .ref m12, .ref m13, .ref m14, .ref m15, .int (nI as0), .int (nI dc), .ref m18, .int (nI tc), .ref m20, .ref m21, .ref m22, .ref m23, .ref m24, .ref m25, .ref m26])), (m10, .inl (cL, 8, .inr (.inl (aL inn)))), (m11, .inl (cI, 8, .inl (aI pk))), (m12, .inl (cI, 8, .inl (aI ou))), (m13, .inl (cI, 64, .inl (aI ok))), (m14, .inl (cL, 64, .inr (.inl (aL og))))] sz)) 0 0 (va_A [(mo, .inr (8, [.int (nI co), .long sd, .ref m2, .ref m3, .ref m4, .ref m5, .ref m6, .ref m7, .ref m8, .int (nI pn), .ref m10, .ref m11, .ref m12, .ref m13, .ref m14, .ref m15, .int (nI as0), .int (nI dc), .ref m18, .int (nI tc), .ref m20, .ref m21, .ref m22, .ref m23, .ref m24, .ref m25, .ref m26])), (m10, .inl (cL, 8, .inr (.inl (aL inn)))), (m11, .inl (cI, 8, .inl (aI pk))), (m12, .inl (cI, 8, .inl (aI ou))), (m13, .inl (cI, 64, .inl (aI ok))), (m14, .inl (cL, 64, .inr (.inl (aL og))))] sz) := by
  refine Met.ofW (cc := b_Mo_out) (maxL := 5) (ret := (some .int)) (by decide) rfl ?_
  intro pr en s m args below meth c s₁ B hml hv
  obtain ⟨rfl, hN, hsz, hP, hK, hD0⟩ := hv
  have hx := B.exec
  have hb := B.bytes
  have hr := B.returns
  have hts := atoms_spec (ws := ws_Mo_out) B.pre
  have htg : ∀ w ∈ gW, w.before _ s = true := fun w h => hts w (List.mem_cons_of_mem _ h)
  have hown : s.vm.findClass R_Mo = some m.cls := findClass_of_methodNamed B.named
  have hlocks := B.notSynchronized
  subst hsz
  have hD := hD0.self (sz := s.heap.size)
  generalize hAe : va_A [(mo, .inr (8, [.int (nI co), .long sd, .ref m2, .ref m3, .ref m4, .ref m5, .ref m6, .ref m7, .ref m8, .int (nI pn), .ref m10, .ref m11, .ref m12, .ref m13, .ref m14, .ref m15, .int (nI as0), .int (nI dc), .ref m18, .int (nI tc), .ref m20, .ref m21, .ref m22, .ref m23, .ref m24, .ref m25, .ref m26])), (m10, .inl (cL, 8, .inr (.inl (aL inn)))), (m11, .inl (cI, 8, .inl (aI pk))), (m12, .inl (cI, 8, .inl (aI ou))), (m13, .inl (cI, 64, .inl (aI ok))), (m14, .inl (cL, 64, .inr (.inl (aL og))))] s.heap.size = A at hD ⊢
  have hA : ∀ q : Nat, s.heap.size ≤ q → A q := fun q h => by rw [← hAe]; exact Or.inr h
  have hS : va_S A s.heap s.heap [] := va_S.rf
  have hP : va_P (dC, dI) vwCl [(mo, .inr (8, [.int (nI co), .long sd, .ref m2, .ref m3, .ref m4, .ref m5, .ref m6, .ref m7, .ref m8, .int (nI pn), .ref m10, .ref m11, .ref m12, .ref m13, .ref m14, .ref m15, .int (nI as0), .int (nI dc), .ref m18, .int (nI tc), .ref m20, .ref m21, .ref m22, .ref m23, .ref m24, .ref m25, .ref m26])), (m10, .inl (cL, 8, .inr (.inl (aL inn)))), (m11, .inl (cI, 8, .inl (aI pk))), (m12, .inl (cI, 8, .inl (aI ou))), (m13, .inl (cI, 64, .inl (aI ok))), (m14, .inl (cL, 64, .inr (.inl (aL og))))] s.heap := hP
  have hl := lv_entry ([.ref mo, .int x1, .int x2, .long x3]) (n := 5) (Nat.le_of_ble_eq_true rfl)
  rw [lg_entry_eq]
  generalize (lg_sl ([.ref mo, .int x1, .int x2, .long x3]) ++ List.replicate (5 - (lg_sl ([.ref mo, .int x1, .int x2, .long x3])).length) Slot.unset).toArray = ls at hl ⊢
  have hl : lv_has ls 5 [(0, .ref mo), (1, .int x1), (2, .int x2), (3, .long x3)] := hl
  have hn := hi.1
  refine lv_aload_n hx hb d_Mo_out_0 rfl (lv_at hl 0 rfl) ?_
  refine lv_iconst (v := nI 0) hx hb d_Mo_out_1 (by decide +kernel) ?_
  refine va_put (D := (dC, dI)) (ci := 8) (v := .int (nI 0)) (ty := (t_Mo 0)) (C := R_Mo) (T := F_Mo) (N := 27) hx hb htg iw_Mo t_Mo tk_Mo nm_Mo hown hK hP hD hS 0 rfl rfl 0 (by decide) (htg _ k3_52) (fun _ h9 => h9) rfl (by decide +kernel) rfl rfl (Nat.le_of_ble_eq_true rfl) d_Mo_out_2 (fun H locs hP hD hS => ?_)
  have hP : va_P (dC, dI) vwCl [(mo, .inr (8, [.int (nI 0), .long sd, .ref m2, .ref m3, .ref m4, .ref m5, .ref m6, .ref m7, .ref m8, .int (nI pn), .ref m10, .ref m11, .ref m12, .ref m13, .ref m14, .ref m15, .int (nI as0), .int (nI dc), .ref m18, .int (nI tc), .ref m20, .ref m21, .ref m22, .ref m23, .ref m24, .ref m25, .ref m26])), (m10, .inl (cL, 8, .inr (.inl (aL inn)))), (m11, .inl (cI, 8, .inl (aI pk))), (m12, .inl (cI, 8, .inl (aI ou))), (m13, .inl (cI, 64, .inl (aI ok))), (m14, .inl (cL, 64, .inr (.inl (aL og))))] H := hP
  have hD : va_D A [(mo, .inr (8, [.int (nI 0), .long sd, .ref m2, .ref m3, .ref m4, .ref m5, .ref m6, .ref m7, .ref m8, .int (nI pn), .ref m10, .ref m11, .ref m12, .ref m13, .ref m14, .ref m15, .int (nI as0), .int (nI dc), .ref m18, .int (nI tc), .ref m20, .ref m21, .ref m22, .ref m23, .ref m24, .ref m25, .ref m26])), (m10, .inl (cL, 8, .inr (.inl (aL inn)))), (m11, .inl (cI, 8, .inl (aI pk))), (m12, .inl (cI, 8, .inl (aI ou))), (m13, .inl (cI, 64, .inl (aI ok))), (m14, .inl (cL, 64, .inr (.inl (aL og))))] := hD
  refine lv_aload_n hx hb d_Mo_out_5 rfl (lv_at hl 0 rfl) ?_
  refine lv_iload_n hx hb d_Mo_out_6 rfl (lv_at hl 1 rfl) ?_
  refine vp_callSi (va_runV (As := [.int x1]) (rest := []) ⟨hx, hb, hml, hown, htg⟩ (c_Mo_isPlant l dC dI cI cL cZ mo 0 m2 m3 m4 m5 m6 m7 m8 pn m10 m11 m12 m13 m14 m15 as0 dc m18 tc m20 m21 m22 m23 m24 m25 m26 sd x1 (by omega)) (cwV 1 htg (gdV k3_205 k3_207 ks_Mo_isPlant k1_9 kc_Mo_isPlant) rfl rfl rfl (by decide +kernel) ⟨Nat.le_of_ble_eq_true rfl, Nat.le_of_ble_eq_true rfl⟩) ⟨bk_blind, va_recv hK hP (ci := 8) (q0 := 0) rfl rfl, fun U hU hW => ⟨rfl, nw_warm hW hN, by rw [hU]; exact hP.sub [0] rfl, va_K.moved hW.alike hK⟩⟩ rfl rfl hl.1 rfl (lv_room (Nat.le_of_ble_eq_true rfl)) d_Mo_out_7 ⟨Nat.le_of_ble_eq_true rfl, Nat.le_of_ble_eq_true rfl⟩).run (fun r7 e7 => ?_)
  rcases e7 with ⟨⟨j7, hj7, hx7⟩, rfl⟩ | ⟨n7, rfl⟩
  · refine bk_if_eq (a := 1) (tgt := 42) hx hb (by omega) d_Mo_out_10 (by decide) (fun c10 => absurd c10 (by decide)) (fun c10 => ?_)
    have hou := (hi.2.1 j7 hj7).2.2.1
    refine lv_iload_n hx hb d_Mo_out_13 rfl (lv_at hl 2 rfl) ?_
    refine vp_callSi (va_runS (As := [.int x2]) (rest := []) ⟨hx, hb, hml, hown, htg⟩ (c_Mo_isTen l dC dI cI cL cZ x2 ) (va_cwS 1 htg (gdS k3_147 k3_148 k1_9 kc_Mo_isTen) rfl rfl rfl (by decide +kernel) ⟨Nat.le_of_ble_eq_true rfl, Nat.le_of_ble_eq_true rfl⟩) ⟨bk_blind0, fun U hU hW => ⟨rfl, trivial⟩⟩ rfl rfl hl.1 rfl (lv_room (Nat.le_of_ble_eq_true rfl)) d_Mo_out_14 ⟨Nat.le_of_ble_eq_true rfl, Nat.le_of_ble_eq_true rfl⟩).run (fun r14 e14 => ?_)
    rcases e14 with ⟨⟨j14, hj14, hx14⟩, rfl⟩ | ⟨n14, rfl⟩
    · refine bk_if_eq (a := 1) (tgt := 42) hx hb (by omega) d_Mo_out_17 (by decide) (fun c17 => absurd c17 (by decide)) (fun c17 => ?_)
      refine lv_lload_n hx hb d_Mo_out_20 rfl (lv_at hl 3 rfl) ?_
      refine lv_lconst (v := lN 1) hx hb d_Mo_out_21 (by decide +kernel) ?_
      refine lv_ldc2 (own := R_Mo) (v := 1000000000) hx hb hown (htg _ k3_154) d_Mo_out_22 ?_
      refine bk_topl (y := lN 1000000000) (by decide +kernel) ?_
      refine vp_callSi (va_runS (As := [.long x3, .long (lN 1), .long (lN 1000000000)]) (rest := []) ⟨hx, hb, hml, hown, htg⟩ (c_Mo_within l dC dI cI cL cZ x3 1 1000000000 (by omega) (by omega)) (va_cwS 3 htg (gdS k3_151 k3_152 k1_9 kc_Mo_within) rfl rfl rfl (by decide +kernel) ⟨Nat.le_of_ble_eq_true rfl, Nat.le_of_ble_eq_true rfl⟩) ⟨bk_blind0, fun U hU hW => ⟨rfl, trivial⟩⟩ rfl rfl hl.1 rfl (lv_room (Nat.le_of_ble_eq_true rfl)) d_Mo_out_25 ⟨Nat.le_of_ble_eq_true rfl, Nat.le_of_ble_eq_true rfl⟩).run (fun r25 e25 => ?_)
      rcases e25 with ⟨⟨j25, ha25, hj25, hx25⟩, rfl⟩ | ⟨n25, rfl⟩
      · refine bk_if_eq (a := 1) (tgt := 42) hx hb (by omega) d_Mo_out_28 (by decide) (fun c28 => absurd c28 (by decide)) (fun c28 => ?_)
        refine lv_aload_n hx hb d_Mo_out_31 rfl (lv_at hl 0 rfl) ?_
        refine va_get (D := (dC, dI)) (ci := 8) (v := .ref m12) (C := R_Mo) (T := F_Mo) (N := 27) hx hb htg iw_Mo hown hK hP 0 rfl rfl 12 (by decide) (htg _ k3_64) (fun _ h9 => h9) rfl d_Mo_out_32 ?_
        refine lv_iload_n hx hb d_Mo_out_35 rfl (lv_at hl 1 rfl) ?_
        refine bk_topi (y := nI j7) hx7 ?_
        refine bk_iald (v := nI (ou j7)) hx hb hK hP 3 0 rfl rfl (by omega) (by decide) rfl d_Mo_out_36 ?_
        refine lv_bipush (v := nI 8) hx hb d_Mo_out_37 (by decide +kernel) ?_
        refine bk_icmp_ne (a := ou j7) (b := 8) (tgt := 44) hx hb (by omega) (by omega) d_Mo_out_39 (by decide) (fun c39 => ?_) (fun c39 => ?_)
        · refine lv_aload_n hx hb d_Mo_out_44 rfl (lv_at hl 0 rfl) ?_
          refine va_get (D := (dC, dI)) (ci := 8) (v := .ref m13) (C := R_Mo) (T := F_Mo) (N := 27) hx hb htg iw_Mo hown hK hP 0 rfl rfl 13 (by decide) (htg _ k3_65) (fun _ h9 => h9) rfl d_Mo_out_45 ?_
          refine lv_bipush (v := nI 8) hx hb d_Mo_out_48 (by decide +kernel) ?_
          refine lv_iload_n hx hb d_Mo_out_50 rfl (lv_at hl 1 rfl) ?_
          refine bk_topi (y := nI j7) hx7 ?_
          refine bk_imul hx hb d_Mo_out_51 ?_
          refine lv_aload_n hx hb d_Mo_out_52 rfl (lv_at hl 0 rfl) ?_
          refine va_get (D := (dC, dI)) (ci := 8) (v := .ref m12) (C := R_Mo) (T := F_Mo) (N := 27) hx hb htg iw_Mo hown hK hP 0 rfl rfl 12 (by decide) (htg _ k3_64) (fun _ h9 => h9) rfl d_Mo_out_53 ?_
          refine lv_iload_n hx hb d_Mo_out_56 rfl (lv_at hl 1 rfl) ?_
          refine bk_topi (y := nI j7) hx7 ?_
          refine bk_iald (v := nI (ou j7)) hx hb hK hP 3 0 rfl rfl (by omega) (by decide) rfl d_Mo_out_57 ?_
          refine bk_iadd hx hb d_Mo_out_58 ?_
          refine bk_topi (y := nI (j7 * 8 + ou j7)) (by rw [Nat.mul_comm]) ?_
          refine lv_iload_n hx hb d_Mo_out_59 rfl (lv_at hl 2 rfl) ?_
          refine bk_topi (y := nI j14) hx14 ?_
          refine bk_iast (x := nI j14) (f2 := aI (va_up ok (j7 * 8 + ou j7) j14)) hx hb hK hP hD hS 4 0 rfl rfl (by omega) (by decide) (aI_up _ _ _) d_Mo_out_60 (fun H locs hP hD hS => ?_)
          have hP : va_P (dC, dI) vwCl [(mo, .inr (8, [.int (nI 0), .long sd, .ref m2, .ref m3, .ref m4, .ref m5, .ref m6, .ref m7, .ref m8, .int (nI pn), .ref m10, .ref m11, .ref m12, .ref m13, .ref m14, .ref m15, .int (nI as0), .int (nI dc), .ref m18, .int (nI tc), .ref m20, .ref m21, .ref m22, .ref m23, .ref m24, .ref m25, .ref m26])), (m10, .inl (cL, 8, .inr (.inl (aL inn)))), (m11, .inl (cI, 8, .inl (aI pk))), (m12, .inl (cI, 8, .inl (aI ou))), (m13, .inl (cI, 64, .inl (aI (va_up ok (j7 * 8 + ou j7) j14)))), (m14, .inl (cL, 64, .inr (.inl (aL og))))] H := hP
          have hD : va_D A [(mo, .inr (8, [.int (nI 0), .long sd, .ref m2, .ref m3, .ref m4, .ref m5, .ref m6, .ref m7, .ref m8, .int (nI pn), .ref m10, .ref m11, .ref m12, .ref m13, .ref m14, .ref m15, .int (nI as0), .int (nI dc), .ref m18, .int (nI tc), .ref m20, .ref m21, .ref m22, .ref m23, .ref m24, .ref m25, .ref m26])), (m10, .inl (cL, 8, .inr (.inl (aL inn)))), (m11, .inl (cI, 8, .inl (aI pk))), (m12, .inl (cI, 8, .inl (aI ou))), (m13, .inl (cI, 64, .inl (aI (va_up ok (j7 * 8 + ou j7) j14)))), (m14, .inl (cL, 64, .inr (.inl (aL og))))] := hD
          refine lv_aload_n hx hb d_Mo_out_61 rfl (lv_at hl 0 rfl) ?_
          refine va_get (D := (dC, dI)) (ci := 8) (v := .ref m14) (C := R_Mo) (T := F_Mo) (N := 27) hx hb htg iw_Mo hown hK hP 0 rfl rfl 14 (by decide) (htg _ k3_66) (fun _ h9 => h9) rfl d_Mo_out_62 ?_
          refine lv_bipush (v := nI 8) hx hb d_Mo_out_65 (by decide +kernel) ?_
          refine lv_iload_n hx hb d_Mo_out_67 rfl (lv_at hl 1 rfl) ?_
          refine bk_topi (y := nI j7) hx7 ?_
          refine bk_imul hx hb d_Mo_out_68 ?_
          refine lv_aload_n hx hb d_Mo_out_69 rfl (lv_at hl 0 rfl) ?_
          refine va_get (D := (dC, dI)) (ci := 8) (v := .ref m12) (C := R_Mo) (T := F_Mo) (N := 27) hx hb htg iw_Mo hown hK hP 0 rfl rfl 12 (by decide) (htg _ k3_64) (fun _ h9 => h9) rfl d_Mo_out_70 ?_
          refine lv_iload_n hx hb d_Mo_out_73 rfl (lv_at hl 1 rfl) ?_
          refine bk_topi (y := nI j7) hx7 ?_
          refine bk_iald (v := nI (ou j7)) hx hb hK hP 3 0 rfl rfl (by omega) (by decide) rfl d_Mo_out_74 ?_
          refine bk_iadd hx hb d_Mo_out_75 ?_
          refine bk_topi (y := nI (j7 * 8 + ou j7)) (by rw [Nat.mul_comm]) ?_
          refine lv_lload_n hx hb d_Mo_out_76 rfl (lv_at hl 3 rfl) ?_
          refine bk_topl (y := lN j25) hx25 ?_
          refine bk_last (x := lN j25) (f2 := aL (va_up og (j7 * 8 + ou j7) j25)) hx hb hK hP hD hS 5 1 rfl rfl (by omega) (by decide) (aL_up _ _ _) d_Mo_out_77 (fun H locs hP hD hS => ?_)
          have hP : va_P (dC, dI) vwCl [(mo, .inr (8, [.int (nI 0), .long sd, .ref m2, .ref m3, .ref m4, .ref m5, .ref m6, .ref m7, .ref m8, .int (nI pn), .ref m10, .ref m11, .ref m12, .ref m13, .ref m14, .ref m15, .int (nI as0), .int (nI dc), .ref m18, .int (nI tc), .ref m20, .ref m21, .ref m22, .ref m23, .ref m24, .ref m25, .ref m26])), (m10, .inl (cL, 8, .inr (.inl (aL inn)))), (m11, .inl (cI, 8, .inl (aI pk))), (m12, .inl (cI, 8, .inl (aI ou))), (m13, .inl (cI, 64, .inl (aI (va_up ok (j7 * 8 + ou j7) j14)))), (m14, .inl (cL, 64, .inr (.inl (aL (va_up og (j7 * 8 + ou j7) j25)))))] H := hP
          have hD : va_D A [(mo, .inr (8, [.int (nI 0), .long sd, .ref m2, .ref m3, .ref m4, .ref m5, .ref m6, .ref m7, .ref m8, .int (nI pn), .ref m10, .ref m11, .ref m12, .ref m13, .ref m14, .ref m15, .int (nI as0), .int (nI dc), .ref m18, .int (nI tc), .ref m20, .ref m21, .ref m22, .ref m23, .ref m24, .ref m25, .ref m26])), (m10, .inl (cL, 8, .inr (.inl (aL inn)))), (m11, .inl (cI, 8, .inl (aI pk))), (m12, .inl (cI, 8, .inl (aI ou))), (m13, .inl (cI, 64, .inl (aI (va_up ok (j7 * 8 + ou j7) j14)))), (m14, .inl (cL, 64, .inr (.inl (aL (va_up og (j7 * 8 + ou j7) j25)))))] := hD
          refine lv_aload_n hx hb d_Mo_out_78 rfl (lv_at hl 0 rfl) ?_
          refine va_get (D := (dC, dI)) (ci := 8) (v := .ref m12) (C := R_Mo) (T := F_Mo) (N := 27) hx hb htg iw_Mo hown hK hP 0 rfl rfl 12 (by decide) (htg _ k3_64) (fun _ h9 => h9) rfl d_Mo_out_79 ?_
          refine lv_iload_n hx hb d_Mo_out_82 rfl (lv_at hl 1 rfl) ?_
          refine bk_topi (y := nI j7) hx7 ?_
          refine lv_dup2_11 hx hb d_Mo_out_83 rfl rfl ?_
          refine bk_iald (v := nI (ou j7)) hx hb hK hP 3 0 rfl rfl (by omega) (by decide) rfl d_Mo_out_84 ?_
          refine lv_iconst (v := nI 1) hx hb d_Mo_out_85 (by decide +kernel) ?_
          refine bk_iadd hx hb d_Mo_out_86 ?_
          refine bk_iast (x := nI ((ou j7) + 1)) (f2 := aI (va_up ou j7 ((ou j7) + 1))) hx hb hK hP hD hS 3 0 rfl rfl (by omega) (by decide) (aI_up _ _ _) d_Mo_out_87 (fun H locs hP hD hS => ?_)
          have hP : va_P (dC, dI) vwCl [(mo, .inr (8, [.int (nI 0), .long sd, .ref m2, .ref m3, .ref m4, .ref m5, .ref m6, .ref m7, .ref m8, .int (nI pn), .ref m10, .ref m11, .ref m12, .ref m13, .ref m14, .ref m15, .int (nI as0), .int (nI dc), .ref m18, .int (nI tc), .ref m20, .ref m21, .ref m22, .ref m23, .ref m24, .ref m25, .ref m26])), (m10, .inl (cL, 8, .inr (.inl (aL inn)))), (m11, .inl (cI, 8, .inl (aI pk))), (m12, .inl (cI, 8, .inl (aI (va_up ou j7 ((ou j7) + 1))))), (m13, .inl (cI, 64, .inl (aI (va_up ok (j7 * 8 + ou j7) j14)))), (m14, .inl (cL, 64, .inr (.inl (aL (va_up og (j7 * 8 + ou j7) j25)))))] H := hP
          have hD : va_D A [(mo, .inr (8, [.int (nI 0), .long sd, .ref m2, .ref m3, .ref m4, .ref m5, .ref m6, .ref m7, .ref m8, .int (nI pn), .ref m10, .ref m11, .ref m12, .ref m13, .ref m14, .ref m15, .int (nI as0), .int (nI dc), .ref m18, .int (nI tc), .ref m20, .ref m21, .ref m22, .ref m23, .ref m24, .ref m25, .ref m26])), (m10, .inl (cL, 8, .inr (.inl (aL inn)))), (m11, .inl (cI, 8, .inl (aI pk))), (m12, .inl (cI, 8, .inl (aI (va_up ou j7 ((ou j7) + 1))))), (m13, .inl (cI, 64, .inl (aI (va_up ok (j7 * 8 + ou j7) j14)))), (m14, .inl (cL, 64, .inr (.inl (aL (va_up og (j7 * 8 + ou j7) j25)))))] := hD
          refine lv_aload_n hx hb d_Mo_out_88 rfl (lv_at hl 0 rfl) ?_
          refine va_get (D := (dC, dI)) (ci := 8) (v := .ref m12) (C := R_Mo) (T := F_Mo) (N := 27) hx hb htg iw_Mo hown hK hP 0 rfl rfl 12 (by decide) (htg _ k3_64) (fun _ h9 => h9) rfl d_Mo_out_89 ?_
          refine lv_iload_n hx hb d_Mo_out_92 rfl (lv_at hl 1 rfl) ?_
          refine bk_topi (y := nI j7) hx7 ?_
          refine bk_iald (v := nI ((va_up ou j7 ((ou j7) + 1)) j7)) hx hb hK hP 3 0 rfl rfl (by omega) (by decide) rfl d_Mo_out_93 ?_
          refine bk_topi (y := nI (ou j7 + 1)) (congrArg nI (if_pos rfl)) ?_
          refine lv_iconst (v := nI 1) hx hb d_Mo_out_94 (by decide +kernel) ?_
          refine bk_isub hx hb (by omega) d_Mo_out_95 ?_
          refine bk_topi (y := nI (ou j7)) (by rw [Nat.add_sub_cancel]) ?_
          have hP9 := hP.sub (ws' := [(mo, .inr (8, [.int (nI 0), .long sd, .ref m2, .ref m3, .ref m4, .ref m5, .ref m6, .ref m7, .ref m8, .int (nI pn), .ref m10, .ref m11, .ref m12, .ref m13, .ref m14, .ref m15, .int (nI as0), .int (nI dc), .ref m18, .int (nI tc), .ref m20, .ref m21, .ref m22, .ref m23, .ref m24, .ref m25, .ref m26])), (m10, .inl (cL, 8, .inr (.inl (aL inn)))), (m11, .inl (cI, 8, .inl (aI pk))), (m12, .inl (cI, 8, .inl (aI (va_up ou j7 ((ou j7) + 1))))), (m13, .inl (cI, 64, .inl (aI (va_up ok (j7 * 8 + ou j7) j14)))), (m14, .inl (cL, 64, .inr (.inl (aL (va_up og (j7 * 8 + ou j7) j25)))))]) [0, 1, 2, 3, 4, 5] rfl
          have hD9 := hD.sub (ws' := [(mo, .inr (8, [.int (nI 0), .long sd, .ref m2, .ref m3, .ref m4, .ref m5, .ref m6, .ref m7, .ref m8, .int (nI pn), .ref m10, .ref m11, .ref m12, .ref m13, .ref m14, .ref m15, .int (nI as0), .int (nI dc), .ref m18, .int (nI tc), .ref m20, .ref m21, .ref m22, .ref m23, .ref m24, .ref m25, .ref m26])), (m10, .inl (cL, 8, .inr (.inl (aL inn)))), (m11, .inl (cI, 8, .inl (aI pk))), (m12, .inl (cI, 8, .inl (aI (va_up ou j7 ((ou j7) + 1))))), (m13, .inl (cI, 64, .inl (aI (va_up ok (j7 * 8 + ou j7) j14)))), (m14, .inl (cL, 64, .inr (.inl (aL (va_up og (j7 * 8 + ou j7) j25)))))]) [0, 1, 2, 3, 4, 5] (by decide) rfl
          exact W.iret (v := nI (ou j7)) hx hb hr (fun t9 ht9 hW9 => ⟨⟨nI (ou j7), (va_up ou j7 ((ou j7) + 1), va_up ok (j7 * 8 + ou j7) j14, va_up og (j7 * 8 + ou j7) j25), rfl, Or.inl ⟨⟨⟨j7, hj7, hx7⟩, ⟨j14, hj14, hx14⟩, ⟨j25, ha25, hj25, hx25⟩, by rw [hx7, tn_nI (by omega)]; omega⟩, by rw [hx7, tn_nI (by omega)], by rw [hx7, hx14, hx25, tn_nI (by omega), tn_nI (by omega), tl_lN (by omega)]⟩, by rw [ht9]; exact hP9, va_K.moved hW9.alike hK, hD9⟩, hS.F ht9⟩) hS.2.2 d_Mo_out_96
        · refine lv_iconst (v := oI none) hx hb d_Mo_out_42 (by decide +kernel) ?_
          have hP9 := hP.sub (ws' := [(mo, .inr (8, [.int (nI 0), .long sd, .ref m2, .ref m3, .ref m4, .ref m5, .ref m6, .ref m7, .ref m8, .int (nI pn), .ref m10, .ref m11, .ref m12, .ref m13, .ref m14, .ref m15, .int (nI as0), .int (nI dc), .ref m18, .int (nI tc), .ref m20, .ref m21, .ref m22, .ref m23, .ref m24, .ref m25, .ref m26])), (m10, .inl (cL, 8, .inr (.inl (aL inn)))), (m11, .inl (cI, 8, .inl (aI pk))), (m12, .inl (cI, 8, .inl (aI ou))), (m13, .inl (cI, 64, .inl (aI ok))), (m14, .inl (cL, 64, .inr (.inl (aL og))))]) [0, 1, 2, 3, 4, 5] rfl
          have hD9 := hD.sub (ws' := [(mo, .inr (8, [.int (nI 0), .long sd, .ref m2, .ref m3, .ref m4, .ref m5, .ref m6, .ref m7, .ref m8, .int (nI pn), .ref m10, .ref m11, .ref m12, .ref m13, .ref m14, .ref m15, .int (nI as0), .int (nI dc), .ref m18, .int (nI tc), .ref m20, .ref m21, .ref m22, .ref m23, .ref m24, .ref m25, .ref m26])), (m10, .inl (cL, 8, .inr (.inl (aL inn)))), (m11, .inl (cI, 8, .inl (aI pk))), (m12, .inl (cI, 8, .inl (aI ou))), (m13, .inl (cI, 64, .inl (aI ok))), (m14, .inl (cL, 64, .inr (.inl (aL og))))]) [0, 1, 2, 3, 4, 5] (by decide) rfl
          exact W.iret (v := oI none) hx hb hr (fun t9 ht9 hW9 => ⟨⟨oI none, (ou, ok, og), rfl, Or.inr ⟨fun z9 => by obtain ⟨y1, y2, y3, y4⟩ := z9; first | contradiction | (rw [hx7, tn_nI (by omega)] at y4; omega), rfl, rfl⟩, by rw [ht9]; exact hP9, va_K.moved hW9.alike hK, hD9⟩, hS.F ht9⟩) hS.2.2 d_Mo_out_43
      · refine bk_if_eq (a := 0) (tgt := 42) hx hb (by omega) d_Mo_out_28 (by decide) (fun c28 => ?_) (fun c28 => absurd c28 (by decide))
        refine lv_iconst (v := oI none) hx hb d_Mo_out_42 (by decide +kernel) ?_
        have hP9 := hP.sub (ws' := [(mo, .inr (8, [.int (nI 0), .long sd, .ref m2, .ref m3, .ref m4, .ref m5, .ref m6, .ref m7, .ref m8, .int (nI pn), .ref m10, .ref m11, .ref m12, .ref m13, .ref m14, .ref m15, .int (nI as0), .int (nI dc), .ref m18, .int (nI tc), .ref m20, .ref m21, .ref m22, .ref m23, .ref m24, .ref m25, .ref m26])), (m10, .inl (cL, 8, .inr (.inl (aL inn)))), (m11, .inl (cI, 8, .inl (aI pk))), (m12, .inl (cI, 8, .inl (aI ou))), (m13, .inl (cI, 64, .inl (aI ok))), (m14, .inl (cL, 64, .inr (.inl (aL og))))]) [0, 1, 2, 3, 4, 5] rfl
        have hD9 := hD.sub (ws' := [(mo, .inr (8, [.int (nI 0), .long sd, .ref m2, .ref m3, .ref m4, .ref m5, .ref m6, .ref m7, .ref m8, .int (nI pn), .ref m10, .ref m11, .ref m12, .ref m13, .ref m14, .ref m15, .int (nI as0), .int (nI dc), .ref m18, .int (nI tc), .ref m20, .ref m21, .ref m22, .ref m23, .ref m24, .ref m25, .ref m26])), (m10, .inl (cL, 8, .inr (.inl (aL inn)))), (m11, .inl (cI, 8, .inl (aI pk))), (m12, .inl (cI, 8, .inl (aI ou))), (m13, .inl (cI, 64, .inl (aI ok))), (m14, .inl (cL, 64, .inr (.inl (aL og))))]) [0, 1, 2, 3, 4, 5] (by decide) rfl
        exact W.iret (v := oI none) hx hb hr (fun t9 ht9 hW9 => ⟨⟨oI none, (ou, ok, og), rfl, Or.inr ⟨fun z9 => by obtain ⟨y1, y2, y3, y4⟩ := z9; first | contradiction | (rw [hx7, tn_nI (by omega)] at y4; omega), rfl, rfl⟩, by rw [ht9]; exact hP9, va_K.moved hW9.alike hK, hD9⟩, hS.F ht9⟩) hS.2.2 d_Mo_out_43
    · refine bk_if_eq (a := 0) (tgt := 42) hx hb (by omega) d_Mo_out_17 (by decide) (fun c17 => ?_) (fun c17 => absurd c17 (by decide))
      refine lv_iconst (v := oI none) hx hb d_Mo_out_42 (by decide +kernel) ?_
      have hP9 := hP.sub (ws' := [(mo, .inr (8, [.int (nI 0), .long sd, .ref m2, .ref m3, .ref m4, .ref m5, .ref m6, .ref m7, .ref m8, .int (nI pn), .ref m10, .ref m11, .ref m12, .ref m13, .ref m14, .ref m15, .int (nI as0), .int (nI dc), .ref m18, .int (nI tc), .ref m20, .ref m21, .ref m22, .ref m23, .ref m24, .ref m25, .ref m26])), (m10, .inl (cL, 8, .inr (.inl (aL inn)))), (m11, .inl (cI, 8, .inl (aI pk))), (m12, .inl (cI, 8, .inl (aI ou))), (m13, .inl (cI, 64, .inl (aI ok))), (m14, .inl (cL, 64, .inr (.inl (aL og))))]) [0, 1, 2, 3, 4, 5] rfl
      have hD9 := hD.sub (ws' := [(mo, .inr (8, [.int (nI 0), .long sd, .ref m2, .ref m3, .ref m4, .ref m5, .ref m6, .ref m7, .ref m8, .int (nI pn), .ref m10, .ref m11, .ref m12, .ref m13, .ref m14, .ref m15, .int (nI as0), .int (nI dc), .ref m18, .int (nI tc), .ref m20, .ref m21, .ref m22, .ref m23, .ref m24, .ref m25, .ref m26])), (m10, .inl (cL, 8, .inr (.inl (aL inn)))), (m11, .inl (cI, 8, .inl (aI pk))), (m12, .inl (cI, 8, .inl (aI ou))), (m13, .inl (cI, 64, .inl (aI ok))), (m14, .inl (cL, 64, .inr (.inl (aL og))))]) [0, 1, 2, 3, 4, 5] (by decide) rfl
      exact W.iret (v := oI none) hx hb hr (fun t9 ht9 hW9 => ⟨⟨oI none, (ou, ok, og), rfl, Or.inr ⟨fun z9 => by obtain ⟨y1, y2, y3, y4⟩ := z9; first | contradiction | (rw [hx7, tn_nI (by omega)] at y4; omega), rfl, rfl⟩, by rw [ht9]; exact hP9, va_K.moved hW9.alike hK, hD9⟩, hS.F ht9⟩) hS.2.2 d_Mo_out_43
  · refine bk_if_eq (a := 0) (tgt := 42) hx hb (by omega) d_Mo_out_10 (by decide) (fun c10 => ?_) (fun c10 => absurd c10 (by decide))
    refine lv_iconst (v := oI none) hx hb d_Mo_out_42 (by decide +kernel) ?_
    have hP9 := hP.sub (ws' := [(mo, .inr (8, [.int (nI 0), .long sd, .ref m2, .ref m3, .ref m4, .ref m5, .ref m6, .ref m7, .ref m8, .int (nI pn), .ref m10, .ref m11, .ref m12, .ref m13, .ref m14, .ref m15, .int (nI as0), .int (nI dc), .ref m18, .int (nI tc), .ref m20, .ref m21, .ref m22, .ref m23, .ref m24, .ref m25, .ref m26])), (m10, .inl (cL, 8, .inr (.inl (aL inn)))), (m11, .inl (cI, 8, .inl (aI pk))), (m12, .inl (cI, 8, .inl (aI ou))), (m13, .inl (cI, 64, .inl (aI ok))), (m14, .inl (cL, 64, .inr (.inl (aL og))))]) [0, 1, 2, 3, 4, 5] rfl
    have hD9 := hD.sub (ws' := [(mo, .inr (8, [.int (nI 0), .long sd, .ref m2, .ref m3, .ref m4, .ref m5, .ref m6, .ref m7, .ref m8, .int (nI pn), .ref m10, .ref m11, .ref m12, .ref m13, .ref m14, .ref m15, .int (nI as0), .int (nI dc), .ref m18, .int (nI tc), .ref m20, .ref m21, .ref m22, .ref m23, .ref m24, .ref m25, .ref m26])), (m10, .inl (cL, 8, .inr (.inl (aL inn)))), (m11, .inl (cI, 8, .inl (aI pk))), (m12, .inl (cI, 8, .inl (aI ou))), (m13, .inl (cI, 64, .inl (aI ok))), (m14, .inl (cL, 64, .inr (.inl (aL og))))]) [0, 1, 2, 3, 4, 5] (by decide) rfl
    exact W.iret (v := oI none) hx hb hr (fun t9 ht9 hW9 => ⟨⟨oI none, (ou, ok, og), rfl, Or.inr ⟨fun z9 => by obtain ⟨y1, y2, y3, y4⟩ := z9; first | contradiction | (rw [hx7, tn_nI (by omega)] at y4; omega), rfl, rfl⟩, by rw [ht9]; exact hP9, va_K.moved hW9.alike hK, hD9⟩, hS.F ht9⟩) hS.2.2 d_Mo_out_43
set_option maxHeartbeats 4000000 in
set_option maxRecDepth 100000 in
theorem c_Mo_ownIn (l : Launch) (dC : Nat → ClassId) (dI : Nat → Nat → Nat) (cI cL cZ : ClassId) (mo co m2 m3 m4 m5 m6 m7 m8 pn m10 m11 m12 m13 m14 m15 as0 dc m18 tc m20 m21 m22 m23 m24 m25 m26 : Nat) (sd : Int64) (inn : Nat → Nat) (pk : Nat → Nat) (ou : Nat → Nat) (ok : Nat → Nat) (og : Nat → Nat) (p s0 : Nat) (hi : plI pn inn pk ou ok og) (hp : p < pn) (hs : s0 < 256) : Met l y_Mo_ownIn ws_Mo_ownIn { frames := 0, cells := 0, slots := 0, locals := 0 } (va_Pc [.ref mo, .int (nI p), .int (nI s0)] (rdP (dC, dI) vwCl [(cI, .int), (cL, .long), (cZ, .boolean)] [(mo, .inr (8, [.int (nI co), .long sd, .ref m2, .ref m3, .ref m4, .ref m5, .ref m6, .ref m7, .ref m8, .int (nI pn), .ref m10, .ref m11, .ref m12, .ref m13, .ref m14, .ref m15, .int (nI as0), .int (nI dc), .ref m18, .int (nI tc), .ref m20, .ref m21, .ref m22, .ref m23, .ref m24, .ref m25, .ref m26])), (m10, .inl (cL, 8, .inr (.inl (aL inn)))), (m11, .inl (cI, 8, .inl (aI pk))), (m12, .inl (cI, 8, .inl (aI ou))), (m13, .inl (cI, 64, .inl (aI ok))), (m14, .inl (cL, 64, .inr (.inl (aL og))))])) (vp_Sl (fun r => r = lN (gsumM ok og pk p s0 (ou p)))) 0 0 (fun _ => False) := by
  refine Met.ofW (cc := b_Mo_ownIn) (maxL := 7) (ret := (some .long)) (by decide) rfl ?_
  intro pr en s m args below meth c s₁ B hml hv
  obtain ⟨rfl, hN, hP, hK⟩ := hv
  have hx := B.exec
  have hb := B.bytes
  have hr := B.returns
  have hts := atoms_spec (ws := ws_Mo_ownIn) B.pre
  have htg : ∀ w ∈ gW, w.before _ s = true := fun w h => hts w (List.mem_cons_of_mem _ h)
  have hown : s.vm.findClass R_Mo = some m.cls := findClass_of_methodNamed B.named
  have hlocks := B.notSynchronized
  have hl := lv_entry ([.ref mo, .int (nI p), .int (nI s0)]) (n := 7) (Nat.le_of_ble_eq_true rfl)
  rw [lg_entry_eq]
  generalize (lg_sl ([.ref mo, .int (nI p), .int (nI s0)]) ++ List.replicate (7 - (lg_sl ([.ref mo, .int (nI p), .int (nI s0)])).length) Slot.unset).toArray = ls at hl ⊢
  have hl : lv_has ls 7 [(0, .ref mo), (1, .int (nI p)), (2, .int (nI s0))] := hl
  have hn := hi.1
  obtain ⟨f1, f2, f3, f4⟩ := hi.2.1 p hp
  refine lv_lconst (v := lN 0) hx hb d_Mo_ownIn_0 (by decide +kernel) ?_
  refine lv_lstore_n (lv' := [(3, .long (lN 0)), (0, .ref mo), (1, .int (nI p)), (2, .int (nI s0))]) hx hb d_Mo_ownIn_1 rfl hl (by decide) rfl (fun ls hl => ?_)
  refine lv_iconst (v := nI 0) hx hb d_Mo_ownIn_2 (by decide +kernel) ?_
  refine lv_istore (lv' := [(5, .int (nI 0)), (3, .long (lN 0)), (0, .ref mo), (1, .int (nI p)), (2, .int (nI s0))]) hx hb d_Mo_ownIn_3 hl (by decide) rfl (fun ls hl => ?_)
  have J5 : ∀ (k : Nat) (i : Nat) (t : Nat), (i + k = ou p) → (t = gsumM ok og pk p s0 i) → ∀ (ls : Array Slot), lv_has ls 7 [(0, .ref mo), (1, .int (nI p)), (2, .int (nI s0)), (3, .long (lN t)), (5, .int (nI i))] → W pr l en (headSpec ws_Mo_ownIn { frames := 0, cells := 0, slots := 0, locals := 0 }).room s m ([.ref mo, .int (nI p), .int (nI s0)] : List Value).toArray below meth c s.heap [] 0 0 (MQ below (vp_Sl (fun r => r = lN (gsumM ok og pk p s0 (ou p)))) ([.ref mo, .int (nI p), .int (nI s0)] : List Value).toArray s 0 0 (fun _ => False)) (F0 m 5 ls []) := by
    intro k
    induction k with
    | zero =>
      intro i t hk htt ls hl
      refine lv_iload hx hb d_Mo_ownIn_5 (lv_at hl 4 rfl) ?_
      refine lv_aload_n hx hb d_Mo_ownIn_7 rfl (lv_at hl 0 rfl) ?_
      refine va_get (D := (dC, dI)) (ci := 8) (v := .ref m12) (C := R_Mo) (T := F_Mo) (N := 27) hx hb htg iw_Mo hown hK hP 0 rfl rfl 12 (by decide) (htg _ k3_64) (fun _ h9 => h9) rfl d_Mo_ownIn_8 ?_
      refine lv_iload_n hx hb d_Mo_ownIn_11 rfl (lv_at hl 1 rfl) ?_
      refine bk_iald (v := nI (ou p)) hx hb hK hP 3 0 rfl rfl (by omega) (by decide) rfl d_Mo_ownIn_12 ?_
      refine bk_icmp_ge (a := i) (b := ou p) (tgt := 87) hx hb (by omega) (by omega) d_Mo_ownIn_13 (by decide) (fun c13 => ?_) (fun c13 => by exfalso; omega)
      refine lv_lload_n hx hb d_Mo_ownIn_87 rfl (lv_at hl 3 rfl) ?_
      exact W.lret (v := lN t) hx hb hr (fun t9 ht9 hW9 => ⟨lN t, rfl, (by rw [htt, show i = ou p by omega]), ht9⟩) (fun q h => nomatch h) d_Mo_ownIn_88
    | succ k ih5 =>
      intro i t hk htt ls hl
      obtain ⟨g0, g1⟩ := f4 i (by omega)
      have hbl := bN_le (s0.testBit (7 - i))
      refine lv_iload hx hb d_Mo_ownIn_5 (lv_at hl 4 rfl) ?_
      refine lv_aload_n hx hb d_Mo_ownIn_7 rfl (lv_at hl 0 rfl) ?_
      refine va_get (D := (dC, dI)) (ci := 8) (v := .ref m12) (C := R_Mo) (T := F_Mo) (N := 27) hx hb htg iw_Mo hown hK hP 0 rfl rfl 12 (by decide) (htg _ k3_64) (fun _ h9 => h9) rfl d_Mo_ownIn_8 ?_
      refine lv_iload_n hx hb d_Mo_ownIn_11 rfl (lv_at hl 1 rfl) ?_
      refine bk_iald (v := nI (ou p)) hx hb hK hP 3 0 rfl rfl (by omega) (by decide) rfl d_Mo_ownIn_12 ?_
      refine bk_icmp_ge (a := i) (b := ou p) (tgt := 87) hx hb (by omega) (by omega) d_Mo_ownIn_13 (by decide) (fun c13 => by exfalso; omega) (fun c13 => ?_)
      refine lv_iload_n hx hb d_Mo_ownIn_16 rfl (lv_at hl 2 rfl) ?_
      refine lv_bipush (v := nI 7) hx hb d_Mo_ownIn_17 (by decide +kernel) ?_
      refine lv_iload hx hb d_Mo_ownIn_19 (lv_at hl 4 rfl) ?_
      refine bk_isub hx hb (by omega) d_Mo_ownIn_21 ?_
      refine lv_ishr hx hb d_Mo_ownIn_22 ?_
      refine lv_iconst (v := nI 1) hx hb d_Mo_ownIn_23 (by decide +kernel) ?_
      refine lv_iand hx hb d_Mo_ownIn_24 ?_
      refine bk_topi (y := nI (bN (s0.testBit (7 - i)))) (bit_shr s0 hs i (by omega)) ?_
      refine lv_iconst (v := nI 1) hx hb d_Mo_ownIn_25 (by decide +kernel) ?_
      refine bk_icmp_ne (a := bN (s0.testBit (7 - i))) (b := 1) (tgt := 54) hx hb (by omega) (by omega) d_Mo_ownIn_26 (by decide) (fun c26 => ?_) (fun c26 => ?_)
      · refine lv_iconst (v := nI 0) hx hb d_Mo_ownIn_54 (by decide +kernel) ?_
        refine lv_istore (lv' := [(6, .int (nI 0)), (0, .ref mo), (1, .int (nI p)), (2, .int (nI s0)), (3, .long (lN t)), (5, .int (nI i))]) hx hb d_Mo_ownIn_55 hl (by decide) rfl (fun ls hl => ?_)
        refine lv_lload_n hx hb d_Mo_ownIn_57 rfl (lv_at hl 4 rfl) ?_
        refine lv_iload hx hb d_Mo_ownIn_58 (lv_at hl 0 rfl) ?_
        refine bk_if_eq (a := 0) (tgt := 78) hx hb (by omega) d_Mo_ownIn_60 (by decide) (fun c60 => ?_) (fun c60 => absurd c60 (by decide))
        refine lv_lconst (v := lN 0) hx hb d_Mo_ownIn_78 (by decide +kernel) ?_
        refine bk_ladd hx hb d_Mo_ownIn_79 ?_
        refine lv_lstore_n (lv' := [(3, .long (lN (t + 0))), (6, .int (nI 0)), (0, .ref mo), (1, .int (nI p)), (2, .int (nI s0)), (5, .int (nI i))]) hx hb d_Mo_ownIn_80 rfl hl (by decide) rfl (fun ls hl => ?_)
        refine lv_iinc (v := nI (i + 1)) (lv' := [(5, .int (nI (i + 1))), (3, .long (lN (t + 0))), (6, .int (nI 0)), (0, .ref mo), (1, .int (nI p)), (2, .int (nI s0))]) hx hb d_Mo_ownIn_81 hl (k := 5) rfl (bk_inc i) (by decide) rfl (fun ls hl => ?_)
        refine lv_goto (tgt := 5) hx hb d_Mo_ownIn_84 (by decide) ?_
        exact ih5 (i + 1) (t + 0) (by omega) (by rw [htt, gsumM]; first | (rw [if_pos ⟨bN_1.mp (by omega), c47⟩]; done) | (rw [if_neg (fun z9 => c47 z9.2)]; done) | (rw [if_neg (fun z9 => by rw [z9.1] at c26; exact c26 rfl)]; done)) ls (lv_sub hl [3, 4, 5, 1, 0] rfl)
      · refine lv_aload_n hx hb d_Mo_ownIn_29 rfl (lv_at hl 0 rfl) ?_
        refine va_get (D := (dC, dI)) (ci := 8) (v := .ref m13) (C := R_Mo) (T := F_Mo) (N := 27) hx hb htg iw_Mo hown hK hP 0 rfl rfl 13 (by decide) (htg _ k3_65) (fun _ h9 => h9) rfl d_Mo_ownIn_30 ?_
        refine lv_bipush (v := nI 8) hx hb d_Mo_ownIn_33 (by decide +kernel) ?_
        refine lv_iload_n hx hb d_Mo_ownIn_35 rfl (lv_at hl 1 rfl) ?_
        refine bk_imul hx hb d_Mo_ownIn_36 ?_
        refine lv_iload hx hb d_Mo_ownIn_37 (lv_at hl 4 rfl) ?_
        refine bk_iadd hx hb d_Mo_ownIn_39 ?_
        refine bk_topi (y := nI (p * 8 + i)) (by rw [Nat.mul_comm]) ?_
        refine bk_iald (v := nI (ok (p * 8 + i))) hx hb hK hP 4 0 rfl rfl (by omega) (by decide) rfl d_Mo_ownIn_40 ?_
        refine lv_aload_n hx hb d_Mo_ownIn_41 rfl (lv_at hl 0 rfl) ?_
        refine va_get (D := (dC, dI)) (ci := 8) (v := .ref m11) (C := R_Mo) (T := F_Mo) (N := 27) hx hb htg iw_Mo hown hK hP 0 rfl rfl 11 (by decide) (htg _ k3_63) (fun _ h9 => h9) rfl d_Mo_ownIn_42 ?_
        refine lv_iload_n hx hb d_Mo_ownIn_45 rfl (lv_at hl 1 rfl) ?_
        refine bk_iald (v := nI (pk p)) hx hb hK hP 2 0 rfl rfl (by omega) (by decide) rfl d_Mo_ownIn_46 ?_
        refine bk_icmp_ne (a := ok (p * 8 + i)) (b := pk p) (tgt := 54) hx hb (by omega) (by omega) d_Mo_ownIn_47 (by decide) (fun c47 => ?_) (fun c47 => ?_)
        · refine lv_iconst (v := nI 0) hx hb d_Mo_ownIn_54 (by decide +kernel) ?_
          refine lv_istore (lv' := [(6, .int (nI 0)), (0, .ref mo), (1, .int (nI p)), (2, .int (nI s0)), (3, .long (lN t)), (5, .int (nI i))]) hx hb d_Mo_ownIn_55 hl (by decide) rfl (fun ls hl => ?_)
          refine lv_lload_n hx hb d_Mo_ownIn_57 rfl (lv_at hl 4 rfl) ?_
          refine lv_iload hx hb d_Mo_ownIn_58 (lv_at hl 0 rfl) ?_
          refine bk_if_eq (a := 0) (tgt := 78) hx hb (by omega) d_Mo_ownIn_60 (by decide) (fun c60 => ?_) (fun c60 => absurd c60 (by decide))
          refine lv_lconst (v := lN 0) hx hb d_Mo_ownIn_78 (by decide +kernel) ?_
          refine bk_ladd hx hb d_Mo_ownIn_79 ?_
          refine lv_lstore_n (lv' := [(3, .long (lN (t + 0))), (6, .int (nI 0)), (0, .ref mo), (1, .int (nI p)), (2, .int (nI s0)), (5, .int (nI i))]) hx hb d_Mo_ownIn_80 rfl hl (by decide) rfl (fun ls hl => ?_)
          refine lv_iinc (v := nI (i + 1)) (lv' := [(5, .int (nI (i + 1))), (3, .long (lN (t + 0))), (6, .int (nI 0)), (0, .ref mo), (1, .int (nI p)), (2, .int (nI s0))]) hx hb d_Mo_ownIn_81 hl (k := 5) rfl (bk_inc i) (by decide) rfl (fun ls hl => ?_)
          refine lv_goto (tgt := 5) hx hb d_Mo_ownIn_84 (by decide) ?_
          exact ih5 (i + 1) (t + 0) (by omega) (by rw [htt, gsumM]; first | (rw [if_pos ⟨bN_1.mp (by omega), c47⟩]; done) | (rw [if_neg (fun z9 => c47 z9.2)]; done) | (rw [if_neg (fun z9 => by rw [z9.1] at c26; exact c26 rfl)]; done)) ls (lv_sub hl [3, 4, 5, 1, 0] rfl)
        · refine lv_iconst (v := nI 1) hx hb d_Mo_ownIn_50 (by decide +kernel) ?_
          refine lv_goto (tgt := 55) hx hb d_Mo_ownIn_51 (by decide) ?_
          refine lv_istore (lv' := [(6, .int (nI 1)), (0, .ref mo), (1, .int (nI p)), (2, .int (nI s0)), (3, .long (lN t)), (5, .int (nI i))]) hx hb d_Mo_ownIn_55 hl (by decide) rfl (fun ls hl => ?_)
          refine lv_lload_n hx hb d_Mo_ownIn_57 rfl (lv_at hl 4 rfl) ?_
          refine lv_iload hx hb d_Mo_ownIn_58 (lv_at hl 0 rfl) ?_
          refine bk_if_eq (a := 1) (tgt := 78) hx hb (by omega) d_Mo_ownIn_60 (by decide) (fun c60 => absurd c60 (by decide)) (fun c60 => ?_)
          refine lv_aload_n hx hb d_Mo_ownIn_63 rfl (lv_at hl 1 rfl) ?_
          refine va_get (D := (dC, dI)) (ci := 8) (v := .ref m14) (C := R_Mo) (T := F_Mo) (N := 27) hx hb htg iw_Mo hown hK hP 0 rfl rfl 14 (by decide) (htg _ k3_66) (fun _ h9 => h9) rfl d_Mo_ownIn_64 ?_
          refine lv_bipush (v := nI 8) hx hb d_Mo_ownIn_67 (by decide +kernel) ?_
          refine lv_iload_n hx hb d_Mo_ownIn_69 rfl (lv_at hl 2 rfl) ?_
          refine bk_imul hx hb d_Mo_ownIn_70 ?_
          refine lv_iload hx hb d_Mo_ownIn_71 (lv_at hl 5 rfl) ?_
          refine bk_iadd hx hb d_Mo_ownIn_73 ?_
          refine bk_topi (y := nI (p * 8 + i)) (by rw [Nat.mul_comm]) ?_
          refine bk_lald (v := lN (og (p * 8 + i))) hx hb hK hP 5 1 rfl rfl (by omega) (by decide) rfl d_Mo_ownIn_74 ?_
          refine lv_goto (tgt := 79) hx hb d_Mo_ownIn_75 (by decide) ?_
          refine bk_ladd hx hb d_Mo_ownIn_79 ?_
          refine lv_lstore_n (lv' := [(3, .long (lN (t + (og (p * 8 + i))))), (6, .int (nI 1)), (0, .ref mo), (1, .int (nI p)), (2, .int (nI s0)), (5, .int (nI i))]) hx hb d_Mo_ownIn_80 rfl hl (by decide) rfl (fun ls hl => ?_)
          refine lv_iinc (v := nI (i + 1)) (lv' := [(5, .int (nI (i + 1))), (3, .long (lN (t + (og (p * 8 + i))))), (6, .int (nI 1)), (0, .ref mo), (1, .int (nI p)), (2, .int (nI s0))]) hx hb d_Mo_ownIn_81 hl (k := 5) rfl (bk_inc i) (by decide) rfl (fun ls hl => ?_)
          refine lv_goto (tgt := 5) hx hb d_Mo_ownIn_84 (by decide) ?_
          exact ih5 (i + 1) (t + (og (p * 8 + i))) (by omega) (by rw [htt, gsumM]; first | (rw [if_pos ⟨bN_1.mp (by omega), c47⟩]; done) | (rw [if_neg (fun z9 => c47 z9.2)]; done) | (rw [if_neg (fun z9 => by rw [z9.1] at c26; exact c26 rfl)]; done)) ls (lv_sub hl [3, 4, 5, 1, 0] rfl)
  exact J5 (ou p) 0 0 (by omega) rfl ls (lv_sub hl [2, 3, 4, 1, 0] rfl)
set_option maxHeartbeats 4000000 in
set_option maxRecDepth 100000 in
theorem c_Mo_lack (l : Launch) (dC : Nat → ClassId) (dI : Nat → Nat → Nat) (cI cL cZ : ClassId) (mo co m2 m3 m4 m5 m6 m7 m8 pn m10 m11 m12 m13 m14 m15 as0 dc m18 tc m20 m21 m22 m23 m24 m25 m26 : Nat) (sd : Int64) (inn : Nat → Nat) (pk : Nat → Nat) (ou : Nat → Nat) (ok : Nat → Nat) (og : Nat → Nat) (p : Nat) (hi : plI pn inn pk ou ok og) (hp : p < pn) : Met l y_Mo_lack ws_Mo_lack { frames := 1, cells := 0, slots := 0, locals := 26 } (va_Pc [.ref mo, .int (nI p)] (rdP (dC, dI) vwCl [(cI, .int), (cL, .long), (cZ, .boolean)] [(mo, .inr (8, [.int (nI co), .long sd, .ref m2, .ref m3, .ref m4, .ref m5, .ref m6, .ref m7, .ref m8, .int (nI pn), .ref m10, .ref m11, .ref m12, .ref m13, .ref m14, .ref m15, .int (nI as0), .int (nI dc), .ref m18, .int (nI tc), .ref m20, .ref m21, .ref m22, .ref m23, .ref m24, .ref m25, .ref m26])), (m10, .inl (cL, 8, .inr (.inl (aL inn)))), (m11, .inl (cI, 8, .inl (aI pk))), (m12, .inl (cI, 8, .inl (aI ou))), (m13, .inl (cI, 64, .inl (aI ok))), (m14, .inl (cL, 64, .inr (.inl (aL og))))])) (vp_Sl (fun r => r = lN (lackM inn pk ou ok og p))) 0 0 (fun _ => False) := by
  refine Met.ofW (cc := b_Mo_lack) (maxL := 4) (ret := (some .long)) (by decide) rfl ?_
  intro pr en s m args below meth c s₁ B hml hv
  obtain ⟨rfl, hN, hP, hK⟩ := hv
  have hx := B.exec
  have hb := B.bytes
  have hr := B.returns
  have hts := atoms_spec (ws := ws_Mo_lack) B.pre
  have htg : ∀ w ∈ gW, w.before _ s = true := fun w h => hts w (List.mem_cons_of_mem _ h)
  have hown : s.vm.findClass R_Mo = some m.cls := findClass_of_methodNamed B.named
  have hlocks := B.notSynchronized
  have hl := lv_entry ([.ref mo, .int (nI p)]) (n := 4) (Nat.le_of_ble_eq_true rfl)
  rw [lg_entry_eq]
  generalize (lg_sl ([.ref mo, .int (nI p)]) ++ List.replicate (4 - (lg_sl ([.ref mo, .int (nI p)])).length) Slot.unset).toArray = ls at hl ⊢
  have hl : lv_has ls 4 [(0, .ref mo), (1, .int (nI p))] := hl
  have hn := hi.1
  obtain ⟨f1, f2, f3, f4⟩ := hi.2.1 p hp
  refine lv_aload_n hx hb d_Mo_lack_0 rfl (lv_at hl 0 rfl) ?_
  refine lv_iload_n hx hb d_Mo_lack_1 rfl (lv_at hl 1 rfl) ?_
  refine lv_sipush (v := nI 255) hx hb d_Mo_lack_2 (by decide +kernel) ?_
  refine vp_callSl (va_runV (As := [.int (nI p), .int (nI 255)]) (rest := []) ⟨hx, hb, hml, hown, htg⟩ (c_Mo_ownIn l dC dI cI cL cZ mo co m2 m3 m4 m5 m6 m7 m8 pn m10 m11 m12 m13 m14 m15 as0 dc m18 tc m20 m21 m22 m23 m24 m25 m26 sd inn pk ou ok og p 255 hi hp (by decide)) (cwV 2 htg (gdV k3_217 k3_219 ks_Mo_ownIn k1_9 kc_Mo_ownIn) rfl rfl rfl (by decide +kernel) ⟨Nat.le_of_ble_eq_true rfl, Nat.le_of_ble_eq_true rfl⟩) ⟨bk_blind, va_recv hK hP (ci := 8) (q0 := 0) rfl rfl, fun U hU hW => ⟨rfl, nw_warm hW hN, by rw [hU]; exact hP.sub [0, 1, 2, 3, 4, 5] rfl, va_K.moved hW.alike hK⟩⟩ rfl rfl hl.1 rfl (lv_room (Nat.le_of_ble_eq_true rfl)) d_Mo_lack_5 ⟨Nat.le_of_ble_eq_true rfl, Nat.le_of_ble_eq_true rfl⟩).run (fun r5 e5 => ?_)
  subst e5
  refine lv_aload_n hx hb d_Mo_lack_8 rfl (lv_at hl 0 rfl) ?_
  refine va_get (D := (dC, dI)) (ci := 8) (v := .ref m10) (C := R_Mo) (T := F_Mo) (N := 27) hx hb htg iw_Mo hown hK hP 0 rfl rfl 10 (by decide) (htg _ k3_62) (fun _ h9 => h9) rfl d_Mo_lack_9 ?_
  refine lv_iload_n hx hb d_Mo_lack_12 rfl (lv_at hl 1 rfl) ?_
  refine bk_lald (v := lN (inn p)) hx hb hK hP 1 1 rfl rfl (by omega) (by decide) rfl d_Mo_lack_13 ?_
  have hg := gsumM_le (ok := ok) (og := og) (pk := pk) (p := p) (s := 255) (ou p) (fun i hi9 => (f4 i hi9).2)
  rcases Nat.lt_or_ge (gsumM ok og pk p 255 (ou p)) (inn p) with h14 | h14
  · refine lv_lsub hx hb d_Mo_lack_14 ?_
    refine lv_lstore_n (lv' := [(2, .long ((lN (gsumM ok og pk p 255 (ou p))) - (lN (inn p)))), (0, .ref mo), (1, .int (nI p))]) hx hb d_Mo_lack_15 rfl hl (by decide) rfl (fun ls hl => ?_)
    refine lv_lload_n hx hb d_Mo_lack_16 rfl (lv_at hl 0 rfl) ?_
    refine lv_lconst (v := lN 0) hx hb d_Mo_lack_17 (by decide +kernel) ?_
    refine bk_lcmp_le (x := ((lN (gsumM ok og pk p 255 (ou p))) - (lN (inn p)))) (y := lN 0) (tgt := 26) hx hb d_Mo_lack_18 d_Mo_lack_19 (by decide) (fun c18 => ?_) (fun c18 => by exfalso; rw [Int64.lt_iff_toInt_lt, lN_subI (by omega) (by omega), pk_lT (by omega)] at c18; omega)
    refine lv_lconst (v := lN 0) hx hb d_Mo_lack_26 (by decide +kernel) ?_
    exact W.lret (v := lN 0) hx hb hr (fun t9 ht9 hW9 => ⟨lN 0, rfl, (by rw [lackM]; congr 1; omega), ht9⟩) (fun q h => nomatch h) d_Mo_lack_27
  · refine bk_lsub hx hb h14 d_Mo_lack_14 ?_
    refine lv_lstore_n (lv' := [(2, .long (lN ((gsumM ok og pk p 255 (ou p)) - (inn p)))), (0, .ref mo), (1, .int (nI p))]) hx hb d_Mo_lack_15 rfl hl (by decide) rfl (fun ls hl => ?_)
    refine lv_lload_n hx hb d_Mo_lack_16 rfl (lv_at hl 0 rfl) ?_
    refine lv_lconst (v := lN 0) hx hb d_Mo_lack_17 (by decide +kernel) ?_
    refine bk_ncmp_le (a := (gsumM ok og pk p 255 (ou p)) - (inn p)) (b := 0) (tgt := 26) hx hb (by omega) (by omega) d_Mo_lack_18 d_Mo_lack_19 (by decide) (fun c18 => ?_) (fun c18 => ?_)
    · refine lv_lconst (v := lN 0) hx hb d_Mo_lack_26 (by decide +kernel) ?_
      exact W.lret (v := lN 0) hx hb hr (fun t9 ht9 hW9 => ⟨lN 0, rfl, (by rw [lackM]; congr 1; omega), ht9⟩) (fun q h => nomatch h) d_Mo_lack_27
    · refine lv_lload_n hx hb d_Mo_lack_22 rfl (lv_at hl 0 rfl) ?_
      refine lv_goto (tgt := 27) hx hb d_Mo_lack_23 (by decide) ?_
      exact W.lret (v := lN ((gsumM ok og pk p 255 (ou p)) - (inn p))) hx hb hr (fun t9 ht9 hW9 => ⟨lN ((gsumM ok og pk p 255 (ou p)) - (inn p)), rfl, rfl, ht9⟩) (fun q h => nomatch h) d_Mo_lack_27
set_option maxHeartbeats 4000000 in
set_option maxRecDepth 100000 in
theorem c_Mo_lacks (l : Launch) (dC : Nat → ClassId) (dI : Nat → Nat → Nat) (cI cL cZ : ClassId) (sz : Nat) (mo co m2 m3 m4 m5 m6 m7 m8 pn m10 m11 m12 m13 m14 m15 as0 dc m18 tc m20 m21 m22 m23 m24 m25 m26 : Nat) (sd : Int64) (inn : Nat → Nat) (pk : Nat → Nat) (ou : Nat → Nat) (ok : Nat → Nat) (og : Nat → Nat) (x : Int32) (hi : plI pn inn pk ou ok og) : Met l y_Mo_lacks ws_Mo_lacks { frames := 2, cells := 0, slots := 0, locals := 49 } (va_Pc [.ref mo, .int x] (wrP (dC, dI) vwCl [(cI, .int), (cL, .long), (cZ, .boolean)] [(mo, .inr (8, [.int (nI co), .long sd, .ref m2, .ref m3, .ref m4, .ref m5, .ref m6, .ref m7, .ref m8, .int (nI pn), .ref m10, .ref m11, .ref m12, .ref m13, .ref m14, .ref m15, .int (nI as0), .int (nI dc), .ref m18, .int (nI tc), .ref m20, .ref m21, .ref m22, .ref m23, .ref m24, .ref m25, .ref m26])), (m10, .inl (cL, 8, .inr (.inl (aL inn)))), (m11, .inl (cI, 8, .inl (aI pk))), (m12, .inl (cI, 8, .inl (aI ou))), (m13, .inl (cI, 64, .inl (aI ok))), (m14, .inl (cL, 64, .inr (.inl (aL og))))] sz)) (va_Ql (fun (r : Int64) (u : Unit) => (∃ p, p < pn ∧ x = nI p ∧ r = lN (lackM inn pk ou ok og p)) ∨ (¬ inR pn x ∧ r = -1)) (fun (u : Unit) => wrQ (dC, dI) vwCl [(cI, .int), (cL, .long), (cZ, .boolean)] (va_A [(mo, .inr (8, [.int (nI co), .long sd, .ref m2, .ref m3, .ref m4, .ref m5, .ref m6, .ref m7, .ref m8, .int (nI pn), .ref m10, .ref m11, .ref m12, .ref m13, .ref m14, .ref m15, .int (nI as0), .int (nI dc), .ref m18, .int (nI tc), .ref m20, .ref m21, .ref m22, .ref m23, .ref m24, .ref m25, .ref m26])), (m10, .inl (cL, 8, .inr (.inl (aL inn)))), (m11, .inl (cI, 8, .inl (aI pk))), (m12, .inl (cI, 8, .inl (aI ou))), (m13, .inl (cI, 64, .inl (aI ok))), (m14, .inl (cL, 64, .inr (.inl (aL og))))] sz) [(mo, .inr (8, [.int (nI 0), .long sd, .ref m2, .ref m3, .ref m4, .ref m5, .ref m6, .ref m7, .ref m8, .int (nI pn), .ref m10, .ref m11, .ref m12, .ref m13, .ref m14, .ref m15, .int (nI as0), .int (nI dc), .ref m18, .int (nI tc), .ref m20, .ref m21, .ref m22, .ref m23, .ref m24, .ref m25, .ref m26])), (m10, .inl (cL, 8, .inr (.inl (aL inn)))), (m11, .inl (cI, 8, .inl (aI pk))), (m12, .inl (cI, 8, .inl (aI ou))), (m13, .inl (cI, 64, .inl (aI ok))), (m14, .inl (cL, 64, .inr (.inl (aL og))))]) (va_A [(mo, .inr (8, [.int (nI co), .long sd, .ref m2, .ref m3, .ref m4, .ref m5, .ref m6, .ref m7, .ref m8, .int (nI pn), .ref m10, .ref m11, .ref m12, .ref m13, .ref m14, .ref m15, .int (nI as0), .int (nI dc), .ref m18, .int (nI tc), .ref m20, .ref m21, .ref m22, .ref m23, .ref m24, .ref m25, .ref m26])), (m10, .inl (cL, 8, .inr (.inl (aL inn)))), (m11, .inl (cI, 8, .inl (aI pk))), (m12, .inl (cI, 8, .inl (aI ou))), (m13, .inl (cI, 64, .inl (aI ok))), (m14, .inl (cL, 64, .inr (.inl (aL og))))] sz)) 0 0 (va_A [(mo, .inr (8, [.int (nI co), .long sd, .ref m2, .ref m3, .ref m4, .ref m5, .ref m6, .ref m7, .ref m8, .int (nI pn), .ref m10, .ref m11, .ref m12, .ref m13, .ref m14, .ref m15, .int (nI as0), .int (nI dc), .ref m18, .int (nI tc), .ref m20, .ref m21, .ref m22, .ref m23, .ref m24, .ref m25, .ref m26])), (m10, .inl (cL, 8, .inr (.inl (aL inn)))), (m11, .inl (cI, 8, .inl (aI pk))), (m12, .inl (cI, 8, .inl (aI ou))), (m13, .inl (cI, 64, .inl (aI ok))), (m14, .inl (cL, 64, .inr (.inl (aL og))))] sz) := by
  refine Met.ofW (cc := b_Mo_lacks) (maxL := 2) (ret := (some .long)) (by decide) rfl ?_
  intro pr en s m args below meth c s₁ B hml hv
  obtain ⟨rfl, hN, hsz, hP, hK, hD0⟩ := hv
  have hx := B.exec
  have hb := B.bytes
  have hr := B.returns
  have hts := atoms_spec (ws := ws_Mo_lacks) B.pre
  have htg : ∀ w ∈ gW, w.before _ s = true := fun w h => hts w (List.mem_cons_of_mem _ h)
  have hown : s.vm.findClass R_Mo = some m.cls := findClass_of_methodNamed B.named
  have hlocks := B.notSynchronized
  subst hsz
  have hD := hD0.self (sz := s.heap.size)
  generalize hAe : va_A [(mo, .inr (8, [.int (nI co), .long sd, .ref m2, .ref m3, .ref m4, .ref m5, .ref m6, .ref m7, .ref m8, .int (nI pn), .ref m10, .ref m11, .ref m12, .ref m13, .ref m14, .ref m15, .int (nI as0), .int (nI dc), .ref m18, .int (nI tc), .ref m20, .ref m21, .ref m22, .ref m23, .ref m24, .ref m25, .ref m26])), (m10, .inl (cL, 8, .inr (.inl (aL inn)))), (m11, .inl (cI, 8, .inl (aI pk))), (m12, .inl (cI, 8, .inl (aI ou))), (m13, .inl (cI, 64, .inl (aI ok))), (m14, .inl (cL, 64, .inr (.inl (aL og))))] s.heap.size = A at hD ⊢
  have hA : ∀ q : Nat, s.heap.size ≤ q → A q := fun q h => by rw [← hAe]; exact Or.inr h
  have hS : va_S A s.heap s.heap [] := va_S.rf
  have hP : va_P (dC, dI) vwCl [(mo, .inr (8, [.int (nI co), .long sd, .ref m2, .ref m3, .ref m4, .ref m5, .ref m6, .ref m7, .ref m8, .int (nI pn), .ref m10, .ref m11, .ref m12, .ref m13, .ref m14, .ref m15, .int (nI as0), .int (nI dc), .ref m18, .int (nI tc), .ref m20, .ref m21, .ref m22, .ref m23, .ref m24, .ref m25, .ref m26])), (m10, .inl (cL, 8, .inr (.inl (aL inn)))), (m11, .inl (cI, 8, .inl (aI pk))), (m12, .inl (cI, 8, .inl (aI ou))), (m13, .inl (cI, 64, .inl (aI ok))), (m14, .inl (cL, 64, .inr (.inl (aL og))))] s.heap := hP
  have hl := lv_entry ([.ref mo, .int x]) (n := 2) (Nat.le_of_ble_eq_true rfl)
  rw [lg_entry_eq]
  generalize (lg_sl ([.ref mo, .int x]) ++ List.replicate (2 - (lg_sl ([.ref mo, .int x])).length) Slot.unset).toArray = ls at hl ⊢
  have hl : lv_has ls 2 [(0, .ref mo), (1, .int x)] := hl
  have hn := hi.1
  refine lv_aload_n hx hb d_Mo_lacks_0 rfl (lv_at hl 0 rfl) ?_
  refine lv_iconst (v := nI 0) hx hb d_Mo_lacks_1 (by decide +kernel) ?_
  refine va_put (D := (dC, dI)) (ci := 8) (v := .int (nI 0)) (ty := (t_Mo 0)) (C := R_Mo) (T := F_Mo) (N := 27) hx hb htg iw_Mo t_Mo tk_Mo nm_Mo hown hK hP hD hS 0 rfl rfl 0 (by decide) (htg _ k3_52) (fun _ h9 => h9) rfl (by decide +kernel) rfl rfl (Nat.le_of_ble_eq_true rfl) d_Mo_lacks_2 (fun H locs hP hD hS => ?_)
  have hP : va_P (dC, dI) vwCl [(mo, .inr (8, [.int (nI 0), .long sd, .ref m2, .ref m3, .ref m4, .ref m5, .ref m6, .ref m7, .ref m8, .int (nI pn), .ref m10, .ref m11, .ref m12, .ref m13, .ref m14, .ref m15, .int (nI as0), .int (nI dc), .ref m18, .int (nI tc), .ref m20, .ref m21, .ref m22, .ref m23, .ref m24, .ref m25, .ref m26])), (m10, .inl (cL, 8, .inr (.inl (aL inn)))), (m11, .inl (cI, 8, .inl (aI pk))), (m12, .inl (cI, 8, .inl (aI ou))), (m13, .inl (cI, 64, .inl (aI ok))), (m14, .inl (cL, 64, .inr (.inl (aL og))))] H := hP
  have hD : va_D A [(mo, .inr (8, [.int (nI 0), .long sd, .ref m2, .ref m3, .ref m4, .ref m5, .ref m6, .ref m7, .ref m8, .int (nI pn), .ref m10, .ref m11, .ref m12, .ref m13, .ref m14, .ref m15, .int (nI as0), .int (nI dc), .ref m18, .int (nI tc), .ref m20, .ref m21, .ref m22, .ref m23, .ref m24, .ref m25, .ref m26])), (m10, .inl (cL, 8, .inr (.inl (aL inn)))), (m11, .inl (cI, 8, .inl (aI pk))), (m12, .inl (cI, 8, .inl (aI ou))), (m13, .inl (cI, 64, .inl (aI ok))), (m14, .inl (cL, 64, .inr (.inl (aL og))))] := hD
  refine lv_aload_n hx hb d_Mo_lacks_5 rfl (lv_at hl 0 rfl) ?_
  refine lv_iload_n hx hb d_Mo_lacks_6 rfl (lv_at hl 1 rfl) ?_
  refine vp_callSi (va_runV (As := [.int x]) (rest := []) ⟨hx, hb, hml, hown, htg⟩ (c_Mo_isPlant l dC dI cI cL cZ mo 0 m2 m3 m4 m5 m6 m7 m8 pn m10 m11 m12 m13 m14 m15 as0 dc m18 tc m20 m21 m22 m23 m24 m25 m26 sd x (by omega)) (cwV 1 htg (gdV k3_205 k3_207 ks_Mo_isPlant k1_9 kc_Mo_isPlant) rfl rfl rfl (by decide +kernel) ⟨Nat.le_of_ble_eq_true rfl, Nat.le_of_ble_eq_true rfl⟩) ⟨bk_blind, va_recv hK hP (ci := 8) (q0 := 0) rfl rfl, fun U hU hW => ⟨rfl, nw_warm hW hN, by rw [hU]; exact hP.sub [0] rfl, va_K.moved hW.alike hK⟩⟩ rfl rfl hl.1 rfl (lv_room (Nat.le_of_ble_eq_true rfl)) d_Mo_lacks_7 ⟨Nat.le_of_ble_eq_true rfl, Nat.le_of_ble_eq_true rfl⟩).run (fun r7 e7 => ?_)
  rcases e7 with ⟨⟨j7, hj7, hx7⟩, rfl⟩ | ⟨n7, rfl⟩
  · refine bk_if_eq (a := 1) (tgt := 21) hx hb (by omega) d_Mo_lacks_10 (by decide) (fun c10 => absurd c10 (by decide)) (fun c10 => ?_)
    refine lv_aload_n hx hb d_Mo_lacks_13 rfl (lv_at hl 0 rfl) ?_
    refine lv_iload_n hx hb d_Mo_lacks_14 rfl (lv_at hl 1 rfl) ?_
    refine bk_topi (y := nI j7) hx7 ?_
    refine vp_callSl (va_runV (As := [.int (nI j7)]) (rest := []) ⟨hx, hb, hml, hown, htg⟩ (c_Mo_lack l dC dI cI cL cZ mo 0 m2 m3 m4 m5 m6 m7 m8 pn m10 m11 m12 m13 m14 m15 as0 dc m18 tc m20 m21 m22 m23 m24 m25 m26 sd inn pk ou ok og j7 hi hj7) (cwV 1 htg (gdV k3_213 k3_215 ks_Mo_lack k1_9 kc_Mo_lack) rfl rfl rfl (by decide +kernel) ⟨Nat.le_of_ble_eq_true rfl, Nat.le_of_ble_eq_true rfl⟩) ⟨bk_blind, va_recv hK hP (ci := 8) (q0 := 0) rfl rfl, fun U hU hW => ⟨rfl, nw_warm hW hN, by rw [hU]; exact hP.sub [0, 1, 2, 3, 4, 5] rfl, va_K.moved hW.alike hK⟩⟩ rfl rfl hl.1 rfl (lv_room (Nat.le_of_ble_eq_true rfl)) d_Mo_lacks_15 ⟨Nat.le_of_ble_eq_true rfl, Nat.le_of_ble_eq_true rfl⟩).run (fun r15 e15 => ?_)
    subst e15
    refine lv_goto (tgt := 24) hx hb d_Mo_lacks_18 (by decide) ?_
    have hP9 := hP.sub (ws' := [(mo, .inr (8, [.int (nI 0), .long sd, .ref m2, .ref m3, .ref m4, .ref m5, .ref m6, .ref m7, .ref m8, .int (nI pn), .ref m10, .ref m11, .ref m12, .ref m13, .ref m14, .ref m15, .int (nI as0), .int (nI dc), .ref m18, .int (nI tc), .ref m20, .ref m21, .ref m22, .ref m23, .ref m24, .ref m25, .ref m26])), (m10, .inl (cL, 8, .inr (.inl (aL inn)))), (m11, .inl (cI, 8, .inl (aI pk))), (m12, .inl (cI, 8, .inl (aI ou))), (m13, .inl (cI, 64, .inl (aI ok))), (m14, .inl (cL, 64, .inr (.inl (aL og))))]) [0, 1, 2, 3, 4, 5] rfl
    have hD9 := hD.sub (ws' := [(mo, .inr (8, [.int (nI 0), .long sd, .ref m2, .ref m3, .ref m4, .ref m5, .ref m6, .ref m7, .ref m8, .int (nI pn), .ref m10, .ref m11, .ref m12, .ref m13, .ref m14, .ref m15, .int (nI as0), .int (nI dc), .ref m18, .int (nI tc), .ref m20, .ref m21, .ref m22, .ref m23, .ref m24, .ref m25, .ref m26])), (m10, .inl (cL, 8, .inr (.inl (aL inn)))), (m11, .inl (cI, 8, .inl (aI pk))), (m12, .inl (cI, 8, .inl (aI ou))), (m13, .inl (cI, 64, .inl (aI ok))), (m14, .inl (cL, 64, .inr (.inl (aL og))))]) [0, 1, 2, 3, 4, 5] (by decide) rfl
    exact W.lret (v := lN (lackM inn pk ou ok og j7)) hx hb hr (fun t9 ht9 hW9 => ⟨⟨lN (lackM inn pk ou ok og j7), (), rfl, Or.inl ⟨j7, hj7, hx7, rfl⟩, by rw [ht9]; exact hP9, va_K.moved hW9.alike hK, hD9⟩, hS.F ht9⟩) hS.2.2 d_Mo_lacks_24
  · refine bk_if_eq (a := 0) (tgt := 21) hx hb (by omega) d_Mo_lacks_10 (by decide) (fun c10 => ?_) (fun c10 => absurd c10 (by decide))
    refine lv_ldc2 (own := R_Mo) (v := (-1)) hx hb hown (htg _ k3_221) d_Mo_lacks_21 ?_
    have hP9 := hP.sub (ws' := [(mo, .inr (8, [.int (nI 0), .long sd, .ref m2, .ref m3, .ref m4, .ref m5, .ref m6, .ref m7, .ref m8, .int (nI pn), .ref m10, .ref m11, .ref m12, .ref m13, .ref m14, .ref m15, .int (nI as0), .int (nI dc), .ref m18, .int (nI tc), .ref m20, .ref m21, .ref m22, .ref m23, .ref m24, .ref m25, .ref m26])), (m10, .inl (cL, 8, .inr (.inl (aL inn)))), (m11, .inl (cI, 8, .inl (aI pk))), (m12, .inl (cI, 8, .inl (aI ou))), (m13, .inl (cI, 64, .inl (aI ok))), (m14, .inl (cL, 64, .inr (.inl (aL og))))]) [0, 1, 2, 3, 4, 5] rfl
    have hD9 := hD.sub (ws' := [(mo, .inr (8, [.int (nI 0), .long sd, .ref m2, .ref m3, .ref m4, .ref m5, .ref m6, .ref m7, .ref m8, .int (nI pn), .ref m10, .ref m11, .ref m12, .ref m13, .ref m14, .ref m15, .int (nI as0), .int (nI dc), .ref m18, .int (nI tc), .ref m20, .ref m21, .ref m22, .ref m23, .ref m24, .ref m25, .ref m26])), (m10, .inl (cL, 8, .inr (.inl (aL inn)))), (m11, .inl (cI, 8, .inl (aI pk))), (m12, .inl (cI, 8, .inl (aI ou))), (m13, .inl (cI, 64, .inl (aI ok))), (m14, .inl (cL, 64, .inr (.inl (aL og))))]) [0, 1, 2, 3, 4, 5] (by decide) rfl
    exact W.lret (v := (-1)) hx hb hr (fun t9 ht9 hW9 => ⟨⟨(-1), (), rfl, Or.inr ⟨n7, rfl⟩, by rw [ht9]; exact hP9, va_K.moved hW9.alike hK, hD9⟩, hS.F ht9⟩) hS.2.2 d_Mo_lacks_24
set_option maxHeartbeats 4000000 in
set_option maxRecDepth 100000 in
theorem c_Mo_ones (l : Launch) (dC : Nat → ClassId) (dI : Nat → Nat → Nat) (cI cL cZ : ClassId) (s0 : Nat) (hs : s0 < 256) : Met l y_Mo_ones ws_Mo_ones { frames := 0, cells := 0, slots := 0, locals := 0 } (va_Pc [.int (nI s0)] (fun _ => True)) (vp_Si (fun r => r = nI (popc s0))) 0 0 (fun _ => False) := by
  refine Met.ofW (cc := b_Mo_ones) (maxL := 3) (ret := (some .int)) (by decide) rfl ?_
  intro pr en s m args below meth c s₁ B hml hv
  obtain ⟨rfl, -⟩ := hv
  have hx := B.exec
  have hb := B.bytes
  have hr := B.returns
  have hts := atoms_spec (ws := ws_Mo_ones) B.pre
  have htg : ∀ w ∈ gW, w.before _ s = true := fun w h => hts w (List.mem_cons_of_mem _ h)
  have hown : s.vm.findClass R_Mo = some m.cls := findClass_of_methodNamed B.named
  have hlocks := B.notSynchronized
  have hl := lv_entry ([.int (nI s0)]) (n := 3) (Nat.le_of_ble_eq_true rfl)
  rw [lg_entry_eq]
  generalize (lg_sl ([.int (nI s0)]) ++ List.replicate (3 - (lg_sl ([.int (nI s0)])).length) Slot.unset).toArray = ls at hl ⊢
  have hl : lv_has ls 3 [(0, .int (nI s0))] := hl
  refine lv_iconst (v := nI 0) hx hb d_Mo_ones_0 (by decide +kernel) ?_
  refine lv_istore_n (lv' := [(1, .int (nI 0)), (0, .int (nI s0))]) hx hb d_Mo_ones_1 rfl hl (by decide) rfl (fun ls hl => ?_)
  refine lv_iconst (v := nI 0) hx hb d_Mo_ones_2 (by decide +kernel) ?_
  refine lv_istore_n (lv' := [(2, .int (nI 0)), (1, .int (nI 0)), (0, .int (nI s0))]) hx hb d_Mo_ones_3 rfl hl (by decide) rfl (fun ls hl => ?_)
  have J4 : ∀ (k : Nat) (i : Nat) (b : Nat), (i + k = 8) → (b = cntB (fun i => s0.testBit i) i) → ∀ (ls : Array Slot), lv_has ls 3 [(0, .int (nI s0)), (1, .int (nI b)), (2, .int (nI i))] → W pr l en (headSpec ws_Mo_ones { frames := 0, cells := 0, slots := 0, locals := 0 }).room s m ([.int (nI s0)] : List Value).toArray below meth c s.heap [] 0 0 (MQ below (vp_Si (fun r => r = nI (popc s0))) ([.int (nI s0)] : List Value).toArray s 0 0 (fun _ => False)) (F0 m 4 ls []) := by
    intro k
    induction k with
    | zero =>
      intro i b hk hc ls hl
      refine lv_iload_n hx hb d_Mo_ones_4 rfl (lv_at hl 2 rfl) ?_
      refine lv_bipush (v := nI 8) hx hb d_Mo_ones_5 (by decide +kernel) ?_
      refine bk_icmp_ge (a := i) (b := 8) (tgt := 24) hx hb (by omega) (by omega) d_Mo_ones_7 (by decide) (fun c7 => ?_) (fun c7 => by exfalso; omega)
      refine lv_iload_n hx hb d_Mo_ones_24 rfl (lv_at hl 1 rfl) ?_
      exact W.iret (v := nI b) hx hb hr (fun t9 ht9 hW9 => ⟨nI b, rfl, (by rw [hc, show i = 8 by omega]; rfl), ht9⟩) (fun q h => nomatch h) d_Mo_ones_25
    | succ k ih4 =>
      intro i b hk hc ls hl
      have hbl := bN_le (s0.testBit i)
      refine lv_iload_n hx hb d_Mo_ones_4 rfl (lv_at hl 2 rfl) ?_
      refine lv_bipush (v := nI 8) hx hb d_Mo_ones_5 (by decide +kernel) ?_
      refine bk_icmp_ge (a := i) (b := 8) (tgt := 24) hx hb (by omega) (by omega) d_Mo_ones_7 (by decide) (fun c7 => by exfalso; omega) (fun c7 => ?_)
      refine lv_iload_n hx hb d_Mo_ones_10 rfl (lv_at hl 1 rfl) ?_
      refine lv_iload_n hx hb d_Mo_ones_11 rfl (lv_at hl 0 rfl) ?_
      refine lv_iload_n hx hb d_Mo_ones_12 rfl (lv_at hl 2 rfl) ?_
      refine lv_ishr hx hb d_Mo_ones_13 ?_
      refine lv_iconst (v := nI 1) hx hb d_Mo_ones_14 (by decide +kernel) ?_
      refine lv_iand hx hb d_Mo_ones_15 ?_
      refine bk_topi (y := nI (bN (s0.testBit i))) (bit_shr0 s0 hs i (by omega)) ?_
      refine bk_iadd hx hb d_Mo_ones_16 ?_
      refine lv_istore_n (lv' := [(1, .int (nI (b + (bN (s0.testBit i))))), (0, .int (nI s0)), (2, .int (nI i))]) hx hb d_Mo_ones_17 rfl hl (by decide) rfl (fun ls hl => ?_)
      refine lv_iinc (v := nI (i + 1)) (lv' := [(2, .int (nI (i + 1))), (1, .int (nI (b + (bN (s0.testBit i))))), (0, .int (nI s0))]) hx hb d_Mo_ones_18 hl (k := 2) rfl (bk_inc i) (by decide) rfl (fun ls hl => ?_)
      refine lv_goto (tgt := 4) hx hb d_Mo_ones_21 (by decide) ?_
      exact ih4 (i + 1) (b + (bN (s0.testBit i))) (by omega) (by rw [hc, cntB]; rfl) ls (lv_sub hl [2, 1, 0] rfl)
  exact J4 8 0 0 (by omega) rfl ls (lv_sub hl [2, 1, 0] rfl)
set_option maxHeartbeats 4000000 in
set_option maxRecDepth 100000 in
theorem c_Mo_nowhere (l : Launch) (dC : Nat → ClassId) (dI : Nat → Nat → Nat) (cI cL cZ : ClassId) (sz : Nat) (mo co m2 m3 m4 m5 m6 m7 m8 pn m10 m11 m12 m13 m14 m15 as0 dc m18 tc m20 m21 m22 m23 m24 m25 m26 : Nat) (sd : Int64) (inn : Nat → Nat) (pk : Nat → Nat) (ou : Nat → Nat) (ok : Nat → Nat) (og : Nat → Nat) (x y : Int32) (hi : plI pn inn pk ou ok og) : Met l y_Mo_nowhere ws_Mo_nowhere { frames := 2, cells := 0, slots := 0, locals := 49 } (va_Pc [.ref mo, .int x, .int y] (wrP (dC, dI) vwCl [(cI, .int), (cL, .long), (cZ, .boolean)] [(mo, .inr (8, [.int (nI co), .long sd, .ref m2, .ref m3, .ref m4, .ref m5, .ref m6, .ref m7, .ref m8, .int (nI pn), .ref m10, .ref m11, .ref m12, .ref m13, .ref m14, .ref m15, .int (nI as0), .int (nI dc), .ref m18, .int (nI tc), .ref m20, .ref m21, .ref m22, .ref m23, .ref m24, .ref m25, .ref m26])), (m10, .inl (cL, 8, .inr (.inl (aL inn)))), (m11, .inl (cI, 8, .inl (aI pk))), (m12, .inl (cI, 8, .inl (aI ou))), (m13, .inl (cI, 64, .inl (aI ok))), (m14, .inl (cL, 64, .inr (.inl (aL og))))] sz)) (va_Qi (fun (r : Int32) (u : Unit) => (∃ p, p < pn ∧ x = nI p ∧ ∃ o, r = oI o ∧ kth (fun i => (nwM inn pk ou ok og p).testBit (7 - i)) 8 y o) ∨ (¬ inR pn x ∧ r = oI none)) (fun (u : Unit) => wrQ (dC, dI) vwCl [(cI, .int), (cL, .long), (cZ, .boolean)] (va_A [(mo, .inr (8, [.int (nI co), .long sd, .ref m2, .ref m3, .ref m4, .ref m5, .ref m6, .ref m7, .ref m8, .int (nI pn), .ref m10, .ref m11, .ref m12, .ref m13, .ref m14, .ref m15, .int (nI as0), .int (nI dc), .ref m18, .int (nI tc), .ref m20, .ref m21, .ref m22, .ref m23, .ref m24, .ref m25, .ref m26])), (m10, .inl (cL, 8, .inr (.inl (aL inn)))), (m11, .inl (cI, 8, .inl (aI pk))), (m12, .inl (cI, 8, .inl (aI ou))), (m13, .inl (cI, 64, .inl (aI ok))), (m14, .inl (cL, 64, .inr (.inl (aL og))))] sz) [(mo, .inr (8, [.int (nI 0), .long sd, .ref m2, .ref m3, .ref m4, .ref m5, .ref m6, .ref m7, .ref m8, .int (nI pn), .ref m10, .ref m11, .ref m12, .ref m13, .ref m14, .ref m15, .int (nI as0), .int (nI dc), .ref m18, .int (nI tc), .ref m20, .ref m21, .ref m22, .ref m23, .ref m24, .ref m25, .ref m26])), (m10, .inl (cL, 8, .inr (.inl (aL inn)))), (m11, .inl (cI, 8, .inl (aI pk))), (m12, .inl (cI, 8, .inl (aI ou))), (m13, .inl (cI, 64, .inl (aI ok))), (m14, .inl (cL, 64, .inr (.inl (aL og))))]) (va_A [(mo, .inr (8, [.int (nI co), .long sd, .ref m2, .ref m3, .ref m4, .ref m5, .ref m6, .ref m7, .ref m8, .int (nI pn), .ref m10, .ref m11, .ref m12, .ref m13, .ref m14, .ref m15, .int (nI as0), .int (nI dc), .ref m18, .int (nI tc), .ref m20, .ref m21, .ref m22, .ref m23, .ref m24, .ref m25, .ref m26])), (m10, .inl (cL, 8, .inr (.inl (aL inn)))), (m11, .inl (cI, 8, .inl (aI pk))), (m12, .inl (cI, 8, .inl (aI ou))), (m13, .inl (cI, 64, .inl (aI ok))), (m14, .inl (cL, 64, .inr (.inl (aL og))))] sz)) 0 0 (va_A [(mo, .inr (8, [.int (nI co), .long sd, .ref m2, .ref m3, .ref m4, .ref m5, .ref m6, .ref m7, .ref m8, .int (nI pn), .ref m10, .ref m11, .ref m12, .ref m13, .ref m14, .ref m15, .int (nI as0), .int (nI dc), .ref m18, .int (nI tc), .ref m20, .ref m21, .ref m22, .ref m23, .ref m24, .ref m25, .ref m26])), (m10, .inl (cL, 8, .inr (.inl (aL inn)))), (m11, .inl (cI, 8, .inl (aI pk))), (m12, .inl (cI, 8, .inl (aI ou))), (m13, .inl (cI, 64, .inl (aI ok))), (m14, .inl (cL, 64, .inr (.inl (aL og))))] sz) := by
  refine Met.ofW (cc := b_Mo_nowhere) (maxL := 7) (ret := (some .int)) (by decide) rfl ?_
  intro pr en s m args below meth c s₁ B hml hv
  obtain ⟨rfl, hN, hsz, hP, hK, hD0⟩ := hv
  have hx := B.exec
  have hb := B.bytes
  have hr := B.returns
  have hts := atoms_spec (ws := ws_Mo_nowhere) B.pre
  have htg : ∀ w ∈ gW, w.before _ s = true := fun w h => hts w (List.mem_cons_of_mem _ h)
  have hown : s.vm.findClass R_Mo = some m.cls := findClass_of_methodNamed B.named
  have hlocks := B.notSynchronized
  subst hsz
  have hD := hD0.self (sz := s.heap.size)
  generalize hAe : va_A [(mo, .inr (8, [.int (nI co), .long sd, .ref m2, .ref m3, .ref m4, .ref m5, .ref m6, .ref m7, .ref m8, .int (nI pn), .ref m10, .ref m11, .ref m12, .ref m13, .ref m14, .ref m15, .int (nI as0), .int (nI dc), .ref m18, .int (nI tc), .ref m20, .ref m21, .ref m22, .ref m23, .ref m24, .ref m25, .ref m26])), (m10, .inl (cL, 8, .inr (.inl (aL inn)))), (m11, .inl (cI, 8, .inl (aI pk))), (m12, .inl (cI, 8, .inl (aI ou))), (m13, .inl (cI, 64, .inl (aI ok))), (m14, .inl (cL, 64, .inr (.inl (aL og))))] s.heap.size = A at hD ⊢
  have hA : ∀ q : Nat, s.heap.size ≤ q → A q := fun q h => by rw [← hAe]; exact Or.inr h
  have hS : va_S A s.heap s.heap [] := va_S.rf
  have hP : va_P (dC, dI) vwCl [(mo, .inr (8, [.int (nI co), .long sd, .ref m2, .ref m3, .ref m4, .ref m5, .ref m6, .ref m7, .ref m8, .int (nI pn), .ref m10, .ref m11, .ref m12, .ref m13, .ref m14, .ref m15, .int (nI as0), .int (nI dc), .ref m18, .int (nI tc), .ref m20, .ref m21, .ref m22, .ref m23, .ref m24, .ref m25, .ref m26])), (m10, .inl (cL, 8, .inr (.inl (aL inn)))), (m11, .inl (cI, 8, .inl (aI pk))), (m12, .inl (cI, 8, .inl (aI ou))), (m13, .inl (cI, 64, .inl (aI ok))), (m14, .inl (cL, 64, .inr (.inl (aL og))))] s.heap := hP
  have hl := lv_entry ([.ref mo, .int x, .int y]) (n := 7) (Nat.le_of_ble_eq_true rfl)
  rw [lg_entry_eq]
  generalize (lg_sl ([.ref mo, .int x, .int y]) ++ List.replicate (7 - (lg_sl ([.ref mo, .int x, .int y])).length) Slot.unset).toArray = ls at hl ⊢
  have hl : lv_has ls 7 [(0, .ref mo), (1, .int x), (2, .int y)] := hl
  have hn := hi.1
  refine lv_aload_n hx hb d_Mo_nowhere_0 rfl (lv_at hl 0 rfl) ?_
  refine lv_iconst (v := nI 0) hx hb d_Mo_nowhere_1 (by decide +kernel) ?_
  refine va_put (D := (dC, dI)) (ci := 8) (v := .int (nI 0)) (ty := (t_Mo 0)) (C := R_Mo) (T := F_Mo) (N := 27) hx hb htg iw_Mo t_Mo tk_Mo nm_Mo hown hK hP hD hS 0 rfl rfl 0 (by decide) (htg _ k3_52) (fun _ h9 => h9) rfl (by decide +kernel) rfl rfl (Nat.le_of_ble_eq_true rfl) d_Mo_nowhere_2 (fun H locs hP hD hS => ?_)
  have hP : va_P (dC, dI) vwCl [(mo, .inr (8, [.int (nI 0), .long sd, .ref m2, .ref m3, .ref m4, .ref m5, .ref m6, .ref m7, .ref m8, .int (nI pn), .ref m10, .ref m11, .ref m12, .ref m13, .ref m14, .ref m15, .int (nI as0), .int (nI dc), .ref m18, .int (nI tc), .ref m20, .ref m21, .ref m22, .ref m23, .ref m24, .ref m25, .ref m26])), (m10, .inl (cL, 8, .inr (.inl (aL inn)))), (m11, .inl (cI, 8, .inl (aI pk))), (m12, .inl (cI, 8, .inl (aI ou))), (m13, .inl (cI, 64, .inl (aI ok))), (m14, .inl (cL, 64, .inr (.inl (aL og))))] H := hP
  have hD : va_D A [(mo, .inr (8, [.int (nI 0), .long sd, .ref m2, .ref m3, .ref m4, .ref m5, .ref m6, .ref m7, .ref m8, .int (nI pn), .ref m10, .ref m11, .ref m12, .ref m13, .ref m14, .ref m15, .int (nI as0), .int (nI dc), .ref m18, .int (nI tc), .ref m20, .ref m21, .ref m22, .ref m23, .ref m24, .ref m25, .ref m26])), (m10, .inl (cL, 8, .inr (.inl (aL inn)))), (m11, .inl (cI, 8, .inl (aI pk))), (m12, .inl (cI, 8, .inl (aI ou))), (m13, .inl (cI, 64, .inl (aI ok))), (m14, .inl (cL, 64, .inr (.inl (aL og))))] := hD
  refine lv_aload_n hx hb d_Mo_nowhere_5 rfl (lv_at hl 0 rfl) ?_
  refine lv_iload_n hx hb d_Mo_nowhere_6 rfl (lv_at hl 1 rfl) ?_
  refine vp_callSi (va_runV (As := [.int x]) (rest := []) ⟨hx, hb, hml, hown, htg⟩ (c_Mo_isPlant l dC dI cI cL cZ mo 0 m2 m3 m4 m5 m6 m7 m8 pn m10 m11 m12 m13 m14 m15 as0 dc m18 tc m20 m21 m22 m23 m24 m25 m26 sd x (by omega)) (cwV 1 htg (gdV k3_205 k3_207 ks_Mo_isPlant k1_9 kc_Mo_isPlant) rfl rfl rfl (by decide +kernel) ⟨Nat.le_of_ble_eq_true rfl, Nat.le_of_ble_eq_true rfl⟩) ⟨bk_blind, va_recv hK hP (ci := 8) (q0 := 0) rfl rfl, fun U hU hW => ⟨rfl, nw_warm hW hN, by rw [hU]; exact hP.sub [0] rfl, va_K.moved hW.alike hK⟩⟩ rfl rfl hl.1 rfl (lv_room (Nat.le_of_ble_eq_true rfl)) d_Mo_nowhere_7 ⟨Nat.le_of_ble_eq_true rfl, Nat.le_of_ble_eq_true rfl⟩).run (fun r7 e7 => ?_)
  rcases e7 with ⟨⟨j7, hj7, hx7⟩, rfl⟩ | ⟨n7, rfl⟩
  · refine bk_if_eq (a := 1) (tgt := 27) hx hb (by omega) d_Mo_nowhere_10 (by decide) (fun c10 => absurd c10 (by decide)) (fun c10 => ?_)
    refine lv_iload_n hx hb d_Mo_nowhere_13 rfl (lv_at hl 2 rfl) ?_
    refine lv_if_lt (x := y) (tgt := 27) hx hb d_Mo_nowhere_14 (by decide) (fun c14 => ?_) (fun c14 => ?_)
    · refine lv_iconst (v := oI none) hx hb d_Mo_nowhere_27 (by decide +kernel) ?_
      have hP9 := hP.sub (ws' := [(mo, .inr (8, [.int (nI 0), .long sd, .ref m2, .ref m3, .ref m4, .ref m5, .ref m6, .ref m7, .ref m8, .int (nI pn), .ref m10, .ref m11, .ref m12, .ref m13, .ref m14, .ref m15, .int (nI as0), .int (nI dc), .ref m18, .int (nI tc), .ref m20, .ref m21, .ref m22, .ref m23, .ref m24, .ref m25, .ref m26])), (m10, .inl (cL, 8, .inr (.inl (aL inn)))), (m11, .inl (cI, 8, .inl (aI pk))), (m12, .inl (cI, 8, .inl (aI ou))), (m13, .inl (cI, 64, .inl (aI ok))), (m14, .inl (cL, 64, .inr (.inl (aL og))))]) [0, 1, 2, 3, 4, 5] rfl
      have hD9 := hD.sub (ws' := [(mo, .inr (8, [.int (nI 0), .long sd, .ref m2, .ref m3, .ref m4, .ref m5, .ref m6, .ref m7, .ref m8, .int (nI pn), .ref m10, .ref m11, .ref m12, .ref m13, .ref m14, .ref m15, .int (nI as0), .int (nI dc), .ref m18, .int (nI tc), .ref m20, .ref m21, .ref m22, .ref m23, .ref m24, .ref m25, .ref m26])), (m10, .inl (cL, 8, .inr (.inl (aL inn)))), (m11, .inl (cI, 8, .inl (aI pk))), (m12, .inl (cI, 8, .inl (aI ou))), (m13, .inl (cI, 64, .inl (aI ok))), (m14, .inl (cL, 64, .inr (.inl (aL og))))]) [0, 1, 2, 3, 4, 5] (by decide) rfl
      exact W.iret (v := oI none) hx hb hr (fun t9 ht9 hW9 => ⟨⟨oI none, (), rfl, Or.inl ⟨j7, hj7, hx7, none, rfl, by first | exact kth_neg (by decide) c14 | (rw [nwM, if_pos c23]; exact kth_0)⟩, by rw [ht9]; exact hP9, va_K.moved hW9.alike hK, hD9⟩, hS.F ht9⟩) hS.2.2 d_Mo_nowhere_28
    · obtain ⟨f1, f2, f3, f4⟩ := hi.2.1 j7 hj7
      have hg := gsumM_le (ok := ok) (og := og) (pk := pk) (p := j7) (s := 255) (ou j7) (fun i hi9 => (f4 i hi9).2)
      have hlk : lackM inn pk ou ok og j7 ≤ 8000000000 := by unfold lackM; omega
      refine lv_aload_n hx hb d_Mo_nowhere_17 rfl (lv_at hl 0 rfl) ?_
      refine lv_iload_n hx hb d_Mo_nowhere_18 rfl (lv_at hl 1 rfl) ?_
      refine bk_topi (y := nI j7) hx7 ?_
      refine vp_callSl (va_runV (As := [.int (nI j7)]) (rest := []) ⟨hx, hb, hml, hown, htg⟩ (c_Mo_lack l dC dI cI cL cZ mo 0 m2 m3 m4 m5 m6 m7 m8 pn m10 m11 m12 m13 m14 m15 as0 dc m18 tc m20 m21 m22 m23 m24 m25 m26 sd inn pk ou ok og j7 hi hj7) (cwV 1 htg (gdV k3_213 k3_215 ks_Mo_lack k1_9 kc_Mo_lack) rfl rfl rfl (by decide +kernel) ⟨Nat.le_of_ble_eq_true rfl, Nat.le_of_ble_eq_true rfl⟩) ⟨bk_blind, va_recv hK hP (ci := 8) (q0 := 0) rfl rfl, fun U hU hW => ⟨rfl, nw_warm hW hN, by rw [hU]; exact hP.sub [0, 1, 2, 3, 4, 5] rfl, va_K.moved hW.alike hK⟩⟩ rfl rfl hl.1 rfl (lv_room (Nat.le_of_ble_eq_true rfl)) d_Mo_nowhere_19 ⟨Nat.le_of_ble_eq_true rfl, Nat.le_of_ble_eq_true rfl⟩).run (fun r19 e19 => ?_)
      subst e19
      refine lv_lconst (v := lN 0) hx hb d_Mo_nowhere_22 (by decide +kernel) ?_
      refine bk_ncmp_ne (a := lackM inn pk ou ok og j7) (b := 0) (tgt := 29) hx hb (by omega) (by omega) d_Mo_nowhere_23 d_Mo_nowhere_24 (by decide) (fun c23 => ?_) (fun c23 => ?_)
      · refine lv_sipush (v := nI 255) hx hb d_Mo_nowhere_29 (by decide +kernel) ?_
        refine lv_istore_n (lv' := [(3, .int (nI 255)), (0, .ref mo), (1, .int x), (2, .int y)]) hx hb d_Mo_nowhere_32 rfl hl (by decide) rfl (fun ls hl => ?_)
        refine lv_bipush (v := nI 9) hx hb d_Mo_nowhere_33 (by decide +kernel) ?_
        refine lv_istore (lv' := [(4, .int (nI 9)), (3, .int (nI 255)), (0, .ref mo), (1, .int x), (2, .int y)]) hx hb d_Mo_nowhere_35 hl (by decide) rfl (fun ls hl => ?_)
        refine lv_sipush (v := nI 255) hx hb d_Mo_nowhere_37 (by decide +kernel) ?_
        refine lv_istore (lv' := [(5, .int (nI 255)), (4, .int (nI 9)), (3, .int (nI 255)), (0, .ref mo), (1, .int x), (2, .int y)]) hx hb d_Mo_nowhere_40 hl (by decide) rfl (fun ls hl => ?_)
        have J42 : ∀ (k : Nat) (q : Nat) (b : Nat × Nat), (q + k = 255) → (b = (lmS (lackM inn pk ou ok og j7) ok og pk j7 (ou j7) q)) → ∀ (H : Heap) (locs : List Loc), va_P (dC, dI) vwCl [(mo, .inr (8, [.int (nI 0), .long sd, .ref m2, .ref m3, .ref m4, .ref m5, .ref m6, .ref m7, .ref m8, .int (nI pn), .ref m10, .ref m11, .ref m12, .ref m13, .ref m14, .ref m15, .int (nI as0), .int (nI dc), .ref m18, .int (nI tc), .ref m20, .ref m21, .ref m22, .ref m23, .ref m24, .ref m25, .ref m26])), (m10, .inl (cL, 8, .inr (.inl (aL inn)))), (m11, .inl (cI, 8, .inl (aI pk))), (m12, .inl (cI, 8, .inl (aI ou))), (m13, .inl (cI, 64, .inl (aI ok))), (m14, .inl (cL, 64, .inr (.inl (aL og))))] H → va_D A [(mo, .inr (8, [.int (nI 0), .long sd, .ref m2, .ref m3, .ref m4, .ref m5, .ref m6, .ref m7, .ref m8, .int (nI pn), .ref m10, .ref m11, .ref m12, .ref m13, .ref m14, .ref m15, .int (nI as0), .int (nI dc), .ref m18, .int (nI tc), .ref m20, .ref m21, .ref m22, .ref m23, .ref m24, .ref m25, .ref m26])), (m10, .inl (cL, 8, .inr (.inl (aL inn)))), (m11, .inl (cI, 8, .inl (aI pk))), (m12, .inl (cI, 8, .inl (aI ou))), (m13, .inl (cI, 64, .inl (aI ok))), (m14, .inl (cL, 64, .inr (.inl (aL og))))] → va_S A s.heap H locs → ∀ (ls : Array Slot), lv_has ls 7 [(0, .ref mo), (1, .int x), (2, .int y), (3, .int (nI b.1)), (4, .int (nI b.2)), (5, .int (nI (255 - q)))] → W pr l en (headSpec ws_Mo_nowhere { frames := 2, cells := 0, slots := 0, locals := 49 }).room s m ([.ref mo, .int x, .int y] : List Value).toArray below meth c H locs 0 0 (MQ below (va_Qi (fun (r : Int32) (u : Unit) => (∃ p, p < pn ∧ x = nI p ∧ ∃ o, r = oI o ∧ kth (fun i => (nwM inn pk ou ok og p).testBit (7 - i)) 8 y o) ∨ (¬ inR pn x ∧ r = oI none)) (fun (u : Unit) => wrQ (dC, dI) vwCl [(cI, .int), (cL, .long), (cZ, .boolean)] A [(mo, .inr (8, [.int (nI 0), .long sd, .ref m2, .ref m3, .ref m4, .ref m5, .ref m6, .ref m7, .ref m8, .int (nI pn), .ref m10, .ref m11, .ref m12, .ref m13, .ref m14, .ref m15, .int (nI as0), .int (nI dc), .ref m18, .int (nI tc), .ref m20, .ref m21, .ref m22, .ref m23, .ref m24, .ref m25, .ref m26])), (m10, .inl (cL, 8, .inr (.inl (aL inn)))), (m11, .inl (cI, 8, .inl (aI pk))), (m12, .inl (cI, 8, .inl (aI ou))), (m13, .inl (cI, 64, .inl (aI ok))), (m14, .inl (cL, 64, .inr (.inl (aL og))))]) A) ([.ref mo, .int x, .int y] : List Value).toArray s 0 0 A) (F0 m 42 ls []) := by
          intro k
          induction k with
          | zero =>
            intro q b hk hbb H locs hP hD hS ls hl
            refine lv_iload hx hb d_Mo_nowhere_42 (lv_at hl 5 rfl) ?_
            refine bk_if_le (a := 255 - q) (tgt := 89) hx hb (by omega) d_Mo_nowhere_44 (by decide) (fun c44 => ?_) (fun c44 => by exfalso; omega)
            have hnw : nwM inn pk ou ok og j7 = b.1 := by rw [nwM, if_neg c23, hbb, show q = 255 by omega]
            have hb1 : b.1 < 256 := by rw [hbb]; exact (lmS_lt q).1
            refine lv_iload_n hx hb d_Mo_nowhere_89 rfl (lv_at hl 2 rfl) ?_
            refine lv_istore (lv' := [(5, .int y), (0, .ref mo), (1, .int x), (2, .int y), (3, .int (nI b.1)), (4, .int (nI b.2))]) hx hb d_Mo_nowhere_90 hl (by decide) rfl (fun ls hl => ?_)
            refine lv_iconst (v := nI 0) hx hb d_Mo_nowhere_92 (by decide +kernel) ?_
            refine lv_istore (lv' := [(6, .int (nI 0)), (5, .int y), (0, .ref mo), (1, .int x), (2, .int y), (3, .int (nI b.1)), (4, .int (nI b.2))]) hx hb d_Mo_nowhere_93 hl (by decide) rfl (fun ls hl => ?_)
            have J95 : ∀ (k2 : Nat) (i : Nat) (b0 : Nat) (lf : Int32), (i + k2 = 8) → (b0 = cntB (fun i => (nwM inn pk ou ok og j7).testBit (7 - i)) i) → (noYet (fun i => (nwM inn pk ou ok og j7).testBit (7 - i)) y i) → (lf.toInt = y.toInt - b0) → ∀ (H : Heap) (locs : List Loc), va_P (dC, dI) vwCl [(mo, .inr (8, [.int (nI 0), .long sd, .ref m2, .ref m3, .ref m4, .ref m5, .ref m6, .ref m7, .ref m8, .int (nI pn), .ref m10, .ref m11, .ref m12, .ref m13, .ref m14, .ref m15, .int (nI as0), .int (nI dc), .ref m18, .int (nI tc), .ref m20, .ref m21, .ref m22, .ref m23, .ref m24, .ref m25, .ref m26])), (m10, .inl (cL, 8, .inr (.inl (aL inn)))), (m11, .inl (cI, 8, .inl (aI pk))), (m12, .inl (cI, 8, .inl (aI ou))), (m13, .inl (cI, 64, .inl (aI ok))), (m14, .inl (cL, 64, .inr (.inl (aL og))))] H → va_D A [(mo, .inr (8, [.int (nI 0), .long sd, .ref m2, .ref m3, .ref m4, .ref m5, .ref m6, .ref m7, .ref m8, .int (nI pn), .ref m10, .ref m11, .ref m12, .ref m13, .ref m14, .ref m15, .int (nI as0), .int (nI dc), .ref m18, .int (nI tc), .ref m20, .ref m21, .ref m22, .ref m23, .ref m24, .ref m25, .ref m26])), (m10, .inl (cL, 8, .inr (.inl (aL inn)))), (m11, .inl (cI, 8, .inl (aI pk))), (m12, .inl (cI, 8, .inl (aI ou))), (m13, .inl (cI, 64, .inl (aI ok))), (m14, .inl (cL, 64, .inr (.inl (aL og))))] → va_S A s.heap H locs → ∀ (ls : Array Slot), lv_has ls 7 [(3, .int (nI b.1)), (5, .int lf), (6, .int (nI i))] → W pr l en (headSpec ws_Mo_nowhere { frames := 2, cells := 0, slots := 0, locals := 49 }).room s m ([.ref mo, .int x, .int y] : List Value).toArray below meth c H locs 0 0 (MQ below (va_Qi (fun (r : Int32) (u : Unit) => (∃ p, p < pn ∧ x = nI p ∧ ∃ o, r = oI o ∧ kth (fun i => (nwM inn pk ou ok og p).testBit (7 - i)) 8 y o) ∨ (¬ inR pn x ∧ r = oI none)) (fun (u : Unit) => wrQ (dC, dI) vwCl [(cI, .int), (cL, .long), (cZ, .boolean)] A [(mo, .inr (8, [.int (nI 0), .long sd, .ref m2, .ref m3, .ref m4, .ref m5, .ref m6, .ref m7, .ref m8, .int (nI pn), .ref m10, .ref m11, .ref m12, .ref m13, .ref m14, .ref m15, .int (nI as0), .int (nI dc), .ref m18, .int (nI tc), .ref m20, .ref m21, .ref m22, .ref m23, .ref m24, .ref m25, .ref m26])), (m10, .inl (cL, 8, .inr (.inl (aL inn)))), (m11, .inl (cI, 8, .inl (aI pk))), (m12, .inl (cI, 8, .inl (aI ou))), (m13, .inl (cI, 64, .inl (aI ok))), (m14, .inl (cL, 64, .inr (.inl (aL og))))]) A) ([.ref mo, .int x, .int y] : List Value).toArray s 0 0 A) (F0 m 95 ls []) := by
              intro k2
              induction k2 with
              | zero =>
                intro i b0 lf hk2 hc hy hlf H locs hP hD hS ls hl
                refine lv_iload hx hb d_Mo_nowhere_95 (lv_at hl 2 rfl) ?_
                refine lv_bipush (v := nI 8) hx hb d_Mo_nowhere_97 (by decide +kernel) ?_
                refine bk_icmp_ge (a := i) (b := 8) (tgt := 132) hx hb (by omega) (by omega) d_Mo_nowhere_99 (by decide) (fun c99 => ?_) (fun c99 => by exfalso; omega)
                refine lv_iconst (v := oI none) hx hb d_Mo_nowhere_132 (by decide +kernel) ?_
                have hP9 := hP.sub (ws' := [(mo, .inr (8, [.int (nI 0), .long sd, .ref m2, .ref m3, .ref m4, .ref m5, .ref m6, .ref m7, .ref m8, .int (nI pn), .ref m10, .ref m11, .ref m12, .ref m13, .ref m14, .ref m15, .int (nI as0), .int (nI dc), .ref m18, .int (nI tc), .ref m20, .ref m21, .ref m22, .ref m23, .ref m24, .ref m25, .ref m26])), (m10, .inl (cL, 8, .inr (.inl (aL inn)))), (m11, .inl (cI, 8, .inl (aI pk))), (m12, .inl (cI, 8, .inl (aI ou))), (m13, .inl (cI, 64, .inl (aI ok))), (m14, .inl (cL, 64, .inr (.inl (aL og))))]) [0, 1, 2, 3, 4, 5] rfl
                have hD9 := hD.sub (ws' := [(mo, .inr (8, [.int (nI 0), .long sd, .ref m2, .ref m3, .ref m4, .ref m5, .ref m6, .ref m7, .ref m8, .int (nI pn), .ref m10, .ref m11, .ref m12, .ref m13, .ref m14, .ref m15, .int (nI as0), .int (nI dc), .ref m18, .int (nI tc), .ref m20, .ref m21, .ref m22, .ref m23, .ref m24, .ref m25, .ref m26])), (m10, .inl (cL, 8, .inr (.inl (aL inn)))), (m11, .inl (cI, 8, .inl (aI pk))), (m12, .inl (cI, 8, .inl (aI ou))), (m13, .inl (cI, 64, .inl (aI ok))), (m14, .inl (cL, 64, .inr (.inl (aL og))))]) [0, 1, 2, 3, 4, 5] (by decide) rfl
                exact W.iret (v := oI none) hx hb hr (fun t9 ht9 hW9 => ⟨⟨oI none, (), rfl, Or.inl ⟨j7, hj7, hx7, none, rfl, by rw [show i = 8 by omega] at hy; exact hy⟩, by rw [ht9]; exact hP9, va_K.moved hW9.alike hK, hD9⟩, hS.F ht9⟩) hS.2.2 d_Mo_nowhere_133
              | succ k2 ih95 =>
                intro i b0 lf hk2 hc hy hlf H locs hP hD hS ls hl
                have hle := cntB_le (fun i => (nwM inn pk ou ok og j7).testBit (7 - i)) i
                have hbl := bN_le (b.1.testBit (7 - i))
                have hy0 : 0 ≤ y.toInt := by rw [Int32.lt_iff_toInt_lt] at c14; have h0 : (0 : Int32).toInt = 0 := (by decide); omega
                refine lv_iload hx hb d_Mo_nowhere_95 (lv_at hl 2 rfl) ?_
                refine lv_bipush (v := nI 8) hx hb d_Mo_nowhere_97 (by decide +kernel) ?_
                refine bk_icmp_ge (a := i) (b := 8) (tgt := 132) hx hb (by omega) (by omega) d_Mo_nowhere_99 (by decide) (fun c99 => by exfalso; omega) (fun c99 => ?_)
                refine lv_iload_n hx hb d_Mo_nowhere_102 rfl (lv_at hl 0 rfl) ?_
                refine lv_bipush (v := nI 7) hx hb d_Mo_nowhere_103 (by decide +kernel) ?_
                refine lv_iload hx hb d_Mo_nowhere_105 (lv_at hl 2 rfl) ?_
                refine bk_isub hx hb (by omega) d_Mo_nowhere_107 ?_
                refine lv_ishr hx hb d_Mo_nowhere_108 ?_
                refine lv_iconst (v := nI 1) hx hb d_Mo_nowhere_109 (by decide +kernel) ?_
                refine lv_iand hx hb d_Mo_nowhere_110 ?_
                refine bk_topi (y := nI (bN (b.1.testBit (7 - i)))) (bit_shr b.1 hb1 i (by omega)) ?_
                refine lv_iconst (v := nI 1) hx hb d_Mo_nowhere_111 (by decide +kernel) ?_
                refine bk_icmp_ne (a := bN (b.1.testBit (7 - i))) (b := 1) (tgt := 126) hx hb (by omega) (by omega) d_Mo_nowhere_112 (by decide) (fun c112 => ?_) (fun c112 => ?_)
                · have hno : (fun i => (nwM inn pk ou ok og j7).testBit (7 - i)) i = false := by show (nwM inn pk ou ok og j7).testBit (7 - i) = false; rw [hnw]; exact bN_0.mp (by omega)
                  refine lv_iinc (v := nI (i + 1)) (lv' := [(6, .int (nI (i + 1))), (3, .int (nI b.1)), (5, .int lf)]) hx hb d_Mo_nowhere_126 hl (k := 2) rfl (bk_inc i) (by decide) rfl (fun ls hl => ?_)
                  refine lv_goto (tgt := 95) hx hb d_Mo_nowhere_129 (by decide) ?_
                  exact ih95 (i + 1) b0 lf (by omega) (cntB_no hc hno) (noYet_no hy hno) hlf _ _ (hP.sub [0, 1, 2, 3, 4, 5] rfl) (hD.sub [0, 1, 2, 3, 4, 5] (by decide) rfl) hS ls (lv_sub hl [1, 2, 0] rfl)
                · have hys : (fun i => (nwM inn pk ou ok og j7).testBit (7 - i)) i = true := by show (nwM inn pk ou ok og j7).testBit (7 - i) = true; rw [hnw]; exact bN_1.mp (by omega)
                  refine lv_iload hx hb d_Mo_nowhere_115 (lv_at hl 1 rfl) ?_
                  refine lv_if_ne (x := lf) (tgt := 123) hx hb d_Mo_nowhere_117 (by decide) (fun c117 => ?_) (fun c117 => ?_)
                  · refine lv_iinc (v := (lf + -1)) (lv' := [(5, .int (lf + -1)), (3, .int (nI b.1)), (6, .int (nI i))]) hx hb d_Mo_nowhere_123 hl (k := 1) rfl rfl (by decide) rfl (fun ls hl => ?_)
                    refine lv_iinc (v := nI (i + 1)) (lv' := [(6, .int (nI (i + 1))), (5, .int (lf + -1)), (3, .int (nI b.1))]) hx hb d_Mo_nowhere_126 hl (k := 2) rfl (bk_inc i) (by decide) rfl (fun ls hl => ?_)
                    refine lv_goto (tgt := 95) hx hb d_Mo_nowhere_129 (by decide) ?_
                    exact ih95 (i + 1) (b0 + 1) (lf + (-1)) (by omega) (cntB_yes hc hys) (noYet_ne hy hc (fun e9 => c117 (Int32.toInt_inj.mp (by rw [hlf, ← e9, nI_toInt (by omega)]; show ((b0 : Int) - b0) = 0; omega)))) (by rw [dec_toInt2 (by omega), hlf]; omega) _ _ (hP.sub [0, 1, 2, 3, 4, 5] rfl) (hD.sub [0, 1, 2, 3, 4, 5] (by decide) rfl) hS ls (lv_sub hl [2, 1, 0] rfl)
                  · refine lv_iload hx hb d_Mo_nowhere_120 (lv_at hl 2 rfl) ?_
                    have hP9 := hP.sub (ws' := [(mo, .inr (8, [.int (nI 0), .long sd, .ref m2, .ref m3, .ref m4, .ref m5, .ref m6, .ref m7, .ref m8, .int (nI pn), .ref m10, .ref m11, .ref m12, .ref m13, .ref m14, .ref m15, .int (nI as0), .int (nI dc), .ref m18, .int (nI tc), .ref m20, .ref m21, .ref m22, .ref m23, .ref m24, .ref m25, .ref m26])), (m10, .inl (cL, 8, .inr (.inl (aL inn)))), (m11, .inl (cI, 8, .inl (aI pk))), (m12, .inl (cI, 8, .inl (aI ou))), (m13, .inl (cI, 64, .inl (aI ok))), (m14, .inl (cL, 64, .inr (.inl (aL og))))]) [0, 1, 2, 3, 4, 5] rfl
                    have hD9 := hD.sub (ws' := [(mo, .inr (8, [.int (nI 0), .long sd, .ref m2, .ref m3, .ref m4, .ref m5, .ref m6, .ref m7, .ref m8, .int (nI pn), .ref m10, .ref m11, .ref m12, .ref m13, .ref m14, .ref m15, .int (nI as0), .int (nI dc), .ref m18, .int (nI tc), .ref m20, .ref m21, .ref m22, .ref m23, .ref m24, .ref m25, .ref m26])), (m10, .inl (cL, 8, .inr (.inl (aL inn)))), (m11, .inl (cI, 8, .inl (aI pk))), (m12, .inl (cI, 8, .inl (aI ou))), (m13, .inl (cI, 64, .inl (aI ok))), (m14, .inl (cL, 64, .inr (.inl (aL og))))]) [0, 1, 2, 3, 4, 5] (by decide) rfl
                    exact W.iret (v := nI i) hx hb hr (fun t9 ht9 hW9 => ⟨⟨nI i, (), rfl, Or.inl ⟨j7, hj7, hx7, some i, rfl, by omega, hys, nI_of_toInt (b := cntB (fun i => (nwM inn pk ou ok og j7).testBit (7 - i)) i) (by omega) (by rw [c117] at hlf; have h0 : (0 : Int32).toInt = 0 := (by decide); omega)⟩, by rw [ht9]; exact hP9, va_K.moved hW9.alike hK, hD9⟩, hS.F ht9⟩) hS.2.2 d_Mo_nowhere_122
            exact J95 8 0 0 y (by omega) rfl noYet_0 (by omega) _ _ (hP.sub [0, 1, 2, 3, 4, 5] rfl) (hD.sub [0, 1, 2, 3, 4, 5] (by decide) rfl) hS ls (lv_sub hl [5, 1, 0] rfl)
          | succ k ih42 =>
            intro q b hk hbb H locs hP hD hS ls hl
            have hb9 : b.2 ≤ 9 := by rw [hbb]; exact (lmS_lt q).2
            have hp8 := popc_le (255 - q)
            have hg2 := gsumM_le (ok := ok) (og := og) (pk := pk) (p := j7) (s := 255 - q) (ou j7) (fun i hi9 => (f4 i hi9).2)
            refine lv_iload hx hb d_Mo_nowhere_42 (lv_at hl 5 rfl) ?_
            refine bk_if_le (a := 255 - q) (tgt := 89) hx hb (by omega) d_Mo_nowhere_44 (by decide) (fun c44 => by exfalso; omega) (fun c44 => ?_)
            refine lv_iload hx hb d_Mo_nowhere_47 (lv_at hl 5 rfl) ?_
            refine vp_callSi (va_runS (As := [.int (nI (255 - q))]) (rest := []) ⟨hx, hb, hml, hown, htg⟩ (c_Mo_ones l dC dI cI cL cZ (255 - q) (by omega)) (va_cwS 1 htg (gdS k3_226 k3_227 k1_9 kc_Mo_ones) rfl rfl rfl (by decide +kernel) ⟨Nat.le_of_ble_eq_true rfl, Nat.le_of_ble_eq_true rfl⟩) ⟨bk_blind0, fun U hU hW => ⟨rfl, trivial⟩⟩ rfl rfl hl.1 rfl (lv_room (Nat.le_of_ble_eq_true rfl)) d_Mo_nowhere_49 ⟨Nat.le_of_ble_eq_true rfl, Nat.le_of_ble_eq_true rfl⟩).run (fun r49 e49 => ?_)
            subst e49
            refine lv_iload hx hb d_Mo_nowhere_52 (lv_at hl 4 rfl) ?_
            refine bk_icmp_ge (a := popc (255 - q)) (b := b.2) (tgt := 83) hx hb (by omega) (by omega) d_Mo_nowhere_54 (by decide) (fun c54 => ?_) (fun c54 => ?_)
            · refine lv_iinc (v := nI (255 - (q + 1))) (lv' := [(5, .int (nI (255 - (q + 1)))), (0, .ref mo), (1, .int x), (2, .int y), (3, .int (nI b.1)), (4, .int (nI b.2))]) hx hb d_Mo_nowhere_83 hl (k := 5) rfl (by rw [show 255 - (q + 1) = 255 - q - 1 by omega]; exact sb_m1 (by omega)) (by decide) rfl (fun ls hl => ?_)
              refine lv_goto (tgt := 42) hx hb d_Mo_nowhere_86 (by decide) ?_
              exact ih42 (q + 1) b (by omega) (by rw [hbb]; exact lmS_no (by rintro ⟨y1, y2⟩; rw [← hbb] at y1; omega)) _ _ (hP.sub [0, 1, 2, 3, 4, 5] rfl) (hD.sub [0, 1, 2, 3, 4, 5] (by decide) rfl) hS ls (lv_sub hl [1, 2, 3, 4, 5, 0] rfl)
            · refine lv_aload_n hx hb d_Mo_nowhere_57 rfl (lv_at hl 0 rfl) ?_
              refine lv_iload_n hx hb d_Mo_nowhere_58 rfl (lv_at hl 1 rfl) ?_
              refine bk_topi (y := nI j7) hx7 ?_
              refine lv_iload hx hb d_Mo_nowhere_59 (lv_at hl 5 rfl) ?_
              refine vp_callSl (va_runV (As := [.int (nI j7), .int (nI (255 - q))]) (rest := []) ⟨hx, hb, hml, hown, htg⟩ (c_Mo_ownIn l dC dI cI cL cZ mo 0 m2 m3 m4 m5 m6 m7 m8 pn m10 m11 m12 m13 m14 m15 as0 dc m18 tc m20 m21 m22 m23 m24 m25 m26 sd inn pk ou ok og j7 (255 - q) hi hj7 (by omega)) (cwV 2 htg (gdV k3_217 k3_219 ks_Mo_ownIn k1_9 kc_Mo_ownIn) rfl rfl rfl (by decide +kernel) ⟨Nat.le_of_ble_eq_true rfl, Nat.le_of_ble_eq_true rfl⟩) ⟨bk_blind, va_recv hK hP (ci := 8) (q0 := 0) rfl rfl, fun U hU hW => ⟨rfl, nw_warm hW hN, by rw [hU]; exact hP.sub [0, 1, 2, 3, 4, 5] rfl, va_K.moved hW.alike hK⟩⟩ rfl rfl hl.1 rfl (lv_room (Nat.le_of_ble_eq_true rfl)) d_Mo_nowhere_61 ⟨Nat.le_of_ble_eq_true rfl, Nat.le_of_ble_eq_true rfl⟩).run (fun r61 e61 => ?_)
              subst e61
              refine lv_aload_n hx hb d_Mo_nowhere_64 rfl (lv_at hl 0 rfl) ?_
              refine lv_iload_n hx hb d_Mo_nowhere_65 rfl (lv_at hl 1 rfl) ?_
              refine bk_topi (y := nI j7) hx7 ?_
              refine vp_callSl (va_runV (As := [.int (nI j7)]) (rest := [.long (lN (gsumM ok og pk j7 (255 - q) (ou j7)))]) ⟨hx, hb, hml, hown, htg⟩ (c_Mo_lack l dC dI cI cL cZ mo 0 m2 m3 m4 m5 m6 m7 m8 pn m10 m11 m12 m13 m14 m15 as0 dc m18 tc m20 m21 m22 m23 m24 m25 m26 sd inn pk ou ok og j7 hi hj7) (cwV 1 htg (gdV k3_213 k3_215 ks_Mo_lack k1_9 kc_Mo_lack) rfl rfl rfl (by decide +kernel) ⟨Nat.le_of_ble_eq_true rfl, Nat.le_of_ble_eq_true rfl⟩) ⟨bk_blind, va_recv hK hP (ci := 8) (q0 := 0) rfl rfl, fun U hU hW => ⟨rfl, nw_warm hW hN, by rw [hU]; exact hP.sub [0, 1, 2, 3, 4, 5] rfl, va_K.moved hW.alike hK⟩⟩ rfl rfl hl.1 rfl (lv_room (Nat.le_of_ble_eq_true rfl)) d_Mo_nowhere_66 ⟨Nat.le_of_ble_eq_true rfl, Nat.le_of_ble_eq_true rfl⟩).run (fun r66 e66 => ?_)
              subst e66
              refine bk_ncmp_lt (a := gsumM ok og pk j7 (255 - q) (ou j7)) (b := lackM inn pk ou ok og j7) (tgt := 83) hx hb (by omega) (by omega) d_Mo_nowhere_69 d_Mo_nowhere_70 (by decide) (fun c69 => ?_) (fun c69 => ?_)
              · refine lv_iinc (v := nI (255 - (q + 1))) (lv' := [(5, .int (nI (255 - (q + 1)))), (0, .ref mo), (1, .int x), (2, .int y), (3, .int (nI b.1)), (4, .int (nI b.2))]) hx hb d_Mo_nowhere_83 hl (k := 5) rfl (by rw [show 255 - (q + 1) = 255 - q - 1 by omega]; exact sb_m1 (by omega)) (by decide) rfl (fun ls hl => ?_)
                refine lv_goto (tgt := 42) hx hb d_Mo_nowhere_86 (by decide) ?_
                exact ih42 (q + 1) b (by omega) (by rw [hbb]; exact lmS_no (by rintro ⟨y1, y2⟩; rw [← hbb] at y1; omega)) _ _ (hP.sub [0, 1, 2, 3, 4, 5] rfl) (hD.sub [0, 1, 2, 3, 4, 5] (by decide) rfl) hS ls (lv_sub hl [1, 2, 3, 4, 5, 0] rfl)
              · refine lv_iload hx hb d_Mo_nowhere_73 (lv_at hl 5 rfl) ?_
                refine lv_istore_n (lv' := [(3, .int (nI (255 - q))), (0, .ref mo), (1, .int x), (2, .int y), (4, .int (nI b.2)), (5, .int (nI (255 - q)))]) hx hb d_Mo_nowhere_75 rfl hl (by decide) rfl (fun ls hl => ?_)
                refine lv_iload hx hb d_Mo_nowhere_76 (lv_at hl 5 rfl) ?_
                refine vp_callSi (va_runS (As := [.int (nI (255 - q))]) (rest := []) ⟨hx, hb, hml, hown, htg⟩ (c_Mo_ones l dC dI cI cL cZ (255 - q) (by omega)) (va_cwS 1 htg (gdS k3_226 k3_227 k1_9 kc_Mo_ones) rfl rfl rfl (by decide +kernel) ⟨Nat.le_of_ble_eq_true rfl, Nat.le_of_ble_eq_true rfl⟩) ⟨bk_blind0, fun U hU hW => ⟨rfl, trivial⟩⟩ rfl rfl hl.1 rfl (lv_room (Nat.le_of_ble_eq_true rfl)) d_Mo_nowhere_78 ⟨Nat.le_of_ble_eq_true rfl, Nat.le_of_ble_eq_true rfl⟩).run (fun r78 e78 => ?_)
                subst e78
                refine lv_istore (lv' := [(4, .int (nI (popc (255 - q)))), (3, .int (nI (255 - q))), (0, .ref mo), (1, .int x), (2, .int y), (5, .int (nI (255 - q)))]) hx hb d_Mo_nowhere_81 hl (by decide) rfl (fun ls hl => ?_)
                refine lv_iinc (v := nI (255 - (q + 1))) (lv' := [(5, .int (nI (255 - (q + 1)))), (4, .int (nI (popc (255 - q)))), (3, .int (nI (255 - q))), (0, .ref mo), (1, .int x), (2, .int y)]) hx hb d_Mo_nowhere_83 hl (k := 5) rfl (by rw [show 255 - (q + 1) = 255 - q - 1 by omega]; exact sb_m1 (by omega)) (by decide) rfl (fun ls hl => ?_)
                refine lv_goto (tgt := 42) hx hb d_Mo_nowhere_86 (by decide) ?_
                exact ih42 (q + 1) (255 - q, popc (255 - q)) (by omega) (lmS_yes (by rw [← hbb]; exact c54) c69) _ _ (hP.sub [0, 1, 2, 3, 4, 5] rfl) (hD.sub [0, 1, 2, 3, 4, 5] (by decide) rfl) hS ls (lv_sub hl [3, 4, 5, 2, 1, 0] rfl)
        exact J42 255 0 (255, 9) (by omega) rfl _ _ (hP.sub [0, 1, 2, 3, 4, 5] rfl) (hD.sub [0, 1, 2, 3, 4, 5] (by decide) rfl) hS ls (lv_sub hl [3, 4, 5, 2, 1, 0] rfl)
      · refine lv_iconst (v := oI none) hx hb d_Mo_nowhere_27 (by decide +kernel) ?_
        have hP9 := hP.sub (ws' := [(mo, .inr (8, [.int (nI 0), .long sd, .ref m2, .ref m3, .ref m4, .ref m5, .ref m6, .ref m7, .ref m8, .int (nI pn), .ref m10, .ref m11, .ref m12, .ref m13, .ref m14, .ref m15, .int (nI as0), .int (nI dc), .ref m18, .int (nI tc), .ref m20, .ref m21, .ref m22, .ref m23, .ref m24, .ref m25, .ref m26])), (m10, .inl (cL, 8, .inr (.inl (aL inn)))), (m11, .inl (cI, 8, .inl (aI pk))), (m12, .inl (cI, 8, .inl (aI ou))), (m13, .inl (cI, 64, .inl (aI ok))), (m14, .inl (cL, 64, .inr (.inl (aL og))))]) [0, 1, 2, 3, 4, 5] rfl
        have hD9 := hD.sub (ws' := [(mo, .inr (8, [.int (nI 0), .long sd, .ref m2, .ref m3, .ref m4, .ref m5, .ref m6, .ref m7, .ref m8, .int (nI pn), .ref m10, .ref m11, .ref m12, .ref m13, .ref m14, .ref m15, .int (nI as0), .int (nI dc), .ref m18, .int (nI tc), .ref m20, .ref m21, .ref m22, .ref m23, .ref m24, .ref m25, .ref m26])), (m10, .inl (cL, 8, .inr (.inl (aL inn)))), (m11, .inl (cI, 8, .inl (aI pk))), (m12, .inl (cI, 8, .inl (aI ou))), (m13, .inl (cI, 64, .inl (aI ok))), (m14, .inl (cL, 64, .inr (.inl (aL og))))]) [0, 1, 2, 3, 4, 5] (by decide) rfl
        exact W.iret (v := oI none) hx hb hr (fun t9 ht9 hW9 => ⟨⟨oI none, (), rfl, Or.inl ⟨j7, hj7, hx7, none, rfl, by first | exact kth_neg (by decide) c14 | (rw [nwM, if_pos c23]; exact kth_0)⟩, by rw [ht9]; exact hP9, va_K.moved hW9.alike hK, hD9⟩, hS.F ht9⟩) hS.2.2 d_Mo_nowhere_28
  · refine bk_if_eq (a := 0) (tgt := 27) hx hb (by omega) d_Mo_nowhere_10 (by decide) (fun c10 => ?_) (fun c10 => absurd c10 (by decide))
    refine lv_iconst (v := oI none) hx hb d_Mo_nowhere_27 (by decide +kernel) ?_
    have hP9 := hP.sub (ws' := [(mo, .inr (8, [.int (nI 0), .long sd, .ref m2, .ref m3, .ref m4, .ref m5, .ref m6, .ref m7, .ref m8, .int (nI pn), .ref m10, .ref m11, .ref m12, .ref m13, .ref m14, .ref m15, .int (nI as0), .int (nI dc), .ref m18, .int (nI tc), .ref m20, .ref m21, .ref m22, .ref m23, .ref m24, .ref m25, .ref m26])), (m10, .inl (cL, 8, .inr (.inl (aL inn)))), (m11, .inl (cI, 8, .inl (aI pk))), (m12, .inl (cI, 8, .inl (aI ou))), (m13, .inl (cI, 64, .inl (aI ok))), (m14, .inl (cL, 64, .inr (.inl (aL og))))]) [0, 1, 2, 3, 4, 5] rfl
    have hD9 := hD.sub (ws' := [(mo, .inr (8, [.int (nI 0), .long sd, .ref m2, .ref m3, .ref m4, .ref m5, .ref m6, .ref m7, .ref m8, .int (nI pn), .ref m10, .ref m11, .ref m12, .ref m13, .ref m14, .ref m15, .int (nI as0), .int (nI dc), .ref m18, .int (nI tc), .ref m20, .ref m21, .ref m22, .ref m23, .ref m24, .ref m25, .ref m26])), (m10, .inl (cL, 8, .inr (.inl (aL inn)))), (m11, .inl (cI, 8, .inl (aI pk))), (m12, .inl (cI, 8, .inl (aI ou))), (m13, .inl (cI, 64, .inl (aI ok))), (m14, .inl (cL, 64, .inr (.inl (aL og))))]) [0, 1, 2, 3, 4, 5] (by decide) rfl
    exact W.iret (v := oI none) hx hb hr (fun t9 ht9 hW9 => ⟨⟨oI none, (), rfl, Or.inr ⟨n7, rfl⟩, by rw [ht9]; exact hP9, va_K.moved hW9.alike hK, hD9⟩, hS.F ht9⟩) hS.2.2 d_Mo_nowhere_28
set_option maxHeartbeats 4000000 in
set_option maxRecDepth 100000 in
theorem c_Mo_risk (l : Launch) (dC : Nat → ClassId) (dI : Nat → Nat → Nat) (cI cL cZ : ClassId) (sz : Nat) (mo co m2 m3 m4 m5 m6 m7 m8 pn m10 m11 m12 m13 m14 m15 as0 dc m18 tc m20 m21 m22 m23 m24 m25 m26 : Nat) (sd : Int64) (wt : Nat → Nat) (x1 x2 x3 : Int32) : Met l y_Mo_risk ws_Mo_risk { frames := 1, cells := 0, slots := 0, locals := 20 } (va_Pc [.ref mo, .int x1, .int x2, .int x3] (wrP (dC, dI) vwCl [(cI, .int), (cL, .long), (cZ, .boolean)] [(mo, .inr (8, [.int (nI co), .long sd, .ref m2, .ref m3, .ref m4, .ref m5, .ref m6, .ref m7, .ref m8, .int (nI pn), .ref m10, .ref m11, .ref m12, .ref m13, .ref m14, .ref m15, .int (nI as0), .int (nI dc), .ref m18, .int (nI tc), .ref m20, .ref m21, .ref m22, .ref m23, .ref m24, .ref m25, .ref m26])), (m15, .inl (cI, 10, .inl (aI wt)))] sz)) (va_Qi (fun (r : Int32) (u : (Nat → Nat) × Nat) => (setOk x1 x2 x3 ∧ r = nI 1 ∧ u = (va_up wt (tn x1) (2520 / tn x3 * tn x2), 0)) ∨ (¬ setOk x1 x2 x3 ∧ r = nI 0 ∧ u = (wt, 0))) (fun (u : (Nat → Nat) × Nat) => wrQ (dC, dI) vwCl [(cI, .int), (cL, .long), (cZ, .boolean)] (va_A [(mo, .inr (8, [.int (nI co), .long sd, .ref m2, .ref m3, .ref m4, .ref m5, .ref m6, .ref m7, .ref m8, .int (nI pn), .ref m10, .ref m11, .ref m12, .ref m13, .ref m14, .ref m15, .int (nI as0), .int (nI dc), .ref m18, .int (nI tc), .ref m20, .ref m21, .ref m22, .ref m23, .ref m24, .ref m25, .ref m26])), (m15, .inl (cI, 10, .inl (aI wt)))] sz) [(mo, .inr (8, [.int (nI 0), .long sd, .ref m2, .ref m3, .ref m4, .ref m5, .ref m6, .ref m7, .ref m8, .int (nI pn), .ref m10, .ref m11, .ref m12, .ref m13, .ref m14, .ref m15, .int (nI as0), .int (nI dc), .ref m18, .int (nI tc), .ref m20, .ref m21, .ref m22, .ref m23, .ref m24, .ref m25, .ref m26])), (m15, .inl (cI, 10, .inl (aI u.1)))]) (va_A [(mo, .inr (8, [.int (nI co), .long sd, .ref m2, .ref m3, .ref m4, .ref m5, .ref m6, .ref m7, .ref m8, .int (nI pn), .ref m10, .ref m11, .ref m12, .ref m13, .ref m14, .ref m15, .int (nI as0), .int (nI dc), .ref m18, .int (nI tc), .ref m20, .ref m21, .ref m22, .ref m23, .ref m24, .ref m25, .ref m26])), (m15, .inl (cI, 10, .inl (aI wt)))] sz)) 0 0 (va_A [(mo, .inr (8, [.int (nI co), .long sd, .ref m2, .ref m3, .ref m4, .ref m5, .ref m6, .ref m7, .ref m8, .int (nI pn), .ref m10, .ref m11, .ref m12, .ref m13, .ref m14, .ref m15, .int (nI as0), .int (nI dc), .ref m18, .int (nI tc), .ref m20, .ref m21, .ref m22, .ref m23, .ref m24, .ref m25, .ref m26])), (m15, .inl (cI, 10, .inl (aI wt)))] sz) := by
  refine Met.ofW (cc := b_Mo_risk) (maxL := 4) (ret := (some .boolean)) (by decide) rfl ?_
  intro pr en s m args below meth c s₁ B hml hv
  obtain ⟨rfl, hN, hsz, hP, hK, hD0⟩ := hv
  have hx := B.exec
  have hb := B.bytes
  have hr := B.returns
  have hts := atoms_spec (ws := ws_Mo_risk) B.pre
  have htg : ∀ w ∈ gW, w.before _ s = true := fun w h => hts w (List.mem_cons_of_mem _ h)
  have hown : s.vm.findClass R_Mo = some m.cls := findClass_of_methodNamed B.named
  have hlocks := B.notSynchronized
  subst hsz
  have hD := hD0.self (sz := s.heap.size)
  generalize hAe : va_A [(mo, .inr (8, [.int (nI co), .long sd, .ref m2, .ref m3, .ref m4, .ref m5, .ref m6, .ref m7, .ref m8, .int (nI pn), .ref m10, .ref m11, .ref m12, .ref m13, .ref m14, .ref m15, .int (nI as0), .int (nI dc), .ref m18, .int (nI tc), .ref m20, .ref m21, .ref m22, .ref m23, .ref m24, .ref m25, .ref m26])), (m15, .inl (cI, 10, .inl (aI wt)))] s.heap.size = A at hD ⊢
  have hA : ∀ q : Nat, s.heap.size ≤ q → A q := fun q h => by rw [← hAe]; exact Or.inr h
  have hS : va_S A s.heap s.heap [] := va_S.rf
  have hP : va_P (dC, dI) vwCl [(mo, .inr (8, [.int (nI co), .long sd, .ref m2, .ref m3, .ref m4, .ref m5, .ref m6, .ref m7, .ref m8, .int (nI pn), .ref m10, .ref m11, .ref m12, .ref m13, .ref m14, .ref m15, .int (nI as0), .int (nI dc), .ref m18, .int (nI tc), .ref m20, .ref m21, .ref m22, .ref m23, .ref m24, .ref m25, .ref m26])), (m15, .inl (cI, 10, .inl (aI wt)))] s.heap := hP
  have hl := lv_entry ([.ref mo, .int x1, .int x2, .int x3]) (n := 4) (Nat.le_of_ble_eq_true rfl)
  rw [lg_entry_eq]
  generalize (lg_sl ([.ref mo, .int x1, .int x2, .int x3]) ++ List.replicate (4 - (lg_sl ([.ref mo, .int x1, .int x2, .int x3])).length) Slot.unset).toArray = ls at hl ⊢
  have hl : lv_has ls 4 [(0, .ref mo), (1, .int x1), (2, .int x2), (3, .int x3)] := hl
  refine lv_aload_n hx hb d_Mo_risk_0 rfl (lv_at hl 0 rfl) ?_
  refine lv_iconst (v := nI 0) hx hb d_Mo_risk_1 (by decide +kernel) ?_
  refine va_put (D := (dC, dI)) (ci := 8) (v := .int (nI 0)) (ty := (t_Mo 0)) (C := R_Mo) (T := F_Mo) (N := 27) hx hb htg iw_Mo t_Mo tk_Mo nm_Mo hown hK hP hD hS 0 rfl rfl 0 (by decide) (htg _ k3_52) (fun _ h9 => h9) rfl (by decide +kernel) rfl rfl (Nat.le_of_ble_eq_true rfl) d_Mo_risk_2 (fun H locs hP hD hS => ?_)
  have hP : va_P (dC, dI) vwCl [(mo, .inr (8, [.int (nI 0), .long sd, .ref m2, .ref m3, .ref m4, .ref m5, .ref m6, .ref m7, .ref m8, .int (nI pn), .ref m10, .ref m11, .ref m12, .ref m13, .ref m14, .ref m15, .int (nI as0), .int (nI dc), .ref m18, .int (nI tc), .ref m20, .ref m21, .ref m22, .ref m23, .ref m24, .ref m25, .ref m26])), (m15, .inl (cI, 10, .inl (aI wt)))] H := hP
  have hD : va_D A [(mo, .inr (8, [.int (nI 0), .long sd, .ref m2, .ref m3, .ref m4, .ref m5, .ref m6, .ref m7, .ref m8, .int (nI pn), .ref m10, .ref m11, .ref m12, .ref m13, .ref m14, .ref m15, .int (nI as0), .int (nI dc), .ref m18, .int (nI tc), .ref m20, .ref m21, .ref m22, .ref m23, .ref m24, .ref m25, .ref m26])), (m15, .inl (cI, 10, .inl (aI wt)))] := hD
  refine lv_iload_n hx hb d_Mo_risk_5 rfl (lv_at hl 1 rfl) ?_
  refine vp_callSi (va_runS (As := [.int x1]) (rest := []) ⟨hx, hb, hml, hown, htg⟩ (c_Mo_isTen l dC dI cI cL cZ x1 ) (va_cwS 1 htg (gdS k3_147 k3_148 k1_9 kc_Mo_isTen) rfl rfl rfl (by decide +kernel) ⟨Nat.le_of_ble_eq_true rfl, Nat.le_of_ble_eq_true rfl⟩) ⟨bk_blind0, fun U hU hW => ⟨rfl, trivial⟩⟩ rfl rfl hl.1 rfl (lv_room (Nat.le_of_ble_eq_true rfl)) d_Mo_risk_6 ⟨Nat.le_of_ble_eq_true rfl, Nat.le_of_ble_eq_true rfl⟩).run (fun r6 e6 => ?_)
  rcases e6 with ⟨⟨j6, hj6, hx6⟩, rfl⟩ | ⟨n6, rfl⟩
  · refine bk_if_eq (a := 1) (tgt := 32) hx hb (by omega) d_Mo_risk_9 (by decide) (fun c9 => absurd c9 (by decide)) (fun c9 => ?_)
    refine lv_iload_n hx hb d_Mo_risk_12 rfl (lv_at hl 3 rfl) ?_
    refine lv_iconst (v := nI 1) hx hb d_Mo_risk_13 (by decide +kernel) ?_
    refine lv_icmp_lt (x := x3) (y := nI 1) (tgt := 32) hx hb d_Mo_risk_14 (by decide) (fun c14 => ?_) (fun c14 => ?_)
    · refine lv_iconst (v := nI 0) hx hb d_Mo_risk_32 (by decide +kernel) ?_
      have hP9 := hP.sub (ws' := [(mo, .inr (8, [.int (nI 0), .long sd, .ref m2, .ref m3, .ref m4, .ref m5, .ref m6, .ref m7, .ref m8, .int (nI pn), .ref m10, .ref m11, .ref m12, .ref m13, .ref m14, .ref m15, .int (nI as0), .int (nI dc), .ref m18, .int (nI tc), .ref m20, .ref m21, .ref m22, .ref m23, .ref m24, .ref m25, .ref m26])), (m15, .inl (cI, 10, .inl (aI wt)))]) [0, 1] rfl
      have hD9 := hD.sub (ws' := [(mo, .inr (8, [.int (nI 0), .long sd, .ref m2, .ref m3, .ref m4, .ref m5, .ref m6, .ref m7, .ref m8, .int (nI pn), .ref m10, .ref m11, .ref m12, .ref m13, .ref m14, .ref m15, .int (nI as0), .int (nI dc), .ref m18, .int (nI tc), .ref m20, .ref m21, .ref m22, .ref m23, .ref m24, .ref m25, .ref m26])), (m15, .inl (cI, 10, .inl (aI wt)))]) [0, 1] (by decide) rfl
      exact W.zret (v := nI 0) (ty := .boolean) hx hb hr rfl (fun t9 ht9 hW9 => ⟨⟨nI 0, (wt, 0), rfl, Or.inr ⟨fun z9 => by obtain ⟨y1, a, b, y2, y3, y4, y5, y6⟩ := z9; first | exact n6 y1 | exact no_lt1 y6 y2 (by omega) c14 | exact no_gt y6 (by omega) (by decide) (by omega) c20 | exact (by rw [y5] at c24; exact nI_pos (by omega) c24) | exact (by rw [y5, y6] at c29; exact c29 (nI_le y4 (by omega))), rfl, rfl⟩, by rw [ht9]; exact hP9, va_K.moved hW9.alike hK, hD9⟩, hS.F ht9⟩) hS.2.2 d_Mo_risk_33
    · refine lv_iload_n hx hb d_Mo_risk_17 rfl (lv_at hl 3 rfl) ?_
      refine lv_bipush (v := nI 10) hx hb d_Mo_risk_18 (by decide +kernel) ?_
      refine lv_icmp_gt (x := x3) (y := nI 10) (tgt := 32) hx hb d_Mo_risk_20 (by decide) (fun c20 => ?_) (fun c20 => ?_)
      · refine lv_iconst (v := nI 0) hx hb d_Mo_risk_32 (by decide +kernel) ?_
        have hP9 := hP.sub (ws' := [(mo, .inr (8, [.int (nI 0), .long sd, .ref m2, .ref m3, .ref m4, .ref m5, .ref m6, .ref m7, .ref m8, .int (nI pn), .ref m10, .ref m11, .ref m12, .ref m13, .ref m14, .ref m15, .int (nI as0), .int (nI dc), .ref m18, .int (nI tc), .ref m20, .ref m21, .ref m22, .ref m23, .ref m24, .ref m25, .ref m26])), (m15, .inl (cI, 10, .inl (aI wt)))]) [0, 1] rfl
        have hD9 := hD.sub (ws' := [(mo, .inr (8, [.int (nI 0), .long sd, .ref m2, .ref m3, .ref m4, .ref m5, .ref m6, .ref m7, .ref m8, .int (nI pn), .ref m10, .ref m11, .ref m12, .ref m13, .ref m14, .ref m15, .int (nI as0), .int (nI dc), .ref m18, .int (nI tc), .ref m20, .ref m21, .ref m22, .ref m23, .ref m24, .ref m25, .ref m26])), (m15, .inl (cI, 10, .inl (aI wt)))]) [0, 1] (by decide) rfl
        exact W.zret (v := nI 0) (ty := .boolean) hx hb hr rfl (fun t9 ht9 hW9 => ⟨⟨nI 0, (wt, 0), rfl, Or.inr ⟨fun z9 => by obtain ⟨y1, a, b, y2, y3, y4, y5, y6⟩ := z9; first | exact n6 y1 | exact no_lt1 y6 y2 (by omega) c14 | exact no_gt y6 (by omega) (by decide) (by omega) c20 | exact (by rw [y5] at c24; exact nI_pos (by omega) c24) | exact (by rw [y5, y6] at c29; exact c29 (nI_le y4 (by omega))), rfl, rfl⟩, by rw [ht9]; exact hP9, va_K.moved hW9.alike hK, hD9⟩, hS.F ht9⟩) hS.2.2 d_Mo_risk_33
      · refine lv_iload_n hx hb d_Mo_risk_23 rfl (lv_at hl 2 rfl) ?_
        refine lv_if_lt (x := x2) (tgt := 32) hx hb d_Mo_risk_24 (by decide) (fun c24 => ?_) (fun c24 => ?_)
        · refine lv_iconst (v := nI 0) hx hb d_Mo_risk_32 (by decide +kernel) ?_
          have hP9 := hP.sub (ws' := [(mo, .inr (8, [.int (nI 0), .long sd, .ref m2, .ref m3, .ref m4, .ref m5, .ref m6, .ref m7, .ref m8, .int (nI pn), .ref m10, .ref m11, .ref m12, .ref m13, .ref m14, .ref m15, .int (nI as0), .int (nI dc), .ref m18, .int (nI tc), .ref m20, .ref m21, .ref m22, .ref m23, .ref m24, .ref m25, .ref m26])), (m15, .inl (cI, 10, .inl (aI wt)))]) [0, 1] rfl
          have hD9 := hD.sub (ws' := [(mo, .inr (8, [.int (nI 0), .long sd, .ref m2, .ref m3, .ref m4, .ref m5, .ref m6, .ref m7, .ref m8, .int (nI pn), .ref m10, .ref m11, .ref m12, .ref m13, .ref m14, .ref m15, .int (nI as0), .int (nI dc), .ref m18, .int (nI tc), .ref m20, .ref m21, .ref m22, .ref m23, .ref m24, .ref m25, .ref m26])), (m15, .inl (cI, 10, .inl (aI wt)))]) [0, 1] (by decide) rfl
          exact W.zret (v := nI 0) (ty := .boolean) hx hb hr rfl (fun t9 ht9 hW9 => ⟨⟨nI 0, (wt, 0), rfl, Or.inr ⟨fun z9 => by obtain ⟨y1, a, b, y2, y3, y4, y5, y6⟩ := z9; first | exact n6 y1 | exact no_lt1 y6 y2 (by omega) c14 | exact no_gt y6 (by omega) (by decide) (by omega) c20 | exact (by rw [y5] at c24; exact nI_pos (by omega) c24) | exact (by rw [y5, y6] at c29; exact c29 (nI_le y4 (by omega))), rfl, rfl⟩, by rw [ht9]; exact hP9, va_K.moved hW9.alike hK, hD9⟩, hS.F ht9⟩) hS.2.2 d_Mo_risk_33
        · refine lv_iload_n hx hb d_Mo_risk_27 rfl (lv_at hl 2 rfl) ?_
          refine lv_iload_n hx hb d_Mo_risk_28 rfl (lv_at hl 3 rfl) ?_
          refine lv_icmp_le (x := x2) (y := x3) (tgt := 34) hx hb d_Mo_risk_29 (by decide) (fun c29 => ?_) (fun c29 => ?_)
          · obtain ⟨b, hb3, hxb⟩ := inR_le (n := 10) (by decide) (lt1_nn c14) c20
            have hb1 : 1 ≤ b := lt1_pos c14 hxb (by omega)
            obtain ⟨a, ha3, hxa⟩ := le_nI c24 (by rw [hxb] at c29; exact c29) (by omega)
            refine lv_aload_n hx hb d_Mo_risk_34 rfl (lv_at hl 0 rfl) ?_
            refine va_get (D := (dC, dI)) (ci := 8) (v := .ref m15) (C := R_Mo) (T := F_Mo) (N := 27) hx hb htg iw_Mo hown hK hP 0 rfl rfl 15 (by decide) (htg _ k3_67) (fun _ h9 => h9) rfl d_Mo_risk_35 ?_
            refine lv_iload_n hx hb d_Mo_risk_38 rfl (lv_at hl 1 rfl) ?_
            refine bk_topi (y := nI j6) hx6 ?_
            refine lv_sipush (v := nI 2520) hx hb d_Mo_risk_39 (by decide +kernel) ?_
            refine lv_iload_n hx hb d_Mo_risk_42 rfl (lv_at hl 3 rfl) ?_
            refine bk_topi (y := nI b) hxb ?_
            refine bk_idiv hx hb (by omega) (by omega) (by omega) d_Mo_risk_43 ?_
            refine lv_iload_n hx hb d_Mo_risk_44 rfl (lv_at hl 2 rfl) ?_
            refine bk_topi (y := nI a) hxa ?_
            refine bk_imul hx hb d_Mo_risk_45 ?_
            refine bk_iast (x := nI ((2520 / b) * a)) (f2 := aI (va_up wt j6 ((2520 / b) * a))) hx hb hK hP hD hS 1 0 rfl rfl (by omega) (by decide) (aI_up _ _ _) d_Mo_risk_46 (fun H locs hP hD hS => ?_)
            have hP : va_P (dC, dI) vwCl [(mo, .inr (8, [.int (nI 0), .long sd, .ref m2, .ref m3, .ref m4, .ref m5, .ref m6, .ref m7, .ref m8, .int (nI pn), .ref m10, .ref m11, .ref m12, .ref m13, .ref m14, .ref m15, .int (nI as0), .int (nI dc), .ref m18, .int (nI tc), .ref m20, .ref m21, .ref m22, .ref m23, .ref m24, .ref m25, .ref m26])), (m15, .inl (cI, 10, .inl (aI (va_up wt j6 ((2520 / b) * a)))))] H := hP
            have hD : va_D A [(mo, .inr (8, [.int (nI 0), .long sd, .ref m2, .ref m3, .ref m4, .ref m5, .ref m6, .ref m7, .ref m8, .int (nI pn), .ref m10, .ref m11, .ref m12, .ref m13, .ref m14, .ref m15, .int (nI as0), .int (nI dc), .ref m18, .int (nI tc), .ref m20, .ref m21, .ref m22, .ref m23, .ref m24, .ref m25, .ref m26])), (m15, .inl (cI, 10, .inl (aI (va_up wt j6 ((2520 / b) * a)))))] := hD
            refine lv_iconst (v := nI 1) hx hb d_Mo_risk_47 (by decide +kernel) ?_
            have hP9 := hP.sub (ws' := [(mo, .inr (8, [.int (nI 0), .long sd, .ref m2, .ref m3, .ref m4, .ref m5, .ref m6, .ref m7, .ref m8, .int (nI pn), .ref m10, .ref m11, .ref m12, .ref m13, .ref m14, .ref m15, .int (nI as0), .int (nI dc), .ref m18, .int (nI tc), .ref m20, .ref m21, .ref m22, .ref m23, .ref m24, .ref m25, .ref m26])), (m15, .inl (cI, 10, .inl (aI (va_up wt j6 (2520 / b * a)))))]) [0, 1] rfl
            have hD9 := hD.sub (ws' := [(mo, .inr (8, [.int (nI 0), .long sd, .ref m2, .ref m3, .ref m4, .ref m5, .ref m6, .ref m7, .ref m8, .int (nI pn), .ref m10, .ref m11, .ref m12, .ref m13, .ref m14, .ref m15, .int (nI as0), .int (nI dc), .ref m18, .int (nI tc), .ref m20, .ref m21, .ref m22, .ref m23, .ref m24, .ref m25, .ref m26])), (m15, .inl (cI, 10, .inl (aI (va_up wt j6 (2520 / b * a)))))]) [0, 1] (by decide) rfl
            exact W.zret (v := nI 1) (ty := .boolean) hx hb hr rfl (fun t9 ht9 hW9 => ⟨⟨nI 1, (va_up wt j6 (2520 / b * a), 0), rfl, Or.inl ⟨⟨⟨j6, hj6, hx6⟩, a, b, hb1, by omega, by omega, hxa, hxb⟩, rfl, by rw [hx6, hxb, hxa, tn_nI (by omega), tn_nI (by omega), tn_nI (by omega)]⟩, by rw [ht9]; exact hP9, va_K.moved hW9.alike hK, hD9⟩, hS.F ht9⟩) hS.2.2 d_Mo_risk_48
          · refine lv_iconst (v := nI 0) hx hb d_Mo_risk_32 (by decide +kernel) ?_
            have hP9 := hP.sub (ws' := [(mo, .inr (8, [.int (nI 0), .long sd, .ref m2, .ref m3, .ref m4, .ref m5, .ref m6, .ref m7, .ref m8, .int (nI pn), .ref m10, .ref m11, .ref m12, .ref m13, .ref m14, .ref m15, .int (nI as0), .int (nI dc), .ref m18, .int (nI tc), .ref m20, .ref m21, .ref m22, .ref m23, .ref m24, .ref m25, .ref m26])), (m15, .inl (cI, 10, .inl (aI wt)))]) [0, 1] rfl
            have hD9 := hD.sub (ws' := [(mo, .inr (8, [.int (nI 0), .long sd, .ref m2, .ref m3, .ref m4, .ref m5, .ref m6, .ref m7, .ref m8, .int (nI pn), .ref m10, .ref m11, .ref m12, .ref m13, .ref m14, .ref m15, .int (nI as0), .int (nI dc), .ref m18, .int (nI tc), .ref m20, .ref m21, .ref m22, .ref m23, .ref m24, .ref m25, .ref m26])), (m15, .inl (cI, 10, .inl (aI wt)))]) [0, 1] (by decide) rfl
            exact W.zret (v := nI 0) (ty := .boolean) hx hb hr rfl (fun t9 ht9 hW9 => ⟨⟨nI 0, (wt, 0), rfl, Or.inr ⟨fun z9 => by obtain ⟨y1, a, b, y2, y3, y4, y5, y6⟩ := z9; first | exact n6 y1 | exact no_lt1 y6 y2 (by omega) c14 | exact no_gt y6 (by omega) (by decide) (by omega) c20 | exact (by rw [y5] at c24; exact nI_pos (by omega) c24) | exact (by rw [y5, y6] at c29; exact c29 (nI_le y4 (by omega))), rfl, rfl⟩, by rw [ht9]; exact hP9, va_K.moved hW9.alike hK, hD9⟩, hS.F ht9⟩) hS.2.2 d_Mo_risk_33
  · refine bk_if_eq (a := 0) (tgt := 32) hx hb (by omega) d_Mo_risk_9 (by decide) (fun c9 => ?_) (fun c9 => absurd c9 (by decide))
    refine lv_iconst (v := nI 0) hx hb d_Mo_risk_32 (by decide +kernel) ?_
    have hP9 := hP.sub (ws' := [(mo, .inr (8, [.int (nI 0), .long sd, .ref m2, .ref m3, .ref m4, .ref m5, .ref m6, .ref m7, .ref m8, .int (nI pn), .ref m10, .ref m11, .ref m12, .ref m13, .ref m14, .ref m15, .int (nI as0), .int (nI dc), .ref m18, .int (nI tc), .ref m20, .ref m21, .ref m22, .ref m23, .ref m24, .ref m25, .ref m26])), (m15, .inl (cI, 10, .inl (aI wt)))]) [0, 1] rfl
    have hD9 := hD.sub (ws' := [(mo, .inr (8, [.int (nI 0), .long sd, .ref m2, .ref m3, .ref m4, .ref m5, .ref m6, .ref m7, .ref m8, .int (nI pn), .ref m10, .ref m11, .ref m12, .ref m13, .ref m14, .ref m15, .int (nI as0), .int (nI dc), .ref m18, .int (nI tc), .ref m20, .ref m21, .ref m22, .ref m23, .ref m24, .ref m25, .ref m26])), (m15, .inl (cI, 10, .inl (aI wt)))]) [0, 1] (by decide) rfl
    exact W.zret (v := nI 0) (ty := .boolean) hx hb hr rfl (fun t9 ht9 hW9 => ⟨⟨nI 0, (wt, 0), rfl, Or.inr ⟨fun z9 => by obtain ⟨y1, a, b, y2, y3, y4, y5, y6⟩ := z9; first | exact n6 y1 | exact no_lt1 y6 y2 (by omega) c14 | exact no_gt y6 (by omega) (by decide) (by omega) c20 | exact (by rw [y5] at c24; exact nI_pos (by omega) c24) | exact (by rw [y5, y6] at c29; exact c29 (nI_le y4 (by omega))), rfl, rfl⟩, by rw [ht9]; exact hP9, va_K.moved hW9.alike hK, hD9⟩, hS.F ht9⟩) hS.2.2 d_Mo_risk_33
