set_option maxHeartbeats 4000000 in
set_option maxRecDepth 100000 in
theorem c_B_page (l : Launch) (dC : Nat → ClassId) (dI : Nat → Nat → Nat) (cI cL cZ : ClassId) (sz : Nat) (xo up us uj ul uk ut uq uw uc : Nat) (sd : Int64) (a1 a2 a3 a4 n : Nat) (sh dy kd gr : Nat → Nat) (x1 x2 x3 : Int32) (x4 : Int64) (hn : n ≤ 30) : Met l y_B_page ws_B_page { frames := 2, cells := 0, slots := 0, locals := 47 } (va_Pc [.ref xo, .int x1, .int x2, .int x3, .long x4] (wrP (dC, dI) vwCl [(cI, .int), (cL, .long), (cZ, .boolean)] [(xo, .inr (0, [.long sd, .ref up, .ref us, .ref uj, .ref ul, .ref uk, .ref ut, .ref uq, .ref uw, .ref uc])), (up, .inr (1, [.ref a1, .ref a2, .ref a3, .ref a4, .int (nI n)])), (a1, .inl (cI, 30, .inl (aI sh))), (a2, .inl (cI, 30, .inl (aI dy))), (a3, .inl (cI, 30, .inl (aI kd))), (a4, .inl (cL, 30, .inr (.inl (aL gr))))] sz)) (va_Qi (fun (r : Int32) (u : Nat × (Nat → Nat) × (Nat → Nat) × (Nat → Nat) × (Nat → Nat)) => (addOk n x1 x2 x3 x4 ∧ r = nI n ∧ u = (n + 1, va_up sh n (tn x1), va_up dy n (tn x2), va_up kd n (tn x3), va_up gr n (tl x4))) ∨ (¬ addOk n x1 x2 x3 x4 ∧ r = oI none ∧ u = (n, sh, dy, kd, gr))) (fun (u : Nat × (Nat → Nat) × (Nat → Nat) × (Nat → Nat) × (Nat → Nat)) => wrQ (dC, dI) vwCl [(cI, .int), (cL, .long), (cZ, .boolean)] (va_A [(xo, .inr (0, [.long sd, .ref up, .ref us, .ref uj, .ref ul, .ref uk, .ref ut, .ref uq, .ref uw, .ref uc])), (up, .inr (1, [.ref a1, .ref a2, .ref a3, .ref a4, .int (nI n)])), (a1, .inl (cI, 30, .inl (aI sh))), (a2, .inl (cI, 30, .inl (aI dy))), (a3, .inl (cI, 30, .inl (aI kd))), (a4, .inl (cL, 30, .inr (.inl (aL gr))))] sz) [(xo, .inr (0, [.long sd, .ref up, .ref us, .ref uj, .ref ul, .ref uk, .ref ut, .ref uq, .ref uw, .ref uc])), (up, .inr (1, [.ref a1, .ref a2, .ref a3, .ref a4, .int (nI u.1)])), (a1, .inl (cI, 30, .inl (aI u.2.1))), (a2, .inl (cI, 30, .inl (aI u.2.2.1))), (a3, .inl (cI, 30, .inl (aI u.2.2.2.1))), (a4, .inl (cL, 30, .inr (.inl (aL u.2.2.2.2))))]) (va_A [(xo, .inr (0, [.long sd, .ref up, .ref us, .ref uj, .ref ul, .ref uk, .ref ut, .ref uq, .ref uw, .ref uc])), (up, .inr (1, [.ref a1, .ref a2, .ref a3, .ref a4, .int (nI n)])), (a1, .inl (cI, 30, .inl (aI sh))), (a2, .inl (cI, 30, .inl (aI dy))), (a3, .inl (cI, 30, .inl (aI kd))), (a4, .inl (cL, 30, .inr (.inl (aL gr))))] sz)) 0 0 (va_A [(xo, .inr (0, [.long sd, .ref up, .ref us, .ref uj, .ref ul, .ref uk, .ref ut, .ref uq, .ref uw, .ref uc])), (up, .inr (1, [.ref a1, .ref a2, .ref a3, .ref a4, .int (nI n)])), (a1, .inl (cI, 30, .inl (aI sh))), (a2, .inl (cI, 30, .inl (aI dy))), (a3, .inl (cI, 30, .inl (aI kd))), (a4, .inl (cL, 30, .inr (.inl (aL gr))))] sz) := by
  refine Met.ofW (cc := b_B_page) (maxL := 6) (ret := (some .int)) (by decide) rfl ?_
  intro pr en s m args below meth c s₁ B hml hv
  obtain ⟨rfl, hN, hsz, hP, hK, hD0⟩ := hv
  have hx := B.exec
  have hb := B.bytes
  have hr := B.returns
  have hts := atoms_spec (ws := ws_B_page) B.pre
  have htg : ∀ w ∈ gW, w.before _ s = true := fun w h => hts w (List.mem_cons_of_mem _ h)
  have hown : s.vm.findClass R_B = some m.cls := findClass_of_methodNamed B.named
  have hlocks := B.notSynchronized
  subst hsz
  have hD := hD0.self (sz := s.heap.size)
  generalize hAe : va_A [(xo, .inr (0, [.long sd, .ref up, .ref us, .ref uj, .ref ul, .ref uk, .ref ut, .ref uq, .ref uw, .ref uc])), (up, .inr (1, [.ref a1, .ref a2, .ref a3, .ref a4, .int (nI n)])), (a1, .inl (cI, 30, .inl (aI sh))), (a2, .inl (cI, 30, .inl (aI dy))), (a3, .inl (cI, 30, .inl (aI kd))), (a4, .inl (cL, 30, .inr (.inl (aL gr))))] s.heap.size = A at hD ⊢
  have hA : ∀ q : Nat, s.heap.size ≤ q → A q := fun q h => by rw [← hAe]; exact Or.inr h
  have hS : va_S A s.heap s.heap [] := va_S.rf
  have hP : va_P (dC, dI) vwCl [(xo, .inr (0, [.long sd, .ref up, .ref us, .ref uj, .ref ul, .ref uk, .ref ut, .ref uq, .ref uw, .ref uc])), (up, .inr (1, [.ref a1, .ref a2, .ref a3, .ref a4, .int (nI n)])), (a1, .inl (cI, 30, .inl (aI sh))), (a2, .inl (cI, 30, .inl (aI dy))), (a3, .inl (cI, 30, .inl (aI kd))), (a4, .inl (cL, 30, .inr (.inl (aL gr))))] s.heap := hP
  have hl := lv_entry ([.ref xo, .int x1, .int x2, .int x3, .long x4]) (n := 6) (Nat.le_of_ble_eq_true rfl)
  rw [lg_entry_eq]
  generalize (lg_sl ([.ref xo, .int x1, .int x2, .int x3, .long x4]) ++ List.replicate (6 - (lg_sl ([.ref xo, .int x1, .int x2, .int x3, .long x4])).length) Slot.unset).toArray = ls at hl ⊢
  have hl : lv_has ls 6 [(0, .ref xo), (1, .int x1), (2, .int x2), (3, .int x3), (4, .long x4)] := hl
  refine lv_aload_n hx hb d_B_page_0 rfl (lv_at hl 0 rfl) ?_
  refine va_get (D := (dC, dI)) (ci := 0) (v := .ref up) (C := R_B) (T := F_B) (N := 10) hx hb htg iw_B hown hK hP 0 rfl rfl 1 (by decide) (htg _ k1_158) (fun _ h9 => h9) rfl d_B_page_1 ?_
  refine lv_iload_n hx hb d_B_page_4 rfl (lv_at hl 1 rfl) ?_
  refine lv_iload_n hx hb d_B_page_5 rfl (lv_at hl 2 rfl) ?_
  refine lv_iload_n hx hb d_B_page_6 rfl (lv_at hl 3 rfl) ?_
  refine lv_lload hx hb d_B_page_7 (lv_at hl 4 rfl) ?_
  have hPc := hP.sub (ws' := [(up, .inr (1, [.ref a1, .ref a2, .ref a3, .ref a4, .int (nI n)])), (a1, .inl (cI, 30, .inl (aI sh))), (a2, .inl (cI, 30, .inl (aI dy))), (a3, .inl (cI, 30, .inl (aI kd))), (a4, .inl (cL, 30, .inr (.inl (aL gr))))]) [1, 2, 3, 4, 5] rfl
  have hDc := hD.sub (ws' := [(up, .inr (1, [.ref a1, .ref a2, .ref a3, .ref a4, .int (nI n)])), (a1, .inl (cI, 30, .inl (aI sh))), (a2, .inl (cI, 30, .inl (aI dy))), (a3, .inl (cI, 30, .inl (aI kd))), (a4, .inl (cL, 30, .inr (.inl (aL gr))))]) [1, 2, 3, 4, 5] (by decide) rfl
  have hFc := va_free (wc := [(up, .inr (1, [.ref a1, .ref a2, .ref a3, .ref a4, .int (nI n)])), (a1, .inl (cI, 30, .inl (aI sh))), (a2, .inl (cI, 30, .inl (aI dy))), (a3, .inl (cI, 30, .inl (aI kd))), (a4, .inl (cL, 30, .inr (.inl (aL gr))))]) hD hS hA [1, 2, 3, 4, 5] rfl
  refine va_calli (va_runV (As := [.int x1, .int x2, .int x3, .long x4]) (rest := []) ⟨hx, hb, hml, hown, htg⟩ (c_Bk_add l dC dI cI cL cZ s.heap.size up a1 a2 a3 a4 n sh dy kd gr x1 x2 x3 x4 (by omega)) (cwV 4 htg (gdV k1_192 k1_193 k1_194 k1_2 kc_Bk_add) rfl rfl rfl (by decide +kernel) ⟨Nat.le_of_ble_eq_true rfl, Nat.le_of_ble_eq_true rfl⟩) ⟨bk_blindW, va_recv hK hP (ci := 1) (q0 := 1) rfl rfl, fun U hU hW => ⟨rfl, nw_warm hW hN, by rw [hU], by rw [hU]; exact hPc, va_K.moved hW.alike hK, hDc.weaken (fun _ _ _ _ => trivial)⟩⟩ rfl rfl hl.1 rfl (lv_room (Nat.le_of_ble_eq_true rfl)) d_B_page_9 ⟨Nat.le_of_ble_eq_true rfl, Nat.le_of_ble_eq_true rfl⟩) hS (fun q _ h => hFc q h) hFc (fun r9 u t H1 locs ht hvm e9 hB hz1 hk1 hS => ?_)
  obtain ⟨hP1, hK1, hD1⟩ := hB
  rw [ht] at hP1
  try dsimp only at e9
  rcases e9 with ⟨ok9, rfl, rfl⟩ | ⟨no9, rfl, rfl⟩
  · obtain ⟨hP, hD⟩ := va_join (wr := [(xo, .inr (0, [.long sd, .ref up, .ref us, .ref uj, .ref ul, .ref uk, .ref ut, .ref uq, .ref uw, .ref uc]))]) (w1 := [(up, .inr (1, [.ref a1, .ref a2, .ref a3, .ref a4, .int (nI (n + 1))])), (a1, .inl (cI, 30, .inl (aI (va_up sh n (tn x1))))), (a2, .inl (cI, 30, .inl (aI (va_up dy n (tn x2))))), (a3, .inl (cI, 30, .inl (aI (va_up kd n (tn x3))))), (a4, .inl (cL, 30, .inr (.inl (aL (va_up gr n (tl x4))))))]) hP hD [1, 2, 3, 4, 5] [0] rfl rfl (by decide) (by decide) hk1 hFc hP1 hD1
    generalize H1 = H at hP hS ⊢
    have hP : va_P (dC, dI) vwCl [(xo, .inr (0, [.long sd, .ref up, .ref us, .ref uj, .ref ul, .ref uk, .ref ut, .ref uq, .ref uw, .ref uc])), (up, .inr (1, [.ref a1, .ref a2, .ref a3, .ref a4, .int (nI (n + 1))])), (a1, .inl (cI, 30, .inl (aI (va_up sh n (tn x1))))), (a2, .inl (cI, 30, .inl (aI (va_up dy n (tn x2))))), (a3, .inl (cI, 30, .inl (aI (va_up kd n (tn x3))))), (a4, .inl (cL, 30, .inr (.inl (aL (va_up gr n (tl x4))))))] H := hP.sub [0, 1, 2, 3, 4, 5] rfl
    have hD : va_D A [(xo, .inr (0, [.long sd, .ref up, .ref us, .ref uj, .ref ul, .ref uk, .ref ut, .ref uq, .ref uw, .ref uc])), (up, .inr (1, [.ref a1, .ref a2, .ref a3, .ref a4, .int (nI (n + 1))])), (a1, .inl (cI, 30, .inl (aI (va_up sh n (tn x1))))), (a2, .inl (cI, 30, .inl (aI (va_up dy n (tn x2))))), (a3, .inl (cI, 30, .inl (aI (va_up kd n (tn x3))))), (a4, .inl (cL, 30, .inr (.inl (aL (va_up gr n (tl x4))))))] := hD.sub [0, 1, 2, 3, 4, 5] (by decide) rfl
    have hP9 := hP.sub (ws' := [(xo, .inr (0, [.long sd, .ref up, .ref us, .ref uj, .ref ul, .ref uk, .ref ut, .ref uq, .ref uw, .ref uc])), (up, .inr (1, [.ref a1, .ref a2, .ref a3, .ref a4, .int (nI (n + 1))])), (a1, .inl (cI, 30, .inl (aI (va_up sh n (tn x1))))), (a2, .inl (cI, 30, .inl (aI (va_up dy n (tn x2))))), (a3, .inl (cI, 30, .inl (aI (va_up kd n (tn x3))))), (a4, .inl (cL, 30, .inr (.inl (aL (va_up gr n (tl x4))))))]) [0, 1, 2, 3, 4, 5] rfl
    have hD9 := hD.sub (ws' := [(xo, .inr (0, [.long sd, .ref up, .ref us, .ref uj, .ref ul, .ref uk, .ref ut, .ref uq, .ref uw, .ref uc])), (up, .inr (1, [.ref a1, .ref a2, .ref a3, .ref a4, .int (nI (n + 1))])), (a1, .inl (cI, 30, .inl (aI (va_up sh n (tn x1))))), (a2, .inl (cI, 30, .inl (aI (va_up dy n (tn x2))))), (a3, .inl (cI, 30, .inl (aI (va_up kd n (tn x3))))), (a4, .inl (cL, 30, .inr (.inl (aL (va_up gr n (tl x4))))))]) [0, 1, 2, 3, 4, 5] (by decide) rfl
    exact W.iret (v := nI n) hx hb hr (fun t9 ht9 hW9 => ⟨⟨nI n, (n + 1, va_up sh n (tn x1), va_up dy n (tn x2), va_up kd n (tn x3), va_up gr n (tl x4)), rfl, Or.inl ⟨ok9, rfl, rfl⟩, by rw [ht9]; exact hP9, va_K.moved hW9.alike hK, hD9⟩, hS.F ht9⟩) hS.2.2 d_B_page_12
  · obtain ⟨hP, hD⟩ := va_join (wr := [(xo, .inr (0, [.long sd, .ref up, .ref us, .ref uj, .ref ul, .ref uk, .ref ut, .ref uq, .ref uw, .ref uc]))]) (w1 := [(up, .inr (1, [.ref a1, .ref a2, .ref a3, .ref a4, .int (nI n)])), (a1, .inl (cI, 30, .inl (aI sh))), (a2, .inl (cI, 30, .inl (aI dy))), (a3, .inl (cI, 30, .inl (aI kd))), (a4, .inl (cL, 30, .inr (.inl (aL gr))))]) hP hD [1, 2, 3, 4, 5] [0] rfl rfl (by decide) (by decide) hk1 hFc hP1 hD1
    generalize H1 = H at hP hS ⊢
    have hP : va_P (dC, dI) vwCl [(xo, .inr (0, [.long sd, .ref up, .ref us, .ref uj, .ref ul, .ref uk, .ref ut, .ref uq, .ref uw, .ref uc])), (up, .inr (1, [.ref a1, .ref a2, .ref a3, .ref a4, .int (nI n)])), (a1, .inl (cI, 30, .inl (aI sh))), (a2, .inl (cI, 30, .inl (aI dy))), (a3, .inl (cI, 30, .inl (aI kd))), (a4, .inl (cL, 30, .inr (.inl (aL gr))))] H := hP.sub [0, 1, 2, 3, 4, 5] rfl
    have hD : va_D A [(xo, .inr (0, [.long sd, .ref up, .ref us, .ref uj, .ref ul, .ref uk, .ref ut, .ref uq, .ref uw, .ref uc])), (up, .inr (1, [.ref a1, .ref a2, .ref a3, .ref a4, .int (nI n)])), (a1, .inl (cI, 30, .inl (aI sh))), (a2, .inl (cI, 30, .inl (aI dy))), (a3, .inl (cI, 30, .inl (aI kd))), (a4, .inl (cL, 30, .inr (.inl (aL gr))))] := hD.sub [0, 1, 2, 3, 4, 5] (by decide) rfl
    have hP9 := hP.sub (ws' := [(xo, .inr (0, [.long sd, .ref up, .ref us, .ref uj, .ref ul, .ref uk, .ref ut, .ref uq, .ref uw, .ref uc])), (up, .inr (1, [.ref a1, .ref a2, .ref a3, .ref a4, .int (nI n)])), (a1, .inl (cI, 30, .inl (aI sh))), (a2, .inl (cI, 30, .inl (aI dy))), (a3, .inl (cI, 30, .inl (aI kd))), (a4, .inl (cL, 30, .inr (.inl (aL gr))))]) [0, 1, 2, 3, 4, 5] rfl
    have hD9 := hD.sub (ws' := [(xo, .inr (0, [.long sd, .ref up, .ref us, .ref uj, .ref ul, .ref uk, .ref ut, .ref uq, .ref uw, .ref uc])), (up, .inr (1, [.ref a1, .ref a2, .ref a3, .ref a4, .int (nI n)])), (a1, .inl (cI, 30, .inl (aI sh))), (a2, .inl (cI, 30, .inl (aI dy))), (a3, .inl (cI, 30, .inl (aI kd))), (a4, .inl (cL, 30, .inr (.inl (aL gr))))]) [0, 1, 2, 3, 4, 5] (by decide) rfl
    exact W.iret (v := oI none) hx hb hr (fun t9 ht9 hW9 => ⟨⟨oI none, (n, sh, dy, kd, gr), rfl, Or.inr ⟨no9, rfl, rfl⟩, by rw [ht9]; exact hP9, va_K.moved hW9.alike hK, hD9⟩, hS.F ht9⟩) hS.2.2 d_B_page_12
set_option maxHeartbeats 4000000 in
set_option maxRecDepth 100000 in
theorem c_B_sale (l : Launch) (dC : Nat → ClassId) (dI : Nat → Nat → Nat) (cI cL cZ : ClassId) (sz : Nat) (xo up us uj ul uk ut uq uw uc : Nat) (sd : Int64) (a1 a2 a3 a4 n : Nat) (sh dy kd gr : Nat → Nat) (x1 x2 x3 : Int32) (x4 : Int64) (hn : n ≤ 30) : Met l y_B_sale ws_B_sale { frames := 2, cells := 0, slots := 0, locals := 47 } (va_Pc [.ref xo, .int x1, .int x2, .int x3, .long x4] (wrP (dC, dI) vwCl [(cI, .int), (cL, .long), (cZ, .boolean)] [(xo, .inr (0, [.long sd, .ref up, .ref us, .ref uj, .ref ul, .ref uk, .ref ut, .ref uq, .ref uw, .ref uc])), (us, .inr (1, [.ref a1, .ref a2, .ref a3, .ref a4, .int (nI n)])), (a1, .inl (cI, 30, .inl (aI sh))), (a2, .inl (cI, 30, .inl (aI dy))), (a3, .inl (cI, 30, .inl (aI kd))), (a4, .inl (cL, 30, .inr (.inl (aL gr))))] sz)) (va_Qi (fun (r : Int32) (u : Nat × (Nat → Nat) × (Nat → Nat) × (Nat → Nat) × (Nat → Nat)) => (addOk n x1 x2 x3 x4 ∧ r = nI n ∧ u = (n + 1, va_up sh n (tn x1), va_up dy n (tn x2), va_up kd n (tn x3), va_up gr n (tl x4))) ∨ (¬ addOk n x1 x2 x3 x4 ∧ r = oI none ∧ u = (n, sh, dy, kd, gr))) (fun (u : Nat × (Nat → Nat) × (Nat → Nat) × (Nat → Nat) × (Nat → Nat)) => wrQ (dC, dI) vwCl [(cI, .int), (cL, .long), (cZ, .boolean)] (va_A [(xo, .inr (0, [.long sd, .ref up, .ref us, .ref uj, .ref ul, .ref uk, .ref ut, .ref uq, .ref uw, .ref uc])), (us, .inr (1, [.ref a1, .ref a2, .ref a3, .ref a4, .int (nI n)])), (a1, .inl (cI, 30, .inl (aI sh))), (a2, .inl (cI, 30, .inl (aI dy))), (a3, .inl (cI, 30, .inl (aI kd))), (a4, .inl (cL, 30, .inr (.inl (aL gr))))] sz) [(xo, .inr (0, [.long sd, .ref up, .ref us, .ref uj, .ref ul, .ref uk, .ref ut, .ref uq, .ref uw, .ref uc])), (us, .inr (1, [.ref a1, .ref a2, .ref a3, .ref a4, .int (nI u.1)])), (a1, .inl (cI, 30, .inl (aI u.2.1))), (a2, .inl (cI, 30, .inl (aI u.2.2.1))), (a3, .inl (cI, 30, .inl (aI u.2.2.2.1))), (a4, .inl (cL, 30, .inr (.inl (aL u.2.2.2.2))))]) (va_A [(xo, .inr (0, [.long sd, .ref up, .ref us, .ref uj, .ref ul, .ref uk, .ref ut, .ref uq, .ref uw, .ref uc])), (us, .inr (1, [.ref a1, .ref a2, .ref a3, .ref a4, .int (nI n)])), (a1, .inl (cI, 30, .inl (aI sh))), (a2, .inl (cI, 30, .inl (aI dy))), (a3, .inl (cI, 30, .inl (aI kd))), (a4, .inl (cL, 30, .inr (.inl (aL gr))))] sz)) 0 0 (va_A [(xo, .inr (0, [.long sd, .ref up, .ref us, .ref uj, .ref ul, .ref uk, .ref ut, .ref uq, .ref uw, .ref uc])), (us, .inr (1, [.ref a1, .ref a2, .ref a3, .ref a4, .int (nI n)])), (a1, .inl (cI, 30, .inl (aI sh))), (a2, .inl (cI, 30, .inl (aI dy))), (a3, .inl (cI, 30, .inl (aI kd))), (a4, .inl (cL, 30, .inr (.inl (aL gr))))] sz) := by
  refine Met.ofW (cc := b_B_sale) (maxL := 6) (ret := (some .int)) (by decide) rfl ?_
  intro pr en s m args below meth c s₁ B hml hv
  obtain ⟨rfl, hN, hsz, hP, hK, hD0⟩ := hv
  have hx := B.exec
  have hb := B.bytes
  have hr := B.returns
  have hts := atoms_spec (ws := ws_B_sale) B.pre
  have htg : ∀ w ∈ gW, w.before _ s = true := fun w h => hts w (List.mem_cons_of_mem _ h)
  have hown : s.vm.findClass R_B = some m.cls := findClass_of_methodNamed B.named
  have hlocks := B.notSynchronized
  subst hsz
  have hD := hD0.self (sz := s.heap.size)
  generalize hAe : va_A [(xo, .inr (0, [.long sd, .ref up, .ref us, .ref uj, .ref ul, .ref uk, .ref ut, .ref uq, .ref uw, .ref uc])), (us, .inr (1, [.ref a1, .ref a2, .ref a3, .ref a4, .int (nI n)])), (a1, .inl (cI, 30, .inl (aI sh))), (a2, .inl (cI, 30, .inl (aI dy))), (a3, .inl (cI, 30, .inl (aI kd))), (a4, .inl (cL, 30, .inr (.inl (aL gr))))] s.heap.size = A at hD ⊢
  have hA : ∀ q : Nat, s.heap.size ≤ q → A q := fun q h => by rw [← hAe]; exact Or.inr h
  have hS : va_S A s.heap s.heap [] := va_S.rf
  have hP : va_P (dC, dI) vwCl [(xo, .inr (0, [.long sd, .ref up, .ref us, .ref uj, .ref ul, .ref uk, .ref ut, .ref uq, .ref uw, .ref uc])), (us, .inr (1, [.ref a1, .ref a2, .ref a3, .ref a4, .int (nI n)])), (a1, .inl (cI, 30, .inl (aI sh))), (a2, .inl (cI, 30, .inl (aI dy))), (a3, .inl (cI, 30, .inl (aI kd))), (a4, .inl (cL, 30, .inr (.inl (aL gr))))] s.heap := hP
  have hl := lv_entry ([.ref xo, .int x1, .int x2, .int x3, .long x4]) (n := 6) (Nat.le_of_ble_eq_true rfl)
  rw [lg_entry_eq]
  generalize (lg_sl ([.ref xo, .int x1, .int x2, .int x3, .long x4]) ++ List.replicate (6 - (lg_sl ([.ref xo, .int x1, .int x2, .int x3, .long x4])).length) Slot.unset).toArray = ls at hl ⊢
  have hl : lv_has ls 6 [(0, .ref xo), (1, .int x1), (2, .int x2), (3, .int x3), (4, .long x4)] := hl
  refine lv_aload_n hx hb d_B_sale_0 rfl (lv_at hl 0 rfl) ?_
  refine va_get (D := (dC, dI)) (ci := 0) (v := .ref us) (C := R_B) (T := F_B) (N := 10) hx hb htg iw_B hown hK hP 0 rfl rfl 2 (by decide) (htg _ k1_159) (fun _ h9 => h9) rfl d_B_sale_1 ?_
  refine lv_iload_n hx hb d_B_sale_4 rfl (lv_at hl 1 rfl) ?_
  refine lv_iload_n hx hb d_B_sale_5 rfl (lv_at hl 2 rfl) ?_
  refine lv_iload_n hx hb d_B_sale_6 rfl (lv_at hl 3 rfl) ?_
  refine lv_lload hx hb d_B_sale_7 (lv_at hl 4 rfl) ?_
  have hPc := hP.sub (ws' := [(us, .inr (1, [.ref a1, .ref a2, .ref a3, .ref a4, .int (nI n)])), (a1, .inl (cI, 30, .inl (aI sh))), (a2, .inl (cI, 30, .inl (aI dy))), (a3, .inl (cI, 30, .inl (aI kd))), (a4, .inl (cL, 30, .inr (.inl (aL gr))))]) [1, 2, 3, 4, 5] rfl
  have hDc := hD.sub (ws' := [(us, .inr (1, [.ref a1, .ref a2, .ref a3, .ref a4, .int (nI n)])), (a1, .inl (cI, 30, .inl (aI sh))), (a2, .inl (cI, 30, .inl (aI dy))), (a3, .inl (cI, 30, .inl (aI kd))), (a4, .inl (cL, 30, .inr (.inl (aL gr))))]) [1, 2, 3, 4, 5] (by decide) rfl
  have hFc := va_free (wc := [(us, .inr (1, [.ref a1, .ref a2, .ref a3, .ref a4, .int (nI n)])), (a1, .inl (cI, 30, .inl (aI sh))), (a2, .inl (cI, 30, .inl (aI dy))), (a3, .inl (cI, 30, .inl (aI kd))), (a4, .inl (cL, 30, .inr (.inl (aL gr))))]) hD hS hA [1, 2, 3, 4, 5] rfl
  refine va_calli (va_runV (As := [.int x1, .int x2, .int x3, .long x4]) (rest := []) ⟨hx, hb, hml, hown, htg⟩ (c_Bk_add l dC dI cI cL cZ s.heap.size us a1 a2 a3 a4 n sh dy kd gr x1 x2 x3 x4 (by omega)) (cwV 4 htg (gdV k1_192 k1_193 k1_194 k1_2 kc_Bk_add) rfl rfl rfl (by decide +kernel) ⟨Nat.le_of_ble_eq_true rfl, Nat.le_of_ble_eq_true rfl⟩) ⟨bk_blindW, va_recv hK hP (ci := 1) (q0 := 1) rfl rfl, fun U hU hW => ⟨rfl, nw_warm hW hN, by rw [hU], by rw [hU]; exact hPc, va_K.moved hW.alike hK, hDc.weaken (fun _ _ _ _ => trivial)⟩⟩ rfl rfl hl.1 rfl (lv_room (Nat.le_of_ble_eq_true rfl)) d_B_sale_9 ⟨Nat.le_of_ble_eq_true rfl, Nat.le_of_ble_eq_true rfl⟩) hS (fun q _ h => hFc q h) hFc (fun r9 u t H1 locs ht hvm e9 hB hz1 hk1 hS => ?_)
  obtain ⟨hP1, hK1, hD1⟩ := hB
  rw [ht] at hP1
  try dsimp only at e9
  rcases e9 with ⟨ok9, rfl, rfl⟩ | ⟨no9, rfl, rfl⟩
  · obtain ⟨hP, hD⟩ := va_join (wr := [(xo, .inr (0, [.long sd, .ref up, .ref us, .ref uj, .ref ul, .ref uk, .ref ut, .ref uq, .ref uw, .ref uc]))]) (w1 := [(us, .inr (1, [.ref a1, .ref a2, .ref a3, .ref a4, .int (nI (n + 1))])), (a1, .inl (cI, 30, .inl (aI (va_up sh n (tn x1))))), (a2, .inl (cI, 30, .inl (aI (va_up dy n (tn x2))))), (a3, .inl (cI, 30, .inl (aI (va_up kd n (tn x3))))), (a4, .inl (cL, 30, .inr (.inl (aL (va_up gr n (tl x4))))))]) hP hD [1, 2, 3, 4, 5] [0] rfl rfl (by decide) (by decide) hk1 hFc hP1 hD1
    generalize H1 = H at hP hS ⊢
    have hP : va_P (dC, dI) vwCl [(xo, .inr (0, [.long sd, .ref up, .ref us, .ref uj, .ref ul, .ref uk, .ref ut, .ref uq, .ref uw, .ref uc])), (us, .inr (1, [.ref a1, .ref a2, .ref a3, .ref a4, .int (nI (n + 1))])), (a1, .inl (cI, 30, .inl (aI (va_up sh n (tn x1))))), (a2, .inl (cI, 30, .inl (aI (va_up dy n (tn x2))))), (a3, .inl (cI, 30, .inl (aI (va_up kd n (tn x3))))), (a4, .inl (cL, 30, .inr (.inl (aL (va_up gr n (tl x4))))))] H := hP.sub [0, 1, 2, 3, 4, 5] rfl
    have hD : va_D A [(xo, .inr (0, [.long sd, .ref up, .ref us, .ref uj, .ref ul, .ref uk, .ref ut, .ref uq, .ref uw, .ref uc])), (us, .inr (1, [.ref a1, .ref a2, .ref a3, .ref a4, .int (nI (n + 1))])), (a1, .inl (cI, 30, .inl (aI (va_up sh n (tn x1))))), (a2, .inl (cI, 30, .inl (aI (va_up dy n (tn x2))))), (a3, .inl (cI, 30, .inl (aI (va_up kd n (tn x3))))), (a4, .inl (cL, 30, .inr (.inl (aL (va_up gr n (tl x4))))))] := hD.sub [0, 1, 2, 3, 4, 5] (by decide) rfl
    have hP9 := hP.sub (ws' := [(xo, .inr (0, [.long sd, .ref up, .ref us, .ref uj, .ref ul, .ref uk, .ref ut, .ref uq, .ref uw, .ref uc])), (us, .inr (1, [.ref a1, .ref a2, .ref a3, .ref a4, .int (nI (n + 1))])), (a1, .inl (cI, 30, .inl (aI (va_up sh n (tn x1))))), (a2, .inl (cI, 30, .inl (aI (va_up dy n (tn x2))))), (a3, .inl (cI, 30, .inl (aI (va_up kd n (tn x3))))), (a4, .inl (cL, 30, .inr (.inl (aL (va_up gr n (tl x4))))))]) [0, 1, 2, 3, 4, 5] rfl
    have hD9 := hD.sub (ws' := [(xo, .inr (0, [.long sd, .ref up, .ref us, .ref uj, .ref ul, .ref uk, .ref ut, .ref uq, .ref uw, .ref uc])), (us, .inr (1, [.ref a1, .ref a2, .ref a3, .ref a4, .int (nI (n + 1))])), (a1, .inl (cI, 30, .inl (aI (va_up sh n (tn x1))))), (a2, .inl (cI, 30, .inl (aI (va_up dy n (tn x2))))), (a3, .inl (cI, 30, .inl (aI (va_up kd n (tn x3))))), (a4, .inl (cL, 30, .inr (.inl (aL (va_up gr n (tl x4))))))]) [0, 1, 2, 3, 4, 5] (by decide) rfl
    exact W.iret (v := nI n) hx hb hr (fun t9 ht9 hW9 => ⟨⟨nI n, (n + 1, va_up sh n (tn x1), va_up dy n (tn x2), va_up kd n (tn x3), va_up gr n (tl x4)), rfl, Or.inl ⟨ok9, rfl, rfl⟩, by rw [ht9]; exact hP9, va_K.moved hW9.alike hK, hD9⟩, hS.F ht9⟩) hS.2.2 d_B_sale_12
  · obtain ⟨hP, hD⟩ := va_join (wr := [(xo, .inr (0, [.long sd, .ref up, .ref us, .ref uj, .ref ul, .ref uk, .ref ut, .ref uq, .ref uw, .ref uc]))]) (w1 := [(us, .inr (1, [.ref a1, .ref a2, .ref a3, .ref a4, .int (nI n)])), (a1, .inl (cI, 30, .inl (aI sh))), (a2, .inl (cI, 30, .inl (aI dy))), (a3, .inl (cI, 30, .inl (aI kd))), (a4, .inl (cL, 30, .inr (.inl (aL gr))))]) hP hD [1, 2, 3, 4, 5] [0] rfl rfl (by decide) (by decide) hk1 hFc hP1 hD1
    generalize H1 = H at hP hS ⊢
    have hP : va_P (dC, dI) vwCl [(xo, .inr (0, [.long sd, .ref up, .ref us, .ref uj, .ref ul, .ref uk, .ref ut, .ref uq, .ref uw, .ref uc])), (us, .inr (1, [.ref a1, .ref a2, .ref a3, .ref a4, .int (nI n)])), (a1, .inl (cI, 30, .inl (aI sh))), (a2, .inl (cI, 30, .inl (aI dy))), (a3, .inl (cI, 30, .inl (aI kd))), (a4, .inl (cL, 30, .inr (.inl (aL gr))))] H := hP.sub [0, 1, 2, 3, 4, 5] rfl
    have hD : va_D A [(xo, .inr (0, [.long sd, .ref up, .ref us, .ref uj, .ref ul, .ref uk, .ref ut, .ref uq, .ref uw, .ref uc])), (us, .inr (1, [.ref a1, .ref a2, .ref a3, .ref a4, .int (nI n)])), (a1, .inl (cI, 30, .inl (aI sh))), (a2, .inl (cI, 30, .inl (aI dy))), (a3, .inl (cI, 30, .inl (aI kd))), (a4, .inl (cL, 30, .inr (.inl (aL gr))))] := hD.sub [0, 1, 2, 3, 4, 5] (by decide) rfl
    have hP9 := hP.sub (ws' := [(xo, .inr (0, [.long sd, .ref up, .ref us, .ref uj, .ref ul, .ref uk, .ref ut, .ref uq, .ref uw, .ref uc])), (us, .inr (1, [.ref a1, .ref a2, .ref a3, .ref a4, .int (nI n)])), (a1, .inl (cI, 30, .inl (aI sh))), (a2, .inl (cI, 30, .inl (aI dy))), (a3, .inl (cI, 30, .inl (aI kd))), (a4, .inl (cL, 30, .inr (.inl (aL gr))))]) [0, 1, 2, 3, 4, 5] rfl
    have hD9 := hD.sub (ws' := [(xo, .inr (0, [.long sd, .ref up, .ref us, .ref uj, .ref ul, .ref uk, .ref ut, .ref uq, .ref uw, .ref uc])), (us, .inr (1, [.ref a1, .ref a2, .ref a3, .ref a4, .int (nI n)])), (a1, .inl (cI, 30, .inl (aI sh))), (a2, .inl (cI, 30, .inl (aI dy))), (a3, .inl (cI, 30, .inl (aI kd))), (a4, .inl (cL, 30, .inr (.inl (aL gr))))]) [0, 1, 2, 3, 4, 5] (by decide) rfl
    exact W.iret (v := oI none) hx hb hr (fun t9 ht9 hW9 => ⟨⟨oI none, (n, sh, dy, kd, gr), rfl, Or.inr ⟨no9, rfl, rfl⟩, by rw [ht9]; exact hP9, va_K.moved hW9.alike hK, hD9⟩, hS.F ht9⟩) hS.2.2 d_B_sale_12
set_option maxHeartbeats 4000000 in
set_option maxRecDepth 100000 in
theorem c_B_run (l : Launch) (dC : Nat → ClassId) (dI : Nat → Nat → Nat) (cI cL cZ : ClassId) (sz : Nat) (xo up us uj ul uk ut uq uw uc : Nat) (sd : Int64) (a1 a2 : Nat) (sp ps : Nat → Option Nat) (b1 b2 b3 b4 n : Nat) (sh dy kd gr : Nat → Nat) (s1 s2 s3 s4 n2 : Nat) (sh2 dy2 kd2 gr2 : Nat → Nat) (hi : bkI n sh dy kd gr) (hi2 : bkI n2 sh2 dy2 kd2 gr2) : Met l y_B_run ws_B_run { frames := 5, cells := 0, slots := 0, locals := 126 } (va_Pc [.ref xo] (wrP (dC, dI) vwCl [(cI, .int), (cL, .long), (cZ, .boolean)] [(xo, .inr (0, [.long sd, .ref up, .ref us, .ref uj, .ref ul, .ref uk, .ref ut, .ref uq, .ref uw, .ref uc])), (uj, .inr (2, [.ref a1, .ref a2])), (a1, .inl (cI, 30, .inl (aO sp))), (a2, .inl (cI, 30, .inl (aO ps))), (up, .inr (1, [.ref b1, .ref b2, .ref b3, .ref b4, .int (nI n)])), (b1, .inl (cI, 30, .inl (aI sh))), (b2, .inl (cI, 30, .inl (aI dy))), (b3, .inl (cI, 30, .inl (aI kd))), (b4, .inl (cL, 30, .inr (.inl (aL gr)))), (us, .inr (1, [.ref s1, .ref s2, .ref s3, .ref s4, .int (nI n2)])), (s1, .inl (cI, 30, .inl (aI sh2))), (s2, .inl (cI, 30, .inl (aI dy2))), (s3, .inl (cI, 30, .inl (aI kd2))), (s4, .inl (cL, 30, .inr (.inl (aL gr2))))] sz)) (va_Qi (fun (r : Int32) (u : (Nat → Option Nat) × (Nat → Option Nat)) => ∃ i, r = nI i ∧ i ≤ 30 ∧ isRun (ptOf sh dy kd gr sh2 dy2 kd2 gr2) n n2 i ∧ u.1 = (JS (ptOf sh dy kd gr sh2 dy2 kd2 gr2) n n2 i).1 ∧ ∀ p k, u.1 p = some k → p < n ∧ k < n2) (fun (u : (Nat → Option Nat) × (Nat → Option Nat)) => wrQ (dC, dI) vwCl [(cI, .int), (cL, .long), (cZ, .boolean)] (va_A [(xo, .inr (0, [.long sd, .ref up, .ref us, .ref uj, .ref ul, .ref uk, .ref ut, .ref uq, .ref uw, .ref uc])), (uj, .inr (2, [.ref a1, .ref a2])), (a1, .inl (cI, 30, .inl (aO sp))), (a2, .inl (cI, 30, .inl (aO ps))), (up, .inr (1, [.ref b1, .ref b2, .ref b3, .ref b4, .int (nI n)])), (b1, .inl (cI, 30, .inl (aI sh))), (b2, .inl (cI, 30, .inl (aI dy))), (b3, .inl (cI, 30, .inl (aI kd))), (b4, .inl (cL, 30, .inr (.inl (aL gr)))), (us, .inr (1, [.ref s1, .ref s2, .ref s3, .ref s4, .int (nI n2)])), (s1, .inl (cI, 30, .inl (aI sh2))), (s2, .inl (cI, 30, .inl (aI dy2))), (s3, .inl (cI, 30, .inl (aI kd2))), (s4, .inl (cL, 30, .inr (.inl (aL gr2))))] sz) [(xo, .inr (0, [.long sd, .ref up, .ref us, .ref uj, .ref ul, .ref uk, .ref ut, .ref uq, .ref uw, .ref uc])), (uj, .inr (2, [.ref a1, .ref a2])), (a1, .inl (cI, 30, .inl (aO u.1))), (a2, .inl (cI, 30, .inl (aO u.2))), (up, .inr (1, [.ref b1, .ref b2, .ref b3, .ref b4, .int (nI n)])), (b1, .inl (cI, 30, .inl (aI sh))), (b2, .inl (cI, 30, .inl (aI dy))), (b3, .inl (cI, 30, .inl (aI kd))), (b4, .inl (cL, 30, .inr (.inl (aL gr)))), (us, .inr (1, [.ref s1, .ref s2, .ref s3, .ref s4, .int (nI n2)])), (s1, .inl (cI, 30, .inl (aI sh2))), (s2, .inl (cI, 30, .inl (aI dy2))), (s3, .inl (cI, 30, .inl (aI kd2))), (s4, .inl (cL, 30, .inr (.inl (aL gr2))))]) (va_A [(xo, .inr (0, [.long sd, .ref up, .ref us, .ref uj, .ref ul, .ref uk, .ref ut, .ref uq, .ref uw, .ref uc])), (uj, .inr (2, [.ref a1, .ref a2])), (a1, .inl (cI, 30, .inl (aO sp))), (a2, .inl (cI, 30, .inl (aO ps))), (up, .inr (1, [.ref b1, .ref b2, .ref b3, .ref b4, .int (nI n)])), (b1, .inl (cI, 30, .inl (aI sh))), (b2, .inl (cI, 30, .inl (aI dy))), (b3, .inl (cI, 30, .inl (aI kd))), (b4, .inl (cL, 30, .inr (.inl (aL gr)))), (us, .inr (1, [.ref s1, .ref s2, .ref s3, .ref s4, .int (nI n2)])), (s1, .inl (cI, 30, .inl (aI sh2))), (s2, .inl (cI, 30, .inl (aI dy2))), (s3, .inl (cI, 30, .inl (aI kd2))), (s4, .inl (cL, 30, .inr (.inl (aL gr2))))] sz)) 0 0 (va_A [(xo, .inr (0, [.long sd, .ref up, .ref us, .ref uj, .ref ul, .ref uk, .ref ut, .ref uq, .ref uw, .ref uc])), (uj, .inr (2, [.ref a1, .ref a2])), (a1, .inl (cI, 30, .inl (aO sp))), (a2, .inl (cI, 30, .inl (aO ps))), (up, .inr (1, [.ref b1, .ref b2, .ref b3, .ref b4, .int (nI n)])), (b1, .inl (cI, 30, .inl (aI sh))), (b2, .inl (cI, 30, .inl (aI dy))), (b3, .inl (cI, 30, .inl (aI kd))), (b4, .inl (cL, 30, .inr (.inl (aL gr)))), (us, .inr (1, [.ref s1, .ref s2, .ref s3, .ref s4, .int (nI n2)])), (s1, .inl (cI, 30, .inl (aI sh2))), (s2, .inl (cI, 30, .inl (aI dy2))), (s3, .inl (cI, 30, .inl (aI kd2))), (s4, .inl (cL, 30, .inr (.inl (aL gr2))))] sz) := by
  refine Met.ofW (cc := b_B_run) (maxL := 1) (ret := (some .int)) (by decide) rfl ?_
  intro pr en s m args below meth c s₁ B hml hv
  obtain ⟨rfl, hN, hsz, hP, hK, hD0⟩ := hv
  have hx := B.exec
  have hb := B.bytes
  have hr := B.returns
  have hts := atoms_spec (ws := ws_B_run) B.pre
  have htg : ∀ w ∈ gW, w.before _ s = true := fun w h => hts w (List.mem_cons_of_mem _ h)
  have hown : s.vm.findClass R_B = some m.cls := findClass_of_methodNamed B.named
  have hlocks := B.notSynchronized
  subst hsz
  have hD := hD0.self (sz := s.heap.size)
  generalize hAe : va_A [(xo, .inr (0, [.long sd, .ref up, .ref us, .ref uj, .ref ul, .ref uk, .ref ut, .ref uq, .ref uw, .ref uc])), (uj, .inr (2, [.ref a1, .ref a2])), (a1, .inl (cI, 30, .inl (aO sp))), (a2, .inl (cI, 30, .inl (aO ps))), (up, .inr (1, [.ref b1, .ref b2, .ref b3, .ref b4, .int (nI n)])), (b1, .inl (cI, 30, .inl (aI sh))), (b2, .inl (cI, 30, .inl (aI dy))), (b3, .inl (cI, 30, .inl (aI kd))), (b4, .inl (cL, 30, .inr (.inl (aL gr)))), (us, .inr (1, [.ref s1, .ref s2, .ref s3, .ref s4, .int (nI n2)])), (s1, .inl (cI, 30, .inl (aI sh2))), (s2, .inl (cI, 30, .inl (aI dy2))), (s3, .inl (cI, 30, .inl (aI kd2))), (s4, .inl (cL, 30, .inr (.inl (aL gr2))))] s.heap.size = A at hD ⊢
  have hA : ∀ q : Nat, s.heap.size ≤ q → A q := fun q h => by rw [← hAe]; exact Or.inr h
  have hS : va_S A s.heap s.heap [] := va_S.rf
  have hP : va_P (dC, dI) vwCl [(xo, .inr (0, [.long sd, .ref up, .ref us, .ref uj, .ref ul, .ref uk, .ref ut, .ref uq, .ref uw, .ref uc])), (uj, .inr (2, [.ref a1, .ref a2])), (a1, .inl (cI, 30, .inl (aO sp))), (a2, .inl (cI, 30, .inl (aO ps))), (up, .inr (1, [.ref b1, .ref b2, .ref b3, .ref b4, .int (nI n)])), (b1, .inl (cI, 30, .inl (aI sh))), (b2, .inl (cI, 30, .inl (aI dy))), (b3, .inl (cI, 30, .inl (aI kd))), (b4, .inl (cL, 30, .inr (.inl (aL gr)))), (us, .inr (1, [.ref s1, .ref s2, .ref s3, .ref s4, .int (nI n2)])), (s1, .inl (cI, 30, .inl (aI sh2))), (s2, .inl (cI, 30, .inl (aI dy2))), (s3, .inl (cI, 30, .inl (aI kd2))), (s4, .inl (cL, 30, .inr (.inl (aL gr2))))] s.heap := hP
  have hl := lv_entry ([.ref xo]) (n := 1) (Nat.le_of_ble_eq_true rfl)
  rw [lg_entry_eq]
  generalize (lg_sl ([.ref xo]) ++ List.replicate (1 - (lg_sl ([.ref xo])).length) Slot.unset).toArray = ls at hl ⊢
  have hl : lv_has ls 1 [(0, .ref xo)] := hl
  refine lv_aload_n hx hb d_B_run_0 rfl (lv_at hl 0 rfl) ?_
  refine va_get (D := (dC, dI)) (ci := 0) (v := .ref uj) (C := R_B) (T := F_B) (N := 10) hx hb htg iw_B hown hK hP 0 rfl rfl 3 (by decide) (htg _ k1_160) (fun _ h9 => h9) rfl d_B_run_1 ?_
  refine lv_aload_n hx hb d_B_run_4 rfl (lv_at hl 0 rfl) ?_
  refine va_get (D := (dC, dI)) (ci := 0) (v := .ref up) (C := R_B) (T := F_B) (N := 10) hx hb htg iw_B hown hK hP 0 rfl rfl 1 (by decide) (htg _ k1_158) (fun _ h9 => h9) rfl d_B_run_5 ?_
  refine lv_aload_n hx hb d_B_run_8 rfl (lv_at hl 0 rfl) ?_
  refine va_get (D := (dC, dI)) (ci := 0) (v := .ref us) (C := R_B) (T := F_B) (N := 10) hx hb htg iw_B hown hK hP 0 rfl rfl 2 (by decide) (htg _ k1_159) (fun _ h9 => h9) rfl d_B_run_9 ?_
  have hPc := hP.sub (ws' := [(uj, .inr (2, [.ref a1, .ref a2])), (a1, .inl (cI, 30, .inl (aO sp))), (a2, .inl (cI, 30, .inl (aO ps))), (up, .inr (1, [.ref b1, .ref b2, .ref b3, .ref b4, .int (nI n)])), (b1, .inl (cI, 30, .inl (aI sh))), (b2, .inl (cI, 30, .inl (aI dy))), (b3, .inl (cI, 30, .inl (aI kd))), (b4, .inl (cL, 30, .inr (.inl (aL gr)))), (us, .inr (1, [.ref s1, .ref s2, .ref s3, .ref s4, .int (nI n2)])), (s1, .inl (cI, 30, .inl (aI sh2))), (s2, .inl (cI, 30, .inl (aI dy2))), (s3, .inl (cI, 30, .inl (aI kd2))), (s4, .inl (cL, 30, .inr (.inl (aL gr2))))]) [1, 2, 3, 4, 5, 6, 7, 8, 9, 10, 11, 12, 13] rfl
  have hDc := hD.sub (ws' := [(uj, .inr (2, [.ref a1, .ref a2])), (a1, .inl (cI, 30, .inl (aO sp))), (a2, .inl (cI, 30, .inl (aO ps))), (up, .inr (1, [.ref b1, .ref b2, .ref b3, .ref b4, .int (nI n)])), (b1, .inl (cI, 30, .inl (aI sh))), (b2, .inl (cI, 30, .inl (aI dy))), (b3, .inl (cI, 30, .inl (aI kd))), (b4, .inl (cL, 30, .inr (.inl (aL gr)))), (us, .inr (1, [.ref s1, .ref s2, .ref s3, .ref s4, .int (nI n2)])), (s1, .inl (cI, 30, .inl (aI sh2))), (s2, .inl (cI, 30, .inl (aI dy2))), (s3, .inl (cI, 30, .inl (aI kd2))), (s4, .inl (cL, 30, .inr (.inl (aL gr2))))]) [1, 2, 3, 4, 5, 6, 7, 8, 9, 10, 11, 12, 13] (by decide) rfl
  have hFc := va_free (wc := [(uj, .inr (2, [.ref a1, .ref a2])), (a1, .inl (cI, 30, .inl (aO sp))), (a2, .inl (cI, 30, .inl (aO ps))), (up, .inr (1, [.ref b1, .ref b2, .ref b3, .ref b4, .int (nI n)])), (b1, .inl (cI, 30, .inl (aI sh))), (b2, .inl (cI, 30, .inl (aI dy))), (b3, .inl (cI, 30, .inl (aI kd))), (b4, .inl (cL, 30, .inr (.inl (aL gr)))), (us, .inr (1, [.ref s1, .ref s2, .ref s3, .ref s4, .int (nI n2)])), (s1, .inl (cI, 30, .inl (aI sh2))), (s2, .inl (cI, 30, .inl (aI dy2))), (s3, .inl (cI, 30, .inl (aI kd2))), (s4, .inl (cL, 30, .inr (.inl (aL gr2))))]) hD hS hA [1, 2, 3, 4, 5, 6, 7, 8, 9, 10, 11, 12, 13] rfl
  refine va_calli (va_runV (As := [.ref up, .ref us]) (rest := []) ⟨hx, hb, hml, hown, htg⟩ (c_Jo_joinAnew l dC dI cI cL cZ s.heap.size uj a1 a2 sp ps up b1 b2 b3 b4 n sh dy kd gr us s1 s2 s3 s4 n2 sh2 dy2 kd2 gr2 hi hi2) (cwV 2 htg (gdV k1_218 k1_219 k1_220 k1_3 kc_Jo_joinAnew) rfl rfl rfl (by decide +kernel) ⟨Nat.le_of_ble_eq_true rfl, Nat.le_of_ble_eq_true rfl⟩) ⟨bk_blindW, va_recv hK hP (ci := 2) (q0 := 1) rfl rfl, fun U hU hW => ⟨rfl, nw_warm hW hN, by rw [hU], by rw [hU]; exact hPc, va_K.moved hW.alike hK, hDc.weaken (fun _ _ _ _ => trivial)⟩⟩ rfl rfl hl.1 rfl (lv_room (Nat.le_of_ble_eq_true rfl)) d_B_run_12 ⟨Nat.le_of_ble_eq_true rfl, Nat.le_of_ble_eq_true rfl⟩) hS (fun q _ h => hFc q h) hFc (fun r12 u t H1 locs ht hvm e12 hB hz1 hk1 hS => ?_)
  obtain ⟨hP1, hK1, hD1⟩ := hB
  rw [ht] at hP1
  try dsimp only at e12
  obtain ⟨sp12, ps12⟩ := u
  obtain ⟨i12, rfl, hi12, hr12, hs12, hg12⟩ := e12
  try dsimp only at hs12 hg12
  obtain ⟨hP, hD⟩ := va_join (wr := [(xo, .inr (0, [.long sd, .ref up, .ref us, .ref uj, .ref ul, .ref uk, .ref ut, .ref uq, .ref uw, .ref uc]))]) (w1 := [(uj, .inr (2, [.ref a1, .ref a2])), (a1, .inl (cI, 30, .inl (aO sp12))), (a2, .inl (cI, 30, .inl (aO ps12))), (up, .inr (1, [.ref b1, .ref b2, .ref b3, .ref b4, .int (nI n)])), (b1, .inl (cI, 30, .inl (aI sh))), (b2, .inl (cI, 30, .inl (aI dy))), (b3, .inl (cI, 30, .inl (aI kd))), (b4, .inl (cL, 30, .inr (.inl (aL gr)))), (us, .inr (1, [.ref s1, .ref s2, .ref s3, .ref s4, .int (nI n2)])), (s1, .inl (cI, 30, .inl (aI sh2))), (s2, .inl (cI, 30, .inl (aI dy2))), (s3, .inl (cI, 30, .inl (aI kd2))), (s4, .inl (cL, 30, .inr (.inl (aL gr2))))]) hP hD [1, 2, 3, 4, 5, 6, 7, 8, 9, 10, 11, 12, 13] [0] rfl rfl (by decide) (by decide) hk1 hFc hP1 hD1
  generalize H1 = H at hP hS ⊢
  have hP : va_P (dC, dI) vwCl [(xo, .inr (0, [.long sd, .ref up, .ref us, .ref uj, .ref ul, .ref uk, .ref ut, .ref uq, .ref uw, .ref uc])), (uj, .inr (2, [.ref a1, .ref a2])), (a1, .inl (cI, 30, .inl (aO sp12))), (a2, .inl (cI, 30, .inl (aO ps12))), (up, .inr (1, [.ref b1, .ref b2, .ref b3, .ref b4, .int (nI n)])), (b1, .inl (cI, 30, .inl (aI sh))), (b2, .inl (cI, 30, .inl (aI dy))), (b3, .inl (cI, 30, .inl (aI kd))), (b4, .inl (cL, 30, .inr (.inl (aL gr)))), (us, .inr (1, [.ref s1, .ref s2, .ref s3, .ref s4, .int (nI n2)])), (s1, .inl (cI, 30, .inl (aI sh2))), (s2, .inl (cI, 30, .inl (aI dy2))), (s3, .inl (cI, 30, .inl (aI kd2))), (s4, .inl (cL, 30, .inr (.inl (aL gr2))))] H := hP.sub [0, 1, 2, 3, 4, 5, 6, 7, 8, 9, 10, 11, 12, 13] rfl
  have hD : va_D A [(xo, .inr (0, [.long sd, .ref up, .ref us, .ref uj, .ref ul, .ref uk, .ref ut, .ref uq, .ref uw, .ref uc])), (uj, .inr (2, [.ref a1, .ref a2])), (a1, .inl (cI, 30, .inl (aO sp12))), (a2, .inl (cI, 30, .inl (aO ps12))), (up, .inr (1, [.ref b1, .ref b2, .ref b3, .ref b4, .int (nI n)])), (b1, .inl (cI, 30, .inl (aI sh))), (b2, .inl (cI, 30, .inl (aI dy))), (b3, .inl (cI, 30, .inl (aI kd))), (b4, .inl (cL, 30, .inr (.inl (aL gr)))), (us, .inr (1, [.ref s1, .ref s2, .ref s3, .ref s4, .int (nI n2)])), (s1, .inl (cI, 30, .inl (aI sh2))), (s2, .inl (cI, 30, .inl (aI dy2))), (s3, .inl (cI, 30, .inl (aI kd2))), (s4, .inl (cL, 30, .inr (.inl (aL gr2))))] := hD.sub [0, 1, 2, 3, 4, 5, 6, 7, 8, 9, 10, 11, 12, 13] (by decide) rfl
  have hP9 := hP.sub (ws' := [(xo, .inr (0, [.long sd, .ref up, .ref us, .ref uj, .ref ul, .ref uk, .ref ut, .ref uq, .ref uw, .ref uc])), (uj, .inr (2, [.ref a1, .ref a2])), (a1, .inl (cI, 30, .inl (aO sp12))), (a2, .inl (cI, 30, .inl (aO ps12))), (up, .inr (1, [.ref b1, .ref b2, .ref b3, .ref b4, .int (nI n)])), (b1, .inl (cI, 30, .inl (aI sh))), (b2, .inl (cI, 30, .inl (aI dy))), (b3, .inl (cI, 30, .inl (aI kd))), (b4, .inl (cL, 30, .inr (.inl (aL gr)))), (us, .inr (1, [.ref s1, .ref s2, .ref s3, .ref s4, .int (nI n2)])), (s1, .inl (cI, 30, .inl (aI sh2))), (s2, .inl (cI, 30, .inl (aI dy2))), (s3, .inl (cI, 30, .inl (aI kd2))), (s4, .inl (cL, 30, .inr (.inl (aL gr2))))]) [0, 1, 2, 3, 4, 5, 6, 7, 8, 9, 10, 11, 12, 13] rfl
  have hD9 := hD.sub (ws' := [(xo, .inr (0, [.long sd, .ref up, .ref us, .ref uj, .ref ul, .ref uk, .ref ut, .ref uq, .ref uw, .ref uc])), (uj, .inr (2, [.ref a1, .ref a2])), (a1, .inl (cI, 30, .inl (aO sp12))), (a2, .inl (cI, 30, .inl (aO ps12))), (up, .inr (1, [.ref b1, .ref b2, .ref b3, .ref b4, .int (nI n)])), (b1, .inl (cI, 30, .inl (aI sh))), (b2, .inl (cI, 30, .inl (aI dy))), (b3, .inl (cI, 30, .inl (aI kd))), (b4, .inl (cL, 30, .inr (.inl (aL gr)))), (us, .inr (1, [.ref s1, .ref s2, .ref s3, .ref s4, .int (nI n2)])), (s1, .inl (cI, 30, .inl (aI sh2))), (s2, .inl (cI, 30, .inl (aI dy2))), (s3, .inl (cI, 30, .inl (aI kd2))), (s4, .inl (cL, 30, .inr (.inl (aL gr2))))]) [0, 1, 2, 3, 4, 5, 6, 7, 8, 9, 10, 11, 12, 13] (by decide) rfl
  exact W.iret (v := nI i12) hx hb hr (fun t9 ht9 hW9 => ⟨⟨nI i12, (sp12, ps12), rfl, ⟨i12, rfl, hi12, hr12, hs12, hg12⟩, by rw [ht9]; exact hP9, va_K.moved hW9.alike hK, hD9⟩, hS.F ht9⟩) hS.2.2 d_B_run_15
set_option maxHeartbeats 4000000 in
set_option maxRecDepth 100000 in
theorem c_B_pair (l : Launch) (dC : Nat → ClassId) (dI : Nat → Nat → Nat) (cI cL cZ : ClassId) (xo up us uj ul uk ut uq uw uc : Nat) (sd : Int64) (a1 a2 : Nat) (sp : Nat → Option Nat) (x : Int32) : Met l y_B_pair ws_B_pair { frames := 1, cells := 0, slots := 0, locals := 21 } (va_Pc [.ref xo, .int x] (rdP (dC, dI) vwCl [(cI, .int), (cL, .long), (cZ, .boolean)] [(xo, .inr (0, [.long sd, .ref up, .ref us, .ref uj, .ref ul, .ref uk, .ref ut, .ref uq, .ref uw, .ref uc])), (uj, .inr (2, [.ref a1, .ref a2])), (a1, .inl (cI, 30, .inl (aO sp)))])) (vp_Si (fun r => (∃ j, j < 30 ∧ x = nI j ∧ r = oI (sp j)) ∨ (¬ inR 30 x ∧ r = oI none))) 0 0 (fun _ => False) := by
  refine Met.ofW (cc := b_B_pair) (maxL := 2) (ret := (some .int)) (by decide) rfl ?_
  intro pr en s m args below meth c s₁ B hml hv
  obtain ⟨rfl, hN, hP, hK⟩ := hv
  have hx := B.exec
  have hb := B.bytes
  have hr := B.returns
  have hts := atoms_spec (ws := ws_B_pair) B.pre
  have htg : ∀ w ∈ gW, w.before _ s = true := fun w h => hts w (List.mem_cons_of_mem _ h)
  have hown : s.vm.findClass R_B = some m.cls := findClass_of_methodNamed B.named
  have hlocks := B.notSynchronized
  have hl := lv_entry ([.ref xo, .int x]) (n := 2) (Nat.le_of_ble_eq_true rfl)
  rw [lg_entry_eq]
  generalize (lg_sl ([.ref xo, .int x]) ++ List.replicate (2 - (lg_sl ([.ref xo, .int x])).length) Slot.unset).toArray = ls at hl ⊢
  have hl : lv_has ls 2 [(0, .ref xo), (1, .int x)] := hl
  refine lv_aload_n hx hb d_B_pair_0 rfl (lv_at hl 0 rfl) ?_
  refine va_get (D := (dC, dI)) (ci := 0) (v := .ref uj) (C := R_B) (T := F_B) (N := 10) hx hb htg iw_B hown hK hP 0 rfl rfl 3 (by decide) (htg _ k1_160) (fun _ h9 => h9) rfl d_B_pair_1 ?_
  refine lv_iload_n hx hb d_B_pair_4 rfl (lv_at hl 1 rfl) ?_
  refine vp_callSi (va_runV (As := [.int x]) (rest := []) ⟨hx, hb, hml, hown, htg⟩ (c_Jo_saleOf l dC dI cI cL cZ uj a1 a2 sp x ) (cwV 1 htg (gdV k2_11 k2_12 k2_13 k1_3 kc_Jo_saleOf) rfl rfl rfl (by decide +kernel) ⟨Nat.le_of_ble_eq_true rfl, Nat.le_of_ble_eq_true rfl⟩) ⟨bk_blind, va_recv hK hP (ci := 2) (q0 := 1) rfl rfl, fun U hU hW => ⟨rfl, nw_warm hW hN, by rw [hU]; exact hP.sub [1, 2] rfl, va_K.moved hW.alike hK⟩⟩ rfl rfl hl.1 rfl (lv_room (Nat.le_of_ble_eq_true rfl)) d_B_pair_5 ⟨Nat.le_of_ble_eq_true rfl, Nat.le_of_ble_eq_true rfl⟩).run (fun r5 e5 => ?_)
  exact W.iret (v := r5) hx hb hr (fun t9 ht9 hW9 => ⟨r5, rfl, e5, ht9⟩) (fun q h => nomatch h) d_B_pair_8
set_option maxHeartbeats 4000000 in
set_option maxRecDepth 100000 in
theorem c_B_points (l : Launch) (dC : Nat → ClassId) (dI : Nat → Nat → Nat) (cI cL cZ : ClassId) (xo up us uj ul uk ut uq uw uc : Nat) (sd : Int64) (a1 a2 : Nat) (sp : Nat → Option Nat) (b1 b2 b3 b4 n : Nat) (sh dy kd gr : Nat → Nat) (s1 s2 s3 s4 n2 : Nat) (sh2 dy2 kd2 gr2 : Nat → Nat) (x : Int32) (hi : bkI n sh dy kd gr) (hi2 : bkI n2 sh2 dy2 kd2 gr2) (hsp : ∀ p k, sp p = some k → p < n ∧ k < n2) : Met l y_B_points ws_B_points { frames := 3, cells := 0, slots := 0, locals := 74 } (va_Pc [.ref xo, .int x] (rdP (dC, dI) vwCl [(cI, .int), (cL, .long), (cZ, .boolean)] [(xo, .inr (0, [.long sd, .ref up, .ref us, .ref uj, .ref ul, .ref uk, .ref ut, .ref uq, .ref uw, .ref uc])), (uj, .inr (2, [.ref a1, .ref a2])), (a1, .inl (cI, 30, .inl (aO sp))), (up, .inr (1, [.ref b1, .ref b2, .ref b3, .ref b4, .int (nI n)])), (b1, .inl (cI, 30, .inl (aI sh))), (b2, .inl (cI, 30, .inl (aI dy))), (b3, .inl (cI, 30, .inl (aI kd))), (b4, .inl (cL, 30, .inr (.inl (aL gr)))), (us, .inr (1, [.ref s1, .ref s2, .ref s3, .ref s4, .int (nI n2)])), (s1, .inl (cI, 30, .inl (aI sh2))), (s2, .inl (cI, 30, .inl (aI dy2))), (s3, .inl (cI, 30, .inl (aI kd2))), (s4, .inl (cL, 30, .inr (.inl (aL gr2))))])) (vp_Si (fun r => (∃ j k, j < 30 ∧ x = nI j ∧ sp j = some k ∧ r = nI (ptOf sh dy kd gr sh2 dy2 kd2 gr2 j k)) ∨ ((∀ j, j < 30 → x = nI j → sp j = none) ∧ r = nI 0))) 0 0 (fun _ => False) := by
  refine Met.ofW (cc := b_B_points) (maxL := 3) (ret := (some .int)) (by decide) rfl ?_
  intro pr en s m args below meth c s₁ B hml hv
  obtain ⟨rfl, hN, hP, hK⟩ := hv
  have hx := B.exec
  have hb := B.bytes
  have hr := B.returns
  have hts := atoms_spec (ws := ws_B_points) B.pre
  have htg : ∀ w ∈ gW, w.before _ s = true := fun w h => hts w (List.mem_cons_of_mem _ h)
  have hown : s.vm.findClass R_B = some m.cls := findClass_of_methodNamed B.named
  have hlocks := B.notSynchronized
  have hl := lv_entry ([.ref xo, .int x]) (n := 3) (Nat.le_of_ble_eq_true rfl)
  rw [lg_entry_eq]
  generalize (lg_sl ([.ref xo, .int x]) ++ List.replicate (3 - (lg_sl ([.ref xo, .int x])).length) Slot.unset).toArray = ls at hl ⊢
  have hl : lv_has ls 3 [(0, .ref xo), (1, .int x)] := hl
  have hn := hi.1
  have hn2 := hi2.1
  refine lv_aload_n hx hb d_B_points_0 rfl (lv_at hl 0 rfl) ?_
  refine va_get (D := (dC, dI)) (ci := 0) (v := .ref uj) (C := R_B) (T := F_B) (N := 10) hx hb htg iw_B hown hK hP 0 rfl rfl 3 (by decide) (htg _ k1_160) (fun _ h9 => h9) rfl d_B_points_1 ?_
  refine lv_iload_n hx hb d_B_points_4 rfl (lv_at hl 1 rfl) ?_
  refine vp_callSi (va_runV (As := [.int x]) (rest := []) ⟨hx, hb, hml, hown, htg⟩ (c_Jo_saleOf l dC dI cI cL cZ uj a1 a2 sp x ) (cwV 1 htg (gdV k2_11 k2_12 k2_13 k1_3 kc_Jo_saleOf) rfl rfl rfl (by decide +kernel) ⟨Nat.le_of_ble_eq_true rfl, Nat.le_of_ble_eq_true rfl⟩) ⟨bk_blind, va_recv hK hP (ci := 2) (q0 := 1) rfl rfl, fun U hU hW => ⟨rfl, nw_warm hW hN, by rw [hU]; exact hP.sub [1, 2] rfl, va_K.moved hW.alike hK⟩⟩ rfl rfl hl.1 rfl (lv_room (Nat.le_of_ble_eq_true rfl)) d_B_points_5 ⟨Nat.le_of_ble_eq_true rfl, Nat.le_of_ble_eq_true rfl⟩).run (fun r5 e5 => ?_)
  rcases e5 with ⟨j, hj, hxj, rfl⟩ | ⟨hno, rfl⟩
  · rcases hsj : sp j with _ | k
    · refine lv_istore_n (lv' := [(2, .int (oI none)), (0, .ref xo), (1, .int x)]) hx hb d_B_points_8 rfl hl (by decide) rfl (fun ls hl => ?_)
      refine lv_iload_n hx hb d_B_points_9 rfl (lv_at hl 0 rfl) ?_
      refine lv_iconst (v := oI none) hx hb d_B_points_10 (by decide +kernel) ?_
      refine bk_ocmp_ne (r := none) (tgt := 18) hx hb (by intro k h; cases h) d_B_points_11 (by decide) (fun c11 => absurd rfl c11) (fun c11 => ?_)
      refine lv_iconst (v := nI 0) hx hb d_B_points_14 (by decide +kernel) ?_
      refine lv_goto (tgt := 31) hx hb d_B_points_15 (by decide) ?_
      exact W.iret (v := nI 0) hx hb hr (fun t9 ht9 hW9 => ⟨nI 0, rfl, Or.inr ⟨(fun j9 h9 e9 => by rw [hxj] at e9; rw [← (nI_eq (by omega) (by omega)).mp e9]; exact hsj), rfl⟩, ht9⟩) (fun q h => nomatch h) d_B_points_31
    · obtain ⟨hjn, hkn⟩ := hsp j k hsj
      refine bk_topi (y := nI k) rfl ?_
      refine lv_istore_n (lv' := [(2, .int (nI k)), (0, .ref xo), (1, .int x)]) hx hb d_B_points_8 rfl hl (by decide) rfl (fun ls hl => ?_)
      refine lv_iload_n hx hb d_B_points_9 rfl (lv_at hl 0 rfl) ?_
      refine lv_iconst (v := oI none) hx hb d_B_points_10 (by decide +kernel) ?_
      refine bk_ocmp_ne (r := some k) (tgt := 18) hx hb (by intro k h; cases h; omega) d_B_points_11 (by decide) (fun c11 => ?_) (fun c11 => nomatch c11)
      refine lv_aload_n hx hb d_B_points_18 rfl (lv_at hl 1 rfl) ?_
      refine va_get (D := (dC, dI)) (ci := 0) (v := .ref up) (C := R_B) (T := F_B) (N := 10) hx hb htg iw_B hown hK hP 0 rfl rfl 1 (by decide) (htg _ k1_158) (fun _ h9 => h9) rfl d_B_points_19 ?_
      refine lv_iload_n hx hb d_B_points_22 rfl (lv_at hl 2 rfl) ?_
      refine bk_topi (y := nI j) hxj ?_
      refine lv_aload_n hx hb d_B_points_23 rfl (lv_at hl 1 rfl) ?_
      refine va_get (D := (dC, dI)) (ci := 0) (v := .ref us) (C := R_B) (T := F_B) (N := 10) hx hb htg iw_B hown hK hP 0 rfl rfl 2 (by decide) (htg _ k1_159) (fun _ h9 => h9) rfl d_B_points_24 ?_
      refine lv_iload_n hx hb d_B_points_27 rfl (lv_at hl 0 rfl) ?_
      refine vp_callSi (va_runV (As := [.int (nI j), .ref us, .int (nI k)]) (rest := []) ⟨hx, hb, hml, hown, htg⟩ (c_Bk_fitWith l dC dI cI cL cZ up b1 b2 b3 b4 n sh dy kd gr us s1 s2 s3 s4 n2 sh2 dy2 kd2 gr2 j k hi hi2 hjn hkn) (cwV 3 htg (gdV k2_19 k1_227 k1_228 k1_2 kc_Bk_fitWith) rfl rfl rfl (by decide +kernel) ⟨Nat.le_of_ble_eq_true rfl, Nat.le_of_ble_eq_true rfl⟩) ⟨bk_blind, va_recv hK hP (ci := 1) (q0 := 3) rfl rfl, fun U hU hW => ⟨rfl, nw_warm hW hN, by rw [hU]; exact hP.sub [3, 4, 5, 6, 7, 8, 9, 10, 11, 12] rfl, va_K.moved hW.alike hK⟩⟩ rfl rfl hl.1 rfl (lv_room (Nat.le_of_ble_eq_true rfl)) d_B_points_28 ⟨Nat.le_of_ble_eq_true rfl, Nat.le_of_ble_eq_true rfl⟩).run (fun r28 e28 => ?_)
      subst e28
      exact W.iret (v := nI (ptOf sh dy kd gr sh2 dy2 kd2 gr2 j k)) hx hb hr (fun t9 ht9 hW9 => ⟨nI (ptOf sh dy kd gr sh2 dy2 kd2 gr2 j k), rfl, Or.inl ⟨j, k, hj, hxj, hsj, rfl⟩, ht9⟩) (fun q h => nomatch h) d_B_points_31
  · refine lv_istore_n (lv' := [(2, .int (oI none)), (0, .ref xo), (1, .int x)]) hx hb d_B_points_8 rfl hl (by decide) rfl (fun ls hl => ?_)
    refine lv_iload_n hx hb d_B_points_9 rfl (lv_at hl 0 rfl) ?_
    refine lv_iconst (v := oI none) hx hb d_B_points_10 (by decide +kernel) ?_
    refine bk_ocmp_ne (r := none) (tgt := 18) hx hb (by intro k h; cases h) d_B_points_11 (by decide) (fun c11 => absurd rfl c11) (fun c11 => ?_)
    refine lv_iconst (v := nI 0) hx hb d_B_points_14 (by decide +kernel) ?_
    refine lv_goto (tgt := 31) hx hb d_B_points_15 (by decide) ?_
    exact W.iret (v := nI 0) hx hb hr (fun t9 ht9 hW9 => ⟨nI 0, rfl, Or.inr ⟨(fun j9 h9 e9 => absurd ⟨j9, h9, e9⟩ hno), rfl⟩, ht9⟩) (fun q h => nomatch h) d_B_points_31
set_option maxHeartbeats 4000000 in
set_option maxRecDepth 100000 in
theorem c_B_differs (l : Launch) (dC : Nat → ClassId) (dI : Nat → Nat → Nat) (cI cL cZ : ClassId) (xo up us uj ul uk ut uq uw uc : Nat) (sd : Int64) (a1 a2 : Nat) (sp : Nat → Option Nat) (b1 b2 b3 b4 n : Nat) (sh dy kd gr : Nat → Nat) (s1 s2 s3 s4 n2 : Nat) (sh2 dy2 kd2 gr2 : Nat → Nat) (x : Int32) (hi : bkI n sh dy kd gr) (hi2 : bkI n2 sh2 dy2 kd2 gr2) (hsp : ∀ p k, sp p = some k → p < n ∧ k < n2) : Met l y_B_differs ws_B_differs { frames := 2, cells := 0, slots := 0, locals := 42 } (va_Pc [.ref xo, .int x] (rdP (dC, dI) vwCl [(cI, .int), (cL, .long), (cZ, .boolean)] [(xo, .inr (0, [.long sd, .ref up, .ref us, .ref uj, .ref ul, .ref uk, .ref ut, .ref uq, .ref uw, .ref uc])), (uj, .inr (2, [.ref a1, .ref a2])), (a1, .inl (cI, 30, .inl (aO sp))), (up, .inr (1, [.ref b1, .ref b2, .ref b3, .ref b4, .int (nI n)])), (b1, .inl (cI, 30, .inl (aI sh))), (b2, .inl (cI, 30, .inl (aI dy))), (b3, .inl (cI, 30, .inl (aI kd))), (b4, .inl (cL, 30, .inr (.inl (aL gr)))), (us, .inr (1, [.ref s1, .ref s2, .ref s3, .ref s4, .int (nI n2)])), (s1, .inl (cI, 30, .inl (aI sh2))), (s2, .inl (cI, 30, .inl (aI dy2))), (s3, .inl (cI, 30, .inl (aI kd2))), (s4, .inl (cL, 30, .inr (.inl (aL gr2))))])) (vp_Sl (fun r => (∃ j k, j < 30 ∧ x = nI j ∧ sp j = some k ∧ r = lN (gr2 k) - lN (gr j)) ∨ ((∀ j, j < 30 → x = nI j → sp j = none) ∧ r = lN 0))) 0 0 (fun _ => False) := by
  refine Met.ofW (cc := b_B_differs) (maxL := 3) (ret := (some .long)) (by decide) rfl ?_
  intro pr en s m args below meth c s₁ B hml hv
  obtain ⟨rfl, hN, hP, hK⟩ := hv
  have hx := B.exec
  have hb := B.bytes
  have hr := B.returns
  have hts := atoms_spec (ws := ws_B_differs) B.pre
  have htg : ∀ w ∈ gW, w.before _ s = true := fun w h => hts w (List.mem_cons_of_mem _ h)
  have hown : s.vm.findClass R_B = some m.cls := findClass_of_methodNamed B.named
  have hlocks := B.notSynchronized
  have hl := lv_entry ([.ref xo, .int x]) (n := 3) (Nat.le_of_ble_eq_true rfl)
  rw [lg_entry_eq]
  generalize (lg_sl ([.ref xo, .int x]) ++ List.replicate (3 - (lg_sl ([.ref xo, .int x])).length) Slot.unset).toArray = ls at hl ⊢
  have hl : lv_has ls 3 [(0, .ref xo), (1, .int x)] := hl
  have hn := hi.1
  have hn2 := hi2.1
  refine lv_aload_n hx hb d_B_differs_0 rfl (lv_at hl 0 rfl) ?_
  refine va_get (D := (dC, dI)) (ci := 0) (v := .ref uj) (C := R_B) (T := F_B) (N := 10) hx hb htg iw_B hown hK hP 0 rfl rfl 3 (by decide) (htg _ k1_160) (fun _ h9 => h9) rfl d_B_differs_1 ?_
  refine lv_iload_n hx hb d_B_differs_4 rfl (lv_at hl 1 rfl) ?_
  refine vp_callSi (va_runV (As := [.int x]) (rest := []) ⟨hx, hb, hml, hown, htg⟩ (c_Jo_saleOf l dC dI cI cL cZ uj a1 a2 sp x ) (cwV 1 htg (gdV k2_11 k2_12 k2_13 k1_3 kc_Jo_saleOf) rfl rfl rfl (by decide +kernel) ⟨Nat.le_of_ble_eq_true rfl, Nat.le_of_ble_eq_true rfl⟩) ⟨bk_blind, va_recv hK hP (ci := 2) (q0 := 1) rfl rfl, fun U hU hW => ⟨rfl, nw_warm hW hN, by rw [hU]; exact hP.sub [1, 2] rfl, va_K.moved hW.alike hK⟩⟩ rfl rfl hl.1 rfl (lv_room (Nat.le_of_ble_eq_true rfl)) d_B_differs_5 ⟨Nat.le_of_ble_eq_true rfl, Nat.le_of_ble_eq_true rfl⟩).run (fun r5 e5 => ?_)
  rcases e5 with ⟨j, hj, hxj, rfl⟩ | ⟨hno, rfl⟩
  · rcases hsj : sp j with _ | k
    · refine lv_istore_n (lv' := [(2, .int (oI none)), (0, .ref xo), (1, .int x)]) hx hb d_B_differs_8 rfl hl (by decide) rfl (fun ls hl => ?_)
      refine lv_iload_n hx hb d_B_differs_9 rfl (lv_at hl 0 rfl) ?_
      refine lv_iconst (v := oI none) hx hb d_B_differs_10 (by decide +kernel) ?_
      refine bk_ocmp_ne (r := none) (tgt := 18) hx hb (by intro k h; cases h) d_B_differs_11 (by decide) (fun c11 => absurd rfl c11) (fun c11 => ?_)
      refine lv_lconst (v := lN 0) hx hb d_B_differs_14 (by decide +kernel) ?_
      refine lv_goto (tgt := 35) hx hb d_B_differs_15 (by decide) ?_
      exact W.lret (v := lN 0) hx hb hr (fun t9 ht9 hW9 => ⟨lN 0, rfl, Or.inr ⟨(fun j9 h9 e9 => by rw [hxj] at e9; rw [← (nI_eq (by omega) (by omega)).mp e9]; exact hsj), rfl⟩, ht9⟩) (fun q h => nomatch h) d_B_differs_35
    · obtain ⟨hjn, hkn⟩ := hsp j k hsj
      refine bk_topi (y := nI k) rfl ?_
      refine lv_istore_n (lv' := [(2, .int (nI k)), (0, .ref xo), (1, .int x)]) hx hb d_B_differs_8 rfl hl (by decide) rfl (fun ls hl => ?_)
      refine lv_iload_n hx hb d_B_differs_9 rfl (lv_at hl 0 rfl) ?_
      refine lv_iconst (v := oI none) hx hb d_B_differs_10 (by decide +kernel) ?_
      refine bk_ocmp_ne (r := some k) (tgt := 18) hx hb (by intro k h; cases h; omega) d_B_differs_11 (by decide) (fun c11 => ?_) (fun c11 => nomatch c11)
      refine lv_aload_n hx hb d_B_differs_18 rfl (lv_at hl 1 rfl) ?_
      refine va_get (D := (dC, dI)) (ci := 0) (v := .ref us) (C := R_B) (T := F_B) (N := 10) hx hb htg iw_B hown hK hP 0 rfl rfl 2 (by decide) (htg _ k1_159) (fun _ h9 => h9) rfl d_B_differs_19 ?_
      refine lv_iload_n hx hb d_B_differs_22 rfl (lv_at hl 0 rfl) ?_
      refine vp_callSl (va_runV (As := [.int (nI k)]) (rest := []) ⟨hx, hb, hml, hown, htg⟩ (c_Bk_gramsOf l dC dI cI cL cZ us s1 s2 s3 s4 n2 gr2 (nI k) (by omega)) (cwV 1 htg (gdV k2_24 k2_25 k2_26 k1_2 kc_Bk_gramsOf) rfl rfl rfl (by decide +kernel) ⟨Nat.le_of_ble_eq_true rfl, Nat.le_of_ble_eq_true rfl⟩) ⟨bk_blind, va_recv hK hP (ci := 1) (q0 := 8) rfl rfl, fun U hU hW => ⟨rfl, nw_warm hW hN, by rw [hU]; exact hP.sub [8, 12] rfl, va_K.moved hW.alike hK⟩⟩ rfl rfl hl.1 rfl (lv_room (Nat.le_of_ble_eq_true rfl)) d_B_differs_23 ⟨Nat.le_of_ble_eq_true rfl, Nat.le_of_ble_eq_true rfl⟩).run (fun r23 e23 => ?_)
      obtain ⟨q23, uq23, hx23, rfl⟩ := e23.resolve_right (fun z9 => z9.1 ⟨k, hkn, rfl⟩)
      obtain rfl := (nI_eq (by omega) (by omega)).mp hx23
      refine lv_aload_n hx hb d_B_differs_26 rfl (lv_at hl 1 rfl) ?_
      refine va_get (D := (dC, dI)) (ci := 0) (v := .ref up) (C := R_B) (T := F_B) (N := 10) hx hb htg iw_B hown hK hP 0 rfl rfl 1 (by decide) (htg _ k1_158) (fun _ h9 => h9) rfl d_B_differs_27 ?_
      refine lv_iload_n hx hb d_B_differs_30 rfl (lv_at hl 2 rfl) ?_
      refine bk_topi (y := nI j) hxj ?_
      refine vp_callSl (va_runV (As := [.int (nI j)]) (rest := [.long (lN (gr2 k))]) ⟨hx, hb, hml, hown, htg⟩ (c_Bk_gramsOf l dC dI cI cL cZ up b1 b2 b3 b4 n gr (nI j) (by omega)) (cwV 1 htg (gdV k2_24 k2_25 k2_26 k1_2 kc_Bk_gramsOf) rfl rfl rfl (by decide +kernel) ⟨Nat.le_of_ble_eq_true rfl, Nat.le_of_ble_eq_true rfl⟩) ⟨bk_blind, va_recv hK hP (ci := 1) (q0 := 3) rfl rfl, fun U hU hW => ⟨rfl, nw_warm hW hN, by rw [hU]; exact hP.sub [3, 7] rfl, va_K.moved hW.alike hK⟩⟩ rfl rfl hl.1 rfl (lv_room (Nat.le_of_ble_eq_true rfl)) d_B_differs_31 ⟨Nat.le_of_ble_eq_true rfl, Nat.le_of_ble_eq_true rfl⟩).run (fun r31 e31 => ?_)
      obtain ⟨q31, uq31, hx31, rfl⟩ := e31.resolve_right (fun z9 => z9.1 ⟨j, hjn, rfl⟩)
      obtain rfl := (nI_eq (by omega) (by omega)).mp hx31
      refine lv_lsub hx hb d_B_differs_34 ?_
      exact W.lret (v := ((lN (gr2 k)) - (lN (gr j)))) hx hb hr (fun t9 ht9 hW9 => ⟨((lN (gr2 k)) - (lN (gr j))), rfl, Or.inl ⟨j, k, hj, hxj, hsj, rfl⟩, ht9⟩) (fun q h => nomatch h) d_B_differs_35
  · refine lv_istore_n (lv' := [(2, .int (oI none)), (0, .ref xo), (1, .int x)]) hx hb d_B_differs_8 rfl hl (by decide) rfl (fun ls hl => ?_)
    refine lv_iload_n hx hb d_B_differs_9 rfl (lv_at hl 0 rfl) ?_
    refine lv_iconst (v := oI none) hx hb d_B_differs_10 (by decide +kernel) ?_
    refine bk_ocmp_ne (r := none) (tgt := 18) hx hb (by intro k h; cases h) d_B_differs_11 (by decide) (fun c11 => absurd rfl c11) (fun c11 => ?_)
    refine lv_lconst (v := lN 0) hx hb d_B_differs_14 (by decide +kernel) ?_
    refine lv_goto (tgt := 35) hx hb d_B_differs_15 (by decide) ?_
    exact W.lret (v := lN 0) hx hb hr (fun t9 ht9 hW9 => ⟨lN 0, rfl, Or.inr ⟨(fun j9 h9 e9 => absurd ⟨j9, h9, e9⟩ hno), rfl⟩, ht9⟩) (fun q h => nomatch h) d_B_differs_35
set_option maxHeartbeats 4000000 in
set_option maxRecDepth 100000 in
theorem c_B_waits (l : Launch) (dC : Nat → ClassId) (dI : Nat → Nat → Nat) (cI cL cZ : ClassId) (xo up us uj ul uk ut uq uw uc : Nat) (sd : Int64) (a1 a2 : Nat) (sp : Nat → Option Nat) (b1 b2 b3 b4 n : Nat) (sh dy kd gr : Nat → Nat) (x y : Int32) (hi : bkI n sh dy kd gr) (hsp : ∀ p k, sp p = some k → k < 30) : Met l y_B_waits ws_B_waits { frames := 1, cells := 0, slots := 0, locals := 27 } (va_Pc [.ref xo, .int x, .int y] (rdP (dC, dI) vwCl [(cI, .int), (cL, .long), (cZ, .boolean)] [(xo, .inr (0, [.long sd, .ref up, .ref us, .ref uj, .ref ul, .ref uk, .ref ut, .ref uq, .ref uw, .ref uc])), (uj, .inr (2, [.ref a1, .ref a2])), (a1, .inl (cI, 30, .inl (aO sp))), (up, .inr (1, [.ref b1, .ref b2, .ref b3, .ref b4, .int (nI n)])), (b1, .inl (cI, 30, .inl (aI sh))), (b2, .inl (cI, 30, .inl (aI dy))), (b3, .inl (cI, 30, .inl (aI kd))), (b4, .inl (cL, 30, .inr (.inl (aL gr))))])) (vp_Si (fun r => ∃ o, r = oI o ∧ kth (wB sp dy x) n y o)) 0 0 (fun _ => False) := by
  refine Met.ofW (cc := b_B_waits) (maxL := 3) (ret := (some .int)) (by decide) rfl ?_
  intro pr en s m args below meth c s₁ B hml hv
  obtain ⟨rfl, hN, hP, hK⟩ := hv
  have hx := B.exec
  have hb := B.bytes
  have hr := B.returns
  have hts := atoms_spec (ws := ws_B_waits) B.pre
  have htg : ∀ w ∈ gW, w.before _ s = true := fun w h => hts w (List.mem_cons_of_mem _ h)
  have hown : s.vm.findClass R_B = some m.cls := findClass_of_methodNamed B.named
  have hlocks := B.notSynchronized
  have hl := lv_entry ([.ref xo, .int x, .int y]) (n := 3) (Nat.le_of_ble_eq_true rfl)
  rw [lg_entry_eq]
  generalize (lg_sl ([.ref xo, .int x, .int y]) ++ List.replicate (3 - (lg_sl ([.ref xo, .int x, .int y])).length) Slot.unset).toArray = ls at hl ⊢
  have hl : lv_has ls 3 [(0, .ref xo), (1, .int x), (2, .int y)] := hl
  refine lv_aload_n hx hb d_B_waits_0 rfl (lv_at hl 0 rfl) ?_
  refine va_get (D := (dC, dI)) (ci := 0) (v := .ref uj) (C := R_B) (T := F_B) (N := 10) hx hb htg iw_B hown hK hP 0 rfl rfl 3 (by decide) (htg _ k1_160) (fun _ h9 => h9) rfl d_B_waits_1 ?_
  refine lv_aload_n hx hb d_B_waits_4 rfl (lv_at hl 0 rfl) ?_
  refine va_get (D := (dC, dI)) (ci := 0) (v := .ref up) (C := R_B) (T := F_B) (N := 10) hx hb htg iw_B hown hK hP 0 rfl rfl 1 (by decide) (htg _ k1_158) (fun _ h9 => h9) rfl d_B_waits_5 ?_
  refine lv_iload_n hx hb d_B_waits_8 rfl (lv_at hl 1 rfl) ?_
  refine lv_iload_n hx hb d_B_waits_9 rfl (lv_at hl 2 rfl) ?_
  refine vp_callSi (va_runV (As := [.ref up, .int x, .int y]) (rest := []) ⟨hx, hb, hml, hown, htg⟩ (c_Jo_waiting l dC dI cI cL cZ uj a1 a2 sp up b1 b2 b3 b4 n sh dy kd gr x y hi hsp) (cwV 3 htg (gdV k2_32 k2_33 k2_34 k1_3 kc_Jo_waiting) rfl rfl rfl (by decide +kernel) ⟨Nat.le_of_ble_eq_true rfl, Nat.le_of_ble_eq_true rfl⟩) ⟨bk_blind, va_recv hK hP (ci := 2) (q0 := 1) rfl rfl, fun U hU hW => ⟨rfl, nw_warm hW hN, by rw [hU]; exact hP.sub [1, 2, 3, 4, 5, 6, 7] rfl, va_K.moved hW.alike hK⟩⟩ rfl rfl hl.1 rfl (lv_room (Nat.le_of_ble_eq_true rfl)) d_B_waits_10 ⟨Nat.le_of_ble_eq_true rfl, Nat.le_of_ble_eq_true rfl⟩).run (fun r10 e10 => ?_)
  exact W.iret (v := r10) hx hb hr (fun t9 ht9 hW9 => ⟨r10, rfl, e10, ht9⟩) (fun q h => nomatch h) d_B_waits_13
set_option maxHeartbeats 4000000 in
set_option maxRecDepth 100000 in
theorem c_B_balance (l : Launch) (dC : Nat → ClassId) (dI : Nat → Nat → Nat) (cI cL cZ : ClassId) (xo up us uj ul uk ut uq uw uc : Nat) (sd : Int64) (b1 b2 b3 b4 n : Nat) (sh dy kd gr : Nat → Nat) (s1 s2 s3 s4 n2 : Nat) (sh2 dy2 kd2 gr2 : Nat → Nat) (x : Int32) (hi : bkI n sh dy kd gr) (hi2 : bkI n2 sh2 dy2 kd2 gr2) : Met l y_B_balance ws_B_balance { frames := 1, cells := 0, slots := 0, locals := 24 } (va_Pc [.ref xo, .int x] (rdP (dC, dI) vwCl [(cI, .int), (cL, .long), (cZ, .boolean)] [(xo, .inr (0, [.long sd, .ref up, .ref us, .ref uj, .ref ul, .ref uk, .ref ut, .ref uq, .ref uw, .ref uc])), (up, .inr (1, [.ref b1, .ref b2, .ref b3, .ref b4, .int (nI n)])), (b1, .inl (cI, 30, .inl (aI sh))), (b2, .inl (cI, 30, .inl (aI dy))), (b3, .inl (cI, 30, .inl (aI kd))), (b4, .inl (cL, 30, .inr (.inl (aL gr)))), (us, .inr (1, [.ref s1, .ref s2, .ref s3, .ref s4, .int (nI n2)])), (s1, .inl (cI, 30, .inl (aI sh2))), (s2, .inl (cI, 30, .inl (aI dy2))), (s3, .inl (cI, 30, .inl (aI kd2))), (s4, .inl (cL, 30, .inr (.inl (aL gr2))))])) (vp_Sl (fun r => r = lN (sumK kd2 gr2 x n2) - lN (sumK kd gr x n))) 0 0 (fun _ => False) := by
  refine Met.ofW (cc := b_B_balance) (maxL := 2) (ret := (some .long)) (by decide) rfl ?_
  intro pr en s m args below meth c s₁ B hml hv
  obtain ⟨rfl, hN, hP, hK⟩ := hv
  have hx := B.exec
  have hb := B.bytes
  have hr := B.returns
  have hts := atoms_spec (ws := ws_B_balance) B.pre
  have htg : ∀ w ∈ gW, w.before _ s = true := fun w h => hts w (List.mem_cons_of_mem _ h)
  have hown : s.vm.findClass R_B = some m.cls := findClass_of_methodNamed B.named
  have hlocks := B.notSynchronized
  have hl := lv_entry ([.ref xo, .int x]) (n := 2) (Nat.le_of_ble_eq_true rfl)
  rw [lg_entry_eq]
  generalize (lg_sl ([.ref xo, .int x]) ++ List.replicate (2 - (lg_sl ([.ref xo, .int x])).length) Slot.unset).toArray = ls at hl ⊢
  have hl : lv_has ls 2 [(0, .ref xo), (1, .int x)] := hl
  have hn := hi.1
  have hn2 := hi2.1
  refine lv_aload_n hx hb d_B_balance_0 rfl (lv_at hl 0 rfl) ?_
  refine va_get (D := (dC, dI)) (ci := 0) (v := .ref us) (C := R_B) (T := F_B) (N := 10) hx hb htg iw_B hown hK hP 0 rfl rfl 2 (by decide) (htg _ k1_159) (fun _ h9 => h9) rfl d_B_balance_1 ?_
  refine lv_iload_n hx hb d_B_balance_4 rfl (lv_at hl 1 rfl) ?_
  refine vp_callSl (va_runV (As := [.int x]) (rest := []) ⟨hx, hb, hml, hown, htg⟩ (c_Bk_gramsOfKind l dC dI cI cL cZ us s1 s2 s3 s4 n2 kd2 gr2 x (by omega)) (cwV 1 htg (gdV k2_41 k2_42 k2_43 k1_2 kc_Bk_gramsOfKind) rfl rfl rfl (by decide +kernel) ⟨Nat.le_of_ble_eq_true rfl, Nat.le_of_ble_eq_true rfl⟩) ⟨bk_blind, va_recv hK hP (ci := 1) (q0 := 6) rfl rfl, fun U hU hW => ⟨rfl, nw_warm hW hN, by rw [hU]; exact hP.sub [6, 9, 10] rfl, va_K.moved hW.alike hK⟩⟩ rfl rfl hl.1 rfl (lv_room (Nat.le_of_ble_eq_true rfl)) d_B_balance_5 ⟨Nat.le_of_ble_eq_true rfl, Nat.le_of_ble_eq_true rfl⟩).run (fun r5 e5 => ?_)
  subst e5
  refine lv_aload_n hx hb d_B_balance_8 rfl (lv_at hl 0 rfl) ?_
  refine va_get (D := (dC, dI)) (ci := 0) (v := .ref up) (C := R_B) (T := F_B) (N := 10) hx hb htg iw_B hown hK hP 0 rfl rfl 1 (by decide) (htg _ k1_158) (fun _ h9 => h9) rfl d_B_balance_9 ?_
  refine lv_iload_n hx hb d_B_balance_12 rfl (lv_at hl 1 rfl) ?_
  refine vp_callSl (va_runV (As := [.int x]) (rest := [.long (lN (sumK kd2 gr2 x n2))]) ⟨hx, hb, hml, hown, htg⟩ (c_Bk_gramsOfKind l dC dI cI cL cZ up b1 b2 b3 b4 n kd gr x (by omega)) (cwV 1 htg (gdV k2_41 k2_42 k2_43 k1_2 kc_Bk_gramsOfKind) rfl rfl rfl (by decide +kernel) ⟨Nat.le_of_ble_eq_true rfl, Nat.le_of_ble_eq_true rfl⟩) ⟨bk_blind, va_recv hK hP (ci := 1) (q0 := 1) rfl rfl, fun U hU hW => ⟨rfl, nw_warm hW hN, by rw [hU]; exact hP.sub [1, 4, 5] rfl, va_K.moved hW.alike hK⟩⟩ rfl rfl hl.1 rfl (lv_room (Nat.le_of_ble_eq_true rfl)) d_B_balance_13 ⟨Nat.le_of_ble_eq_true rfl, Nat.le_of_ble_eq_true rfl⟩).run (fun r13 e13 => ?_)
  subst e13
  refine lv_lsub hx hb d_B_balance_16 ?_
  exact W.lret (v := ((lN (sumK kd2 gr2 x n2)) - (lN (sumK kd gr x n)))) hx hb hr (fun t9 ht9 hW9 => ⟨((lN (sumK kd2 gr2 x n2)) - (lN (sumK kd gr x n))), rfl, rfl, ht9⟩) (fun q h => nomatch h) d_B_balance_17
set_option maxHeartbeats 4000000 in
set_option maxRecDepth 100000 in
theorem c_B_plant (l : Launch) (dC : Nat → ClassId) (dI : Nat → Nat → Nat) (cI cL cZ : ClassId) (sz : Nat) (xo up us uj ul uk ut uq uw uc : Nat) (sd : Int64) (a1 a2 a3 a4 a5 n : Nat) (inn pk : Nat → Nat) (x1 : Int64) (x2 : Int32) (hn : n ≤ 8) : Met l y_B_plant ws_B_plant { frames := 2, cells := 0, slots := 0, locals := 44 } (va_Pc [.ref xo, .long x1, .int x2] (wrP (dC, dI) vwCl [(cI, .int), (cL, .long), (cZ, .boolean)] [(xo, .inr (0, [.long sd, .ref up, .ref us, .ref uj, .ref ul, .ref uk, .ref ut, .ref uq, .ref uw, .ref uc])), (ul, .inr (3, [.ref a1, .ref a2, .ref a3, .ref a4, .ref a5, .int (nI n)])), (a1, .inl (cL, 8, .inr (.inl (aL inn)))), (a2, .inl (cI, 8, .inl (aI pk)))] sz)) (va_Qi (fun (r : Int32) (u : Nat × (Nat → Nat) × (Nat → Nat)) => (plOk n x1 x2 ∧ r = nI n ∧ u = (n + 1, va_up inn n (tl x1), va_up pk n (tn x2))) ∨ (¬ plOk n x1 x2 ∧ r = oI none ∧ u = (n, inn, pk))) (fun (u : Nat × (Nat → Nat) × (Nat → Nat)) => wrQ (dC, dI) vwCl [(cI, .int), (cL, .long), (cZ, .boolean)] (va_A [(xo, .inr (0, [.long sd, .ref up, .ref us, .ref uj, .ref ul, .ref uk, .ref ut, .ref uq, .ref uw, .ref uc])), (ul, .inr (3, [.ref a1, .ref a2, .ref a3, .ref a4, .ref a5, .int (nI n)])), (a1, .inl (cL, 8, .inr (.inl (aL inn)))), (a2, .inl (cI, 8, .inl (aI pk)))] sz) [(xo, .inr (0, [.long sd, .ref up, .ref us, .ref uj, .ref ul, .ref uk, .ref ut, .ref uq, .ref uw, .ref uc])), (ul, .inr (3, [.ref a1, .ref a2, .ref a3, .ref a4, .ref a5, .int (nI u.1)])), (a1, .inl (cL, 8, .inr (.inl (aL u.2.1)))), (a2, .inl (cI, 8, .inl (aI u.2.2)))]) (va_A [(xo, .inr (0, [.long sd, .ref up, .ref us, .ref uj, .ref ul, .ref uk, .ref ut, .ref uq, .ref uw, .ref uc])), (ul, .inr (3, [.ref a1, .ref a2, .ref a3, .ref a4, .ref a5, .int (nI n)])), (a1, .inl (cL, 8, .inr (.inl (aL inn)))), (a2, .inl (cI, 8, .inl (aI pk)))] sz)) 0 0 (va_A [(xo, .inr (0, [.long sd, .ref up, .ref us, .ref uj, .ref ul, .ref uk, .ref ut, .ref uq, .ref uw, .ref uc])), (ul, .inr (3, [.ref a1, .ref a2, .ref a3, .ref a4, .ref a5, .int (nI n)])), (a1, .inl (cL, 8, .inr (.inl (aL inn)))), (a2, .inl (cI, 8, .inl (aI pk)))] sz) := by
  refine Met.ofW (cc := b_B_plant) (maxL := 4) (ret := (some .int)) (by decide) rfl ?_
  intro pr en s m args below meth c s₁ B hml hv
  obtain ⟨rfl, hN, hsz, hP, hK, hD0⟩ := hv
  have hx := B.exec
  have hb := B.bytes
  have hr := B.returns
  have hts := atoms_spec (ws := ws_B_plant) B.pre
  have htg : ∀ w ∈ gW, w.before _ s = true := fun w h => hts w (List.mem_cons_of_mem _ h)
  have hown : s.vm.findClass R_B = some m.cls := findClass_of_methodNamed B.named
  have hlocks := B.notSynchronized
  subst hsz
  have hD := hD0.self (sz := s.heap.size)
  generalize hAe : va_A [(xo, .inr (0, [.long sd, .ref up, .ref us, .ref uj, .ref ul, .ref uk, .ref ut, .ref uq, .ref uw, .ref uc])), (ul, .inr (3, [.ref a1, .ref a2, .ref a3, .ref a4, .ref a5, .int (nI n)])), (a1, .inl (cL, 8, .inr (.inl (aL inn)))), (a2, .inl (cI, 8, .inl (aI pk)))] s.heap.size = A at hD ⊢
  have hA : ∀ q : Nat, s.heap.size ≤ q → A q := fun q h => by rw [← hAe]; exact Or.inr h
  have hS : va_S A s.heap s.heap [] := va_S.rf
  have hP : va_P (dC, dI) vwCl [(xo, .inr (0, [.long sd, .ref up, .ref us, .ref uj, .ref ul, .ref uk, .ref ut, .ref uq, .ref uw, .ref uc])), (ul, .inr (3, [.ref a1, .ref a2, .ref a3, .ref a4, .ref a5, .int (nI n)])), (a1, .inl (cL, 8, .inr (.inl (aL inn)))), (a2, .inl (cI, 8, .inl (aI pk)))] s.heap := hP
  have hl := lv_entry ([.ref xo, .long x1, .int x2]) (n := 4) (Nat.le_of_ble_eq_true rfl)
  rw [lg_entry_eq]
  generalize (lg_sl ([.ref xo, .long x1, .int x2]) ++ List.replicate (4 - (lg_sl ([.ref xo, .long x1, .int x2])).length) Slot.unset).toArray = ls at hl ⊢
  have hl : lv_has ls 4 [(0, .ref xo), (1, .long x1), (3, .int x2)] := hl
  refine lv_aload_n hx hb d_B_plant_0 rfl (lv_at hl 0 rfl) ?_
  refine va_get (D := (dC, dI)) (ci := 0) (v := .ref ul) (C := R_B) (T := F_B) (N := 10) hx hb htg iw_B hown hK hP 0 rfl rfl 4 (by decide) (htg _ k1_161) (fun _ h9 => h9) rfl d_B_plant_1 ?_
  refine lv_lload_n hx hb d_B_plant_4 rfl (lv_at hl 1 rfl) ?_
  refine lv_iload_n hx hb d_B_plant_5 rfl (lv_at hl 2 rfl) ?_
  have hPc := hP.sub (ws' := [(ul, .inr (3, [.ref a1, .ref a2, .ref a3, .ref a4, .ref a5, .int (nI n)])), (a1, .inl (cL, 8, .inr (.inl (aL inn)))), (a2, .inl (cI, 8, .inl (aI pk)))]) [1, 2, 3] rfl
  have hDc := hD.sub (ws' := [(ul, .inr (3, [.ref a1, .ref a2, .ref a3, .ref a4, .ref a5, .int (nI n)])), (a1, .inl (cL, 8, .inr (.inl (aL inn)))), (a2, .inl (cI, 8, .inl (aI pk)))]) [1, 2, 3] (by decide) rfl
  have hFc := va_free (wc := [(ul, .inr (3, [.ref a1, .ref a2, .ref a3, .ref a4, .ref a5, .int (nI n)])), (a1, .inl (cL, 8, .inr (.inl (aL inn)))), (a2, .inl (cI, 8, .inl (aI pk)))]) hD hS hA [1, 2, 3] rfl
  refine va_calli (va_runV (As := [.long x1, .int x2]) (rest := []) ⟨hx, hb, hml, hown, htg⟩ (c_Pl_add l dC dI cI cL cZ s.heap.size ul a1 a2 a3 a4 a5 n inn pk x1 x2 (by omega)) (cwV 2 htg (gdV k2_49 k2_50 k2_51 k1_4 kc_Pl_add) rfl rfl rfl (by decide +kernel) ⟨Nat.le_of_ble_eq_true rfl, Nat.le_of_ble_eq_true rfl⟩) ⟨bk_blindW, va_recv hK hP (ci := 3) (q0 := 1) rfl rfl, fun U hU hW => ⟨rfl, nw_warm hW hN, by rw [hU], by rw [hU]; exact hPc, va_K.moved hW.alike hK, hDc.weaken (fun _ _ _ _ => trivial)⟩⟩ rfl rfl hl.1 rfl (lv_room (Nat.le_of_ble_eq_true rfl)) d_B_plant_6 ⟨Nat.le_of_ble_eq_true rfl, Nat.le_of_ble_eq_true rfl⟩) hS (fun q _ h => hFc q h) hFc (fun r6 u t H1 locs ht hvm e6 hB hz1 hk1 hS => ?_)
  obtain ⟨hP1, hK1, hD1⟩ := hB
  rw [ht] at hP1
  try dsimp only at e6
  rcases e6 with ⟨ok6, rfl, rfl⟩ | ⟨no6, rfl, rfl⟩
  · obtain ⟨hP, hD⟩ := va_join (wr := [(xo, .inr (0, [.long sd, .ref up, .ref us, .ref uj, .ref ul, .ref uk, .ref ut, .ref uq, .ref uw, .ref uc]))]) (w1 := [(ul, .inr (3, [.ref a1, .ref a2, .ref a3, .ref a4, .ref a5, .int (nI (n + 1))])), (a1, .inl (cL, 8, .inr (.inl (aL (va_up inn n (tl x1)))))), (a2, .inl (cI, 8, .inl (aI (va_up pk n (tn x2)))))]) hP hD [1, 2, 3] [0] rfl rfl (by decide) (by decide) hk1 hFc hP1 hD1
    generalize H1 = H at hP hS ⊢
    have hP : va_P (dC, dI) vwCl [(xo, .inr (0, [.long sd, .ref up, .ref us, .ref uj, .ref ul, .ref uk, .ref ut, .ref uq, .ref uw, .ref uc])), (ul, .inr (3, [.ref a1, .ref a2, .ref a3, .ref a4, .ref a5, .int (nI (n + 1))])), (a1, .inl (cL, 8, .inr (.inl (aL (va_up inn n (tl x1)))))), (a2, .inl (cI, 8, .inl (aI (va_up pk n (tn x2)))))] H := hP.sub [0, 1, 2, 3] rfl
    have hD : va_D A [(xo, .inr (0, [.long sd, .ref up, .ref us, .ref uj, .ref ul, .ref uk, .ref ut, .ref uq, .ref uw, .ref uc])), (ul, .inr (3, [.ref a1, .ref a2, .ref a3, .ref a4, .ref a5, .int (nI (n + 1))])), (a1, .inl (cL, 8, .inr (.inl (aL (va_up inn n (tl x1)))))), (a2, .inl (cI, 8, .inl (aI (va_up pk n (tn x2)))))] := hD.sub [0, 1, 2, 3] (by decide) rfl
    have hP9 := hP.sub (ws' := [(xo, .inr (0, [.long sd, .ref up, .ref us, .ref uj, .ref ul, .ref uk, .ref ut, .ref uq, .ref uw, .ref uc])), (ul, .inr (3, [.ref a1, .ref a2, .ref a3, .ref a4, .ref a5, .int (nI (n + 1))])), (a1, .inl (cL, 8, .inr (.inl (aL (va_up inn n (tl x1)))))), (a2, .inl (cI, 8, .inl (aI (va_up pk n (tn x2)))))]) [0, 1, 2, 3] rfl
    have hD9 := hD.sub (ws' := [(xo, .inr (0, [.long sd, .ref up, .ref us, .ref uj, .ref ul, .ref uk, .ref ut, .ref uq, .ref uw, .ref uc])), (ul, .inr (3, [.ref a1, .ref a2, .ref a3, .ref a4, .ref a5, .int (nI (n + 1))])), (a1, .inl (cL, 8, .inr (.inl (aL (va_up inn n (tl x1)))))), (a2, .inl (cI, 8, .inl (aI (va_up pk n (tn x2)))))]) [0, 1, 2, 3] (by decide) rfl
    exact W.iret (v := nI n) hx hb hr (fun t9 ht9 hW9 => ⟨⟨nI n, (n + 1, va_up inn n (tl x1), va_up pk n (tn x2)), rfl, Or.inl ⟨ok6, rfl, rfl⟩, by rw [ht9]; exact hP9, va_K.moved hW9.alike hK, hD9⟩, hS.F ht9⟩) hS.2.2 d_B_plant_9
  · obtain ⟨hP, hD⟩ := va_join (wr := [(xo, .inr (0, [.long sd, .ref up, .ref us, .ref uj, .ref ul, .ref uk, .ref ut, .ref uq, .ref uw, .ref uc]))]) (w1 := [(ul, .inr (3, [.ref a1, .ref a2, .ref a3, .ref a4, .ref a5, .int (nI n)])), (a1, .inl (cL, 8, .inr (.inl (aL inn)))), (a2, .inl (cI, 8, .inl (aI pk)))]) hP hD [1, 2, 3] [0] rfl rfl (by decide) (by decide) hk1 hFc hP1 hD1
    generalize H1 = H at hP hS ⊢
    have hP : va_P (dC, dI) vwCl [(xo, .inr (0, [.long sd, .ref up, .ref us, .ref uj, .ref ul, .ref uk, .ref ut, .ref uq, .ref uw, .ref uc])), (ul, .inr (3, [.ref a1, .ref a2, .ref a3, .ref a4, .ref a5, .int (nI n)])), (a1, .inl (cL, 8, .inr (.inl (aL inn)))), (a2, .inl (cI, 8, .inl (aI pk)))] H := hP.sub [0, 1, 2, 3] rfl
    have hD : va_D A [(xo, .inr (0, [.long sd, .ref up, .ref us, .ref uj, .ref ul, .ref uk, .ref ut, .ref uq, .ref uw, .ref uc])), (ul, .inr (3, [.ref a1, .ref a2, .ref a3, .ref a4, .ref a5, .int (nI n)])), (a1, .inl (cL, 8, .inr (.inl (aL inn)))), (a2, .inl (cI, 8, .inl (aI pk)))] := hD.sub [0, 1, 2, 3] (by decide) rfl
    have hP9 := hP.sub (ws' := [(xo, .inr (0, [.long sd, .ref up, .ref us, .ref uj, .ref ul, .ref uk, .ref ut, .ref uq, .ref uw, .ref uc])), (ul, .inr (3, [.ref a1, .ref a2, .ref a3, .ref a4, .ref a5, .int (nI n)])), (a1, .inl (cL, 8, .inr (.inl (aL inn)))), (a2, .inl (cI, 8, .inl (aI pk)))]) [0, 1, 2, 3] rfl
    have hD9 := hD.sub (ws' := [(xo, .inr (0, [.long sd, .ref up, .ref us, .ref uj, .ref ul, .ref uk, .ref ut, .ref uq, .ref uw, .ref uc])), (ul, .inr (3, [.ref a1, .ref a2, .ref a3, .ref a4, .ref a5, .int (nI n)])), (a1, .inl (cL, 8, .inr (.inl (aL inn)))), (a2, .inl (cI, 8, .inl (aI pk)))]) [0, 1, 2, 3] (by decide) rfl
    exact W.iret (v := oI none) hx hb hr (fun t9 ht9 hW9 => ⟨⟨oI none, (n, inn, pk), rfl, Or.inr ⟨no6, rfl, rfl⟩, by rw [ht9]; exact hP9, va_K.moved hW9.alike hK, hD9⟩, hS.F ht9⟩) hS.2.2 d_B_plant_9
set_option maxHeartbeats 4000000 in
set_option maxRecDepth 100000 in
theorem c_B_out (l : Launch) (dC : Nat → ClassId) (dI : Nat → Nat → Nat) (cI cL cZ : ClassId) (sz : Nat) (xo up us uj ul uk ut uq uw uc : Nat) (sd : Int64) (a1 a2 a3 a4 a5 n : Nat) (inn pk ou ok og : Nat → Nat) (x1 x2 : Int32) (x3 : Int64) (hi : plI n inn pk ou ok og) : Met l y_B_out ws_B_out { frames := 2, cells := 0, slots := 0, locals := 46 } (va_Pc [.ref xo, .int x1, .int x2, .long x3] (wrP (dC, dI) vwCl [(cI, .int), (cL, .long), (cZ, .boolean)] [(xo, .inr (0, [.long sd, .ref up, .ref us, .ref uj, .ref ul, .ref uk, .ref ut, .ref uq, .ref uw, .ref uc])), (ul, .inr (3, [.ref a1, .ref a2, .ref a3, .ref a4, .ref a5, .int (nI n)])), (a1, .inl (cL, 8, .inr (.inl (aL inn)))), (a2, .inl (cI, 8, .inl (aI pk))), (a3, .inl (cI, 8, .inl (aI ou))), (a4, .inl (cI, 64, .inl (aI ok))), (a5, .inl (cL, 64, .inr (.inl (aL og))))] sz)) (va_Qi (fun (r : Int32) (u : (Nat → Nat) × (Nat → Nat) × (Nat → Nat)) => (outOk n ou x1 x2 x3 ∧ r = nI (ou (tn x1)) ∧ u = (va_up ou (tn x1) (ou (tn x1) + 1), va_up ok (tn x1 * 8 + ou (tn x1)) (tn x2), va_up og (tn x1 * 8 + ou (tn x1)) (tl x3))) ∨ (¬ outOk n ou x1 x2 x3 ∧ r = oI none ∧ u = (ou, ok, og))) (fun (u : (Nat → Nat) × (Nat → Nat) × (Nat → Nat)) => wrQ (dC, dI) vwCl [(cI, .int), (cL, .long), (cZ, .boolean)] (va_A [(xo, .inr (0, [.long sd, .ref up, .ref us, .ref uj, .ref ul, .ref uk, .ref ut, .ref uq, .ref uw, .ref uc])), (ul, .inr (3, [.ref a1, .ref a2, .ref a3, .ref a4, .ref a5, .int (nI n)])), (a1, .inl (cL, 8, .inr (.inl (aL inn)))), (a2, .inl (cI, 8, .inl (aI pk))), (a3, .inl (cI, 8, .inl (aI ou))), (a4, .inl (cI, 64, .inl (aI ok))), (a5, .inl (cL, 64, .inr (.inl (aL og))))] sz) [(xo, .inr (0, [.long sd, .ref up, .ref us, .ref uj, .ref ul, .ref uk, .ref ut, .ref uq, .ref uw, .ref uc])), (ul, .inr (3, [.ref a1, .ref a2, .ref a3, .ref a4, .ref a5, .int (nI n)])), (a1, .inl (cL, 8, .inr (.inl (aL inn)))), (a2, .inl (cI, 8, .inl (aI pk))), (a3, .inl (cI, 8, .inl (aI u.1))), (a4, .inl (cI, 64, .inl (aI u.2.1))), (a5, .inl (cL, 64, .inr (.inl (aL u.2.2))))]) (va_A [(xo, .inr (0, [.long sd, .ref up, .ref us, .ref uj, .ref ul, .ref uk, .ref ut, .ref uq, .ref uw, .ref uc])), (ul, .inr (3, [.ref a1, .ref a2, .ref a3, .ref a4, .ref a5, .int (nI n)])), (a1, .inl (cL, 8, .inr (.inl (aL inn)))), (a2, .inl (cI, 8, .inl (aI pk))), (a3, .inl (cI, 8, .inl (aI ou))), (a4, .inl (cI, 64, .inl (aI ok))), (a5, .inl (cL, 64, .inr (.inl (aL og))))] sz)) 0 0 (va_A [(xo, .inr (0, [.long sd, .ref up, .ref us, .ref uj, .ref ul, .ref uk, .ref ut, .ref uq, .ref uw, .ref uc])), (ul, .inr (3, [.ref a1, .ref a2, .ref a3, .ref a4, .ref a5, .int (nI n)])), (a1, .inl (cL, 8, .inr (.inl (aL inn)))), (a2, .inl (cI, 8, .inl (aI pk))), (a3, .inl (cI, 8, .inl (aI ou))), (a4, .inl (cI, 64, .inl (aI ok))), (a5, .inl (cL, 64, .inr (.inl (aL og))))] sz) := by
  refine Met.ofW (cc := b_B_out) (maxL := 5) (ret := (some .int)) (by decide) rfl ?_
  intro pr en s m args below meth c s₁ B hml hv
  obtain ⟨rfl, hN, hsz, hP, hK, hD0⟩ := hv
  have hx := B.exec
  have hb := B.bytes
  have hr := B.returns
  have hts := atoms_spec (ws := ws_B_out) B.pre
  have htg : ∀ w ∈ gW, w.before _ s = true := fun w h => hts w (List.mem_cons_of_mem _ h)
  have hown : s.vm.findClass R_B = some m.cls := findClass_of_methodNamed B.named
  have hlocks := B.notSynchronized
  subst hsz
  have hD := hD0.self (sz := s.heap.size)
  generalize hAe : va_A [(xo, .inr (0, [.long sd, .ref up, .ref us, .ref uj, .ref ul, .ref uk, .ref ut, .ref uq, .ref uw, .ref uc])), (ul, .inr (3, [.ref a1, .ref a2, .ref a3, .ref a4, .ref a5, .int (nI n)])), (a1, .inl (cL, 8, .inr (.inl (aL inn)))), (a2, .inl (cI, 8, .inl (aI pk))), (a3, .inl (cI, 8, .inl (aI ou))), (a4, .inl (cI, 64, .inl (aI ok))), (a5, .inl (cL, 64, .inr (.inl (aL og))))] s.heap.size = A at hD ⊢
  have hA : ∀ q : Nat, s.heap.size ≤ q → A q := fun q h => by rw [← hAe]; exact Or.inr h
  have hS : va_S A s.heap s.heap [] := va_S.rf
  have hP : va_P (dC, dI) vwCl [(xo, .inr (0, [.long sd, .ref up, .ref us, .ref uj, .ref ul, .ref uk, .ref ut, .ref uq, .ref uw, .ref uc])), (ul, .inr (3, [.ref a1, .ref a2, .ref a3, .ref a4, .ref a5, .int (nI n)])), (a1, .inl (cL, 8, .inr (.inl (aL inn)))), (a2, .inl (cI, 8, .inl (aI pk))), (a3, .inl (cI, 8, .inl (aI ou))), (a4, .inl (cI, 64, .inl (aI ok))), (a5, .inl (cL, 64, .inr (.inl (aL og))))] s.heap := hP
  have hl := lv_entry ([.ref xo, .int x1, .int x2, .long x3]) (n := 5) (Nat.le_of_ble_eq_true rfl)
  rw [lg_entry_eq]
  generalize (lg_sl ([.ref xo, .int x1, .int x2, .long x3]) ++ List.replicate (5 - (lg_sl ([.ref xo, .int x1, .int x2, .long x3])).length) Slot.unset).toArray = ls at hl ⊢
  have hl : lv_has ls 5 [(0, .ref xo), (1, .int x1), (2, .int x2), (3, .long x3)] := hl
  refine lv_aload_n hx hb d_B_out_0 rfl (lv_at hl 0 rfl) ?_
  refine va_get (D := (dC, dI)) (ci := 0) (v := .ref ul) (C := R_B) (T := F_B) (N := 10) hx hb htg iw_B hown hK hP 0 rfl rfl 4 (by decide) (htg _ k1_161) (fun _ h9 => h9) rfl d_B_out_1 ?_
  refine lv_iload_n hx hb d_B_out_4 rfl (lv_at hl 1 rfl) ?_
  refine lv_iload_n hx hb d_B_out_5 rfl (lv_at hl 2 rfl) ?_
  refine lv_lload_n hx hb d_B_out_6 rfl (lv_at hl 3 rfl) ?_
  have hPc := hP.sub (ws' := [(ul, .inr (3, [.ref a1, .ref a2, .ref a3, .ref a4, .ref a5, .int (nI n)])), (a1, .inl (cL, 8, .inr (.inl (aL inn)))), (a2, .inl (cI, 8, .inl (aI pk))), (a3, .inl (cI, 8, .inl (aI ou))), (a4, .inl (cI, 64, .inl (aI ok))), (a5, .inl (cL, 64, .inr (.inl (aL og))))]) [1, 2, 3, 4, 5, 6] rfl
  have hDc := hD.sub (ws' := [(ul, .inr (3, [.ref a1, .ref a2, .ref a3, .ref a4, .ref a5, .int (nI n)])), (a1, .inl (cL, 8, .inr (.inl (aL inn)))), (a2, .inl (cI, 8, .inl (aI pk))), (a3, .inl (cI, 8, .inl (aI ou))), (a4, .inl (cI, 64, .inl (aI ok))), (a5, .inl (cL, 64, .inr (.inl (aL og))))]) [1, 2, 3, 4, 5, 6] (by decide) rfl
  have hFc := va_free (wc := [(ul, .inr (3, [.ref a1, .ref a2, .ref a3, .ref a4, .ref a5, .int (nI n)])), (a1, .inl (cL, 8, .inr (.inl (aL inn)))), (a2, .inl (cI, 8, .inl (aI pk))), (a3, .inl (cI, 8, .inl (aI ou))), (a4, .inl (cI, 64, .inl (aI ok))), (a5, .inl (cL, 64, .inr (.inl (aL og))))]) hD hS hA [1, 2, 3, 4, 5, 6] rfl
  refine va_calli (va_runV (As := [.int x1, .int x2, .long x3]) (rest := []) ⟨hx, hb, hml, hown, htg⟩ (c_Pl_addOut l dC dI cI cL cZ s.heap.size ul a1 a2 a3 a4 a5 n inn pk ou ok og x1 x2 x3 hi) (cwV 3 htg (gdV k2_59 k2_60 k2_61 k1_4 kc_Pl_addOut) rfl rfl rfl (by decide +kernel) ⟨Nat.le_of_ble_eq_true rfl, Nat.le_of_ble_eq_true rfl⟩) ⟨bk_blindW, va_recv hK hP (ci := 3) (q0 := 1) rfl rfl, fun U hU hW => ⟨rfl, nw_warm hW hN, by rw [hU], by rw [hU]; exact hPc, va_K.moved hW.alike hK, hDc.weaken (fun _ _ _ _ => trivial)⟩⟩ rfl rfl hl.1 rfl (lv_room (Nat.le_of_ble_eq_true rfl)) d_B_out_7 ⟨Nat.le_of_ble_eq_true rfl, Nat.le_of_ble_eq_true rfl⟩) hS (fun q _ h => hFc q h) hFc (fun r7 u t H1 locs ht hvm e7 hB hz1 hk1 hS => ?_)
  obtain ⟨hP1, hK1, hD1⟩ := hB
  rw [ht] at hP1
  try dsimp only at e7
  rcases e7 with ⟨ok7, rfl, rfl⟩ | ⟨no7, rfl, rfl⟩
  · obtain ⟨hP, hD⟩ := va_join (wr := [(xo, .inr (0, [.long sd, .ref up, .ref us, .ref uj, .ref ul, .ref uk, .ref ut, .ref uq, .ref uw, .ref uc]))]) (w1 := [(ul, .inr (3, [.ref a1, .ref a2, .ref a3, .ref a4, .ref a5, .int (nI n)])), (a1, .inl (cL, 8, .inr (.inl (aL inn)))), (a2, .inl (cI, 8, .inl (aI pk))), (a3, .inl (cI, 8, .inl (aI (va_up ou (tn x1) (ou (tn x1) + 1))))), (a4, .inl (cI, 64, .inl (aI (va_up ok (tn x1 * 8 + ou (tn x1)) (tn x2))))), (a5, .inl (cL, 64, .inr (.inl (aL (va_up og (tn x1 * 8 + ou (tn x1)) (tl x3))))))]) hP hD [1, 2, 3, 4, 5, 6] [0] rfl rfl (by decide) (by decide) hk1 hFc hP1 hD1
    generalize H1 = H at hP hS ⊢
    have hP : va_P (dC, dI) vwCl [(xo, .inr (0, [.long sd, .ref up, .ref us, .ref uj, .ref ul, .ref uk, .ref ut, .ref uq, .ref uw, .ref uc])), (ul, .inr (3, [.ref a1, .ref a2, .ref a3, .ref a4, .ref a5, .int (nI n)])), (a1, .inl (cL, 8, .inr (.inl (aL inn)))), (a2, .inl (cI, 8, .inl (aI pk))), (a3, .inl (cI, 8, .inl (aI (va_up ou (tn x1) (ou (tn x1) + 1))))), (a4, .inl (cI, 64, .inl (aI (va_up ok (tn x1 * 8 + ou (tn x1)) (tn x2))))), (a5, .inl (cL, 64, .inr (.inl (aL (va_up og (tn x1 * 8 + ou (tn x1)) (tl x3))))))] H := hP.sub [0, 1, 2, 3, 4, 5, 6] rfl
    have hD : va_D A [(xo, .inr (0, [.long sd, .ref up, .ref us, .ref uj, .ref ul, .ref uk, .ref ut, .ref uq, .ref uw, .ref uc])), (ul, .inr (3, [.ref a1, .ref a2, .ref a3, .ref a4, .ref a5, .int (nI n)])), (a1, .inl (cL, 8, .inr (.inl (aL inn)))), (a2, .inl (cI, 8, .inl (aI pk))), (a3, .inl (cI, 8, .inl (aI (va_up ou (tn x1) (ou (tn x1) + 1))))), (a4, .inl (cI, 64, .inl (aI (va_up ok (tn x1 * 8 + ou (tn x1)) (tn x2))))), (a5, .inl (cL, 64, .inr (.inl (aL (va_up og (tn x1 * 8 + ou (tn x1)) (tl x3))))))] := hD.sub [0, 1, 2, 3, 4, 5, 6] (by decide) rfl
    have hP9 := hP.sub (ws' := [(xo, .inr (0, [.long sd, .ref up, .ref us, .ref uj, .ref ul, .ref uk, .ref ut, .ref uq, .ref uw, .ref uc])), (ul, .inr (3, [.ref a1, .ref a2, .ref a3, .ref a4, .ref a5, .int (nI n)])), (a1, .inl (cL, 8, .inr (.inl (aL inn)))), (a2, .inl (cI, 8, .inl (aI pk))), (a3, .inl (cI, 8, .inl (aI (va_up ou (tn x1) (ou (tn x1) + 1))))), (a4, .inl (cI, 64, .inl (aI (va_up ok (tn x1 * 8 + ou (tn x1)) (tn x2))))), (a5, .inl (cL, 64, .inr (.inl (aL (va_up og (tn x1 * 8 + ou (tn x1)) (tl x3))))))]) [0, 1, 2, 3, 4, 5, 6] rfl
    have hD9 := hD.sub (ws' := [(xo, .inr (0, [.long sd, .ref up, .ref us, .ref uj, .ref ul, .ref uk, .ref ut, .ref uq, .ref uw, .ref uc])), (ul, .inr (3, [.ref a1, .ref a2, .ref a3, .ref a4, .ref a5, .int (nI n)])), (a1, .inl (cL, 8, .inr (.inl (aL inn)))), (a2, .inl (cI, 8, .inl (aI pk))), (a3, .inl (cI, 8, .inl (aI (va_up ou (tn x1) (ou (tn x1) + 1))))), (a4, .inl (cI, 64, .inl (aI (va_up ok (tn x1 * 8 + ou (tn x1)) (tn x2))))), (a5, .inl (cL, 64, .inr (.inl (aL (va_up og (tn x1 * 8 + ou (tn x1)) (tl x3))))))]) [0, 1, 2, 3, 4, 5, 6] (by decide) rfl
    exact W.iret (v := nI (ou (tn x1))) hx hb hr (fun t9 ht9 hW9 => ⟨⟨nI (ou (tn x1)), (va_up ou (tn x1) (ou (tn x1) + 1), va_up ok (tn x1 * 8 + ou (tn x1)) (tn x2), va_up og (tn x1 * 8 + ou (tn x1)) (tl x3)), rfl, Or.inl ⟨ok7, rfl, rfl⟩, by rw [ht9]; exact hP9, va_K.moved hW9.alike hK, hD9⟩, hS.F ht9⟩) hS.2.2 d_B_out_10
  · obtain ⟨hP, hD⟩ := va_join (wr := [(xo, .inr (0, [.long sd, .ref up, .ref us, .ref uj, .ref ul, .ref uk, .ref ut, .ref uq, .ref uw, .ref uc]))]) (w1 := [(ul, .inr (3, [.ref a1, .ref a2, .ref a3, .ref a4, .ref a5, .int (nI n)])), (a1, .inl (cL, 8, .inr (.inl (aL inn)))), (a2, .inl (cI, 8, .inl (aI pk))), (a3, .inl (cI, 8, .inl (aI ou))), (a4, .inl (cI, 64, .inl (aI ok))), (a5, .inl (cL, 64, .inr (.inl (aL og))))]) hP hD [1, 2, 3, 4, 5, 6] [0] rfl rfl (by decide) (by decide) hk1 hFc hP1 hD1
    generalize H1 = H at hP hS ⊢
    have hP : va_P (dC, dI) vwCl [(xo, .inr (0, [.long sd, .ref up, .ref us, .ref uj, .ref ul, .ref uk, .ref ut, .ref uq, .ref uw, .ref uc])), (ul, .inr (3, [.ref a1, .ref a2, .ref a3, .ref a4, .ref a5, .int (nI n)])), (a1, .inl (cL, 8, .inr (.inl (aL inn)))), (a2, .inl (cI, 8, .inl (aI pk))), (a3, .inl (cI, 8, .inl (aI ou))), (a4, .inl (cI, 64, .inl (aI ok))), (a5, .inl (cL, 64, .inr (.inl (aL og))))] H := hP.sub [0, 1, 2, 3, 4, 5, 6] rfl
    have hD : va_D A [(xo, .inr (0, [.long sd, .ref up, .ref us, .ref uj, .ref ul, .ref uk, .ref ut, .ref uq, .ref uw, .ref uc])), (ul, .inr (3, [.ref a1, .ref a2, .ref a3, .ref a4, .ref a5, .int (nI n)])), (a1, .inl (cL, 8, .inr (.inl (aL inn)))), (a2, .inl (cI, 8, .inl (aI pk))), (a3, .inl (cI, 8, .inl (aI ou))), (a4, .inl (cI, 64, .inl (aI ok))), (a5, .inl (cL, 64, .inr (.inl (aL og))))] := hD.sub [0, 1, 2, 3, 4, 5, 6] (by decide) rfl
    have hP9 := hP.sub (ws' := [(xo, .inr (0, [.long sd, .ref up, .ref us, .ref uj, .ref ul, .ref uk, .ref ut, .ref uq, .ref uw, .ref uc])), (ul, .inr (3, [.ref a1, .ref a2, .ref a3, .ref a4, .ref a5, .int (nI n)])), (a1, .inl (cL, 8, .inr (.inl (aL inn)))), (a2, .inl (cI, 8, .inl (aI pk))), (a3, .inl (cI, 8, .inl (aI ou))), (a4, .inl (cI, 64, .inl (aI ok))), (a5, .inl (cL, 64, .inr (.inl (aL og))))]) [0, 1, 2, 3, 4, 5, 6] rfl
    have hD9 := hD.sub (ws' := [(xo, .inr (0, [.long sd, .ref up, .ref us, .ref uj, .ref ul, .ref uk, .ref ut, .ref uq, .ref uw, .ref uc])), (ul, .inr (3, [.ref a1, .ref a2, .ref a3, .ref a4, .ref a5, .int (nI n)])), (a1, .inl (cL, 8, .inr (.inl (aL inn)))), (a2, .inl (cI, 8, .inl (aI pk))), (a3, .inl (cI, 8, .inl (aI ou))), (a4, .inl (cI, 64, .inl (aI ok))), (a5, .inl (cL, 64, .inr (.inl (aL og))))]) [0, 1, 2, 3, 4, 5, 6] (by decide) rfl
    exact W.iret (v := oI none) hx hb hr (fun t9 ht9 hW9 => ⟨⟨oI none, (ou, ok, og), rfl, Or.inr ⟨no7, rfl, rfl⟩, by rw [ht9]; exact hP9, va_K.moved hW9.alike hK, hD9⟩, hS.F ht9⟩) hS.2.2 d_B_out_10
set_option maxHeartbeats 4000000 in
set_option maxRecDepth 100000 in
theorem c_B_lacks (l : Launch) (dC : Nat → ClassId) (dI : Nat → Nat → Nat) (cI cL cZ : ClassId) (xo up us uj ul uk ut uq uw uc : Nat) (sd : Int64) (a1 a2 a3 a4 a5 n : Nat) (inn pk ou ok og : Nat → Nat) (x : Int32) (hi : plI n inn pk ou ok og) : Met l y_B_lacks ws_B_lacks { frames := 2, cells := 0, slots := 0, locals := 46 } (va_Pc [.ref xo, .int x] (rdP (dC, dI) vwCl [(cI, .int), (cL, .long), (cZ, .boolean)] [(xo, .inr (0, [.long sd, .ref up, .ref us, .ref uj, .ref ul, .ref uk, .ref ut, .ref uq, .ref uw, .ref uc])), (ul, .inr (3, [.ref a1, .ref a2, .ref a3, .ref a4, .ref a5, .int (nI n)])), (a1, .inl (cL, 8, .inr (.inl (aL inn)))), (a2, .inl (cI, 8, .inl (aI pk))), (a3, .inl (cI, 8, .inl (aI ou))), (a4, .inl (cI, 64, .inl (aI ok))), (a5, .inl (cL, 64, .inr (.inl (aL og))))])) (vp_Sl (fun r => (∃ p, p < n ∧ x = nI p ∧ r = lN (lackN inn pk ou ok og p)) ∨ (¬ inR n x ∧ r = -1))) 0 0 (fun _ => False) := by
  refine Met.ofW (cc := b_B_lacks) (maxL := 2) (ret := (some .long)) (by decide) rfl ?_
  intro pr en s m args below meth c s₁ B hml hv
  obtain ⟨rfl, hN, hP, hK⟩ := hv
  have hx := B.exec
  have hb := B.bytes
  have hr := B.returns
  have hts := atoms_spec (ws := ws_B_lacks) B.pre
  have htg : ∀ w ∈ gW, w.before _ s = true := fun w h => hts w (List.mem_cons_of_mem _ h)
  have hown : s.vm.findClass R_B = some m.cls := findClass_of_methodNamed B.named
  have hlocks := B.notSynchronized
  have hl := lv_entry ([.ref xo, .int x]) (n := 2) (Nat.le_of_ble_eq_true rfl)
  rw [lg_entry_eq]
  generalize (lg_sl ([.ref xo, .int x]) ++ List.replicate (2 - (lg_sl ([.ref xo, .int x])).length) Slot.unset).toArray = ls at hl ⊢
  have hl : lv_has ls 2 [(0, .ref xo), (1, .int x)] := hl
  have hn := hi.1
  refine lv_aload_n hx hb d_B_lacks_0 rfl (lv_at hl 0 rfl) ?_
  refine va_get (D := (dC, dI)) (ci := 0) (v := .ref ul) (C := R_B) (T := F_B) (N := 10) hx hb htg iw_B hown hK hP 0 rfl rfl 4 (by decide) (htg _ k1_161) (fun _ h9 => h9) rfl d_B_lacks_1 ?_
  refine lv_iload_n hx hb d_B_lacks_4 rfl (lv_at hl 1 rfl) ?_
  refine vp_callSi (va_runV (As := [.int x]) (rest := []) ⟨hx, hb, hml, hown, htg⟩ (c_Pl_has l dC dI cI cL cZ ul a1 a2 a3 a4 a5 n x (by omega)) (cwV 1 htg (gdV k2_72 k2_64 k2_65 k1_4 kc_Pl_has) rfl rfl rfl (by decide +kernel) ⟨Nat.le_of_ble_eq_true rfl, Nat.le_of_ble_eq_true rfl⟩) ⟨bk_blind, va_recv hK hP (ci := 3) (q0 := 1) rfl rfl, fun U hU hW => ⟨rfl, nw_warm hW hN, by rw [hU]; exact hP.sub [1] rfl, va_K.moved hW.alike hK⟩⟩ rfl rfl hl.1 rfl (lv_room (Nat.le_of_ble_eq_true rfl)) d_B_lacks_5 ⟨Nat.le_of_ble_eq_true rfl, Nat.le_of_ble_eq_true rfl⟩).run (fun r5 e5 => ?_)
  rcases e5 with ⟨⟨j5, hj5, hx5⟩, rfl⟩ | ⟨n5, rfl⟩
  · refine bk_if_eq (a := 1) (tgt := 22) hx hb (by omega) d_B_lacks_8 (by decide) (fun c8 => absurd c8 (by decide)) (fun c8 => ?_)
    refine lv_aload_n hx hb d_B_lacks_11 rfl (lv_at hl 0 rfl) ?_
    refine va_get (D := (dC, dI)) (ci := 0) (v := .ref ul) (C := R_B) (T := F_B) (N := 10) hx hb htg iw_B hown hK hP 0 rfl rfl 4 (by decide) (htg _ k1_161) (fun _ h9 => h9) rfl d_B_lacks_12 ?_
    refine lv_iload_n hx hb d_B_lacks_15 rfl (lv_at hl 1 rfl) ?_
    refine bk_topi (y := nI j5) hx5 ?_
    refine vp_callSl (va_runV (As := [.int (nI j5)]) (rest := []) ⟨hx, hb, hml, hown, htg⟩ (c_Pl_lackOf l dC dI cI cL cZ ul a1 a2 a3 a4 a5 n inn pk ou ok og j5 hi hj5) (cwV 1 htg (gdV k2_73 k2_74 k2_75 k1_4 kc_Pl_lackOf) rfl rfl rfl (by decide +kernel) ⟨Nat.le_of_ble_eq_true rfl, Nat.le_of_ble_eq_true rfl⟩) ⟨bk_blind, va_recv hK hP (ci := 3) (q0 := 1) rfl rfl, fun U hU hW => ⟨rfl, nw_warm hW hN, by rw [hU]; exact hP.sub [1, 2, 3, 4, 5, 6] rfl, va_K.moved hW.alike hK⟩⟩ rfl rfl hl.1 rfl (lv_room (Nat.le_of_ble_eq_true rfl)) d_B_lacks_16 ⟨Nat.le_of_ble_eq_true rfl, Nat.le_of_ble_eq_true rfl⟩).run (fun r16 e16 => ?_)
    subst e16
    refine lv_goto (tgt := 25) hx hb d_B_lacks_19 (by decide) ?_
    exact W.lret (v := lN (lackN inn pk ou ok og j5)) hx hb hr (fun t9 ht9 hW9 => ⟨lN (lackN inn pk ou ok og j5), rfl, Or.inl ⟨j5, hj5, hx5, rfl⟩, ht9⟩) (fun q h => nomatch h) d_B_lacks_25
  · refine bk_if_eq (a := 0) (tgt := 22) hx hb (by omega) d_B_lacks_8 (by decide) (fun c8 => ?_) (fun c8 => absurd c8 (by decide))
    refine lv_ldc2 (own := R_B) (v := (-1)) hx hb hown (htg _ k2_86) d_B_lacks_22 ?_
    exact W.lret (v := (-1)) hx hb hr (fun t9 ht9 hW9 => ⟨(-1), rfl, Or.inr ⟨n5, rfl⟩, ht9⟩) (fun q h => nomatch h) d_B_lacks_25
set_option maxHeartbeats 4000000 in
set_option maxRecDepth 100000 in
theorem c_B_nowhere (l : Launch) (dC : Nat → ClassId) (dI : Nat → Nat → Nat) (cI cL cZ : ClassId) (xo up us uj ul uk ut uq uw uc : Nat) (sd : Int64) (a1 a2 a3 a4 a5 n : Nat) (inn pk ou ok og : Nat → Nat) (x y : Int32) (hi : plI n inn pk ou ok og) : Met l y_B_nowhere ws_B_nowhere { frames := 3, cells := 0, slots := 0, locals := 73 } (va_Pc [.ref xo, .int x, .int y] (rdP (dC, dI) vwCl [(cI, .int), (cL, .long), (cZ, .boolean)] [(xo, .inr (0, [.long sd, .ref up, .ref us, .ref uj, .ref ul, .ref uk, .ref ut, .ref uq, .ref uw, .ref uc])), (ul, .inr (3, [.ref a1, .ref a2, .ref a3, .ref a4, .ref a5, .int (nI n)])), (a1, .inl (cL, 8, .inr (.inl (aL inn)))), (a2, .inl (cI, 8, .inl (aI pk))), (a3, .inl (cI, 8, .inl (aI ou))), (a4, .inl (cI, 64, .inl (aI ok))), (a5, .inl (cL, 64, .inr (.inl (aL og))))])) (vp_Si (fun r => (∃ p, p < n ∧ x = nI p ∧ ∃ o, r = oI o ∧ kth (fun i => (lsR inn pk ou ok og p).testBit i) 8 y o) ∨ (¬ inR n x ∧ r = oI none))) 0 0 (fun _ => False) := by
  refine Met.ofW (cc := b_B_nowhere) (maxL := 3) (ret := (some .int)) (by decide) rfl ?_
  intro pr en s m args below meth c s₁ B hml hv
  obtain ⟨rfl, hN, hP, hK⟩ := hv
  have hx := B.exec
  have hb := B.bytes
  have hr := B.returns
  have hts := atoms_spec (ws := ws_B_nowhere) B.pre
  have htg : ∀ w ∈ gW, w.before _ s = true := fun w h => hts w (List.mem_cons_of_mem _ h)
  have hown : s.vm.findClass R_B = some m.cls := findClass_of_methodNamed B.named
  have hlocks := B.notSynchronized
  have hl := lv_entry ([.ref xo, .int x, .int y]) (n := 3) (Nat.le_of_ble_eq_true rfl)
  rw [lg_entry_eq]
  generalize (lg_sl ([.ref xo, .int x, .int y]) ++ List.replicate (3 - (lg_sl ([.ref xo, .int x, .int y])).length) Slot.unset).toArray = ls at hl ⊢
  have hl : lv_has ls 3 [(0, .ref xo), (1, .int x), (2, .int y)] := hl
  have hn := hi.1
  refine lv_aload_n hx hb d_B_nowhere_0 rfl (lv_at hl 0 rfl) ?_
  refine va_get (D := (dC, dI)) (ci := 0) (v := .ref ul) (C := R_B) (T := F_B) (N := 10) hx hb htg iw_B hown hK hP 0 rfl rfl 4 (by decide) (htg _ k1_161) (fun _ h9 => h9) rfl d_B_nowhere_1 ?_
  refine lv_iload_n hx hb d_B_nowhere_4 rfl (lv_at hl 1 rfl) ?_
  refine vp_callSi (va_runV (As := [.int x]) (rest := []) ⟨hx, hb, hml, hown, htg⟩ (c_Pl_has l dC dI cI cL cZ ul a1 a2 a3 a4 a5 n x (by omega)) (cwV 1 htg (gdV k2_72 k2_64 k2_65 k1_4 kc_Pl_has) rfl rfl rfl (by decide +kernel) ⟨Nat.le_of_ble_eq_true rfl, Nat.le_of_ble_eq_true rfl⟩) ⟨bk_blind, va_recv hK hP (ci := 3) (q0 := 1) rfl rfl, fun U hU hW => ⟨rfl, nw_warm hW hN, by rw [hU]; exact hP.sub [1] rfl, va_K.moved hW.alike hK⟩⟩ rfl rfl hl.1 rfl (lv_room (Nat.le_of_ble_eq_true rfl)) d_B_nowhere_5 ⟨Nat.le_of_ble_eq_true rfl, Nat.le_of_ble_eq_true rfl⟩).run (fun r5 e5 => ?_)
  rcases e5 with ⟨⟨j5, hj5, hx5⟩, rfl⟩ | ⟨n5, rfl⟩
  · refine bk_if_eq (a := 1) (tgt := 26) hx hb (by omega) d_B_nowhere_8 (by decide) (fun c8 => absurd c8 (by decide)) (fun c8 => ?_)
    refine lv_aload_n hx hb d_B_nowhere_11 rfl (lv_at hl 0 rfl) ?_
    refine va_get (D := (dC, dI)) (ci := 0) (v := .ref ul) (C := R_B) (T := F_B) (N := 10) hx hb htg iw_B hown hK hP 0 rfl rfl 4 (by decide) (htg _ k1_161) (fun _ h9 => h9) rfl d_B_nowhere_12 ?_
    refine lv_iload_n hx hb d_B_nowhere_15 rfl (lv_at hl 1 rfl) ?_
    refine bk_topi (y := nI j5) hx5 ?_
    refine vp_callSi (va_runV (As := [.int (nI j5)]) (rest := []) ⟨hx, hb, hml, hown, htg⟩ (c_Pl_leastSet l dC dI cI cL cZ ul a1 a2 a3 a4 a5 n inn pk ou ok og j5 hi hj5) (cwV 1 htg (gdV k2_91 k2_92 k2_93 k1_4 kc_Pl_leastSet) rfl rfl rfl (by decide +kernel) ⟨Nat.le_of_ble_eq_true rfl, Nat.le_of_ble_eq_true rfl⟩) ⟨bk_blind, va_recv hK hP (ci := 3) (q0 := 1) rfl rfl, fun U hU hW => ⟨rfl, nw_warm hW hN, by rw [hU]; exact hP.sub [1, 2, 3, 4, 5, 6] rfl, va_K.moved hW.alike hK⟩⟩ rfl rfl hl.1 rfl (lv_room (Nat.le_of_ble_eq_true rfl)) d_B_nowhere_16 ⟨Nat.le_of_ble_eq_true rfl, Nat.le_of_ble_eq_true rfl⟩).run (fun r16 e16 => ?_)
    subst e16
    refine lv_iload_n hx hb d_B_nowhere_19 rfl (lv_at hl 2 rfl) ?_
    refine vp_callSi (va_runS (As := [.int (nI (lsR inn pk ou ok og j5)), .int y]) (rest := []) ⟨hx, hb, hml, hown, htg⟩ (c_B_bitAt l dC dI cI cL cZ (lsR inn pk ou ok og j5) y (lsR_lt (hi.2.1 j5 hj5).2.2.1)) (va_cwS 2 htg (gdS k2_105 k2_106 k1_1 kc_B_bitAt) rfl rfl rfl (by decide +kernel) ⟨Nat.le_of_ble_eq_true rfl, Nat.le_of_ble_eq_true rfl⟩) ⟨bk_blind0, fun U hU hW => ⟨rfl, trivial⟩⟩ rfl rfl hl.1 rfl (lv_room (Nat.le_of_ble_eq_true rfl)) d_B_nowhere_20 ⟨Nat.le_of_ble_eq_true rfl, Nat.le_of_ble_eq_true rfl⟩).run (fun r20 e20 => ?_)
    refine lv_goto (tgt := 27) hx hb d_B_nowhere_23 (by decide) ?_
    exact W.iret (v := r20) hx hb hr (fun t9 ht9 hW9 => ⟨r20, rfl, Or.inl ⟨j5, hj5, hx5, e20⟩, ht9⟩) (fun q h => nomatch h) d_B_nowhere_27
  · refine bk_if_eq (a := 0) (tgt := 26) hx hb (by omega) d_B_nowhere_8 (by decide) (fun c8 => ?_) (fun c8 => absurd c8 (by decide))
    refine lv_iconst (v := oI none) hx hb d_B_nowhere_26 (by decide +kernel) ?_
    exact W.iret (v := oI none) hx hb hr (fun t9 ht9 hW9 => ⟨oI none, rfl, Or.inr ⟨n5, rfl⟩, ht9⟩) (fun q h => nomatch h) d_B_nowhere_27
set_option maxHeartbeats 4000000 in
set_option maxRecDepth 100000 in
theorem c_B_risk (l : Launch) (dC : Nat → ClassId) (dI : Nat → Nat → Nat) (cI cL cZ : ClassId) (sz : Nat) (xo up us uj ul uk ut uq uw uc : Nat) (sd : Int64) (a1 a2 : Nat) (wt : Nat → Nat) (x1 x2 x3 : Int32) : Met l y_B_risk ws_B_risk { frames := 2, cells := 0, slots := 0, locals := 43 } (va_Pc [.ref xo, .int x1, .int x2, .int x3] (wrP (dC, dI) vwCl [(cI, .int), (cL, .long), (cZ, .boolean)] [(xo, .inr (0, [.long sd, .ref up, .ref us, .ref uj, .ref ul, .ref uk, .ref ut, .ref uq, .ref uw, .ref uc])), (uk, .inr (4, [.ref a1, .ref a2])), (a1, .inl (cI, 10, .inl (aI wt)))] sz)) (va_Qi (fun (r : Int32) (u : (Nat → Nat) × Nat) => (setOk x1 x2 x3 ∧ r = nI 1 ∧ u = (va_up wt (tn x1) (2520 / tn x3 * tn x2), 0)) ∨ (¬ setOk x1 x2 x3 ∧ r = nI 0 ∧ u = (wt, 0))) (fun (u : (Nat → Nat) × Nat) => wrQ (dC, dI) vwCl [(cI, .int), (cL, .long), (cZ, .boolean)] (va_A [(xo, .inr (0, [.long sd, .ref up, .ref us, .ref uj, .ref ul, .ref uk, .ref ut, .ref uq, .ref uw, .ref uc])), (uk, .inr (4, [.ref a1, .ref a2])), (a1, .inl (cI, 10, .inl (aI wt)))] sz) [(xo, .inr (0, [.long sd, .ref up, .ref us, .ref uj, .ref ul, .ref uk, .ref ut, .ref uq, .ref uw, .ref uc])), (uk, .inr (4, [.ref a1, .ref a2])), (a1, .inl (cI, 10, .inl (aI u.1)))]) (va_A [(xo, .inr (0, [.long sd, .ref up, .ref us, .ref uj, .ref ul, .ref uk, .ref ut, .ref uq, .ref uw, .ref uc])), (uk, .inr (4, [.ref a1, .ref a2])), (a1, .inl (cI, 10, .inl (aI wt)))] sz)) 0 0 (va_A [(xo, .inr (0, [.long sd, .ref up, .ref us, .ref uj, .ref ul, .ref uk, .ref ut, .ref uq, .ref uw, .ref uc])), (uk, .inr (4, [.ref a1, .ref a2])), (a1, .inl (cI, 10, .inl (aI wt)))] sz) := by
  refine Met.ofW (cc := b_B_risk) (maxL := 4) (ret := (some .boolean)) (by decide) rfl ?_
  intro pr en s m args below meth c s₁ B hml hv
  obtain ⟨rfl, hN, hsz, hP, hK, hD0⟩ := hv
  have hx := B.exec
  have hb := B.bytes
  have hr := B.returns
  have hts := atoms_spec (ws := ws_B_risk) B.pre
  have htg : ∀ w ∈ gW, w.before _ s = true := fun w h => hts w (List.mem_cons_of_mem _ h)
  have hown : s.vm.findClass R_B = some m.cls := findClass_of_methodNamed B.named
  have hlocks := B.notSynchronized
  subst hsz
  have hD := hD0.self (sz := s.heap.size)
  generalize hAe : va_A [(xo, .inr (0, [.long sd, .ref up, .ref us, .ref uj, .ref ul, .ref uk, .ref ut, .ref uq, .ref uw, .ref uc])), (uk, .inr (4, [.ref a1, .ref a2])), (a1, .inl (cI, 10, .inl (aI wt)))] s.heap.size = A at hD ⊢
  have hA : ∀ q : Nat, s.heap.size ≤ q → A q := fun q h => by rw [← hAe]; exact Or.inr h
  have hS : va_S A s.heap s.heap [] := va_S.rf
  have hP : va_P (dC, dI) vwCl [(xo, .inr (0, [.long sd, .ref up, .ref us, .ref uj, .ref ul, .ref uk, .ref ut, .ref uq, .ref uw, .ref uc])), (uk, .inr (4, [.ref a1, .ref a2])), (a1, .inl (cI, 10, .inl (aI wt)))] s.heap := hP
  have hl := lv_entry ([.ref xo, .int x1, .int x2, .int x3]) (n := 4) (Nat.le_of_ble_eq_true rfl)
  rw [lg_entry_eq]
  generalize (lg_sl ([.ref xo, .int x1, .int x2, .int x3]) ++ List.replicate (4 - (lg_sl ([.ref xo, .int x1, .int x2, .int x3])).length) Slot.unset).toArray = ls at hl ⊢
  have hl : lv_has ls 4 [(0, .ref xo), (1, .int x1), (2, .int x2), (3, .int x3)] := hl
  refine lv_aload_n hx hb d_B_risk_0 rfl (lv_at hl 0 rfl) ?_
  refine va_get (D := (dC, dI)) (ci := 0) (v := .ref uk) (C := R_B) (T := F_B) (N := 10) hx hb htg iw_B hown hK hP 0 rfl rfl 5 (by decide) (htg _ k1_162) (fun _ h9 => h9) rfl d_B_risk_1 ?_
  refine lv_iload_n hx hb d_B_risk_4 rfl (lv_at hl 1 rfl) ?_
  refine lv_iload_n hx hb d_B_risk_5 rfl (lv_at hl 2 rfl) ?_
  refine lv_iload_n hx hb d_B_risk_6 rfl (lv_at hl 3 rfl) ?_
  have hPc := hP.sub (ws' := [(uk, .inr (4, [.ref a1, .ref a2])), (a1, .inl (cI, 10, .inl (aI wt)))]) [1, 2] rfl
  have hDc := hD.sub (ws' := [(uk, .inr (4, [.ref a1, .ref a2])), (a1, .inl (cI, 10, .inl (aI wt)))]) [1, 2] (by decide) rfl
  have hFc := va_free (wc := [(uk, .inr (4, [.ref a1, .ref a2])), (a1, .inl (cI, 10, .inl (aI wt)))]) hD hS hA [1, 2] rfl
  refine va_calli (va_runV (As := [.int x1, .int x2, .int x3]) (rest := []) ⟨hx, hb, hml, hown, htg⟩ (c_Ri_set l dC dI cI cL cZ s.heap.size uk a1 a2 wt x1 x2 x3 ) (cwV 3 htg (gdV k2_112 k2_113 k2_114 k1_5 kc_Ri_set) rfl rfl rfl (by decide +kernel) ⟨Nat.le_of_ble_eq_true rfl, Nat.le_of_ble_eq_true rfl⟩) ⟨bk_blindW, va_recv hK hP (ci := 4) (q0 := 1) rfl rfl, fun U hU hW => ⟨rfl, nw_warm hW hN, by rw [hU], by rw [hU]; exact hPc, va_K.moved hW.alike hK, hDc.weaken (fun _ _ _ _ => trivial)⟩⟩ rfl rfl hl.1 rfl (lv_room (Nat.le_of_ble_eq_true rfl)) d_B_risk_7 ⟨Nat.le_of_ble_eq_true rfl, Nat.le_of_ble_eq_true rfl⟩) hS (fun q _ h => hFc q h) hFc (fun r7 u t H1 locs ht hvm e7 hB hz1 hk1 hS => ?_)
  obtain ⟨hP1, hK1, hD1⟩ := hB
  rw [ht] at hP1
  try dsimp only at e7
  rcases e7 with ⟨ok7, rfl, rfl⟩ | ⟨no7, rfl, rfl⟩
  · obtain ⟨hP, hD⟩ := va_join (wr := [(xo, .inr (0, [.long sd, .ref up, .ref us, .ref uj, .ref ul, .ref uk, .ref ut, .ref uq, .ref uw, .ref uc]))]) (w1 := [(uk, .inr (4, [.ref a1, .ref a2])), (a1, .inl (cI, 10, .inl (aI (va_up wt (tn x1) (2520 / tn x3 * tn x2)))))]) hP hD [1, 2] [0] rfl rfl (by decide) (by decide) hk1 hFc hP1 hD1
    generalize H1 = H at hP hS ⊢
    have hP : va_P (dC, dI) vwCl [(xo, .inr (0, [.long sd, .ref up, .ref us, .ref uj, .ref ul, .ref uk, .ref ut, .ref uq, .ref uw, .ref uc])), (uk, .inr (4, [.ref a1, .ref a2])), (a1, .inl (cI, 10, .inl (aI (va_up wt (tn x1) (2520 / tn x3 * tn x2)))))] H := hP.sub [0, 1, 2] rfl
    have hD : va_D A [(xo, .inr (0, [.long sd, .ref up, .ref us, .ref uj, .ref ul, .ref uk, .ref ut, .ref uq, .ref uw, .ref uc])), (uk, .inr (4, [.ref a1, .ref a2])), (a1, .inl (cI, 10, .inl (aI (va_up wt (tn x1) (2520 / tn x3 * tn x2)))))] := hD.sub [0, 1, 2] (by decide) rfl
    have hP9 := hP.sub (ws' := [(xo, .inr (0, [.long sd, .ref up, .ref us, .ref uj, .ref ul, .ref uk, .ref ut, .ref uq, .ref uw, .ref uc])), (uk, .inr (4, [.ref a1, .ref a2])), (a1, .inl (cI, 10, .inl (aI (va_up wt (tn x1) (2520 / tn x3 * tn x2)))))]) [0, 1, 2] rfl
    have hD9 := hD.sub (ws' := [(xo, .inr (0, [.long sd, .ref up, .ref us, .ref uj, .ref ul, .ref uk, .ref ut, .ref uq, .ref uw, .ref uc])), (uk, .inr (4, [.ref a1, .ref a2])), (a1, .inl (cI, 10, .inl (aI (va_up wt (tn x1) (2520 / tn x3 * tn x2)))))]) [0, 1, 2] (by decide) rfl
    exact W.zret (v := nI 1) (ty := .boolean) hx hb hr rfl (fun t9 ht9 hW9 => ⟨⟨nI 1, (va_up wt (tn x1) (2520 / tn x3 * tn x2), 0), rfl, Or.inl ⟨ok7, rfl, rfl⟩, by rw [ht9]; exact hP9, va_K.moved hW9.alike hK, hD9⟩, hS.F ht9⟩) hS.2.2 d_B_risk_10
  · obtain ⟨hP, hD⟩ := va_join (wr := [(xo, .inr (0, [.long sd, .ref up, .ref us, .ref uj, .ref ul, .ref uk, .ref ut, .ref uq, .ref uw, .ref uc]))]) (w1 := [(uk, .inr (4, [.ref a1, .ref a2])), (a1, .inl (cI, 10, .inl (aI wt)))]) hP hD [1, 2] [0] rfl rfl (by decide) (by decide) hk1 hFc hP1 hD1
    generalize H1 = H at hP hS ⊢
    have hP : va_P (dC, dI) vwCl [(xo, .inr (0, [.long sd, .ref up, .ref us, .ref uj, .ref ul, .ref uk, .ref ut, .ref uq, .ref uw, .ref uc])), (uk, .inr (4, [.ref a1, .ref a2])), (a1, .inl (cI, 10, .inl (aI wt)))] H := hP.sub [0, 1, 2] rfl
    have hD : va_D A [(xo, .inr (0, [.long sd, .ref up, .ref us, .ref uj, .ref ul, .ref uk, .ref ut, .ref uq, .ref uw, .ref uc])), (uk, .inr (4, [.ref a1, .ref a2])), (a1, .inl (cI, 10, .inl (aI wt)))] := hD.sub [0, 1, 2] (by decide) rfl
    have hP9 := hP.sub (ws' := [(xo, .inr (0, [.long sd, .ref up, .ref us, .ref uj, .ref ul, .ref uk, .ref ut, .ref uq, .ref uw, .ref uc])), (uk, .inr (4, [.ref a1, .ref a2])), (a1, .inl (cI, 10, .inl (aI wt)))]) [0, 1, 2] rfl
    have hD9 := hD.sub (ws' := [(xo, .inr (0, [.long sd, .ref up, .ref us, .ref uj, .ref ul, .ref uk, .ref ut, .ref uq, .ref uw, .ref uc])), (uk, .inr (4, [.ref a1, .ref a2])), (a1, .inl (cI, 10, .inl (aI wt)))]) [0, 1, 2] (by decide) rfl
    exact W.zret (v := nI 0) (ty := .boolean) hx hb hr rfl (fun t9 ht9 hW9 => ⟨⟨nI 0, (wt, 0), rfl, Or.inr ⟨no7, rfl, rfl⟩, by rw [ht9]; exact hP9, va_K.moved hW9.alike hK, hD9⟩, hS.F ht9⟩) hS.2.2 d_B_risk_10
set_option maxHeartbeats 4000000 in
set_option maxRecDepth 100000 in
theorem c_B_draw (l : Launch) (dC : Nat → ClassId) (dI : Nat → Nat → Nat) (cI cL cZ : ClassId) (sz : Nat) (xo up us uj ul uk ut uq uw uc : Nat) (sd : Int64) (a1 a2 : Nat) (wt wl : Nat → Nat) (b1 b2 b3 b4 n : Nat) (sh : Nat → Nat) (t1 c0 as0 : Nat) (tk : Nat → Nat) (x : Int32) (hn : n ≤ 30) (hsh : ∀ j, j < n → sh j < 10) (hwt : ∀ j, j < 10 → wt j ≤ 2520) : Met l y_B_draw ws_B_draw { frames := 2, cells := 0, slots := 0, locals := 54 } (va_Pc [.ref xo, .int x] (wrP (dC, dI) vwCl [(cI, .int), (cL, .long), (cZ, .boolean)] [(xo, .inr (0, [.long sd, .ref up, .ref us, .ref uj, .ref ul, .ref uk, .ref ut, .ref uq, .ref uw, .ref uc])), (uk, .inr (4, [.ref a1, .ref a2])), (a1, .inl (cI, 10, .inl (aI wt))), (a2, .inl (cI, 30, .inl (aI wl))), (up, .inr (1, [.ref b1, .ref b2, .ref b3, .ref b4, .int (nI n)])), (b1, .inl (cI, 30, .inl (aI sh))), (ut, .inr (5, [.ref t1, .int (nI c0), .int (nI as0)])), (t1, .inl (cI, 30, .inl (aI tk)))] sz)) (va_Qi (fun (r : Int32) (u : (Nat → Nat) × Nat × (Nat → Nat) × Nat) => (∃ N, N ≤ n ∧ x = nI N ∧ r = nI u.2.1 ∧ u.2.2.2 = N ∧ isDraw n (fun j => wt (sh j)) sd N u.2.1 ∧ ∀ j, j < u.2.1 → u.2.2.1 j = pkD n (fun j => wt (sh j)) sd j ∧ u.2.2.1 j < n) ∨ (¬ inR (n + 1) x ∧ r = oI none ∧ u = (wl, c0, tk, as0))) (fun (u : (Nat → Nat) × Nat × (Nat → Nat) × Nat) => wrQ (dC, dI) vwCl [(cI, .int), (cL, .long), (cZ, .boolean)] (va_A [(xo, .inr (0, [.long sd, .ref up, .ref us, .ref uj, .ref ul, .ref uk, .ref ut, .ref uq, .ref uw, .ref uc])), (uk, .inr (4, [.ref a1, .ref a2])), (a1, .inl (cI, 10, .inl (aI wt))), (a2, .inl (cI, 30, .inl (aI wl))), (up, .inr (1, [.ref b1, .ref b2, .ref b3, .ref b4, .int (nI n)])), (b1, .inl (cI, 30, .inl (aI sh))), (ut, .inr (5, [.ref t1, .int (nI c0), .int (nI as0)])), (t1, .inl (cI, 30, .inl (aI tk)))] sz) [(xo, .inr (0, [.long sd, .ref up, .ref us, .ref uj, .ref ul, .ref uk, .ref ut, .ref uq, .ref uw, .ref uc])), (uk, .inr (4, [.ref a1, .ref a2])), (a1, .inl (cI, 10, .inl (aI wt))), (a2, .inl (cI, 30, .inl (aI u.1))), (up, .inr (1, [.ref b1, .ref b2, .ref b3, .ref b4, .int (nI n)])), (b1, .inl (cI, 30, .inl (aI sh))), (ut, .inr (5, [.ref t1, .int (nI u.2.1), .int (nI u.2.2.2)])), (t1, .inl (cI, 30, .inl (aI u.2.2.1)))]) (va_A [(xo, .inr (0, [.long sd, .ref up, .ref us, .ref uj, .ref ul, .ref uk, .ref ut, .ref uq, .ref uw, .ref uc])), (uk, .inr (4, [.ref a1, .ref a2])), (a1, .inl (cI, 10, .inl (aI wt))), (a2, .inl (cI, 30, .inl (aI wl))), (up, .inr (1, [.ref b1, .ref b2, .ref b3, .ref b4, .int (nI n)])), (b1, .inl (cI, 30, .inl (aI sh))), (ut, .inr (5, [.ref t1, .int (nI c0), .int (nI as0)])), (t1, .inl (cI, 30, .inl (aI tk)))] sz)) 0 0 (va_A [(xo, .inr (0, [.long sd, .ref up, .ref us, .ref uj, .ref ul, .ref uk, .ref ut, .ref uq, .ref uw, .ref uc])), (uk, .inr (4, [.ref a1, .ref a2])), (a1, .inl (cI, 10, .inl (aI wt))), (a2, .inl (cI, 30, .inl (aI wl))), (up, .inr (1, [.ref b1, .ref b2, .ref b3, .ref b4, .int (nI n)])), (b1, .inl (cI, 30, .inl (aI sh))), (ut, .inr (5, [.ref t1, .int (nI c0), .int (nI as0)])), (t1, .inl (cI, 30, .inl (aI tk)))] sz) := by
  refine Met.ofW (cc := b_B_draw) (maxL := 2) (ret := (some .int)) (by decide) rfl ?_
  intro pr en s m args below meth c s₁ B hml hv
  obtain ⟨rfl, hN, hsz, hP, hK, hD0⟩ := hv
  have hx := B.exec
  have hb := B.bytes
  have hr := B.returns
  have hts := atoms_spec (ws := ws_B_draw) B.pre
  have htg : ∀ w ∈ gW, w.before _ s = true := fun w h => hts w (List.mem_cons_of_mem _ h)
  have hown : s.vm.findClass R_B = some m.cls := findClass_of_methodNamed B.named
  have hlocks := B.notSynchronized
  subst hsz
  have hD := hD0.self (sz := s.heap.size)
  generalize hAe : va_A [(xo, .inr (0, [.long sd, .ref up, .ref us, .ref uj, .ref ul, .ref uk, .ref ut, .ref uq, .ref uw, .ref uc])), (uk, .inr (4, [.ref a1, .ref a2])), (a1, .inl (cI, 10, .inl (aI wt))), (a2, .inl (cI, 30, .inl (aI wl))), (up, .inr (1, [.ref b1, .ref b2, .ref b3, .ref b4, .int (nI n)])), (b1, .inl (cI, 30, .inl (aI sh))), (ut, .inr (5, [.ref t1, .int (nI c0), .int (nI as0)])), (t1, .inl (cI, 30, .inl (aI tk)))] s.heap.size = A at hD ⊢
  have hA : ∀ q : Nat, s.heap.size ≤ q → A q := fun q h => by rw [← hAe]; exact Or.inr h
  have hS : va_S A s.heap s.heap [] := va_S.rf
  have hP : va_P (dC, dI) vwCl [(xo, .inr (0, [.long sd, .ref up, .ref us, .ref uj, .ref ul, .ref uk, .ref ut, .ref uq, .ref uw, .ref uc])), (uk, .inr (4, [.ref a1, .ref a2])), (a1, .inl (cI, 10, .inl (aI wt))), (a2, .inl (cI, 30, .inl (aI wl))), (up, .inr (1, [.ref b1, .ref b2, .ref b3, .ref b4, .int (nI n)])), (b1, .inl (cI, 30, .inl (aI sh))), (ut, .inr (5, [.ref t1, .int (nI c0), .int (nI as0)])), (t1, .inl (cI, 30, .inl (aI tk)))] s.heap := hP
  have hl := lv_entry ([.ref xo, .int x]) (n := 2) (Nat.le_of_ble_eq_true rfl)
  rw [lg_entry_eq]
  generalize (lg_sl ([.ref xo, .int x]) ++ List.replicate (2 - (lg_sl ([.ref xo, .int x])).length) Slot.unset).toArray = ls at hl ⊢
  have hl : lv_has ls 2 [(0, .ref xo), (1, .int x)] := hl
  refine lv_iload_n hx hb d_B_draw_0 rfl (lv_at hl 1 rfl) ?_
  refine lv_if_lt (x := x) (tgt := 15) hx hb d_B_draw_1 (by decide) (fun c1 => ?_) (fun c1 => ?_)
  · refine lv_iconst (v := oI none) hx hb d_B_draw_15 (by decide +kernel) ?_
    have hP9 := hP.sub (ws' := [(xo, .inr (0, [.long sd, .ref up, .ref us, .ref uj, .ref ul, .ref uk, .ref ut, .ref uq, .ref uw, .ref uc])), (uk, .inr (4, [.ref a1, .ref a2])), (a1, .inl (cI, 10, .inl (aI wt))), (a2, .inl (cI, 30, .inl (aI wl))), (up, .inr (1, [.ref b1, .ref b2, .ref b3, .ref b4, .int (nI n)])), (b1, .inl (cI, 30, .inl (aI sh))), (ut, .inr (5, [.ref t1, .int (nI c0), .int (nI as0)])), (t1, .inl (cI, 30, .inl (aI tk)))]) [0, 1, 2, 3, 4, 5, 6, 7] rfl
    have hD9 := hD.sub (ws' := [(xo, .inr (0, [.long sd, .ref up, .ref us, .ref uj, .ref ul, .ref uk, .ref ut, .ref uq, .ref uw, .ref uc])), (uk, .inr (4, [.ref a1, .ref a2])), (a1, .inl (cI, 10, .inl (aI wt))), (a2, .inl (cI, 30, .inl (aI wl))), (up, .inr (1, [.ref b1, .ref b2, .ref b3, .ref b4, .int (nI n)])), (b1, .inl (cI, 30, .inl (aI sh))), (ut, .inr (5, [.ref t1, .int (nI c0), .int (nI as0)])), (t1, .inl (cI, 30, .inl (aI tk)))]) [0, 1, 2, 3, 4, 5, 6, 7] (by decide) rfl
    exact W.iret (v := oI none) hx hb hr (fun t9 ht9 hW9 => ⟨⟨oI none, (wl, c0, tk, as0), rfl, Or.inr ⟨by first | exact inR_neg (by omega) c1 | exact (fun z9 => by obtain ⟨q, uq, e⟩ := z9; exact no_gt e (by omega) (by omega) (by omega) (bk_nle.mp c12)), rfl, rfl⟩, by rw [ht9]; exact hP9, va_K.moved hW9.alike hK, hD9⟩, hS.F ht9⟩) hS.2.2 d_B_draw_16
  · refine lv_iload_n hx hb d_B_draw_4 rfl (lv_at hl 1 rfl) ?_
    refine lv_aload_n hx hb d_B_draw_5 rfl (lv_at hl 0 rfl) ?_
    refine va_get (D := (dC, dI)) (ci := 0) (v := .ref up) (C := R_B) (T := F_B) (N := 10) hx hb htg iw_B hown hK hP 0 rfl rfl 1 (by decide) (htg _ k1_158) (fun _ h9 => h9) rfl d_B_draw_6 ?_
    refine va_get (D := (dC, dI)) (ci := 1) (v := .int (nI n)) (C := R_Bk) (T := F_Bk) (N := 5) hx hb htg iw_Bk hown hK hP 4 rfl rfl 4 (by decide) (htg _ k1_42) (fun _ h9 => h9) rfl d_B_draw_9 ?_
    refine lv_icmp_le (x := x) (y := nI n) (tgt := 17) hx hb d_B_draw_12 (by decide) (fun c12 => ?_) (fun c12 => ?_)
    · obtain ⟨N, hN1, hxN⟩ := le_nI c1 c12 (by omega)
      refine lv_aload_n hx hb d_B_draw_17 rfl (lv_at hl 0 rfl) ?_
      refine va_get (D := (dC, dI)) (ci := 0) (v := .ref uk) (C := R_B) (T := F_B) (N := 10) hx hb htg iw_B hown hK hP 0 rfl rfl 5 (by decide) (htg _ k1_162) (fun _ h9 => h9) rfl d_B_draw_18 ?_
      refine lv_aload_n hx hb d_B_draw_21 rfl (lv_at hl 0 rfl) ?_
      refine va_get (D := (dC, dI)) (ci := 0) (v := .ref up) (C := R_B) (T := F_B) (N := 10) hx hb htg iw_B hown hK hP 0 rfl rfl 1 (by decide) (htg _ k1_158) (fun _ h9 => h9) rfl d_B_draw_22 ?_
      refine lv_aload_n hx hb d_B_draw_25 rfl (lv_at hl 0 rfl) ?_
      refine va_get (D := (dC, dI)) (ci := 0) (v := .long sd) (C := R_B) (T := F_B) (N := 10) hx hb htg iw_B hown hK hP 0 rfl rfl 0 (by decide) (htg _ k1_157) (fun _ h9 => h9) rfl d_B_draw_26 ?_
      refine lv_iload_n hx hb d_B_draw_29 rfl (lv_at hl 1 rfl) ?_
      refine bk_topi (y := nI N) hxN ?_
      refine lv_aload_n hx hb d_B_draw_30 rfl (lv_at hl 0 rfl) ?_
      refine va_get (D := (dC, dI)) (ci := 0) (v := .ref ut) (C := R_B) (T := F_B) (N := 10) hx hb htg iw_B hown hK hP 0 rfl rfl 6 (by decide) (htg _ k1_163) (fun _ h9 => h9) rfl d_B_draw_31 ?_
      have hPc := hP.sub (ws' := [(uk, .inr (4, [.ref a1, .ref a2])), (a1, .inl (cI, 10, .inl (aI wt))), (a2, .inl (cI, 30, .inl (aI wl))), (up, .inr (1, [.ref b1, .ref b2, .ref b3, .ref b4, .int (nI n)])), (b1, .inl (cI, 30, .inl (aI sh))), (ut, .inr (5, [.ref t1, .int (nI c0), .int (nI as0)])), (t1, .inl (cI, 30, .inl (aI tk)))]) [1, 2, 3, 4, 5, 6, 7] rfl
      have hDc := hD.sub (ws' := [(uk, .inr (4, [.ref a1, .ref a2])), (a1, .inl (cI, 10, .inl (aI wt))), (a2, .inl (cI, 30, .inl (aI wl))), (up, .inr (1, [.ref b1, .ref b2, .ref b3, .ref b4, .int (nI n)])), (b1, .inl (cI, 30, .inl (aI sh))), (ut, .inr (5, [.ref t1, .int (nI c0), .int (nI as0)])), (t1, .inl (cI, 30, .inl (aI tk)))]) [1, 2, 3, 4, 5, 6, 7] (by decide) rfl
      have hFc := va_free (wc := [(uk, .inr (4, [.ref a1, .ref a2])), (a1, .inl (cI, 10, .inl (aI wt))), (a2, .inl (cI, 30, .inl (aI wl))), (up, .inr (1, [.ref b1, .ref b2, .ref b3, .ref b4, .int (nI n)])), (b1, .inl (cI, 30, .inl (aI sh))), (ut, .inr (5, [.ref t1, .int (nI c0), .int (nI as0)])), (t1, .inl (cI, 30, .inl (aI tk)))]) hD hS hA [1, 2, 3, 4, 5, 6, 7] rfl
      refine va_callv (va_runV (As := [.ref up, .long sd, .int (nI N), .ref ut]) (rest := []) ⟨hx, hb, hml, hown, htg⟩ (c_Ri_take l dC dI cI cL cZ s.heap.size uk a1 a2 wt wl up b1 b2 b3 b4 n sh ut t1 c0 as0 tk sd N hn hsh hwt hN1) (cwV 4 htg (gdV k2_121 k2_122 k2_123 k1_5 kc_Ri_take) rfl rfl rfl (by decide +kernel) ⟨Nat.le_of_ble_eq_true rfl, Nat.le_of_ble_eq_true rfl⟩) ⟨bk_blindW, va_recv hK hP (ci := 4) (q0 := 1) rfl rfl, fun U hU hW => ⟨rfl, nw_warm hW hN, by rw [hU], by rw [hU]; exact hPc, va_K.moved hW.alike hK, hDc.weaken (fun _ _ _ _ => trivial)⟩⟩ rfl rfl hl.1 rfl (lv_room (Nat.le_of_ble_eq_true rfl)) d_B_draw_34 ⟨Nat.le_of_ble_eq_true rfl, Nat.le_of_ble_eq_true rfl⟩) hS (fun q _ h => hFc q h) hFc (fun u t H1 locs ht hvm e34 hB hz1 hk1 hS => ?_)
      obtain ⟨hP1, hK1, hD1⟩ := hB
      rw [ht] at hP1
      try dsimp only at e34
      obtain ⟨wl34, dn34, tk34⟩ := u
      obtain ⟨hd34, ht34⟩ := e34
      try dsimp only at hd34 ht34
      obtain ⟨hP, hD⟩ := va_join (wr := [(xo, .inr (0, [.long sd, .ref up, .ref us, .ref uj, .ref ul, .ref uk, .ref ut, .ref uq, .ref uw, .ref uc]))]) (w1 := [(uk, .inr (4, [.ref a1, .ref a2])), (a1, .inl (cI, 10, .inl (aI wt))), (a2, .inl (cI, 30, .inl (aI wl34))), (up, .inr (1, [.ref b1, .ref b2, .ref b3, .ref b4, .int (nI n)])), (b1, .inl (cI, 30, .inl (aI sh))), (ut, .inr (5, [.ref t1, .int (nI dn34), .int (nI N)])), (t1, .inl (cI, 30, .inl (aI tk34)))]) hP hD [1, 2, 3, 4, 5, 6, 7] [0] rfl rfl (by decide) (by decide) hk1 hFc hP1 hD1
      generalize H1 = H at hP hS ⊢
      have hP : va_P (dC, dI) vwCl [(xo, .inr (0, [.long sd, .ref up, .ref us, .ref uj, .ref ul, .ref uk, .ref ut, .ref uq, .ref uw, .ref uc])), (uk, .inr (4, [.ref a1, .ref a2])), (a1, .inl (cI, 10, .inl (aI wt))), (a2, .inl (cI, 30, .inl (aI wl34))), (up, .inr (1, [.ref b1, .ref b2, .ref b3, .ref b4, .int (nI n)])), (b1, .inl (cI, 30, .inl (aI sh))), (ut, .inr (5, [.ref t1, .int (nI dn34), .int (nI N)])), (t1, .inl (cI, 30, .inl (aI tk34)))] H := hP.sub [0, 1, 2, 3, 4, 5, 6, 7] rfl
      have hD : va_D A [(xo, .inr (0, [.long sd, .ref up, .ref us, .ref uj, .ref ul, .ref uk, .ref ut, .ref uq, .ref uw, .ref uc])), (uk, .inr (4, [.ref a1, .ref a2])), (a1, .inl (cI, 10, .inl (aI wt))), (a2, .inl (cI, 30, .inl (aI wl34))), (up, .inr (1, [.ref b1, .ref b2, .ref b3, .ref b4, .int (nI n)])), (b1, .inl (cI, 30, .inl (aI sh))), (ut, .inr (5, [.ref t1, .int (nI dn34), .int (nI N)])), (t1, .inl (cI, 30, .inl (aI tk34)))] := hD.sub [0, 1, 2, 3, 4, 5, 6, 7] (by decide) rfl
      refine lv_aload_n hx hb d_B_draw_37 rfl (lv_at hl 0 rfl) ?_
      refine va_get (D := (dC, dI)) (ci := 0) (v := .ref ut) (C := R_B) (T := F_B) (N := 10) hx hb htg iw_B hown hK hP 0 rfl rfl 6 (by decide) (htg _ k1_163) (fun _ h9 => h9) rfl d_B_draw_38 ?_
      refine va_get (D := (dC, dI)) (ci := 5) (v := .int (nI dn34)) (C := R_Ro) (T := F_Ro) (N := 3) hx hb htg iw_Ro hown hK hP 6 rfl rfl 1 (by decide) (htg _ k1_119) (fun _ h9 => h9) rfl d_B_draw_41 ?_
      have hP9 := hP.sub (ws' := [(xo, .inr (0, [.long sd, .ref up, .ref us, .ref uj, .ref ul, .ref uk, .ref ut, .ref uq, .ref uw, .ref uc])), (uk, .inr (4, [.ref a1, .ref a2])), (a1, .inl (cI, 10, .inl (aI wt))), (a2, .inl (cI, 30, .inl (aI wl34))), (up, .inr (1, [.ref b1, .ref b2, .ref b3, .ref b4, .int (nI n)])), (b1, .inl (cI, 30, .inl (aI sh))), (ut, .inr (5, [.ref t1, .int (nI dn34), .int (nI N)])), (t1, .inl (cI, 30, .inl (aI tk34)))]) [0, 1, 2, 3, 4, 5, 6, 7] rfl
      have hD9 := hD.sub (ws' := [(xo, .inr (0, [.long sd, .ref up, .ref us, .ref uj, .ref ul, .ref uk, .ref ut, .ref uq, .ref uw, .ref uc])), (uk, .inr (4, [.ref a1, .ref a2])), (a1, .inl (cI, 10, .inl (aI wt))), (a2, .inl (cI, 30, .inl (aI wl34))), (up, .inr (1, [.ref b1, .ref b2, .ref b3, .ref b4, .int (nI n)])), (b1, .inl (cI, 30, .inl (aI sh))), (ut, .inr (5, [.ref t1, .int (nI dn34), .int (nI N)])), (t1, .inl (cI, 30, .inl (aI tk34)))]) [0, 1, 2, 3, 4, 5, 6, 7] (by decide) rfl
      exact W.iret (v := nI dn34) hx hb hr (fun t9 ht9 hW9 => ⟨⟨nI dn34, (wl34, dn34, tk34, N), rfl, Or.inl ⟨N, hN1, hxN, rfl, rfl, hd34, ht34⟩, by rw [ht9]; exact hP9, va_K.moved hW9.alike hK, hD9⟩, hS.F ht9⟩) hS.2.2 d_B_draw_44
    · refine lv_iconst (v := oI none) hx hb d_B_draw_15 (by decide +kernel) ?_
      have hP9 := hP.sub (ws' := [(xo, .inr (0, [.long sd, .ref up, .ref us, .ref uj, .ref ul, .ref uk, .ref ut, .ref uq, .ref uw, .ref uc])), (uk, .inr (4, [.ref a1, .ref a2])), (a1, .inl (cI, 10, .inl (aI wt))), (a2, .inl (cI, 30, .inl (aI wl))), (up, .inr (1, [.ref b1, .ref b2, .ref b3, .ref b4, .int (nI n)])), (b1, .inl (cI, 30, .inl (aI sh))), (ut, .inr (5, [.ref t1, .int (nI c0), .int (nI as0)])), (t1, .inl (cI, 30, .inl (aI tk)))]) [0, 1, 2, 3, 4, 5, 6, 7] rfl
      have hD9 := hD.sub (ws' := [(xo, .inr (0, [.long sd, .ref up, .ref us, .ref uj, .ref ul, .ref uk, .ref ut, .ref uq, .ref uw, .ref uc])), (uk, .inr (4, [.ref a1, .ref a2])), (a1, .inl (cI, 10, .inl (aI wt))), (a2, .inl (cI, 30, .inl (aI wl))), (up, .inr (1, [.ref b1, .ref b2, .ref b3, .ref b4, .int (nI n)])), (b1, .inl (cI, 30, .inl (aI sh))), (ut, .inr (5, [.ref t1, .int (nI c0), .int (nI as0)])), (t1, .inl (cI, 30, .inl (aI tk)))]) [0, 1, 2, 3, 4, 5, 6, 7] (by decide) rfl
      exact W.iret (v := oI none) hx hb hr (fun t9 ht9 hW9 => ⟨⟨oI none, (wl, c0, tk, as0), rfl, Or.inr ⟨by first | exact inR_neg (by omega) c1 | exact (fun z9 => by obtain ⟨q, uq, e⟩ := z9; exact no_gt e (by omega) (by omega) (by omega) (bk_nle.mp c12)), rfl, rfl⟩, by rw [ht9]; exact hP9, va_K.moved hW9.alike hK, hD9⟩, hS.F ht9⟩) hS.2.2 d_B_draw_16
set_option maxHeartbeats 4000000 in
set_option maxRecDepth 100000 in
theorem c_B_drawn (l : Launch) (dC : Nat → ClassId) (dI : Nat → Nat → Nat) (cI cL cZ : ClassId) (xo up us uj ul uk ut uq uw uc : Nat) (sd : Int64) (t1 c0 as0 : Nat) (tk : Nat → Nat) (x : Int32) (hcc : c0 ≤ 30) : Met l y_B_drawn ws_B_drawn { frames := 1, cells := 0, slots := 0, locals := 21 } (va_Pc [.ref xo, .int x] (rdP (dC, dI) vwCl [(cI, .int), (cL, .long), (cZ, .boolean)] [(xo, .inr (0, [.long sd, .ref up, .ref us, .ref uj, .ref ul, .ref uk, .ref ut, .ref uq, .ref uw, .ref uc])), (ut, .inr (5, [.ref t1, .int (nI c0), .int (nI as0)])), (t1, .inl (cI, 30, .inl (aI tk)))])) (vp_Si (fun r => (∃ j, j < c0 ∧ x = nI j ∧ r = nI (tk j)) ∨ (¬ inR c0 x ∧ r = oI none))) 0 0 (fun _ => False) := by
  refine Met.ofW (cc := b_B_drawn) (maxL := 2) (ret := (some .int)) (by decide) rfl ?_
  intro pr en s m args below meth c s₁ B hml hv
  obtain ⟨rfl, hN, hP, hK⟩ := hv
  have hx := B.exec
  have hb := B.bytes
  have hr := B.returns
  have hts := atoms_spec (ws := ws_B_drawn) B.pre
  have htg : ∀ w ∈ gW, w.before _ s = true := fun w h => hts w (List.mem_cons_of_mem _ h)
  have hown : s.vm.findClass R_B = some m.cls := findClass_of_methodNamed B.named
  have hlocks := B.notSynchronized
  have hl := lv_entry ([.ref xo, .int x]) (n := 2) (Nat.le_of_ble_eq_true rfl)
  rw [lg_entry_eq]
  generalize (lg_sl ([.ref xo, .int x]) ++ List.replicate (2 - (lg_sl ([.ref xo, .int x])).length) Slot.unset).toArray = ls at hl ⊢
  have hl : lv_has ls 2 [(0, .ref xo), (1, .int x)] := hl
  refine lv_aload_n hx hb d_B_drawn_0 rfl (lv_at hl 0 rfl) ?_
  refine va_get (D := (dC, dI)) (ci := 0) (v := .ref ut) (C := R_B) (T := F_B) (N := 10) hx hb htg iw_B hown hK hP 0 rfl rfl 6 (by decide) (htg _ k1_163) (fun _ h9 => h9) rfl d_B_drawn_1 ?_
  refine lv_iload_n hx hb d_B_drawn_4 rfl (lv_at hl 1 rfl) ?_
  refine vp_callSi (va_runV (As := [.int x]) (rest := []) ⟨hx, hb, hml, hown, htg⟩ (c_Ro_at l dC dI cI cL cZ ut t1 c0 as0 tk x (by omega)) (cwV 1 htg (gdV k2_147 k2_148 k2_149 k1_6 kc_Ro_at) rfl rfl rfl (by decide +kernel) ⟨Nat.le_of_ble_eq_true rfl, Nat.le_of_ble_eq_true rfl⟩) ⟨bk_blind, va_recv hK hP (ci := 5) (q0 := 1) rfl rfl, fun U hU hW => ⟨rfl, nw_warm hW hN, by rw [hU]; exact hP.sub [1, 2] rfl, va_K.moved hW.alike hK⟩⟩ rfl rfl hl.1 rfl (lv_room (Nat.le_of_ble_eq_true rfl)) d_B_drawn_5 ⟨Nat.le_of_ble_eq_true rfl, Nat.le_of_ble_eq_true rfl⟩).run (fun r5 e5 => ?_)
  exact W.iret (v := r5) hx hb hr (fun t9 ht9 hW9 => ⟨r5, rfl, e5, ht9⟩) (fun q h => nomatch h) d_B_drawn_8
set_option maxHeartbeats 4000000 in
set_option maxRecDepth 100000 in
theorem c_B_same (l : Launch) (dC : Nat → ClassId) (dI : Nat → Nat → Nat) (cI cL cZ : ClassId) (sz : Nat) (xo up us uj ul uk ut uq uw uc : Nat) (sd : Int64) (a1 a2 : Nat) (wt wl : Nat → Nat) (b1 b2 b3 b4 n : Nat) (sh : Nat → Nat) (t1 c0 as0 : Nat) (tk : Nat → Nat) (q1 qc qa : Nat) (qt : Nat → Nat) (y : Int64) (hn : n ≤ 30) (hsh : ∀ j, j < n → sh j < 10) (hwt : ∀ j, j < 10 → wt j ≤ 2520) (hcc : c0 ≤ 30) (has : as0 ≤ n) (htk : ∀ j, j < c0 → tk j < 30) : Met l y_B_same ws_B_same { frames := 2, cells := 0, slots := 0, locals := 54 } (va_Pc [.ref xo, .long y] (wrP (dC, dI) vwCl [(cI, .int), (cL, .long), (cZ, .boolean)] [(xo, .inr (0, [.long sd, .ref up, .ref us, .ref uj, .ref ul, .ref uk, .ref ut, .ref uq, .ref uw, .ref uc])), (uk, .inr (4, [.ref a1, .ref a2])), (a1, .inl (cI, 10, .inl (aI wt))), (a2, .inl (cI, 30, .inl (aI wl))), (up, .inr (1, [.ref b1, .ref b2, .ref b3, .ref b4, .int (nI n)])), (b1, .inl (cI, 30, .inl (aI sh))), (ut, .inr (5, [.ref t1, .int (nI c0), .int (nI as0)])), (t1, .inl (cI, 30, .inl (aI tk))), (uq, .inr (5, [.ref q1, .int (nI qc), .int (nI qa)])), (q1, .inl (cI, 30, .inl (aI qt)))] sz)) (va_Qi (fun (r : Int32) (u : (Nat → Nat) × Nat × (Nat → Nat)) => ∃ k, isDraw n (fun j => wt (sh j)) y as0 k ∧ (((c0 = k ∧ ∀ j, j < c0 → tk j = pkD n (fun j => wt (sh j)) y j) ∧ r = nI 1) ∨ (¬ (c0 = k ∧ ∀ j, j < c0 → tk j = pkD n (fun j => wt (sh j)) y j) ∧ r = nI 0))) (fun (u : (Nat → Nat) × Nat × (Nat → Nat)) => wrQ (dC, dI) vwCl [(cI, .int), (cL, .long), (cZ, .boolean)] (va_A [(xo, .inr (0, [.long sd, .ref up, .ref us, .ref uj, .ref ul, .ref uk, .ref ut, .ref uq, .ref uw, .ref uc])), (uk, .inr (4, [.ref a1, .ref a2])), (a1, .inl (cI, 10, .inl (aI wt))), (a2, .inl (cI, 30, .inl (aI wl))), (up, .inr (1, [.ref b1, .ref b2, .ref b3, .ref b4, .int (nI n)])), (b1, .inl (cI, 30, .inl (aI sh))), (ut, .inr (5, [.ref t1, .int (nI c0), .int (nI as0)])), (t1, .inl (cI, 30, .inl (aI tk))), (uq, .inr (5, [.ref q1, .int (nI qc), .int (nI qa)])), (q1, .inl (cI, 30, .inl (aI qt)))] sz) [(xo, .inr (0, [.long sd, .ref up, .ref us, .ref uj, .ref ul, .ref uk, .ref ut, .ref uq, .ref uw, .ref uc])), (uk, .inr (4, [.ref a1, .ref a2])), (a1, .inl (cI, 10, .inl (aI wt))), (a2, .inl (cI, 30, .inl (aI u.1))), (up, .inr (1, [.ref b1, .ref b2, .ref b3, .ref b4, .int (nI n)])), (b1, .inl (cI, 30, .inl (aI sh))), (ut, .inr (5, [.ref t1, .int (nI c0), .int (nI as0)])), (t1, .inl (cI, 30, .inl (aI tk))), (uq, .inr (5, [.ref q1, .int (nI u.2.1), .int (nI as0)])), (q1, .inl (cI, 30, .inl (aI u.2.2)))]) (va_A [(xo, .inr (0, [.long sd, .ref up, .ref us, .ref uj, .ref ul, .ref uk, .ref ut, .ref uq, .ref uw, .ref uc])), (uk, .inr (4, [.ref a1, .ref a2])), (a1, .inl (cI, 10, .inl (aI wt))), (a2, .inl (cI, 30, .inl (aI wl))), (up, .inr (1, [.ref b1, .ref b2, .ref b3, .ref b4, .int (nI n)])), (b1, .inl (cI, 30, .inl (aI sh))), (ut, .inr (5, [.ref t1, .int (nI c0), .int (nI as0)])), (t1, .inl (cI, 30, .inl (aI tk))), (uq, .inr (5, [.ref q1, .int (nI qc), .int (nI qa)])), (q1, .inl (cI, 30, .inl (aI qt)))] sz)) 0 0 (va_A [(xo, .inr (0, [.long sd, .ref up, .ref us, .ref uj, .ref ul, .ref uk, .ref ut, .ref uq, .ref uw, .ref uc])), (uk, .inr (4, [.ref a1, .ref a2])), (a1, .inl (cI, 10, .inl (aI wt))), (a2, .inl (cI, 30, .inl (aI wl))), (up, .inr (1, [.ref b1, .ref b2, .ref b3, .ref b4, .int (nI n)])), (b1, .inl (cI, 30, .inl (aI sh))), (ut, .inr (5, [.ref t1, .int (nI c0), .int (nI as0)])), (t1, .inl (cI, 30, .inl (aI tk))), (uq, .inr (5, [.ref q1, .int (nI qc), .int (nI qa)])), (q1, .inl (cI, 30, .inl (aI qt)))] sz) := by
  refine Met.ofW (cc := b_B_same) (maxL := 3) (ret := (some .boolean)) (by decide) rfl ?_
  intro pr en s m args below meth c s₁ B hml hv
  obtain ⟨rfl, hN, hsz, hP, hK, hD0⟩ := hv
  have hx := B.exec
  have hb := B.bytes
  have hr := B.returns
  have hts := atoms_spec (ws := ws_B_same) B.pre
  have htg : ∀ w ∈ gW, w.before _ s = true := fun w h => hts w (List.mem_cons_of_mem _ h)
  have hown : s.vm.findClass R_B = some m.cls := findClass_of_methodNamed B.named
  have hlocks := B.notSynchronized
  subst hsz
  have hD := hD0.self (sz := s.heap.size)
  generalize hAe : va_A [(xo, .inr (0, [.long sd, .ref up, .ref us, .ref uj, .ref ul, .ref uk, .ref ut, .ref uq, .ref uw, .ref uc])), (uk, .inr (4, [.ref a1, .ref a2])), (a1, .inl (cI, 10, .inl (aI wt))), (a2, .inl (cI, 30, .inl (aI wl))), (up, .inr (1, [.ref b1, .ref b2, .ref b3, .ref b4, .int (nI n)])), (b1, .inl (cI, 30, .inl (aI sh))), (ut, .inr (5, [.ref t1, .int (nI c0), .int (nI as0)])), (t1, .inl (cI, 30, .inl (aI tk))), (uq, .inr (5, [.ref q1, .int (nI qc), .int (nI qa)])), (q1, .inl (cI, 30, .inl (aI qt)))] s.heap.size = A at hD ⊢
  have hA : ∀ q : Nat, s.heap.size ≤ q → A q := fun q h => by rw [← hAe]; exact Or.inr h
  have hS : va_S A s.heap s.heap [] := va_S.rf
  have hP : va_P (dC, dI) vwCl [(xo, .inr (0, [.long sd, .ref up, .ref us, .ref uj, .ref ul, .ref uk, .ref ut, .ref uq, .ref uw, .ref uc])), (uk, .inr (4, [.ref a1, .ref a2])), (a1, .inl (cI, 10, .inl (aI wt))), (a2, .inl (cI, 30, .inl (aI wl))), (up, .inr (1, [.ref b1, .ref b2, .ref b3, .ref b4, .int (nI n)])), (b1, .inl (cI, 30, .inl (aI sh))), (ut, .inr (5, [.ref t1, .int (nI c0), .int (nI as0)])), (t1, .inl (cI, 30, .inl (aI tk))), (uq, .inr (5, [.ref q1, .int (nI qc), .int (nI qa)])), (q1, .inl (cI, 30, .inl (aI qt)))] s.heap := hP
  have hl := lv_entry ([.ref xo, .long y]) (n := 3) (Nat.le_of_ble_eq_true rfl)
  rw [lg_entry_eq]
  generalize (lg_sl ([.ref xo, .long y]) ++ List.replicate (3 - (lg_sl ([.ref xo, .long y])).length) Slot.unset).toArray = ls at hl ⊢
  have hl : lv_has ls 3 [(0, .ref xo), (1, .long y)] := hl
  refine lv_aload_n hx hb d_B_same_0 rfl (lv_at hl 0 rfl) ?_
  refine va_get (D := (dC, dI)) (ci := 0) (v := .ref uk) (C := R_B) (T := F_B) (N := 10) hx hb htg iw_B hown hK hP 0 rfl rfl 5 (by decide) (htg _ k1_162) (fun _ h9 => h9) rfl d_B_same_1 ?_
  refine lv_aload_n hx hb d_B_same_4 rfl (lv_at hl 0 rfl) ?_
  refine va_get (D := (dC, dI)) (ci := 0) (v := .ref up) (C := R_B) (T := F_B) (N := 10) hx hb htg iw_B hown hK hP 0 rfl rfl 1 (by decide) (htg _ k1_158) (fun _ h9 => h9) rfl d_B_same_5 ?_
  refine lv_lload_n hx hb d_B_same_8 rfl (lv_at hl 1 rfl) ?_
  refine lv_aload_n hx hb d_B_same_9 rfl (lv_at hl 0 rfl) ?_
  refine va_get (D := (dC, dI)) (ci := 0) (v := .ref ut) (C := R_B) (T := F_B) (N := 10) hx hb htg iw_B hown hK hP 0 rfl rfl 6 (by decide) (htg _ k1_163) (fun _ h9 => h9) rfl d_B_same_10 ?_
  refine va_get (D := (dC, dI)) (ci := 5) (v := .int (nI as0)) (C := R_Ro) (T := F_Ro) (N := 3) hx hb htg iw_Ro hown hK hP 6 rfl rfl 2 (by decide) (htg _ k1_121) (fun _ h9 => h9) rfl d_B_same_13 ?_
  refine lv_aload_n hx hb d_B_same_16 rfl (lv_at hl 0 rfl) ?_
  refine va_get (D := (dC, dI)) (ci := 0) (v := .ref uq) (C := R_B) (T := F_B) (N := 10) hx hb htg iw_B hown hK hP 0 rfl rfl 7 (by decide) (htg _ k1_164) (fun _ h9 => h9) rfl d_B_same_17 ?_
  have hPc := hP.sub (ws' := [(uk, .inr (4, [.ref a1, .ref a2])), (a1, .inl (cI, 10, .inl (aI wt))), (a2, .inl (cI, 30, .inl (aI wl))), (up, .inr (1, [.ref b1, .ref b2, .ref b3, .ref b4, .int (nI n)])), (b1, .inl (cI, 30, .inl (aI sh))), (uq, .inr (5, [.ref q1, .int (nI qc), .int (nI qa)])), (q1, .inl (cI, 30, .inl (aI qt)))]) [1, 2, 3, 4, 5, 8, 9] rfl
  have hDc := hD.sub (ws' := [(uk, .inr (4, [.ref a1, .ref a2])), (a1, .inl (cI, 10, .inl (aI wt))), (a2, .inl (cI, 30, .inl (aI wl))), (up, .inr (1, [.ref b1, .ref b2, .ref b3, .ref b4, .int (nI n)])), (b1, .inl (cI, 30, .inl (aI sh))), (uq, .inr (5, [.ref q1, .int (nI qc), .int (nI qa)])), (q1, .inl (cI, 30, .inl (aI qt)))]) [1, 2, 3, 4, 5, 8, 9] (by decide) rfl
  have hFc := va_free (wc := [(uk, .inr (4, [.ref a1, .ref a2])), (a1, .inl (cI, 10, .inl (aI wt))), (a2, .inl (cI, 30, .inl (aI wl))), (up, .inr (1, [.ref b1, .ref b2, .ref b3, .ref b4, .int (nI n)])), (b1, .inl (cI, 30, .inl (aI sh))), (uq, .inr (5, [.ref q1, .int (nI qc), .int (nI qa)])), (q1, .inl (cI, 30, .inl (aI qt)))]) hD hS hA [1, 2, 3, 4, 5, 8, 9] rfl
  refine va_callv (va_runV (As := [.ref up, .long y, .int (nI as0), .ref uq]) (rest := []) ⟨hx, hb, hml, hown, htg⟩ (c_Ri_take l dC dI cI cL cZ s.heap.size uk a1 a2 wt wl up b1 b2 b3 b4 n sh uq q1 qc qa qt y as0 hn hsh hwt has) (cwV 4 htg (gdV k2_121 k2_122 k2_123 k1_5 kc_Ri_take) rfl rfl rfl (by decide +kernel) ⟨Nat.le_of_ble_eq_true rfl, Nat.le_of_ble_eq_true rfl⟩) ⟨bk_blindW, va_recv hK hP (ci := 4) (q0 := 1) rfl rfl, fun U hU hW => ⟨rfl, nw_warm hW hN, by rw [hU], by rw [hU]; exact hPc, va_K.moved hW.alike hK, hDc.weaken (fun _ _ _ _ => trivial)⟩⟩ rfl rfl hl.1 rfl (lv_room (Nat.le_of_ble_eq_true rfl)) d_B_same_20 ⟨Nat.le_of_ble_eq_true rfl, Nat.le_of_ble_eq_true rfl⟩) hS (fun q _ h => hFc q h) hFc (fun u t H1 locs ht hvm e20 hB hz1 hk1 hS => ?_)
  obtain ⟨hP1, hK1, hD1⟩ := hB
  rw [ht] at hP1
  try dsimp only at e20
  obtain ⟨wl20, dn20, tk20⟩ := u
  obtain ⟨hd20, ht20⟩ := e20
  try dsimp only at hd20 ht20
  obtain ⟨hP, hD⟩ := va_join (wr := [(xo, .inr (0, [.long sd, .ref up, .ref us, .ref uj, .ref ul, .ref uk, .ref ut, .ref uq, .ref uw, .ref uc])), (ut, .inr (5, [.ref t1, .int (nI c0), .int (nI as0)])), (t1, .inl (cI, 30, .inl (aI tk)))]) (w1 := [(uk, .inr (4, [.ref a1, .ref a2])), (a1, .inl (cI, 10, .inl (aI wt))), (a2, .inl (cI, 30, .inl (aI wl20))), (up, .inr (1, [.ref b1, .ref b2, .ref b3, .ref b4, .int (nI n)])), (b1, .inl (cI, 30, .inl (aI sh))), (uq, .inr (5, [.ref q1, .int (nI dn20), .int (nI as0)])), (q1, .inl (cI, 30, .inl (aI tk20)))]) hP hD [1, 2, 3, 4, 5, 8, 9] [0, 6, 7] rfl rfl (by decide) (by decide) hk1 hFc hP1 hD1
  generalize H1 = H at hP hS ⊢
  have hP : va_P (dC, dI) vwCl [(xo, .inr (0, [.long sd, .ref up, .ref us, .ref uj, .ref ul, .ref uk, .ref ut, .ref uq, .ref uw, .ref uc])), (uk, .inr (4, [.ref a1, .ref a2])), (a1, .inl (cI, 10, .inl (aI wt))), (a2, .inl (cI, 30, .inl (aI wl20))), (up, .inr (1, [.ref b1, .ref b2, .ref b3, .ref b4, .int (nI n)])), (b1, .inl (cI, 30, .inl (aI sh))), (ut, .inr (5, [.ref t1, .int (nI c0), .int (nI as0)])), (t1, .inl (cI, 30, .inl (aI tk))), (uq, .inr (5, [.ref q1, .int (nI dn20), .int (nI as0)])), (q1, .inl (cI, 30, .inl (aI tk20)))] H := hP.sub [0, 3, 4, 5, 6, 7, 1, 2, 8, 9] rfl
  have hD : va_D A [(xo, .inr (0, [.long sd, .ref up, .ref us, .ref uj, .ref ul, .ref uk, .ref ut, .ref uq, .ref uw, .ref uc])), (uk, .inr (4, [.ref a1, .ref a2])), (a1, .inl (cI, 10, .inl (aI wt))), (a2, .inl (cI, 30, .inl (aI wl20))), (up, .inr (1, [.ref b1, .ref b2, .ref b3, .ref b4, .int (nI n)])), (b1, .inl (cI, 30, .inl (aI sh))), (ut, .inr (5, [.ref t1, .int (nI c0), .int (nI as0)])), (t1, .inl (cI, 30, .inl (aI tk))), (uq, .inr (5, [.ref q1, .int (nI dn20), .int (nI as0)])), (q1, .inl (cI, 30, .inl (aI tk20)))] := hD.sub [0, 3, 4, 5, 6, 7, 1, 2, 8, 9] (by decide) rfl
  refine lv_aload_n hx hb d_B_same_23 rfl (lv_at hl 0 rfl) ?_
  refine va_get (D := (dC, dI)) (ci := 0) (v := .ref ut) (C := R_B) (T := F_B) (N := 10) hx hb htg iw_B hown hK hP 0 rfl rfl 6 (by decide) (htg _ k1_163) (fun _ h9 => h9) rfl d_B_same_24 ?_
  refine lv_aload_n hx hb d_B_same_27 rfl (lv_at hl 0 rfl) ?_
  refine va_get (D := (dC, dI)) (ci := 0) (v := .ref uq) (C := R_B) (T := F_B) (N := 10) hx hb htg iw_B hown hK hP 0 rfl rfl 7 (by decide) (htg _ k1_164) (fun _ h9 => h9) rfl d_B_same_28 ?_
  refine vp_callSi (va_runV (As := [.ref uq]) (rest := []) ⟨hx, hb, hml, hown, htg⟩ (c_Ro_equalTo l dC dI cI cL cZ ut t1 c0 as0 tk uq q1 dn20 as0 tk20 hcc (by have := hd20.1; omega) htk (fun j hj => by have := (ht20 j hj).2; omega)) (cwV 1 htg (gdV k2_155 k2_156 k2_157 k1_6 kc_Ro_equalTo) rfl rfl rfl (by decide +kernel) ⟨Nat.le_of_ble_eq_true rfl, Nat.le_of_ble_eq_true rfl⟩) ⟨bk_blind, va_recv hK hP (ci := 5) (q0 := 6) rfl rfl, fun U hU hW => ⟨rfl, nw_warm hW hN, by rw [hU]; exact hP.sub [6, 7, 8, 9] rfl, va_K.moved hW.alike hK⟩⟩ rfl rfl hl.1 rfl (lv_room (Nat.le_of_ble_eq_true rfl)) d_B_same_31 ⟨Nat.le_of_ble_eq_true rfl, Nat.le_of_ble_eq_true rfl⟩).run (fun r31 e31 => ?_)
  rcases e31 with ⟨b31, rfl⟩ | ⟨b31, rfl⟩
  · have hP9 := hP.sub (ws' := [(xo, .inr (0, [.long sd, .ref up, .ref us, .ref uj, .ref ul, .ref uk, .ref ut, .ref uq, .ref uw, .ref uc])), (uk, .inr (4, [.ref a1, .ref a2])), (a1, .inl (cI, 10, .inl (aI wt))), (a2, .inl (cI, 30, .inl (aI wl20))), (up, .inr (1, [.ref b1, .ref b2, .ref b3, .ref b4, .int (nI n)])), (b1, .inl (cI, 30, .inl (aI sh))), (ut, .inr (5, [.ref t1, .int (nI c0), .int (nI as0)])), (t1, .inl (cI, 30, .inl (aI tk))), (uq, .inr (5, [.ref q1, .int (nI dn20), .int (nI as0)])), (q1, .inl (cI, 30, .inl (aI tk20)))]) [0, 1, 2, 3, 4, 5, 6, 7, 8, 9] rfl
    have hD9 := hD.sub (ws' := [(xo, .inr (0, [.long sd, .ref up, .ref us, .ref uj, .ref ul, .ref uk, .ref ut, .ref uq, .ref uw, .ref uc])), (uk, .inr (4, [.ref a1, .ref a2])), (a1, .inl (cI, 10, .inl (aI wt))), (a2, .inl (cI, 30, .inl (aI wl20))), (up, .inr (1, [.ref b1, .ref b2, .ref b3, .ref b4, .int (nI n)])), (b1, .inl (cI, 30, .inl (aI sh))), (ut, .inr (5, [.ref t1, .int (nI c0), .int (nI as0)])), (t1, .inl (cI, 30, .inl (aI tk))), (uq, .inr (5, [.ref q1, .int (nI dn20), .int (nI as0)])), (q1, .inl (cI, 30, .inl (aI tk20)))]) [0, 1, 2, 3, 4, 5, 6, 7, 8, 9] (by decide) rfl
    exact W.zret (v := nI 1) (ty := .boolean) hx hb hr rfl (fun t9 ht9 hW9 => ⟨⟨nI 1, (wl20, dn20, tk20), rfl, ⟨dn20, hd20, Or.inl ⟨⟨b31.1, fun j hj => by rw [b31.2 j hj]; exact (ht20 j (by rw [← b31.1]; exact hj)).1⟩, rfl⟩⟩, by rw [ht9]; exact hP9, va_K.moved hW9.alike hK, hD9⟩, hS.F ht9⟩) hS.2.2 d_B_same_34
  · have hP9 := hP.sub (ws' := [(xo, .inr (0, [.long sd, .ref up, .ref us, .ref uj, .ref ul, .ref uk, .ref ut, .ref uq, .ref uw, .ref uc])), (uk, .inr (4, [.ref a1, .ref a2])), (a1, .inl (cI, 10, .inl (aI wt))), (a2, .inl (cI, 30, .inl (aI wl20))), (up, .inr (1, [.ref b1, .ref b2, .ref b3, .ref b4, .int (nI n)])), (b1, .inl (cI, 30, .inl (aI sh))), (ut, .inr (5, [.ref t1, .int (nI c0), .int (nI as0)])), (t1, .inl (cI, 30, .inl (aI tk))), (uq, .inr (5, [.ref q1, .int (nI dn20), .int (nI as0)])), (q1, .inl (cI, 30, .inl (aI tk20)))]) [0, 1, 2, 3, 4, 5, 6, 7, 8, 9] rfl
    have hD9 := hD.sub (ws' := [(xo, .inr (0, [.long sd, .ref up, .ref us, .ref uj, .ref ul, .ref uk, .ref ut, .ref uq, .ref uw, .ref uc])), (uk, .inr (4, [.ref a1, .ref a2])), (a1, .inl (cI, 10, .inl (aI wt))), (a2, .inl (cI, 30, .inl (aI wl20))), (up, .inr (1, [.ref b1, .ref b2, .ref b3, .ref b4, .int (nI n)])), (b1, .inl (cI, 30, .inl (aI sh))), (ut, .inr (5, [.ref t1, .int (nI c0), .int (nI as0)])), (t1, .inl (cI, 30, .inl (aI tk))), (uq, .inr (5, [.ref q1, .int (nI dn20), .int (nI as0)])), (q1, .inl (cI, 30, .inl (aI tk20)))]) [0, 1, 2, 3, 4, 5, 6, 7, 8, 9] (by decide) rfl
    exact W.zret (v := nI 0) (ty := .boolean) hx hb hr rfl (fun t9 ht9 hW9 => ⟨⟨nI 0, (wl20, dn20, tk20), rfl, ⟨dn20, hd20, Or.inr ⟨fun z9 => b31 ⟨z9.1, fun j hj => by rw [z9.2 j hj]; exact (ht20 j (by rw [← z9.1]; exact hj)).1.symm⟩, rfl⟩⟩, by rw [ht9]; exact hP9, va_K.moved hW9.alike hK, hD9⟩, hS.F ht9⟩) hS.2.2 d_B_same_34
set_option maxHeartbeats 4000000 in
set_option maxRecDepth 100000 in
theorem c_B_missed (l : Launch) (dC : Nat → ClassId) (dI : Nat → Nat → Nat) (cI cL cZ : ClassId) (xo up us uj ul uk ut uq uw uc : Nat) (sd : Int64) (b1 b2 b3 b4 n : Nat) (x1 x2 x3 : Int32) (hn : n ≤ 30) : Met l y_B_missed ws_B_missed { frames := 1, cells := 0, slots := 0, locals := 30 } (va_Pc [.ref xo, .int x1, .int x2, .int x3] (rdP (dC, dI) vwCl [(cI, .int), (cL, .long), (cZ, .boolean)] [(xo, .inr (0, [.long sd, .ref up, .ref us, .ref uj, .ref ul, .ref uk, .ref ut, .ref uq, .ref uw, .ref uc])), (up, .inr (1, [.ref b1, .ref b2, .ref b3, .ref b4, .int (nI n)]))])) (vp_Sl (fun r => (∃ a b p0, a ≤ n ∧ b ≤ n ∧ p0 ≤ 1 ∧ x1 = nI a ∧ x2 = nI b ∧ x3 = nI p0 ∧ r = lN (misN n a b p0)) ∨ (¬ (inR (n + 1) x1 ∧ inR (n + 1) x2 ∧ inR 2 x3) ∧ r = -1))) 0 0 (fun _ => False) := by
  refine Met.ofW (cc := b_B_missed) (maxL := 13) (ret := (some .long)) (by decide) rfl ?_
  intro pr en s m args below meth c s₁ B hml hv
  obtain ⟨rfl, hN, hP, hK⟩ := hv
  have hx := B.exec
  have hb := B.bytes
  have hr := B.returns
  have hts := atoms_spec (ws := ws_B_missed) B.pre
  have htg : ∀ w ∈ gW, w.before _ s = true := fun w h => hts w (List.mem_cons_of_mem _ h)
  have hown : s.vm.findClass R_B = some m.cls := findClass_of_methodNamed B.named
  have hlocks := B.notSynchronized
  have hl := lv_entry ([.ref xo, .int x1, .int x2, .int x3]) (n := 13) (Nat.le_of_ble_eq_true rfl)
  rw [lg_entry_eq]
  generalize (lg_sl ([.ref xo, .int x1, .int x2, .int x3]) ++ List.replicate (13 - (lg_sl ([.ref xo, .int x1, .int x2, .int x3])).length) Slot.unset).toArray = ls at hl ⊢
  have hl : lv_has ls 13 [(0, .ref xo), (1, .int x1), (2, .int x2), (3, .int x3)] := hl
  refine lv_aload_n hx hb d_B_missed_0 rfl (lv_at hl 0 rfl) ?_
  refine va_get (D := (dC, dI)) (ci := 0) (v := .ref up) (C := R_B) (T := F_B) (N := 10) hx hb htg iw_B hown hK hP 0 rfl rfl 1 (by decide) (htg _ k1_158) (fun _ h9 => h9) rfl d_B_missed_1 ?_
  refine va_get (D := (dC, dI)) (ci := 1) (v := .int (nI n)) (C := R_Bk) (T := F_Bk) (N := 5) hx hb htg iw_Bk hown hK hP 1 rfl rfl 4 (by decide) (htg _ k1_42) (fun _ h9 => h9) rfl d_B_missed_4 ?_
  refine lv_istore (lv' := [(4, .int (nI n)), (0, .ref xo), (1, .int x1), (2, .int x2), (3, .int x3)]) hx hb d_B_missed_7 hl (by decide) rfl (fun ls hl => ?_)
  refine lv_iload_n hx hb d_B_missed_9 rfl (lv_at hl 2 rfl) ?_
  refine lv_if_lt (x := x1) (tgt := 38) hx hb d_B_missed_10 (by decide) (fun c10 => ?_) (fun c10 => ?_)
  · refine lv_ldc2 (own := R_B) (v := (-1)) hx hb hown (htg _ k2_86) d_B_missed_38 ?_
    exact W.lret (v := (-1)) hx hb hr (fun t9 ht9 hW9 => ⟨(-1), rfl, Or.inr ⟨fun z9 => by obtain ⟨⟨q1, g1, k1⟩, ⟨q2, g2, k2⟩, ⟨q3, g3, k3⟩⟩ := z9; first | exact (by rw [k1] at c10; exact nI_pos (by omega) c10) | exact no_gt k1 (by omega) (by omega) (by omega) c16 | exact (by rw [k2] at c20; exact nI_pos (by omega) c20) | exact no_gt k2 (by omega) (by omega) (by omega) c26 | exact (by rw [k3] at c30; exact nI_pos (by omega) c30) | exact no_gt (n := 1) k3 (by omega) (by decide) (by omega) (bk_nle.mp c35), rfl⟩, ht9⟩) (fun q h => nomatch h) d_B_missed_41
  · refine lv_iload_n hx hb d_B_missed_13 rfl (lv_at hl 2 rfl) ?_
    refine lv_iload hx hb d_B_missed_14 (lv_at hl 0 rfl) ?_
    refine lv_icmp_gt (x := x1) (y := nI n) (tgt := 38) hx hb d_B_missed_16 (by decide) (fun c16 => ?_) (fun c16 => ?_)
    · refine lv_ldc2 (own := R_B) (v := (-1)) hx hb hown (htg _ k2_86) d_B_missed_38 ?_
      exact W.lret (v := (-1)) hx hb hr (fun t9 ht9 hW9 => ⟨(-1), rfl, Or.inr ⟨fun z9 => by obtain ⟨⟨q1, g1, k1⟩, ⟨q2, g2, k2⟩, ⟨q3, g3, k3⟩⟩ := z9; first | exact (by rw [k1] at c10; exact nI_pos (by omega) c10) | exact no_gt k1 (by omega) (by omega) (by omega) c16 | exact (by rw [k2] at c20; exact nI_pos (by omega) c20) | exact no_gt k2 (by omega) (by omega) (by omega) c26 | exact (by rw [k3] at c30; exact nI_pos (by omega) c30) | exact no_gt (n := 1) k3 (by omega) (by decide) (by omega) (bk_nle.mp c35), rfl⟩, ht9⟩) (fun q h => nomatch h) d_B_missed_41
    · refine lv_iload_n hx hb d_B_missed_19 rfl (lv_at hl 3 rfl) ?_
      refine lv_if_lt (x := x2) (tgt := 38) hx hb d_B_missed_20 (by decide) (fun c20 => ?_) (fun c20 => ?_)
      · refine lv_ldc2 (own := R_B) (v := (-1)) hx hb hown (htg _ k2_86) d_B_missed_38 ?_
        exact W.lret (v := (-1)) hx hb hr (fun t9 ht9 hW9 => ⟨(-1), rfl, Or.inr ⟨fun z9 => by obtain ⟨⟨q1, g1, k1⟩, ⟨q2, g2, k2⟩, ⟨q3, g3, k3⟩⟩ := z9; first | exact (by rw [k1] at c10; exact nI_pos (by omega) c10) | exact no_gt k1 (by omega) (by omega) (by omega) c16 | exact (by rw [k2] at c20; exact nI_pos (by omega) c20) | exact no_gt k2 (by omega) (by omega) (by omega) c26 | exact (by rw [k3] at c30; exact nI_pos (by omega) c30) | exact no_gt (n := 1) k3 (by omega) (by decide) (by omega) (bk_nle.mp c35), rfl⟩, ht9⟩) (fun q h => nomatch h) d_B_missed_41
      · refine lv_iload_n hx hb d_B_missed_23 rfl (lv_at hl 3 rfl) ?_
        refine lv_iload hx hb d_B_missed_24 (lv_at hl 0 rfl) ?_
        refine lv_icmp_gt (x := x2) (y := nI n) (tgt := 38) hx hb d_B_missed_26 (by decide) (fun c26 => ?_) (fun c26 => ?_)
        · refine lv_ldc2 (own := R_B) (v := (-1)) hx hb hown (htg _ k2_86) d_B_missed_38 ?_
          exact W.lret (v := (-1)) hx hb hr (fun t9 ht9 hW9 => ⟨(-1), rfl, Or.inr ⟨fun z9 => by obtain ⟨⟨q1, g1, k1⟩, ⟨q2, g2, k2⟩, ⟨q3, g3, k3⟩⟩ := z9; first | exact (by rw [k1] at c10; exact nI_pos (by omega) c10) | exact no_gt k1 (by omega) (by omega) (by omega) c16 | exact (by rw [k2] at c20; exact nI_pos (by omega) c20) | exact no_gt k2 (by omega) (by omega) (by omega) c26 | exact (by rw [k3] at c30; exact nI_pos (by omega) c30) | exact no_gt (n := 1) k3 (by omega) (by decide) (by omega) (bk_nle.mp c35), rfl⟩, ht9⟩) (fun q h => nomatch h) d_B_missed_41
        · refine lv_iload_n hx hb d_B_missed_29 rfl (lv_at hl 4 rfl) ?_
          refine lv_if_lt (x := x3) (tgt := 38) hx hb d_B_missed_30 (by decide) (fun c30 => ?_) (fun c30 => ?_)
          · refine lv_ldc2 (own := R_B) (v := (-1)) hx hb hown (htg _ k2_86) d_B_missed_38 ?_
            exact W.lret (v := (-1)) hx hb hr (fun t9 ht9 hW9 => ⟨(-1), rfl, Or.inr ⟨fun z9 => by obtain ⟨⟨q1, g1, k1⟩, ⟨q2, g2, k2⟩, ⟨q3, g3, k3⟩⟩ := z9; first | exact (by rw [k1] at c10; exact nI_pos (by omega) c10) | exact no_gt k1 (by omega) (by omega) (by omega) c16 | exact (by rw [k2] at c20; exact nI_pos (by omega) c20) | exact no_gt k2 (by omega) (by omega) (by omega) c26 | exact (by rw [k3] at c30; exact nI_pos (by omega) c30) | exact no_gt (n := 1) k3 (by omega) (by decide) (by omega) (bk_nle.mp c35), rfl⟩, ht9⟩) (fun q h => nomatch h) d_B_missed_41
          · refine lv_iload_n hx hb d_B_missed_33 rfl (lv_at hl 4 rfl) ?_
            refine lv_iconst (v := nI 1) hx hb d_B_missed_34 (by decide +kernel) ?_
            refine lv_icmp_le (x := x3) (y := nI 1) (tgt := 42) hx hb d_B_missed_35 (by decide) (fun c35 => ?_) (fun c35 => ?_)
            · obtain ⟨a, ha, hxa⟩ := le_nI c10 (bk_nlt.mp c16) (by omega)
              obtain ⟨b, hb2, hxb⟩ := le_nI c20 (bk_nlt.mp c26) (by omega)
              obtain ⟨p0, hp0, hxp⟩ := le_nI c30 c35 (by omega)
              have hl1 := chs_le (a := n - b) (s := a) (by omega) (by omega)
              have hl2 := chs_le (a := n) (s := a) (by omega) (by omega)
              refine lv_iload hx hb d_B_missed_42 (lv_at hl 0 rfl) ?_
              refine lv_iload_n hx hb d_B_missed_44 rfl (lv_at hl 3 rfl) ?_
              refine bk_topi (y := nI b) hxb ?_
              refine bk_isub hx hb (by omega) d_B_missed_45 ?_
              refine lv_iload_n hx hb d_B_missed_46 rfl (lv_at hl 2 rfl) ?_
              refine bk_topi (y := nI a) hxa ?_
              refine vp_callSl (va_runS (As := [.int (nI (n - b)), .int (nI a)]) (rest := []) ⟨hx, hb, hml, hown, htg⟩ (c_B_choose l dC dI cI cL cZ (n - b) a (by first | omega | exact Nat.lt_of_le_of_lt (gcdF_le _ _ _) (by omega)) (by first | omega | exact Nat.lt_of_le_of_lt (gcdF_le _ _ _) (by omega))) (va_cwS 2 htg (gdS k2_163 k2_164 k1_1 kc_B_choose) rfl rfl rfl (by decide +kernel) ⟨Nat.le_of_ble_eq_true rfl, Nat.le_of_ble_eq_true rfl⟩) ⟨bk_blind0, fun U hU hW => ⟨rfl, trivial⟩⟩ rfl rfl hl.1 rfl (lv_room (Nat.le_of_ble_eq_true rfl)) d_B_missed_47 ⟨Nat.le_of_ble_eq_true rfl, Nat.le_of_ble_eq_true rfl⟩).run (fun r47 e47 => ?_)
              subst e47
              refine lv_lstore (lv' := [(5, .long (lN (chs (n - b) a))), (4, .int (nI n)), (0, .ref xo), (1, .int x1), (2, .int x2), (3, .int x3)]) hx hb d_B_missed_50 hl (by decide) rfl (fun ls hl => ?_)
              refine lv_iload hx hb d_B_missed_52 (lv_at hl 1 rfl) ?_
              refine lv_iload_n hx hb d_B_missed_54 rfl (lv_at hl 3 rfl) ?_
              refine bk_topi (y := nI a) hxa ?_
              refine vp_callSl (va_runS (As := [.int (nI n), .int (nI a)]) (rest := []) ⟨hx, hb, hml, hown, htg⟩ (c_B_choose l dC dI cI cL cZ n a (by first | omega | exact Nat.lt_of_le_of_lt (gcdF_le _ _ _) (by omega)) (by first | omega | exact Nat.lt_of_le_of_lt (gcdF_le _ _ _) (by omega))) (va_cwS 2 htg (gdS k2_163 k2_164 k1_1 kc_B_choose) rfl rfl rfl (by decide +kernel) ⟨Nat.le_of_ble_eq_true rfl, Nat.le_of_ble_eq_true rfl⟩) ⟨bk_blind0, fun U hU hW => ⟨rfl, trivial⟩⟩ rfl rfl hl.1 rfl (lv_room (Nat.le_of_ble_eq_true rfl)) d_B_missed_55 ⟨Nat.le_of_ble_eq_true rfl, Nat.le_of_ble_eq_true rfl⟩).run (fun r55 e55 => ?_)
              subst e55
              refine lv_lstore (lv' := [(7, .long (lN (chs n a))), (5, .long (lN (chs (n - b) a))), (4, .int (nI n)), (0, .ref xo), (1, .int x1), (2, .int x2), (3, .int x3)]) hx hb d_B_missed_58 hl (by decide) rfl (fun ls hl => ?_)
              refine lv_lload hx hb d_B_missed_60 (lv_at hl 1 rfl) ?_
              refine lv_lload hx hb d_B_missed_62 (lv_at hl 0 rfl) ?_
              refine vp_callSl (va_runS (As := [.long (lN (chs (n - b) a)), .long (lN (chs n a))]) (rest := []) ⟨hx, hb, hml, hown, htg⟩ (c_B_commonDivisor l dC dI cI cL cZ (chs (n - b) a) (chs n a) (by omega) (by omega)) (va_cwS 2 htg (gdS k2_166 k2_167 k1_1 kc_B_commonDivisor) rfl rfl rfl (by decide +kernel) ⟨Nat.le_of_ble_eq_true rfl, Nat.le_of_ble_eq_true rfl⟩) ⟨bk_blind0, fun U hU hW => ⟨rfl, trivial⟩⟩ rfl rfl hl.1 rfl (lv_room (Nat.le_of_ble_eq_true rfl)) d_B_missed_64 ⟨Nat.le_of_ble_eq_true rfl, Nat.le_of_ble_eq_true rfl⟩).run (fun r64 e64 => ?_)
              subst e64
              refine lv_lstore (lv' := [(9, .long (lN (gcdF 128 (chs (n - b) a) (chs n a)))), (7, .long (lN (chs n a))), (5, .long (lN (chs (n - b) a))), (4, .int (nI n)), (0, .ref xo), (1, .int x1), (2, .int x2), (3, .int x3)]) hx hb d_B_missed_67 hl (by decide) rfl (fun ls hl => ?_)
              refine lv_iload_n hx hb d_B_missed_69 rfl (lv_at hl 7 rfl) ?_
              refine bk_topi (y := nI p0) hxp ?_
              refine bk_if_ne (a := p0) (tgt := 78) hx hb (by first | omega | exact Nat.lt_of_le_of_lt (gcdF_le _ _ _) (by omega)) d_B_missed_70 (by decide) (fun c70 => ?_) (fun c70 => ?_)
              · refine lv_lload hx hb d_B_missed_78 (lv_at hl 1 rfl) ?_
                refine lv_lstore (lv' := [(11, .long (lN (chs n a))), (9, .long (lN (gcdF 128 (chs (n - b) a) (chs n a)))), (7, .long (lN (chs n a))), (5, .long (lN (chs (n - b) a))), (4, .int (nI n)), (0, .ref xo), (1, .int x1), (2, .int x2), (3, .int x3)]) hx hb d_B_missed_80 hl (by decide) rfl (fun ls hl => ?_)
                refine lv_lload hx hb d_B_missed_82 (lv_at hl 1 rfl) ?_
                refine lv_lconst (v := lN 0) hx hb d_B_missed_84 (by decide +kernel) ?_
                refine bk_ncmp_le (a := gcdF 128 (chs (n - b) a) (chs n a)) (b := 0) (tgt := 97) hx hb (by first | omega | exact Nat.lt_of_le_of_lt (gcdF_le _ _ _) (by omega)) (by first | omega | exact Nat.lt_of_le_of_lt (gcdF_le _ _ _) (by omega)) d_B_missed_85 d_B_missed_86 (by decide) (fun c85 => ?_) (fun c85 => ?_)
                · refine lv_lload hx hb d_B_missed_97 (lv_at hl 0 rfl) ?_
                  exact W.lret (v := lN (chs n a)) hx hb hr (fun t9 ht9 hW9 => ⟨lN (chs n a), rfl, Or.inl ⟨a, b, p0, ha, hb2, hp0, hxa, hxb, hxp, by rw [misN]; first | (rw [if_pos c70, if_pos (by omega)]; done) | (rw [if_neg c70, if_pos (by omega)]; done) | (rw [if_pos c70, if_neg (by omega)]; done) | (rw [if_neg c70, if_neg (by omega)]; done)⟩, ht9⟩) (fun q h => nomatch h) d_B_missed_99
                · refine lv_lload hx hb d_B_missed_89 (lv_at hl 0 rfl) ?_
                  refine lv_lload hx hb d_B_missed_91 (lv_at hl 1 rfl) ?_
                  refine bk_ldiv hx hb (by omega) (by omega) (Nat.lt_of_le_of_lt (gcdF_le _ _ _) (by omega)) d_B_missed_93 ?_
                  refine lv_goto (tgt := 99) hx hb d_B_missed_94 (by decide) ?_
                  exact W.lret (v := lN ((chs n a) / (gcdF 128 (chs (n - b) a) (chs n a)))) hx hb hr (fun t9 ht9 hW9 => ⟨lN ((chs n a) / (gcdF 128 (chs (n - b) a) (chs n a))), rfl, Or.inl ⟨a, b, p0, ha, hb2, hp0, hxa, hxb, hxp, by rw [misN]; first | (rw [if_pos c70, if_pos (by omega)]; done) | (rw [if_neg c70, if_pos (by omega)]; done) | (rw [if_pos c70, if_neg (by omega)]; done) | (rw [if_neg c70, if_neg (by omega)]; done)⟩, ht9⟩) (fun q h => nomatch h) d_B_missed_99
              · refine lv_lload hx hb d_B_missed_73 (lv_at hl 2 rfl) ?_
                refine lv_goto (tgt := 80) hx hb d_B_missed_75 (by decide) ?_
                refine lv_lstore (lv' := [(11, .long (lN (chs (n - b) a))), (9, .long (lN (gcdF 128 (chs (n - b) a) (chs n a)))), (7, .long (lN (chs n a))), (5, .long (lN (chs (n - b) a))), (4, .int (nI n)), (0, .ref xo), (1, .int x1), (2, .int x2), (3, .int x3)]) hx hb d_B_missed_80 hl (by decide) rfl (fun ls hl => ?_)
                refine lv_lload hx hb d_B_missed_82 (lv_at hl 1 rfl) ?_
                refine lv_lconst (v := lN 0) hx hb d_B_missed_84 (by decide +kernel) ?_
                refine bk_ncmp_le (a := gcdF 128 (chs (n - b) a) (chs n a)) (b := 0) (tgt := 97) hx hb (by first | omega | exact Nat.lt_of_le_of_lt (gcdF_le _ _ _) (by omega)) (by first | omega | exact Nat.lt_of_le_of_lt (gcdF_le _ _ _) (by omega)) d_B_missed_85 d_B_missed_86 (by decide) (fun c85 => ?_) (fun c85 => ?_)
                · refine lv_lload hx hb d_B_missed_97 (lv_at hl 0 rfl) ?_
                  exact W.lret (v := lN (chs (n - b) a)) hx hb hr (fun t9 ht9 hW9 => ⟨lN (chs (n - b) a), rfl, Or.inl ⟨a, b, p0, ha, hb2, hp0, hxa, hxb, hxp, by rw [misN]; first | (rw [if_pos c70, if_pos (by omega)]; done) | (rw [if_neg c70, if_pos (by omega)]; done) | (rw [if_pos c70, if_neg (by omega)]; done) | (rw [if_neg c70, if_neg (by omega)]; done)⟩, ht9⟩) (fun q h => nomatch h) d_B_missed_99
                · refine lv_lload hx hb d_B_missed_89 (lv_at hl 0 rfl) ?_
                  refine lv_lload hx hb d_B_missed_91 (lv_at hl 1 rfl) ?_
                  refine bk_ldiv hx hb (by omega) (by omega) (Nat.lt_of_le_of_lt (gcdF_le _ _ _) (by omega)) d_B_missed_93 ?_
                  refine lv_goto (tgt := 99) hx hb d_B_missed_94 (by decide) ?_
                  exact W.lret (v := lN ((chs (n - b) a) / (gcdF 128 (chs (n - b) a) (chs n a)))) hx hb hr (fun t9 ht9 hW9 => ⟨lN ((chs (n - b) a) / (gcdF 128 (chs (n - b) a) (chs n a))), rfl, Or.inl ⟨a, b, p0, ha, hb2, hp0, hxa, hxb, hxp, by rw [misN]; first | (rw [if_pos c70, if_pos (by omega)]; done) | (rw [if_neg c70, if_pos (by omega)]; done) | (rw [if_pos c70, if_neg (by omega)]; done) | (rw [if_neg c70, if_neg (by omega)]; done)⟩, ht9⟩) (fun q h => nomatch h) d_B_missed_99
            · refine lv_ldc2 (own := R_B) (v := (-1)) hx hb hown (htg _ k2_86) d_B_missed_38 ?_
              exact W.lret (v := (-1)) hx hb hr (fun t9 ht9 hW9 => ⟨(-1), rfl, Or.inr ⟨fun z9 => by obtain ⟨⟨q1, g1, k1⟩, ⟨q2, g2, k2⟩, ⟨q3, g3, k3⟩⟩ := z9; first | exact (by rw [k1] at c10; exact nI_pos (by omega) c10) | exact no_gt k1 (by omega) (by omega) (by omega) c16 | exact (by rw [k2] at c20; exact nI_pos (by omega) c20) | exact no_gt k2 (by omega) (by omega) (by omega) c26 | exact (by rw [k3] at c30; exact nI_pos (by omega) c30) | exact no_gt (n := 1) k3 (by omega) (by decide) (by omega) (bk_nle.mp c35), rfl⟩, ht9⟩) (fun q h => nomatch h) d_B_missed_41
set_option maxHeartbeats 4000000 in
set_option maxRecDepth 100000 in
theorem c_B_camera (l : Launch) (dC : Nat → ClassId) (dI : Nat → Nat → Nat) (cI cL cZ : ClassId) (sz : Nat) (xo up us uj ul uk ut uq uw uc : Nat) (sd : Int64) (a1 : Nat) (mn : Nat → Nat) (b1 b2 b3 b4 n : Nat) (sh gr : Nat → Nat) (x y : Int32) (hn : n ≤ 30) (hsh : ∀ j, j < n → sh j < 10) (hgr : ∀ j, j < n → gr j ≤ 1000000000) : Met l y_B_camera ws_B_camera { frames := 3, cells := 0, slots := 0, locals := 76 } (va_Pc [.ref xo, .int x, .int y] (wrP (dC, dI) vwCl [(cI, .int), (cL, .long), (cZ, .boolean)] [(xo, .inr (0, [.long sd, .ref up, .ref us, .ref uj, .ref ul, .ref uk, .ref ut, .ref uq, .ref uw, .ref uc])), (uw, .inr (6, [.ref a1])), (a1, .inl (cL, 30, .inr (.inl (aL mn)))), (up, .inr (1, [.ref b1, .ref b2, .ref b3, .ref b4, .int (nI n)])), (b1, .inl (cI, 30, .inl (aI sh))), (b4, .inl (cL, 30, .inr (.inl (aL gr))))] sz)) (va_Qi (fun (r : Int32) (u : Nat → Nat) => ∃ k, r = nI k ∧ k ≤ 30 ∧ isCam (cl sh gr x n) y.toInt k) (fun (u : Nat → Nat) => wrQ (dC, dI) vwCl [(cI, .int), (cL, .long), (cZ, .boolean)] (va_A [(xo, .inr (0, [.long sd, .ref up, .ref us, .ref uj, .ref ul, .ref uk, .ref ut, .ref uq, .ref uw, .ref uc])), (uw, .inr (6, [.ref a1])), (a1, .inl (cL, 30, .inr (.inl (aL mn)))), (up, .inr (1, [.ref b1, .ref b2, .ref b3, .ref b4, .int (nI n)])), (b1, .inl (cI, 30, .inl (aI sh))), (b4, .inl (cL, 30, .inr (.inl (aL gr))))] sz) [(xo, .inr (0, [.long sd, .ref up, .ref us, .ref uj, .ref ul, .ref uk, .ref ut, .ref uq, .ref uw, .ref uc])), (uw, .inr (6, [.ref a1])), (a1, .inl (cL, 30, .inr (.inl (aL u)))), (up, .inr (1, [.ref b1, .ref b2, .ref b3, .ref b4, .int (nI n)])), (b1, .inl (cI, 30, .inl (aI sh))), (b4, .inl (cL, 30, .inr (.inl (aL gr))))]) (va_A [(xo, .inr (0, [.long sd, .ref up, .ref us, .ref uj, .ref ul, .ref uk, .ref ut, .ref uq, .ref uw, .ref uc])), (uw, .inr (6, [.ref a1])), (a1, .inl (cL, 30, .inr (.inl (aL mn)))), (up, .inr (1, [.ref b1, .ref b2, .ref b3, .ref b4, .int (nI n)])), (b1, .inl (cI, 30, .inl (aI sh))), (b4, .inl (cL, 30, .inr (.inl (aL gr))))] sz)) 0 0 (va_A [(xo, .inr (0, [.long sd, .ref up, .ref us, .ref uj, .ref ul, .ref uk, .ref ut, .ref uq, .ref uw, .ref uc])), (uw, .inr (6, [.ref a1])), (a1, .inl (cL, 30, .inr (.inl (aL mn)))), (up, .inr (1, [.ref b1, .ref b2, .ref b3, .ref b4, .int (nI n)])), (b1, .inl (cI, 30, .inl (aI sh))), (b4, .inl (cL, 30, .inr (.inl (aL gr))))] sz) := by
  refine Met.ofW (cc := b_B_camera) (maxL := 3) (ret := (some .int)) (by decide) rfl ?_
  intro pr en s m args below meth c s₁ B hml hv
  obtain ⟨rfl, hN, hsz, hP, hK, hD0⟩ := hv
  have hx := B.exec
  have hb := B.bytes
  have hr := B.returns
  have hts := atoms_spec (ws := ws_B_camera) B.pre
  have htg : ∀ w ∈ gW, w.before _ s = true := fun w h => hts w (List.mem_cons_of_mem _ h)
  have hown : s.vm.findClass R_B = some m.cls := findClass_of_methodNamed B.named
  have hlocks := B.notSynchronized
  subst hsz
  have hD := hD0.self (sz := s.heap.size)
  generalize hAe : va_A [(xo, .inr (0, [.long sd, .ref up, .ref us, .ref uj, .ref ul, .ref uk, .ref ut, .ref uq, .ref uw, .ref uc])), (uw, .inr (6, [.ref a1])), (a1, .inl (cL, 30, .inr (.inl (aL mn)))), (up, .inr (1, [.ref b1, .ref b2, .ref b3, .ref b4, .int (nI n)])), (b1, .inl (cI, 30, .inl (aI sh))), (b4, .inl (cL, 30, .inr (.inl (aL gr))))] s.heap.size = A at hD ⊢
  have hA : ∀ q : Nat, s.heap.size ≤ q → A q := fun q h => by rw [← hAe]; exact Or.inr h
  have hS : va_S A s.heap s.heap [] := va_S.rf
  have hP : va_P (dC, dI) vwCl [(xo, .inr (0, [.long sd, .ref up, .ref us, .ref uj, .ref ul, .ref uk, .ref ut, .ref uq, .ref uw, .ref uc])), (uw, .inr (6, [.ref a1])), (a1, .inl (cL, 30, .inr (.inl (aL mn)))), (up, .inr (1, [.ref b1, .ref b2, .ref b3, .ref b4, .int (nI n)])), (b1, .inl (cI, 30, .inl (aI sh))), (b4, .inl (cL, 30, .inr (.inl (aL gr))))] s.heap := hP
  have hl := lv_entry ([.ref xo, .int x, .int y]) (n := 3) (Nat.le_of_ble_eq_true rfl)
  rw [lg_entry_eq]
  generalize (lg_sl ([.ref xo, .int x, .int y]) ++ List.replicate (3 - (lg_sl ([.ref xo, .int x, .int y])).length) Slot.unset).toArray = ls at hl ⊢
  have hl : lv_has ls 3 [(0, .ref xo), (1, .int x), (2, .int y)] := hl
  refine lv_aload_n hx hb d_B_camera_0 rfl (lv_at hl 0 rfl) ?_
  refine va_get (D := (dC, dI)) (ci := 0) (v := .ref uw) (C := R_B) (T := F_B) (N := 10) hx hb htg iw_B hown hK hP 0 rfl rfl 8 (by decide) (htg _ k1_165) (fun _ h9 => h9) rfl d_B_camera_1 ?_
  refine lv_aload_n hx hb d_B_camera_4 rfl (lv_at hl 0 rfl) ?_
  refine va_get (D := (dC, dI)) (ci := 0) (v := .ref up) (C := R_B) (T := F_B) (N := 10) hx hb htg iw_B hown hK hP 0 rfl rfl 1 (by decide) (htg _ k1_158) (fun _ h9 => h9) rfl d_B_camera_5 ?_
  refine lv_iload_n hx hb d_B_camera_8 rfl (lv_at hl 1 rfl) ?_
  refine lv_iload_n hx hb d_B_camera_9 rfl (lv_at hl 2 rfl) ?_
  have hPc := hP.sub (ws' := [(uw, .inr (6, [.ref a1])), (a1, .inl (cL, 30, .inr (.inl (aL mn)))), (up, .inr (1, [.ref b1, .ref b2, .ref b3, .ref b4, .int (nI n)])), (b1, .inl (cI, 30, .inl (aI sh))), (b4, .inl (cL, 30, .inr (.inl (aL gr))))]) [1, 2, 3, 4, 5] rfl
  have hDc := hD.sub (ws' := [(uw, .inr (6, [.ref a1])), (a1, .inl (cL, 30, .inr (.inl (aL mn)))), (up, .inr (1, [.ref b1, .ref b2, .ref b3, .ref b4, .int (nI n)])), (b1, .inl (cI, 30, .inl (aI sh))), (b4, .inl (cL, 30, .inr (.inl (aL gr))))]) [1, 2, 3, 4, 5] (by decide) rfl
  have hFc := va_free (wc := [(uw, .inr (6, [.ref a1])), (a1, .inl (cL, 30, .inr (.inl (aL mn)))), (up, .inr (1, [.ref b1, .ref b2, .ref b3, .ref b4, .int (nI n)])), (b1, .inl (cI, 30, .inl (aI sh))), (b4, .inl (cL, 30, .inr (.inl (aL gr))))]) hD hS hA [1, 2, 3, 4, 5] rfl
  refine va_calli (va_runV (As := [.ref up, .int x, .int y]) (rest := []) ⟨hx, hb, hml, hown, htg⟩ (c_Wa_most l dC dI cI cL cZ s.heap.size uw a1 mn up b1 b2 b3 b4 n sh gr x y hn hsh hgr) (cwV 3 htg (gdV k2_173 k2_174 k2_175 k1_7 kc_Wa_most) rfl rfl rfl (by decide +kernel) ⟨Nat.le_of_ble_eq_true rfl, Nat.le_of_ble_eq_true rfl⟩) ⟨bk_blindW, va_recv hK hP (ci := 6) (q0 := 1) rfl rfl, fun U hU hW => ⟨rfl, nw_warm hW hN, by rw [hU], by rw [hU]; exact hPc, va_K.moved hW.alike hK, hDc.weaken (fun _ _ _ _ => trivial)⟩⟩ rfl rfl hl.1 rfl (lv_room (Nat.le_of_ble_eq_true rfl)) d_B_camera_10 ⟨Nat.le_of_ble_eq_true rfl, Nat.le_of_ble_eq_true rfl⟩) hS (fun q _ h => hFc q h) hFc (fun r10 u t H1 locs ht hvm e10 hB hz1 hk1 hS => ?_)
  obtain ⟨hP1, hK1, hD1⟩ := hB
  rw [ht] at hP1
  try dsimp only at e10
  obtain ⟨mn10, rfl⟩ : ∃ z, z = u := ⟨_, rfl⟩
  obtain ⟨c10, rfl, hc10, hcam10⟩ := e10
  obtain ⟨hP, hD⟩ := va_join (wr := [(xo, .inr (0, [.long sd, .ref up, .ref us, .ref uj, .ref ul, .ref uk, .ref ut, .ref uq, .ref uw, .ref uc]))]) (w1 := [(uw, .inr (6, [.ref a1])), (a1, .inl (cL, 30, .inr (.inl (aL mn10)))), (up, .inr (1, [.ref b1, .ref b2, .ref b3, .ref b4, .int (nI n)])), (b1, .inl (cI, 30, .inl (aI sh))), (b4, .inl (cL, 30, .inr (.inl (aL gr))))]) hP hD [1, 2, 3, 4, 5] [0] rfl rfl (by decide) (by decide) hk1 hFc hP1 hD1
  generalize H1 = H at hP hS ⊢
  have hP : va_P (dC, dI) vwCl [(xo, .inr (0, [.long sd, .ref up, .ref us, .ref uj, .ref ul, .ref uk, .ref ut, .ref uq, .ref uw, .ref uc])), (uw, .inr (6, [.ref a1])), (a1, .inl (cL, 30, .inr (.inl (aL mn10)))), (up, .inr (1, [.ref b1, .ref b2, .ref b3, .ref b4, .int (nI n)])), (b1, .inl (cI, 30, .inl (aI sh))), (b4, .inl (cL, 30, .inr (.inl (aL gr))))] H := hP.sub [0, 1, 2, 3, 4, 5] rfl
  have hD : va_D A [(xo, .inr (0, [.long sd, .ref up, .ref us, .ref uj, .ref ul, .ref uk, .ref ut, .ref uq, .ref uw, .ref uc])), (uw, .inr (6, [.ref a1])), (a1, .inl (cL, 30, .inr (.inl (aL mn10)))), (up, .inr (1, [.ref b1, .ref b2, .ref b3, .ref b4, .int (nI n)])), (b1, .inl (cI, 30, .inl (aI sh))), (b4, .inl (cL, 30, .inr (.inl (aL gr))))] := hD.sub [0, 1, 2, 3, 4, 5] (by decide) rfl
  have hP9 := hP.sub (ws' := [(xo, .inr (0, [.long sd, .ref up, .ref us, .ref uj, .ref ul, .ref uk, .ref ut, .ref uq, .ref uw, .ref uc])), (uw, .inr (6, [.ref a1])), (a1, .inl (cL, 30, .inr (.inl (aL mn10)))), (up, .inr (1, [.ref b1, .ref b2, .ref b3, .ref b4, .int (nI n)])), (b1, .inl (cI, 30, .inl (aI sh))), (b4, .inl (cL, 30, .inr (.inl (aL gr))))]) [0, 1, 2, 3, 4, 5] rfl
  have hD9 := hD.sub (ws' := [(xo, .inr (0, [.long sd, .ref up, .ref us, .ref uj, .ref ul, .ref uk, .ref ut, .ref uq, .ref uw, .ref uc])), (uw, .inr (6, [.ref a1])), (a1, .inl (cL, 30, .inr (.inl (aL mn10)))), (up, .inr (1, [.ref b1, .ref b2, .ref b3, .ref b4, .int (nI n)])), (b1, .inl (cI, 30, .inl (aI sh))), (b4, .inl (cL, 30, .inr (.inl (aL gr))))]) [0, 1, 2, 3, 4, 5] (by decide) rfl
  exact W.iret (v := nI c10) hx hb hr (fun t9 ht9 hW9 => ⟨⟨nI c10, (mn10), rfl, ⟨c10, rfl, hc10, hcam10⟩, by rw [ht9]; exact hP9, va_K.moved hW9.alike hK, hD9⟩, hS.F ht9⟩) hS.2.2 d_B_camera_13
set_option maxHeartbeats 4000000 in
set_option maxRecDepth 100000 in
theorem c_B_act (l : Launch) (dC : Nat → ClassId) (dI : Nat → Nat → Nat) (cI cL cZ : ClassId) (sz : Nat) (xo up us uj ul uk ut uq uw uc : Nat) (sd : Int64) (a1 a2 a3 : Nat) (sa wr : Nat → Nat) (pe : Nat → Option Nat) (x1 x2 x3 : Int32) (hsa : ∀ j, j < 10 → sa j ≤ 3) (hpe : ∀ j k, pe j = some k → k < 100) : Met l y_B_act ws_B_act { frames := 2, cells := 0, slots := 0, locals := 45 } (va_Pc [.ref xo, .int x1, .int x2, .int x3] (wrP (dC, dI) vwCl [(cI, .int), (cL, .long), (cZ, .boolean)] [(xo, .inr (0, [.long sd, .ref up, .ref us, .ref uj, .ref ul, .ref uk, .ref ut, .ref uq, .ref uw, .ref uc])), (uc, .inr (7, [.ref a1, .ref a2, .ref a3])), (a1, .inl (cI, 10, .inl (aI sa))), (a2, .inl (cI, 10, .inl (aI wr))), (a3, .inl (cI, 10, .inl (aO pe)))] sz)) (va_Qi (fun (r : Int32) (u : (Nat → Nat) × (Nat → Nat) × (Nat → Option Nat)) => (∃ to, actOk sa pe x1 x2 x3 to ∧ r = nI to ∧ u = (va_up sa (tn x1) to, (if x2 = nI 0 then va_up wr (tn x1) (wr (tn x1) + 1) else wr), va_up pe (tn x1) (some (tn x3)))) ∨ ((∀ to, ¬ actOk sa pe x1 x2 x3 to) ∧ r = oI none ∧ u = (sa, wr, pe))) (fun (u : (Nat → Nat) × (Nat → Nat) × (Nat → Option Nat)) => wrQ (dC, dI) vwCl [(cI, .int), (cL, .long), (cZ, .boolean)] (va_A [(xo, .inr (0, [.long sd, .ref up, .ref us, .ref uj, .ref ul, .ref uk, .ref ut, .ref uq, .ref uw, .ref uc])), (uc, .inr (7, [.ref a1, .ref a2, .ref a3])), (a1, .inl (cI, 10, .inl (aI sa))), (a2, .inl (cI, 10, .inl (aI wr))), (a3, .inl (cI, 10, .inl (aO pe)))] sz) [(xo, .inr (0, [.long sd, .ref up, .ref us, .ref uj, .ref ul, .ref uk, .ref ut, .ref uq, .ref uw, .ref uc])), (uc, .inr (7, [.ref a1, .ref a2, .ref a3])), (a1, .inl (cI, 10, .inl (aI u.1))), (a2, .inl (cI, 10, .inl (aI u.2.1))), (a3, .inl (cI, 10, .inl (aO u.2.2)))]) (va_A [(xo, .inr (0, [.long sd, .ref up, .ref us, .ref uj, .ref ul, .ref uk, .ref ut, .ref uq, .ref uw, .ref uc])), (uc, .inr (7, [.ref a1, .ref a2, .ref a3])), (a1, .inl (cI, 10, .inl (aI sa))), (a2, .inl (cI, 10, .inl (aI wr))), (a3, .inl (cI, 10, .inl (aO pe)))] sz)) 0 0 (va_A [(xo, .inr (0, [.long sd, .ref up, .ref us, .ref uj, .ref ul, .ref uk, .ref ut, .ref uq, .ref uw, .ref uc])), (uc, .inr (7, [.ref a1, .ref a2, .ref a3])), (a1, .inl (cI, 10, .inl (aI sa))), (a2, .inl (cI, 10, .inl (aI wr))), (a3, .inl (cI, 10, .inl (aO pe)))] sz) := by
  refine Met.ofW (cc := b_B_act) (maxL := 4) (ret := (some .int)) (by decide) rfl ?_
  intro pr en s m args below meth c s₁ B hml hv
  obtain ⟨rfl, hN, hsz, hP, hK, hD0⟩ := hv
  have hx := B.exec
  have hb := B.bytes
  have hr := B.returns
  have hts := atoms_spec (ws := ws_B_act) B.pre
  have htg : ∀ w ∈ gW, w.before _ s = true := fun w h => hts w (List.mem_cons_of_mem _ h)
  have hown : s.vm.findClass R_B = some m.cls := findClass_of_methodNamed B.named
  have hlocks := B.notSynchronized
  subst hsz
  have hD := hD0.self (sz := s.heap.size)
  generalize hAe : va_A [(xo, .inr (0, [.long sd, .ref up, .ref us, .ref uj, .ref ul, .ref uk, .ref ut, .ref uq, .ref uw, .ref uc])), (uc, .inr (7, [.ref a1, .ref a2, .ref a3])), (a1, .inl (cI, 10, .inl (aI sa))), (a2, .inl (cI, 10, .inl (aI wr))), (a3, .inl (cI, 10, .inl (aO pe)))] s.heap.size = A at hD ⊢
  have hA : ∀ q : Nat, s.heap.size ≤ q → A q := fun q h => by rw [← hAe]; exact Or.inr h
  have hS : va_S A s.heap s.heap [] := va_S.rf
  have hP : va_P (dC, dI) vwCl [(xo, .inr (0, [.long sd, .ref up, .ref us, .ref uj, .ref ul, .ref uk, .ref ut, .ref uq, .ref uw, .ref uc])), (uc, .inr (7, [.ref a1, .ref a2, .ref a3])), (a1, .inl (cI, 10, .inl (aI sa))), (a2, .inl (cI, 10, .inl (aI wr))), (a3, .inl (cI, 10, .inl (aO pe)))] s.heap := hP
  have hl := lv_entry ([.ref xo, .int x1, .int x2, .int x3]) (n := 4) (Nat.le_of_ble_eq_true rfl)
  rw [lg_entry_eq]
  generalize (lg_sl ([.ref xo, .int x1, .int x2, .int x3]) ++ List.replicate (4 - (lg_sl ([.ref xo, .int x1, .int x2, .int x3])).length) Slot.unset).toArray = ls at hl ⊢
  have hl : lv_has ls 4 [(0, .ref xo), (1, .int x1), (2, .int x2), (3, .int x3)] := hl
  refine lv_aload_n hx hb d_B_act_0 rfl (lv_at hl 0 rfl) ?_
  refine va_get (D := (dC, dI)) (ci := 0) (v := .ref uc) (C := R_B) (T := F_B) (N := 10) hx hb htg iw_B hown hK hP 0 rfl rfl 9 (by decide) (htg _ k1_166) (fun _ h9 => h9) rfl d_B_act_1 ?_
  refine lv_iload_n hx hb d_B_act_4 rfl (lv_at hl 1 rfl) ?_
  refine lv_iload_n hx hb d_B_act_5 rfl (lv_at hl 2 rfl) ?_
  refine lv_iload_n hx hb d_B_act_6 rfl (lv_at hl 3 rfl) ?_
  have hPc := hP.sub (ws' := [(uc, .inr (7, [.ref a1, .ref a2, .ref a3])), (a1, .inl (cI, 10, .inl (aI sa))), (a2, .inl (cI, 10, .inl (aI wr))), (a3, .inl (cI, 10, .inl (aO pe)))]) [1, 2, 3, 4] rfl
  have hDc := hD.sub (ws' := [(uc, .inr (7, [.ref a1, .ref a2, .ref a3])), (a1, .inl (cI, 10, .inl (aI sa))), (a2, .inl (cI, 10, .inl (aI wr))), (a3, .inl (cI, 10, .inl (aO pe)))]) [1, 2, 3, 4] (by decide) rfl
  have hFc := va_free (wc := [(uc, .inr (7, [.ref a1, .ref a2, .ref a3])), (a1, .inl (cI, 10, .inl (aI sa))), (a2, .inl (cI, 10, .inl (aI wr))), (a3, .inl (cI, 10, .inl (aO pe)))]) hD hS hA [1, 2, 3, 4] rfl
  refine va_calli (va_runV (As := [.int x1, .int x2, .int x3]) (rest := []) ⟨hx, hb, hml, hown, htg⟩ (c_Ac_tell l dC dI cI cL cZ s.heap.size uc a1 a2 a3 sa wr pe x1 x2 x3 hsa hpe) (cwV 3 htg (gdV k2_191 k2_192 k2_193 k1_8 kc_Ac_tell) rfl rfl rfl (by decide +kernel) ⟨Nat.le_of_ble_eq_true rfl, Nat.le_of_ble_eq_true rfl⟩) ⟨bk_blindW, va_recv hK hP (ci := 7) (q0 := 1) rfl rfl, fun U hU hW => ⟨rfl, nw_warm hW hN, by rw [hU], by rw [hU]; exact hPc, va_K.moved hW.alike hK, hDc.weaken (fun _ _ _ _ => trivial)⟩⟩ rfl rfl hl.1 rfl (lv_room (Nat.le_of_ble_eq_true rfl)) d_B_act_7 ⟨Nat.le_of_ble_eq_true rfl, Nat.le_of_ble_eq_true rfl⟩) hS (fun q _ h => hFc q h) hFc (fun r7 u t H1 locs ht hvm e7 hB hz1 hk1 hS => ?_)
  obtain ⟨hP1, hK1, hD1⟩ := hB
  rw [ht] at hP1
  try dsimp only at e7
  rcases e7 with ⟨to7, ok7, rfl, rfl⟩ | ⟨no7, rfl, rfl⟩
  · obtain ⟨hP, hD⟩ := va_join (wr := [(xo, .inr (0, [.long sd, .ref up, .ref us, .ref uj, .ref ul, .ref uk, .ref ut, .ref uq, .ref uw, .ref uc]))]) (w1 := [(uc, .inr (7, [.ref a1, .ref a2, .ref a3])), (a1, .inl (cI, 10, .inl (aI (va_up sa (tn x1) to7)))), (a2, .inl (cI, 10, .inl (aI (if x2 = nI 0 then va_up wr (tn x1) (wr (tn x1) + 1) else wr)))), (a3, .inl (cI, 10, .inl (aO (va_up pe (tn x1) (some (tn x3))))))]) hP hD [1, 2, 3, 4] [0] rfl rfl (by decide) (by decide) hk1 hFc hP1 hD1
    generalize H1 = H at hP hS ⊢
    have hP : va_P (dC, dI) vwCl [(xo, .inr (0, [.long sd, .ref up, .ref us, .ref uj, .ref ul, .ref uk, .ref ut, .ref uq, .ref uw, .ref uc])), (uc, .inr (7, [.ref a1, .ref a2, .ref a3])), (a1, .inl (cI, 10, .inl (aI (va_up sa (tn x1) to7)))), (a2, .inl (cI, 10, .inl (aI (if x2 = nI 0 then va_up wr (tn x1) (wr (tn x1) + 1) else wr)))), (a3, .inl (cI, 10, .inl (aO (va_up pe (tn x1) (some (tn x3))))))] H := hP.sub [0, 1, 2, 3, 4] rfl
    have hD : va_D A [(xo, .inr (0, [.long sd, .ref up, .ref us, .ref uj, .ref ul, .ref uk, .ref ut, .ref uq, .ref uw, .ref uc])), (uc, .inr (7, [.ref a1, .ref a2, .ref a3])), (a1, .inl (cI, 10, .inl (aI (va_up sa (tn x1) to7)))), (a2, .inl (cI, 10, .inl (aI (if x2 = nI 0 then va_up wr (tn x1) (wr (tn x1) + 1) else wr)))), (a3, .inl (cI, 10, .inl (aO (va_up pe (tn x1) (some (tn x3))))))] := hD.sub [0, 1, 2, 3, 4] (by decide) rfl
    have hP9 := hP.sub (ws' := [(xo, .inr (0, [.long sd, .ref up, .ref us, .ref uj, .ref ul, .ref uk, .ref ut, .ref uq, .ref uw, .ref uc])), (uc, .inr (7, [.ref a1, .ref a2, .ref a3])), (a1, .inl (cI, 10, .inl (aI (va_up sa (tn x1) to7)))), (a2, .inl (cI, 10, .inl (aI (if x2 = nI 0 then va_up wr (tn x1) (wr (tn x1) + 1) else wr)))), (a3, .inl (cI, 10, .inl (aO (va_up pe (tn x1) (some (tn x3))))))]) [0, 1, 2, 3, 4] rfl
    have hD9 := hD.sub (ws' := [(xo, .inr (0, [.long sd, .ref up, .ref us, .ref uj, .ref ul, .ref uk, .ref ut, .ref uq, .ref uw, .ref uc])), (uc, .inr (7, [.ref a1, .ref a2, .ref a3])), (a1, .inl (cI, 10, .inl (aI (va_up sa (tn x1) to7)))), (a2, .inl (cI, 10, .inl (aI (if x2 = nI 0 then va_up wr (tn x1) (wr (tn x1) + 1) else wr)))), (a3, .inl (cI, 10, .inl (aO (va_up pe (tn x1) (some (tn x3))))))]) [0, 1, 2, 3, 4] (by decide) rfl
    exact W.iret (v := nI to7) hx hb hr (fun t9 ht9 hW9 => ⟨⟨nI to7, (va_up sa (tn x1) to7, (if x2 = nI 0 then va_up wr (tn x1) (wr (tn x1) + 1) else wr), va_up pe (tn x1) (some (tn x3))), rfl, Or.inl ⟨to7, ok7, rfl, rfl⟩, by rw [ht9]; exact hP9, va_K.moved hW9.alike hK, hD9⟩, hS.F ht9⟩) hS.2.2 d_B_act_10
  · obtain ⟨hP, hD⟩ := va_join (wr := [(xo, .inr (0, [.long sd, .ref up, .ref us, .ref uj, .ref ul, .ref uk, .ref ut, .ref uq, .ref uw, .ref uc]))]) (w1 := [(uc, .inr (7, [.ref a1, .ref a2, .ref a3])), (a1, .inl (cI, 10, .inl (aI sa))), (a2, .inl (cI, 10, .inl (aI wr))), (a3, .inl (cI, 10, .inl (aO pe)))]) hP hD [1, 2, 3, 4] [0] rfl rfl (by decide) (by decide) hk1 hFc hP1 hD1
    generalize H1 = H at hP hS ⊢
    have hP : va_P (dC, dI) vwCl [(xo, .inr (0, [.long sd, .ref up, .ref us, .ref uj, .ref ul, .ref uk, .ref ut, .ref uq, .ref uw, .ref uc])), (uc, .inr (7, [.ref a1, .ref a2, .ref a3])), (a1, .inl (cI, 10, .inl (aI sa))), (a2, .inl (cI, 10, .inl (aI wr))), (a3, .inl (cI, 10, .inl (aO pe)))] H := hP.sub [0, 1, 2, 3, 4] rfl
    have hD : va_D A [(xo, .inr (0, [.long sd, .ref up, .ref us, .ref uj, .ref ul, .ref uk, .ref ut, .ref uq, .ref uw, .ref uc])), (uc, .inr (7, [.ref a1, .ref a2, .ref a3])), (a1, .inl (cI, 10, .inl (aI sa))), (a2, .inl (cI, 10, .inl (aI wr))), (a3, .inl (cI, 10, .inl (aO pe)))] := hD.sub [0, 1, 2, 3, 4] (by decide) rfl
    have hP9 := hP.sub (ws' := [(xo, .inr (0, [.long sd, .ref up, .ref us, .ref uj, .ref ul, .ref uk, .ref ut, .ref uq, .ref uw, .ref uc])), (uc, .inr (7, [.ref a1, .ref a2, .ref a3])), (a1, .inl (cI, 10, .inl (aI sa))), (a2, .inl (cI, 10, .inl (aI wr))), (a3, .inl (cI, 10, .inl (aO pe)))]) [0, 1, 2, 3, 4] rfl
    have hD9 := hD.sub (ws' := [(xo, .inr (0, [.long sd, .ref up, .ref us, .ref uj, .ref ul, .ref uk, .ref ut, .ref uq, .ref uw, .ref uc])), (uc, .inr (7, [.ref a1, .ref a2, .ref a3])), (a1, .inl (cI, 10, .inl (aI sa))), (a2, .inl (cI, 10, .inl (aI wr))), (a3, .inl (cI, 10, .inl (aO pe)))]) [0, 1, 2, 3, 4] (by decide) rfl
    exact W.iret (v := oI none) hx hb hr (fun t9 ht9 hW9 => ⟨⟨oI none, (sa, wr, pe), rfl, Or.inr ⟨no7, rfl, rfl⟩, by rw [ht9]; exact hP9, va_K.moved hW9.alike hK, hD9⟩, hS.F ht9⟩) hS.2.2 d_B_act_10
set_option maxHeartbeats 4000000 in
set_option maxRecDepth 100000 in
theorem c_B_state (l : Launch) (dC : Nat → ClassId) (dI : Nat → Nat → Nat) (cI cL cZ : ClassId) (xo up us uj ul uk ut uq uw uc : Nat) (sd : Int64) (a1 a2 a3 : Nat) (sa : Nat → Nat) (x : Int32) : Met l y_B_state ws_B_state { frames := 1, cells := 0, slots := 0, locals := 20 } (va_Pc [.ref xo, .int x] (rdP (dC, dI) vwCl [(cI, .int), (cL, .long), (cZ, .boolean)] [(xo, .inr (0, [.long sd, .ref up, .ref us, .ref uj, .ref ul, .ref uk, .ref ut, .ref uq, .ref uw, .ref uc])), (uc, .inr (7, [.ref a1, .ref a2, .ref a3])), (a1, .inl (cI, 10, .inl (aI sa)))])) (vp_Si (fun r => (∃ j, j < 10 ∧ x = nI j ∧ r = nI (sa j)) ∨ (¬ inR 10 x ∧ r = oI none))) 0 0 (fun _ => False) := by
  refine Met.ofW (cc := b_B_state) (maxL := 2) (ret := (some .int)) (by decide) rfl ?_
  intro pr en s m args below meth c s₁ B hml hv
  obtain ⟨rfl, hN, hP, hK⟩ := hv
  have hx := B.exec
  have hb := B.bytes
  have hr := B.returns
  have hts := atoms_spec (ws := ws_B_state) B.pre
  have htg : ∀ w ∈ gW, w.before _ s = true := fun w h => hts w (List.mem_cons_of_mem _ h)
  have hown : s.vm.findClass R_B = some m.cls := findClass_of_methodNamed B.named
  have hlocks := B.notSynchronized
  have hl := lv_entry ([.ref xo, .int x]) (n := 2) (Nat.le_of_ble_eq_true rfl)
  rw [lg_entry_eq]
  generalize (lg_sl ([.ref xo, .int x]) ++ List.replicate (2 - (lg_sl ([.ref xo, .int x])).length) Slot.unset).toArray = ls at hl ⊢
  have hl : lv_has ls 2 [(0, .ref xo), (1, .int x)] := hl
  refine lv_iload_n hx hb d_B_state_0 rfl (lv_at hl 1 rfl) ?_
  refine vp_callSi (va_runS (As := [.int x]) (rest := []) ⟨hx, hb, hml, hown, htg⟩ (c_B_isShip l dC dI cI cL cZ x ) (va_cwS 1 htg (gdS k2_203 k1_197 k1_1 kc_B_isShip) rfl rfl rfl (by decide +kernel) ⟨Nat.le_of_ble_eq_true rfl, Nat.le_of_ble_eq_true rfl⟩) ⟨bk_blind0, fun U hU hW => ⟨rfl, trivial⟩⟩ rfl rfl hl.1 rfl (lv_room (Nat.le_of_ble_eq_true rfl)) d_B_state_1 ⟨Nat.le_of_ble_eq_true rfl, Nat.le_of_ble_eq_true rfl⟩).run (fun r1 e1 => ?_)
  rcases e1 with ⟨⟨j1, hj1, hx1⟩, rfl⟩ | ⟨n1, rfl⟩
  · refine bk_if_eq (a := 1) (tgt := 19) hx hb (by omega) d_B_state_4 (by decide) (fun c4 => absurd c4 (by decide)) (fun c4 => ?_)
    refine lv_aload_n hx hb d_B_state_7 rfl (lv_at hl 0 rfl) ?_
    refine va_get (D := (dC, dI)) (ci := 0) (v := .ref uc) (C := R_B) (T := F_B) (N := 10) hx hb htg iw_B hown hK hP 0 rfl rfl 9 (by decide) (htg _ k1_166) (fun _ h9 => h9) rfl d_B_state_8 ?_
    refine va_get (D := (dC, dI)) (ci := 7) (v := .ref a1) (C := R_Ac) (T := F_Ac) (N := 3) hx hb htg iw_Ac hown hK hP 1 rfl rfl 0 (by decide) (htg _ k1_146) (fun _ h9 => h9) rfl d_B_state_11 ?_
    refine lv_iload_n hx hb d_B_state_14 rfl (lv_at hl 1 rfl) ?_
    refine bk_topi (y := nI j1) hx1 ?_
    refine bk_iald (v := nI (sa j1)) hx hb hK hP 2 0 rfl rfl (by omega) (by decide) rfl d_B_state_15 ?_
    refine lv_goto (tgt := 20) hx hb d_B_state_16 (by decide) ?_
    exact W.iret (v := nI (sa j1)) hx hb hr (fun t9 ht9 hW9 => ⟨nI (sa j1), rfl, Or.inl ⟨j1, hj1, hx1, rfl⟩, ht9⟩) (fun q h => nomatch h) d_B_state_20
  · refine bk_if_eq (a := 0) (tgt := 19) hx hb (by omega) d_B_state_4 (by decide) (fun c4 => ?_) (fun c4 => absurd c4 (by decide))
    refine lv_iconst (v := oI none) hx hb d_B_state_19 (by decide +kernel) ?_
    exact W.iret (v := oI none) hx hb hr (fun t9 ht9 hW9 => ⟨oI none, rfl, Or.inr ⟨n1, rfl⟩, ht9⟩) (fun q h => nomatch h) d_B_state_20
set_option maxHeartbeats 4000000 in
set_option maxRecDepth 100000 in
theorem c_B_repeated (l : Launch) (dC : Nat → ClassId) (dI : Nat → Nat → Nat) (cI cL cZ : ClassId) (xo up us uj ul uk ut uq uw uc : Nat) (sd : Int64) (a1 a2 a3 : Nat) (wr : Nat → Nat) (x : Int32) : Met l y_B_repeated ws_B_repeated { frames := 1, cells := 0, slots := 0, locals := 20 } (va_Pc [.ref xo, .int x] (rdP (dC, dI) vwCl [(cI, .int), (cL, .long), (cZ, .boolean)] [(xo, .inr (0, [.long sd, .ref up, .ref us, .ref uj, .ref ul, .ref uk, .ref ut, .ref uq, .ref uw, .ref uc])), (uc, .inr (7, [.ref a1, .ref a2, .ref a3])), (a2, .inl (cI, 10, .inl (aI wr)))])) (vp_Si (fun r => (∃ j, j < 10 ∧ x = nI j ∧ r = nI (wr j)) ∨ (¬ inR 10 x ∧ r = oI none))) 0 0 (fun _ => False) := by
  refine Met.ofW (cc := b_B_repeated) (maxL := 2) (ret := (some .int)) (by decide) rfl ?_
  intro pr en s m args below meth c s₁ B hml hv
  obtain ⟨rfl, hN, hP, hK⟩ := hv
  have hx := B.exec
  have hb := B.bytes
  have hr := B.returns
  have hts := atoms_spec (ws := ws_B_repeated) B.pre
  have htg : ∀ w ∈ gW, w.before _ s = true := fun w h => hts w (List.mem_cons_of_mem _ h)
  have hown : s.vm.findClass R_B = some m.cls := findClass_of_methodNamed B.named
  have hlocks := B.notSynchronized
  have hl := lv_entry ([.ref xo, .int x]) (n := 2) (Nat.le_of_ble_eq_true rfl)
  rw [lg_entry_eq]
  generalize (lg_sl ([.ref xo, .int x]) ++ List.replicate (2 - (lg_sl ([.ref xo, .int x])).length) Slot.unset).toArray = ls at hl ⊢
  have hl : lv_has ls 2 [(0, .ref xo), (1, .int x)] := hl
  refine lv_iload_n hx hb d_B_repeated_0 rfl (lv_at hl 1 rfl) ?_
  refine vp_callSi (va_runS (As := [.int x]) (rest := []) ⟨hx, hb, hml, hown, htg⟩ (c_B_isShip l dC dI cI cL cZ x ) (va_cwS 1 htg (gdS k2_203 k1_197 k1_1 kc_B_isShip) rfl rfl rfl (by decide +kernel) ⟨Nat.le_of_ble_eq_true rfl, Nat.le_of_ble_eq_true rfl⟩) ⟨bk_blind0, fun U hU hW => ⟨rfl, trivial⟩⟩ rfl rfl hl.1 rfl (lv_room (Nat.le_of_ble_eq_true rfl)) d_B_repeated_1 ⟨Nat.le_of_ble_eq_true rfl, Nat.le_of_ble_eq_true rfl⟩).run (fun r1 e1 => ?_)
  rcases e1 with ⟨⟨j1, hj1, hx1⟩, rfl⟩ | ⟨n1, rfl⟩
  · refine bk_if_eq (a := 1) (tgt := 19) hx hb (by omega) d_B_repeated_4 (by decide) (fun c4 => absurd c4 (by decide)) (fun c4 => ?_)
    refine lv_aload_n hx hb d_B_repeated_7 rfl (lv_at hl 0 rfl) ?_
    refine va_get (D := (dC, dI)) (ci := 0) (v := .ref uc) (C := R_B) (T := F_B) (N := 10) hx hb htg iw_B hown hK hP 0 rfl rfl 9 (by decide) (htg _ k1_166) (fun _ h9 => h9) rfl d_B_repeated_8 ?_
    refine va_get (D := (dC, dI)) (ci := 7) (v := .ref a2) (C := R_Ac) (T := F_Ac) (N := 3) hx hb htg iw_Ac hown hK hP 1 rfl rfl 1 (by decide) (htg _ k1_148) (fun _ h9 => h9) rfl d_B_repeated_11 ?_
    refine lv_iload_n hx hb d_B_repeated_14 rfl (lv_at hl 1 rfl) ?_
    refine bk_topi (y := nI j1) hx1 ?_
    refine bk_iald (v := nI (wr j1)) hx hb hK hP 2 0 rfl rfl (by omega) (by decide) rfl d_B_repeated_15 ?_
    refine lv_goto (tgt := 20) hx hb d_B_repeated_16 (by decide) ?_
    exact W.iret (v := nI (wr j1)) hx hb hr (fun t9 ht9 hW9 => ⟨nI (wr j1), rfl, Or.inl ⟨j1, hj1, hx1, rfl⟩, ht9⟩) (fun q h => nomatch h) d_B_repeated_20
  · refine bk_if_eq (a := 0) (tgt := 19) hx hb (by omega) d_B_repeated_4 (by decide) (fun c4 => ?_) (fun c4 => absurd c4 (by decide))
    refine lv_iconst (v := oI none) hx hb d_B_repeated_19 (by decide +kernel) ?_
    exact W.iret (v := oI none) hx hb hr (fun t9 ht9 hW9 => ⟨oI none, rfl, Or.inr ⟨n1, rfl⟩, ht9⟩) (fun q h => nomatch h) d_B_repeated_20
