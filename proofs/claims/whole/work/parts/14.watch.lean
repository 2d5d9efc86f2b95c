set_option maxHeartbeats 4000000 in
set_option maxRecDepth 100000 in
theorem c_Wa_insert (l : Launch) (dC : Nat → ClassId) (dI : Nat → Nat → Nat) (cI cL cZ : ClassId) (sz : Nat) (h a1 : Nat) (mn : Nat → Nat) (c0 v : Nat) (hc : c0 < 30) (hv : v ≤ 20000) (hb0 : ∀ j, j < c0 → mn j ≤ 20000) (hso : sortedN mn c0) : Met l y_Wa_insert ws_Wa_insert { frames := 0, cells := 0, slots := 0, locals := 0 } (va_Pc [.ref h, .int (nI c0), .long (lN v)] (wrP (dC, dI) vwCl [(cI, .int), (cL, .long), (cZ, .boolean)] [(h, .inr (6, [.ref a1])), (a1, .inl (cL, 30, .inr (.inl (aL mn))))] sz)) (va_Qv (fun (u : Nat → Nat) => sortedN u (c0 + 1) ∧ (lstF u 0 (c0 + 1)).Perm (v :: lstF mn 0 c0) ∧ ∀ j, j < c0 + 1 → u j ≤ 20000) (fun (u : Nat → Nat) => wrQ (dC, dI) vwCl [(cI, .int), (cL, .long), (cZ, .boolean)] (va_A [(h, .inr (6, [.ref a1])), (a1, .inl (cL, 30, .inr (.inl (aL mn))))] sz) [(h, .inr (6, [.ref a1])), (a1, .inl (cL, 30, .inr (.inl (aL u))))]) (va_A [(h, .inr (6, [.ref a1])), (a1, .inl (cL, 30, .inr (.inl (aL mn))))] sz)) 0 0 (va_A [(h, .inr (6, [.ref a1])), (a1, .inl (cL, 30, .inr (.inl (aL mn))))] sz) := by
  refine Met.ofW (cc := b_Wa_insert) (maxL := 5) (ret := none) (by decide) rfl ?_
  intro pr en s m args below meth c s₁ B hml hv
  obtain ⟨rfl, hN, hsz, hP, hK, hD0⟩ := hv
  have hx := B.exec
  have hb := B.bytes
  have hr := B.returns
  have hts := atoms_spec (ws := ws_Wa_insert) B.pre
  have htg : ∀ w ∈ gW, w.before _ s = true := fun w h => hts w (List.mem_cons_of_mem _ h)
  have hown : s.vm.findClass R_Wa = some m.cls := findClass_of_methodNamed B.named
  have hlocks := B.notSynchronized
  subst hsz
  have hD := hD0.self (sz := s.heap.size)
  generalize hAe : va_A [(h, .inr (6, [.ref a1])), (a1, .inl (cL, 30, .inr (.inl (aL mn))))] s.heap.size = A at hD ⊢
  have hA : ∀ q : Nat, s.heap.size ≤ q → A q := fun q h => by rw [← hAe]; exact Or.inr h
  have hS : va_S A s.heap s.heap [] := va_S.rf
  have hP : va_P (dC, dI) vwCl [(h, .inr (6, [.ref a1])), (a1, .inl (cL, 30, .inr (.inl (aL mn))))] s.heap := hP
  have hl := lv_entry ([.ref h, .int (nI c0), .long (lN v)]) (n := 5) (Nat.le_of_ble_eq_true rfl)
  rw [lg_entry_eq]
  generalize (lg_sl ([.ref h, .int (nI c0), .long (lN v)]) ++ List.replicate (5 - (lg_sl ([.ref h, .int (nI c0), .long (lN v)])).length) Slot.unset).toArray = ls at hl ⊢
  have hl : lv_has ls 5 [(0, .ref h), (1, .int (nI c0)), (2, .long (lN v))] := hl
  refine lv_iload_n hx hb d_Wa_insert_0 rfl (lv_at hl 1 rfl) ?_
  refine lv_istore (lv' := [(4, .int (nI c0)), (0, .ref h), (1, .int (nI c0)), (2, .long (lN v))]) hx hb d_Wa_insert_1 hl (by decide) rfl (fun ls hl => ?_)
  have J3 : ∀ (k : Nat) (q : Nat) (mq : Nat → Nat), (q = k) → (insI mn mq c0 v q) → ∀ (H : Heap) (locs : List Loc), va_P (dC, dI) vwCl [(h, .inr (6, [.ref a1])), (a1, .inl (cL, 30, .inr (.inl (aL mq))))] H → va_D A [(h, .inr (6, [.ref a1])), (a1, .inl (cL, 30, .inr (.inl (aL mq))))] → va_S A s.heap H locs → ∀ (ls : Array Slot), lv_has ls 5 [(0, .ref h), (1, .int (nI c0)), (2, .long (lN v)), (4, .int (nI q))] → W pr l en (headSpec ws_Wa_insert { frames := 0, cells := 0, slots := 0, locals := 0 }).room s m ([.ref h, .int (nI c0), .long (lN v)] : List Value).toArray below meth c H locs 0 0 (MQ below (va_Qv (fun (u : Nat → Nat) => sortedN u (c0 + 1) ∧ (lstF u 0 (c0 + 1)).Perm (v :: lstF mn 0 c0) ∧ ∀ j, j < c0 + 1 → u j ≤ 20000) (fun (u : Nat → Nat) => wrQ (dC, dI) vwCl [(cI, .int), (cL, .long), (cZ, .boolean)] A [(h, .inr (6, [.ref a1])), (a1, .inl (cL, 30, .inr (.inl (aL u))))]) A) ([.ref h, .int (nI c0), .long (lN v)] : List Value).toArray s 0 0 A) (F0 m 3 ls []) := by
    intro k
    induction k with
    | zero =>
      intro q mq hk hin2 H locs hP hD hS ls hl
      have hqc := hin2.1
      refine lv_iload hx hb d_Wa_insert_3 (lv_at hl 3 rfl) ?_
      refine bk_if_le (a := q) (tgt := 44) hx hb (by omega) d_Wa_insert_5 (by decide) (fun c5 => ?_) (fun c5 => by exfalso; omega)
      refine lv_aload_n hx hb d_Wa_insert_44 rfl (lv_at hl 0 rfl) ?_
      refine va_get (D := (dC, dI)) (ci := 6) (v := .ref a1) (C := R_Wa) (T := F_Wa) (N := 1) hx hb htg iw_Wa hown hK hP 0 rfl rfl 0 (by decide) (htg _ k1_135) (fun _ h9 => h9) rfl d_Wa_insert_45 ?_
      refine lv_iload hx hb d_Wa_insert_48 (lv_at hl 3 rfl) ?_
      refine lv_lload_n hx hb d_Wa_insert_50 rfl (lv_at hl 2 rfl) ?_
      refine bk_last (x := lN v) (f2 := aL (va_up mq q v)) hx hb hK hP hD hS 1 1 rfl rfl (by omega) (by decide) (aL_up _ _ _) d_Wa_insert_51 (fun H locs hP hD hS => ?_)
      have hP : va_P (dC, dI) vwCl [(h, .inr (6, [.ref a1])), (a1, .inl (cL, 30, .inr (.inl (aL (va_up mq q v)))))] H := hP
      have hD : va_D A [(h, .inr (6, [.ref a1])), (a1, .inl (cL, 30, .inr (.inl (aL (va_up mq q v)))))] := hD
      have hP9 := hP.sub (ws' := [(h, .inr (6, [.ref a1])), (a1, .inl (cL, 30, .inr (.inl (aL (va_up mq q v)))))]) [0, 1] rfl
      have hD9 := hD.sub (ws' := [(h, .inr (6, [.ref a1])), (a1, .inl (cL, 30, .inr (.inl (aL (va_up mq q v)))))]) [0, 1] (by decide) rfl
      exact W.vret hx hb hr (fun t9 ht9 hW9 => ⟨⟨(va_up mq q v), rfl, ⟨ins_e hin2 hso (by first | exact Or.inl (by omega) | exact Or.inr c18), hin2.2.2.2, ins_b hin2 hb0 hv⟩, by rw [ht9]; exact hP9, va_K.moved hW9.alike hK, hD9⟩, hS.F ht9⟩) hS.2.2 d_Wa_insert_52
    | succ k ih3 =>
      intro q mq hk hin2 H locs hP hD hS ls hl
      have hqc := hin2.1
      have hq9 : mq (q - 1) ≤ 20000 := by rw [hin2.2.1 (q - 1) (by omega)]; exact hb0 (q - 1) (by omega)
      refine lv_iload hx hb d_Wa_insert_3 (lv_at hl 3 rfl) ?_
      refine bk_if_le (a := q) (tgt := 44) hx hb (by omega) d_Wa_insert_5 (by decide) (fun c5 => by exfalso; omega) (fun c5 => ?_)
      refine lv_aload_n hx hb d_Wa_insert_8 rfl (lv_at hl 0 rfl) ?_
      refine va_get (D := (dC, dI)) (ci := 6) (v := .ref a1) (C := R_Wa) (T := F_Wa) (N := 1) hx hb htg iw_Wa hown hK hP 0 rfl rfl 0 (by decide) (htg _ k1_135) (fun _ h9 => h9) rfl d_Wa_insert_9 ?_
      refine lv_iload hx hb d_Wa_insert_12 (lv_at hl 3 rfl) ?_
      refine lv_iconst (v := nI 1) hx hb d_Wa_insert_14 (by decide +kernel) ?_
      refine bk_isub hx hb (by omega) d_Wa_insert_15 ?_
      refine bk_lald (v := lN (mq (q - 1))) hx hb hK hP 1 1 rfl rfl (by omega) (by decide) rfl d_Wa_insert_16 ?_
      refine lv_lload_n hx hb d_Wa_insert_17 rfl (lv_at hl 2 rfl) ?_
      refine bk_ncmp_le (a := mq (q - 1)) (b := v) (tgt := 44) hx hb (by omega) (by omega) d_Wa_insert_18 d_Wa_insert_19 (by decide) (fun c18 => ?_) (fun c18 => ?_)
      · refine lv_aload_n hx hb d_Wa_insert_44 rfl (lv_at hl 0 rfl) ?_
        refine va_get (D := (dC, dI)) (ci := 6) (v := .ref a1) (C := R_Wa) (T := F_Wa) (N := 1) hx hb htg iw_Wa hown hK hP 0 rfl rfl 0 (by decide) (htg _ k1_135) (fun _ h9 => h9) rfl d_Wa_insert_45 ?_
        refine lv_iload hx hb d_Wa_insert_48 (lv_at hl 3 rfl) ?_
        refine lv_lload_n hx hb d_Wa_insert_50 rfl (lv_at hl 2 rfl) ?_
        refine bk_last (x := lN v) (f2 := aL (va_up mq q v)) hx hb hK hP hD hS 1 1 rfl rfl (by omega) (by decide) (aL_up _ _ _) d_Wa_insert_51 (fun H locs hP hD hS => ?_)
        have hP : va_P (dC, dI) vwCl [(h, .inr (6, [.ref a1])), (a1, .inl (cL, 30, .inr (.inl (aL (va_up mq q v)))))] H := hP
        have hD : va_D A [(h, .inr (6, [.ref a1])), (a1, .inl (cL, 30, .inr (.inl (aL (va_up mq q v)))))] := hD
        have hP9 := hP.sub (ws' := [(h, .inr (6, [.ref a1])), (a1, .inl (cL, 30, .inr (.inl (aL (va_up mq q v)))))]) [0, 1] rfl
        have hD9 := hD.sub (ws' := [(h, .inr (6, [.ref a1])), (a1, .inl (cL, 30, .inr (.inl (aL (va_up mq q v)))))]) [0, 1] (by decide) rfl
        exact W.vret hx hb hr (fun t9 ht9 hW9 => ⟨⟨(va_up mq q v), rfl, ⟨ins_e hin2 hso (by first | exact Or.inl (by omega) | exact Or.inr c18), hin2.2.2.2, ins_b hin2 hb0 hv⟩, by rw [ht9]; exact hP9, va_K.moved hW9.alike hK, hD9⟩, hS.F ht9⟩) hS.2.2 d_Wa_insert_52
      · refine lv_aload_n hx hb d_Wa_insert_22 rfl (lv_at hl 0 rfl) ?_
        refine va_get (D := (dC, dI)) (ci := 6) (v := .ref a1) (C := R_Wa) (T := F_Wa) (N := 1) hx hb htg iw_Wa hown hK hP 0 rfl rfl 0 (by decide) (htg _ k1_135) (fun _ h9 => h9) rfl d_Wa_insert_23 ?_
        refine lv_iload hx hb d_Wa_insert_26 (lv_at hl 3 rfl) ?_
        refine lv_aload_n hx hb d_Wa_insert_28 rfl (lv_at hl 0 rfl) ?_
        refine va_get (D := (dC, dI)) (ci := 6) (v := .ref a1) (C := R_Wa) (T := F_Wa) (N := 1) hx hb htg iw_Wa hown hK hP 0 rfl rfl 0 (by decide) (htg _ k1_135) (fun _ h9 => h9) rfl d_Wa_insert_29 ?_
        refine lv_iload hx hb d_Wa_insert_32 (lv_at hl 3 rfl) ?_
        refine lv_iconst (v := nI 1) hx hb d_Wa_insert_34 (by decide +kernel) ?_
        refine bk_isub hx hb (by omega) d_Wa_insert_35 ?_
        refine bk_lald (v := lN (mq (q - 1))) hx hb hK hP 1 1 rfl rfl (by omega) (by decide) rfl d_Wa_insert_36 ?_
        refine bk_last (x := lN (mq (q - 1))) (f2 := aL (va_up mq q (mq (q - 1)))) hx hb hK hP hD hS 1 1 rfl rfl (by omega) (by decide) (aL_up _ _ _) d_Wa_insert_37 (fun H locs hP hD hS => ?_)
        have hP : va_P (dC, dI) vwCl [(h, .inr (6, [.ref a1])), (a1, .inl (cL, 30, .inr (.inl (aL (va_up mq q (mq (q - 1)))))))] H := hP
        have hD : va_D A [(h, .inr (6, [.ref a1])), (a1, .inl (cL, 30, .inr (.inl (aL (va_up mq q (mq (q - 1)))))))] := hD
        refine lv_iinc (v := nI (q - 1)) (lv' := [(4, .int (nI (q - 1))), (0, .ref h), (1, .int (nI c0)), (2, .long (lN v))]) hx hb d_Wa_insert_38 hl (k := 3) rfl (sb_m1 (by omega)) (by decide) rfl (fun ls hl => ?_)
        refine lv_goto (tgt := 3) hx hb d_Wa_insert_41 (by decide) ?_
        exact ih3 (q - 1) (va_up mq q (mq (q - 1))) (by omega) (ins_s hin2 (by omega) c18) _ _ (hP.sub [0, 1] rfl) (hD.sub [0, 1] (by decide) rfl) hS ls (lv_sub hl [1, 2, 3, 0] rfl)
  exact J3 c0 c0 mn rfl ins_0 _ _ (hP.sub [0, 1] rfl) (hD.sub [0, 1] (by decide) rfl) hS ls (lv_sub hl [1, 2, 3, 0] rfl)
set_option maxHeartbeats 4000000 in
set_option maxRecDepth 100000 in
theorem c_Wa_sortMinutes (l : Launch) (dC : Nat → ClassId) (dI : Nat → Nat → Nat) (cI cL cZ : ClassId) (sz : Nat) (h a1 : Nat) (mn : Nat → Nat) (hbk b1 b2 b3 b4 n : Nat) (sh gr : Nat → Nat) (x : Int32) (hn : n ≤ 30) (hsh : ∀ j, j < n → sh j < 10) (hgr : ∀ j, j < n → gr j ≤ 1000000000) : Met l y_Wa_sortMinutes ws_Wa_sortMinutes { frames := 1, cells := 0, slots := 0, locals := 24 } (va_Pc [.ref h, .ref hbk, .int x] (wrP (dC, dI) vwCl [(cI, .int), (cL, .long), (cZ, .boolean)] [(h, .inr (6, [.ref a1])), (a1, .inl (cL, 30, .inr (.inl (aL mn)))), (hbk, .inr (1, [.ref b1, .ref b2, .ref b3, .ref b4, .int (nI n)])), (b1, .inl (cI, 30, .inl (aI sh))), (b4, .inl (cL, 30, .inr (.inl (aL gr))))] sz)) (va_Qi (fun (r : Int32) (u : Nat → Nat) => ∃ c0, r = nI c0 ∧ c0 ≤ n ∧ sortedN u c0 ∧ (lstF u 0 c0).Perm (cl sh gr x n) ∧ ∀ j, j < c0 → u j ≤ 20000) (fun (u : Nat → Nat) => wrQ (dC, dI) vwCl [(cI, .int), (cL, .long), (cZ, .boolean)] (va_A [(h, .inr (6, [.ref a1])), (a1, .inl (cL, 30, .inr (.inl (aL mn)))), (hbk, .inr (1, [.ref b1, .ref b2, .ref b3, .ref b4, .int (nI n)])), (b1, .inl (cI, 30, .inl (aI sh))), (b4, .inl (cL, 30, .inr (.inl (aL gr))))] sz) [(h, .inr (6, [.ref a1])), (a1, .inl (cL, 30, .inr (.inl (aL u)))), (hbk, .inr (1, [.ref b1, .ref b2, .ref b3, .ref b4, .int (nI n)])), (b1, .inl (cI, 30, .inl (aI sh))), (b4, .inl (cL, 30, .inr (.inl (aL gr))))]) (va_A [(h, .inr (6, [.ref a1])), (a1, .inl (cL, 30, .inr (.inl (aL mn)))), (hbk, .inr (1, [.ref b1, .ref b2, .ref b3, .ref b4, .int (nI n)])), (b1, .inl (cI, 30, .inl (aI sh))), (b4, .inl (cL, 30, .inr (.inl (aL gr))))] sz)) 0 0 (va_A [(h, .inr (6, [.ref a1])), (a1, .inl (cL, 30, .inr (.inl (aL mn)))), (hbk, .inr (1, [.ref b1, .ref b2, .ref b3, .ref b4, .int (nI n)])), (b1, .inl (cI, 30, .inl (aI sh))), (b4, .inl (cL, 30, .inr (.inl (aL gr))))] sz) := by
  refine Met.ofW (cc := b_Wa_sortMinutes) (maxL := 5) (ret := (some .int)) (by decide) rfl ?_
  intro pr en s m args below meth c s₁ B hml hv
  obtain ⟨rfl, hN, hsz, hP, hK, hD0⟩ := hv
  have hx := B.exec
  have hb := B.bytes
  have hr := B.returns
  have hts := atoms_spec (ws := ws_Wa_sortMinutes) B.pre
  have htg : ∀ w ∈ gW, w.before _ s = true := fun w h => hts w (List.mem_cons_of_mem _ h)
  have hown : s.vm.findClass R_Wa = some m.cls := findClass_of_methodNamed B.named
  have hlocks := B.notSynchronized
  subst hsz
  have hD := hD0.self (sz := s.heap.size)
  generalize hAe : va_A [(h, .inr (6, [.ref a1])), (a1, .inl (cL, 30, .inr (.inl (aL mn)))), (hbk, .inr (1, [.ref b1, .ref b2, .ref b3, .ref b4, .int (nI n)])), (b1, .inl (cI, 30, .inl (aI sh))), (b4, .inl (cL, 30, .inr (.inl (aL gr))))] s.heap.size = A at hD ⊢
  have hA : ∀ q : Nat, s.heap.size ≤ q → A q := fun q h => by rw [← hAe]; exact Or.inr h
  have hS : va_S A s.heap s.heap [] := va_S.rf
  have hP : va_P (dC, dI) vwCl [(h, .inr (6, [.ref a1])), (a1, .inl (cL, 30, .inr (.inl (aL mn)))), (hbk, .inr (1, [.ref b1, .ref b2, .ref b3, .ref b4, .int (nI n)])), (b1, .inl (cI, 30, .inl (aI sh))), (b4, .inl (cL, 30, .inr (.inl (aL gr))))] s.heap := hP
  have hl := lv_entry ([.ref h, .ref hbk, .int x]) (n := 5) (Nat.le_of_ble_eq_true rfl)
  rw [lg_entry_eq]
  generalize (lg_sl ([.ref h, .ref hbk, .int x]) ++ List.replicate (5 - (lg_sl ([.ref h, .ref hbk, .int x])).length) Slot.unset).toArray = ls at hl ⊢
  have hl : lv_has ls 5 [(0, .ref h), (1, .ref hbk), (2, .int x)] := hl
  refine lv_iconst (v := nI 0) hx hb d_Wa_sortMinutes_0 (by decide +kernel) ?_
  refine lv_istore_n (lv' := [(3, .int (nI 0)), (0, .ref h), (1, .ref hbk), (2, .int x)]) hx hb d_Wa_sortMinutes_1 rfl hl (by decide) rfl (fun ls hl => ?_)
  refine lv_iconst (v := nI 0) hx hb d_Wa_sortMinutes_2 (by decide +kernel) ?_
  refine lv_istore (lv' := [(4, .int (nI 0)), (3, .int (nI 0)), (0, .ref h), (1, .ref hbk), (2, .int x)]) hx hb d_Wa_sortMinutes_3 hl (by decide) rfl (fun ls hl => ?_)
  have J5 : ∀ (k : Nat) (i : Nat) (c0 : Nat) (mq : Nat → Nat), (i + k = n) → (c0 ≤ i) → (sortedN mq c0) → ((lstF mq 0 c0).Perm (cl sh gr x i)) → (∀ j, j < c0 → mq j ≤ 20000) → ∀ (H : Heap) (locs : List Loc), va_P (dC, dI) vwCl [(h, .inr (6, [.ref a1])), (a1, .inl (cL, 30, .inr (.inl (aL mq)))), (hbk, .inr (1, [.ref b1, .ref b2, .ref b3, .ref b4, .int (nI n)])), (b1, .inl (cI, 30, .inl (aI sh))), (b4, .inl (cL, 30, .inr (.inl (aL gr))))] H → va_D A [(h, .inr (6, [.ref a1])), (a1, .inl (cL, 30, .inr (.inl (aL mq)))), (hbk, .inr (1, [.ref b1, .ref b2, .ref b3, .ref b4, .int (nI n)])), (b1, .inl (cI, 30, .inl (aI sh))), (b4, .inl (cL, 30, .inr (.inl (aL gr))))] → va_S A s.heap H locs → ∀ (ls : Array Slot), lv_has ls 5 [(0, .ref h), (1, .ref hbk), (2, .int x), (3, .int (nI c0)), (4, .int (nI i))] → W pr l en (headSpec ws_Wa_sortMinutes { frames := 1, cells := 0, slots := 0, locals := 24 }).room s m ([.ref h, .ref hbk, .int x] : List Value).toArray below meth c H locs 0 0 (MQ below (va_Qi (fun (r : Int32) (u : Nat → Nat) => ∃ c0, r = nI c0 ∧ c0 ≤ n ∧ sortedN u c0 ∧ (lstF u 0 c0).Perm (cl sh gr x n) ∧ ∀ j, j < c0 → u j ≤ 20000) (fun (u : Nat → Nat) => wrQ (dC, dI) vwCl [(cI, .int), (cL, .long), (cZ, .boolean)] A [(h, .inr (6, [.ref a1])), (a1, .inl (cL, 30, .inr (.inl (aL u)))), (hbk, .inr (1, [.ref b1, .ref b2, .ref b3, .ref b4, .int (nI n)])), (b1, .inl (cI, 30, .inl (aI sh))), (b4, .inl (cL, 30, .inr (.inl (aL gr))))]) A) ([.ref h, .ref hbk, .int x] : List Value).toArray s 0 0 A) (F0 m 5 ls []) := by
    intro k
    induction k with
    | zero =>
      intro i c0 mq hk hci hso hpe hbo H locs hP hD hS ls hl
      refine lv_iload hx hb d_Wa_sortMinutes_5 (lv_at hl 4 rfl) ?_
      refine lv_aload_n hx hb d_Wa_sortMinutes_7 rfl (lv_at hl 1 rfl) ?_
      refine va_get (D := (dC, dI)) (ci := 1) (v := .int (nI n)) (C := R_Bk) (T := F_Bk) (N := 5) hx hb htg iw_Bk hown hK hP 2 rfl rfl 4 (by decide) (htg _ k1_39) (fun _ h9 => h9) rfl d_Wa_sortMinutes_8 ?_
      refine bk_icmp_ge (a := i) (b := n) (tgt := 60) hx hb (by omega) (by omega) d_Wa_sortMinutes_11 (by decide) (fun c11 => ?_) (fun c11 => by exfalso; omega)
      refine lv_iload_n hx hb d_Wa_sortMinutes_60 rfl (lv_at hl 3 rfl) ?_
      have hP9 := hP.sub (ws' := [(h, .inr (6, [.ref a1])), (a1, .inl (cL, 30, .inr (.inl (aL mq)))), (hbk, .inr (1, [.ref b1, .ref b2, .ref b3, .ref b4, .int (nI n)])), (b1, .inl (cI, 30, .inl (aI sh))), (b4, .inl (cL, 30, .inr (.inl (aL gr))))]) [0, 1, 2, 3, 4] rfl
      have hD9 := hD.sub (ws' := [(h, .inr (6, [.ref a1])), (a1, .inl (cL, 30, .inr (.inl (aL mq)))), (hbk, .inr (1, [.ref b1, .ref b2, .ref b3, .ref b4, .int (nI n)])), (b1, .inl (cI, 30, .inl (aI sh))), (b4, .inl (cL, 30, .inr (.inl (aL gr))))]) [0, 1, 2, 3, 4] (by decide) rfl
      exact W.iret (v := nI c0) hx hb hr (fun t9 ht9 hW9 => ⟨⟨nI c0, (mq), rfl, ⟨c0, rfl, by omega, hso, by rw [show i = n by omega] at hpe; exact hpe, hbo⟩, by rw [ht9]; exact hP9, va_K.moved hW9.alike hK, hD9⟩, hS.F ht9⟩) hS.2.2 d_Wa_sortMinutes_61
    | succ k ih5 =>
      intro i c0 mq hk hci hso hpe hbo H locs hP hD hS ls hl
      have hs1 := hsh i (by omega)
      have hg1 := hgr i (by omega)
      have hco := cost_le hg1
      have hdv : (gr i + 100000 - 1) / 100000 ≤ gr i + 100000 := Nat.le_trans (Nat.div_le_self _ _) (by omega)
      refine lv_iload hx hb d_Wa_sortMinutes_5 (lv_at hl 4 rfl) ?_
      refine lv_aload_n hx hb d_Wa_sortMinutes_7 rfl (lv_at hl 1 rfl) ?_
      refine va_get (D := (dC, dI)) (ci := 1) (v := .int (nI n)) (C := R_Bk) (T := F_Bk) (N := 5) hx hb htg iw_Bk hown hK hP 2 rfl rfl 4 (by decide) (htg _ k1_39) (fun _ h9 => h9) rfl d_Wa_sortMinutes_8 ?_
      refine bk_icmp_ge (a := i) (b := n) (tgt := 60) hx hb (by omega) (by omega) d_Wa_sortMinutes_11 (by decide) (fun c11 => by exfalso; omega) (fun c11 => ?_)
      refine lv_aload_n hx hb d_Wa_sortMinutes_14 rfl (lv_at hl 1 rfl) ?_
      refine va_get (D := (dC, dI)) (ci := 1) (v := .ref b1) (C := R_Bk) (T := F_Bk) (N := 5) hx hb htg iw_Bk hown hK hP 2 rfl rfl 0 (by decide) (htg _ k1_31) (fun _ h9 => h9) rfl d_Wa_sortMinutes_15 ?_
      refine lv_iload hx hb d_Wa_sortMinutes_18 (lv_at hl 4 rfl) ?_
      refine bk_iald (v := nI (sh i)) hx hb hK hP 3 0 rfl rfl (by omega) (by decide) rfl d_Wa_sortMinutes_20 ?_
      refine lv_iload_n hx hb d_Wa_sortMinutes_21 rfl (lv_at hl 2 rfl) ?_
      refine lv_icmp_ne (x := nI (sh i)) (y := x) (tgt := 54) hx hb d_Wa_sortMinutes_22 (by decide) (fun c22 => ?_) (fun c22 => ?_)
      · refine lv_iinc (v := nI (i + 1)) (lv' := [(4, .int (nI (i + 1))), (0, .ref h), (1, .ref hbk), (2, .int x), (3, .int (nI c0))]) hx hb d_Wa_sortMinutes_54 hl (k := 4) rfl (bk_inc i) (by decide) rfl (fun ls hl => ?_)
        refine lv_goto (tgt := 5) hx hb d_Wa_sortMinutes_57 (by decide) ?_
        exact ih5 (i + 1) c0 mq (by omega) (by omega) hso (by rw [cl, if_neg c22]; exact hpe) hbo _ _ (hP.sub [0, 1, 2, 3, 4] rfl) (hD.sub [0, 1, 2, 3, 4] (by decide) rfl) hS ls (lv_sub hl [1, 2, 3, 4, 0] rfl)
      · refine lv_aload_n hx hb d_Wa_sortMinutes_25 rfl (lv_at hl 0 rfl) ?_
        refine lv_iload_n hx hb d_Wa_sortMinutes_26 rfl (lv_at hl 3 rfl) ?_
        refine lv_ldc2 (own := R_Wa) (v := 20) hx hb hown (htg _ k2_181) d_Wa_sortMinutes_27 ?_
        refine bk_topl (y := lN 20) (by decide +kernel) ?_
        refine lv_aload_n hx hb d_Wa_sortMinutes_30 rfl (lv_at hl 1 rfl) ?_
        refine va_get (D := (dC, dI)) (ci := 1) (v := .ref b4) (C := R_Bk) (T := F_Bk) (N := 5) hx hb htg iw_Bk hown hK hP 2 rfl rfl 3 (by decide) (htg _ k1_37) (fun _ h9 => h9) rfl d_Wa_sortMinutes_31 ?_
        refine lv_iload hx hb d_Wa_sortMinutes_34 (lv_at hl 4 rfl) ?_
        refine bk_lald (v := lN (gr i)) hx hb hK hP 4 1 rfl rfl (by omega) (by decide) rfl d_Wa_sortMinutes_36 ?_
        refine lv_ldc2 (own := R_Wa) (v := 100000) hx hb hown (htg _ k2_182) d_Wa_sortMinutes_37 ?_
        refine bk_topl (y := lN 100000) (by decide +kernel) ?_
        refine bk_ladd hx hb d_Wa_sortMinutes_40 ?_
        refine lv_lconst (v := lN 1) hx hb d_Wa_sortMinutes_41 (by decide +kernel) ?_
        refine bk_lsub hx hb (by omega) d_Wa_sortMinutes_42 ?_
        refine lv_ldc2 (own := R_Wa) (v := 100000) hx hb hown (htg _ k2_182) d_Wa_sortMinutes_43 ?_
        refine bk_topl (y := lN 100000) (by decide +kernel) ?_
        refine bk_ldiv hx hb (by omega) (by omega) (by omega) d_Wa_sortMinutes_46 ?_
        refine bk_ladd hx hb d_Wa_sortMinutes_47 ?_
        have hPc := hP.sub (ws' := [(h, .inr (6, [.ref a1])), (a1, .inl (cL, 30, .inr (.inl (aL mq))))]) [0, 1] rfl
        have hDc := hD.sub (ws' := [(h, .inr (6, [.ref a1])), (a1, .inl (cL, 30, .inr (.inl (aL mq))))]) [0, 1] (by decide) rfl
        have hFc := va_free (wc := [(h, .inr (6, [.ref a1])), (a1, .inl (cL, 30, .inr (.inl (aL mq))))]) hD hS hA [0, 1] rfl
        refine va_callv (va_runV (As := [.int (nI c0), .long (lN (20 + ((((gr i) + 100000) - 1) / 100000)))]) (rest := []) ⟨hx, hb, hml, hown, htg⟩ (c_Wa_insert l dC dI cI cL cZ H.size h a1 mq c0 (20 + ((((gr i) + 100000) - 1) / 100000)) (by omega) hco hbo hso) (cwV 2 htg (gdV k2_183 k2_185 ks_Wa_insert k1_7 kc_Wa_insert) rfl rfl rfl (by decide +kernel) ⟨Nat.le_of_ble_eq_true rfl, Nat.le_of_ble_eq_true rfl⟩) ⟨bk_blindW, va_recv hK hP (ci := 6) (q0 := 0) rfl rfl, fun U hU hW => ⟨rfl, nw_warm hW hN, by rw [hU], by rw [hU]; exact hPc, va_K.moved hW.alike hK, hDc.weaken (fun _ _ _ _ => trivial)⟩⟩ rfl rfl hl.1 rfl (lv_room (Nat.le_of_ble_eq_true rfl)) d_Wa_sortMinutes_48 ⟨Nat.le_of_ble_eq_true rfl, Nat.le_of_ble_eq_true rfl⟩) hS (fun q _ h => hFc q h) hFc (fun u t H1 locs ht hvm e48 hB hz1 hk1 hS => ?_)
        obtain ⟨hP1, hK1, hD1⟩ := hB
        rw [ht] at hP1
        try dsimp only at e48
        obtain ⟨mn48, rfl⟩ : ∃ z, z = u := ⟨_, rfl⟩
        obtain ⟨hso48, hpe48, hbo48⟩ := e48
        obtain ⟨hP, hD⟩ := va_join (wr := [(hbk, .inr (1, [.ref b1, .ref b2, .ref b3, .ref b4, .int (nI n)])), (b1, .inl (cI, 30, .inl (aI sh))), (b4, .inl (cL, 30, .inr (.inl (aL gr))))]) (w1 := [(h, .inr (6, [.ref a1])), (a1, .inl (cL, 30, .inr (.inl (aL mn48))))]) hP hD [0, 1] [2, 3, 4] rfl rfl (by decide) (by decide) hk1 hFc hP1 hD1
        generalize H1 = H at hP hS ⊢
        have hP : va_P (dC, dI) vwCl [(h, .inr (6, [.ref a1])), (a1, .inl (cL, 30, .inr (.inl (aL mn48)))), (hbk, .inr (1, [.ref b1, .ref b2, .ref b3, .ref b4, .int (nI n)])), (b1, .inl (cI, 30, .inl (aI sh))), (b4, .inl (cL, 30, .inr (.inl (aL gr))))] H := hP.sub [3, 4, 0, 1, 2] rfl
        have hD : va_D A [(h, .inr (6, [.ref a1])), (a1, .inl (cL, 30, .inr (.inl (aL mn48)))), (hbk, .inr (1, [.ref b1, .ref b2, .ref b3, .ref b4, .int (nI n)])), (b1, .inl (cI, 30, .inl (aI sh))), (b4, .inl (cL, 30, .inr (.inl (aL gr))))] := hD.sub [3, 4, 0, 1, 2] (by decide) rfl
        refine lv_iinc (v := nI (c0 + 1)) (lv' := [(3, .int (nI (c0 + 1))), (0, .ref h), (1, .ref hbk), (2, .int x), (4, .int (nI i))]) hx hb d_Wa_sortMinutes_51 hl (k := 3) rfl (bk_inc c0) (by decide) rfl (fun ls hl => ?_)
        refine lv_iinc (v := nI (i + 1)) (lv' := [(4, .int (nI (i + 1))), (3, .int (nI (c0 + 1))), (0, .ref h), (1, .ref hbk), (2, .int x)]) hx hb d_Wa_sortMinutes_54 hl (k := 4) rfl (bk_inc i) (by decide) rfl (fun ls hl => ?_)
        refine lv_goto (tgt := 5) hx hb d_Wa_sortMinutes_57 (by decide) ?_
        exact ih5 (i + 1) (c0 + 1) mn48 (by omega) (by omega) hso48 (by rw [cl, if_pos c22]; exact hpe48.trans ((hpe.cons _).trans (List.perm_append_singleton _ _).symm)) hbo48 _ _ (hP.sub [0, 1, 2, 3, 4] rfl) (hD.sub [0, 1, 2, 3, 4] (by decide) rfl) hS ls (lv_sub hl [2, 3, 4, 1, 0] rfl)
  exact J5 n 0 0 mn (by omega) (by omega) (fun i j _ h => absurd h (by omega)) (List.Perm.refl _) (fun j h => absurd h (by omega)) _ _ (hP.sub [0, 1, 2, 3, 4] rfl) (hD.sub [0, 1, 2, 3, 4] (by decide) rfl) hS ls (lv_sub hl [2, 3, 4, 1, 0] rfl)
set_option maxHeartbeats 4000000 in
set_option maxRecDepth 100000 in
theorem c_Wa_most (l : Launch) (dC : Nat → ClassId) (dI : Nat → Nat → Nat) (cI cL cZ : ClassId) (sz : Nat) (h a1 : Nat) (mn : Nat → Nat) (hbk b1 b2 b3 b4 n : Nat) (sh gr : Nat → Nat) (x : Int32) (y : Int32) (hn : n ≤ 30) (hsh : ∀ j, j < n → sh j < 10) (hgr : ∀ j, j < n → gr j ≤ 1000000000) : Met l y_Wa_most ws_Wa_most { frames := 2, cells := 0, slots := 0, locals := 48 } (va_Pc [.ref h, .ref hbk, .int x, .int y] (wrP (dC, dI) vwCl [(cI, .int), (cL, .long), (cZ, .boolean)] [(h, .inr (6, [.ref a1])), (a1, .inl (cL, 30, .inr (.inl (aL mn)))), (hbk, .inr (1, [.ref b1, .ref b2, .ref b3, .ref b4, .int (nI n)])), (b1, .inl (cI, 30, .inl (aI sh))), (b4, .inl (cL, 30, .inr (.inl (aL gr))))] sz)) (va_Qi (fun (r : Int32) (u : Nat → Nat) => ∃ k, r = nI k ∧ k ≤ 30 ∧ isCam (cl sh gr x n) y.toInt k) (fun (u : Nat → Nat) => wrQ (dC, dI) vwCl [(cI, .int), (cL, .long), (cZ, .boolean)] (va_A [(h, .inr (6, [.ref a1])), (a1, .inl (cL, 30, .inr (.inl (aL mn)))), (hbk, .inr (1, [.ref b1, .ref b2, .ref b3, .ref b4, .int (nI n)])), (b1, .inl (cI, 30, .inl (aI sh))), (b4, .inl (cL, 30, .inr (.inl (aL gr))))] sz) [(h, .inr (6, [.ref a1])), (a1, .inl (cL, 30, .inr (.inl (aL u)))), (hbk, .inr (1, [.ref b1, .ref b2, .ref b3, .ref b4, .int (nI n)])), (b1, .inl (cI, 30, .inl (aI sh))), (b4, .inl (cL, 30, .inr (.inl (aL gr))))]) (va_A [(h, .inr (6, [.ref a1])), (a1, .inl (cL, 30, .inr (.inl (aL mn)))), (hbk, .inr (1, [.ref b1, .ref b2, .ref b3, .ref b4, .int (nI n)])), (b1, .inl (cI, 30, .inl (aI sh))), (b4, .inl (cL, 30, .inr (.inl (aL gr))))] sz)) 0 0 (va_A [(h, .inr (6, [.ref a1])), (a1, .inl (cL, 30, .inr (.inl (aL mn)))), (hbk, .inr (1, [.ref b1, .ref b2, .ref b3, .ref b4, .int (nI n)])), (b1, .inl (cI, 30, .inl (aI sh))), (b4, .inl (cL, 30, .inr (.inl (aL gr))))] sz) := by
  refine Met.ofW (cc := b_Wa_most) (maxL := 9) (ret := (some .int)) (by decide) rfl ?_
  intro pr en s m args below meth c s₁ B hml hv
  obtain ⟨rfl, hN, hsz, hP, hK, hD0⟩ := hv
  have hx := B.exec
  have hb := B.bytes
  have hr := B.returns
  have hts := atoms_spec (ws := ws_Wa_most) B.pre
  have htg : ∀ w ∈ gW, w.before _ s = true := fun w h => hts w (List.mem_cons_of_mem _ h)
  have hown : s.vm.findClass R_Wa = some m.cls := findClass_of_methodNamed B.named
  have hlocks := B.notSynchronized
  subst hsz
  have hD := hD0.self (sz := s.heap.size)
  generalize hAe : va_A [(h, .inr (6, [.ref a1])), (a1, .inl (cL, 30, .inr (.inl (aL mn)))), (hbk, .inr (1, [.ref b1, .ref b2, .ref b3, .ref b4, .int (nI n)])), (b1, .inl (cI, 30, .inl (aI sh))), (b4, .inl (cL, 30, .inr (.inl (aL gr))))] s.heap.size = A at hD ⊢
  have hA : ∀ q : Nat, s.heap.size ≤ q → A q := fun q h => by rw [← hAe]; exact Or.inr h
  have hS : va_S A s.heap s.heap [] := va_S.rf
  have hP : va_P (dC, dI) vwCl [(h, .inr (6, [.ref a1])), (a1, .inl (cL, 30, .inr (.inl (aL mn)))), (hbk, .inr (1, [.ref b1, .ref b2, .ref b3, .ref b4, .int (nI n)])), (b1, .inl (cI, 30, .inl (aI sh))), (b4, .inl (cL, 30, .inr (.inl (aL gr))))] s.heap := hP
  have hl := lv_entry ([.ref h, .ref hbk, .int x, .int y]) (n := 9) (Nat.le_of_ble_eq_true rfl)
  rw [lg_entry_eq]
  generalize (lg_sl ([.ref h, .ref hbk, .int x, .int y]) ++ List.replicate (9 - (lg_sl ([.ref h, .ref hbk, .int x, .int y])).length) Slot.unset).toArray = ls at hl ⊢
  have hl : lv_has ls 9 [(0, .ref h), (1, .ref hbk), (2, .int x), (3, .int y)] := hl
  refine lv_aload_n hx hb d_Wa_most_0 rfl (lv_at hl 0 rfl) ?_
  refine lv_aload_n hx hb d_Wa_most_1 rfl (lv_at hl 1 rfl) ?_
  refine lv_iload_n hx hb d_Wa_most_2 rfl (lv_at hl 2 rfl) ?_
  have hPc := hP.sub (ws' := [(h, .inr (6, [.ref a1])), (a1, .inl (cL, 30, .inr (.inl (aL mn)))), (hbk, .inr (1, [.ref b1, .ref b2, .ref b3, .ref b4, .int (nI n)])), (b1, .inl (cI, 30, .inl (aI sh))), (b4, .inl (cL, 30, .inr (.inl (aL gr))))]) [0, 1, 2, 3, 4] rfl
  have hDc := hD.sub (ws' := [(h, .inr (6, [.ref a1])), (a1, .inl (cL, 30, .inr (.inl (aL mn)))), (hbk, .inr (1, [.ref b1, .ref b2, .ref b3, .ref b4, .int (nI n)])), (b1, .inl (cI, 30, .inl (aI sh))), (b4, .inl (cL, 30, .inr (.inl (aL gr))))]) [0, 1, 2, 3, 4] (by decide) rfl
  have hFc := va_free (wc := [(h, .inr (6, [.ref a1])), (a1, .inl (cL, 30, .inr (.inl (aL mn)))), (hbk, .inr (1, [.ref b1, .ref b2, .ref b3, .ref b4, .int (nI n)])), (b1, .inl (cI, 30, .inl (aI sh))), (b4, .inl (cL, 30, .inr (.inl (aL gr))))]) hD hS hA [0, 1, 2, 3, 4] rfl
  refine va_calli (va_runV (As := [.ref hbk, .int x]) (rest := []) ⟨hx, hb, hml, hown, htg⟩ (c_Wa_sortMinutes l dC dI cI cL cZ s.heap.size h a1 mn hbk b1 b2 b3 b4 n sh gr x hn hsh hgr) (cwV 2 htg (gdV k2_177 k2_179 ks_Wa_sortMinutes k1_7 kc_Wa_sortMinutes) rfl rfl rfl (by decide +kernel) ⟨Nat.le_of_ble_eq_true rfl, Nat.le_of_ble_eq_true rfl⟩) ⟨bk_blindW, va_recv hK hP (ci := 6) (q0 := 0) rfl rfl, fun U hU hW => ⟨rfl, nw_warm hW hN, by rw [hU], by rw [hU]; exact hPc, va_K.moved hW.alike hK, hDc.weaken (fun _ _ _ _ => trivial)⟩⟩ rfl rfl hl.1 rfl (lv_room (Nat.le_of_ble_eq_true rfl)) d_Wa_most_3 ⟨Nat.le_of_ble_eq_true rfl, Nat.le_of_ble_eq_true rfl⟩) hS (fun q _ h => hFc q h) hFc (fun r3 u t H1 locs ht hvm e3 hB hz1 hk1 hS => ?_)
  obtain ⟨hP1, hK1, hD1⟩ := hB
  rw [ht] at hP1
  try dsimp only at e3
  obtain ⟨mn3, rfl⟩ : ∃ z, z = u := ⟨_, rfl⟩
  obtain ⟨c3, rfl, hc3, hso3, hpe3, hbo3⟩ := e3
  obtain ⟨hP, hD⟩ := va_join (wr := []) (w1 := [(h, .inr (6, [.ref a1])), (a1, .inl (cL, 30, .inr (.inl (aL mn3)))), (hbk, .inr (1, [.ref b1, .ref b2, .ref b3, .ref b4, .int (nI n)])), (b1, .inl (cI, 30, .inl (aI sh))), (b4, .inl (cL, 30, .inr (.inl (aL gr))))]) hP hD [0, 1, 2, 3, 4] [] rfl rfl (by decide) (by decide) hk1 hFc hP1 hD1
  generalize H1 = H at hP hS ⊢
  have hP : va_P (dC, dI) vwCl [(h, .inr (6, [.ref a1])), (a1, .inl (cL, 30, .inr (.inl (aL mn3)))), (hbk, .inr (1, [.ref b1, .ref b2, .ref b3, .ref b4, .int (nI n)])), (b1, .inl (cI, 30, .inl (aI sh))), (b4, .inl (cL, 30, .inr (.inl (aL gr))))] H := hP.sub [0, 1, 2, 3, 4] rfl
  have hD : va_D A [(h, .inr (6, [.ref a1])), (a1, .inl (cL, 30, .inr (.inl (aL mn3)))), (hbk, .inr (1, [.ref b1, .ref b2, .ref b3, .ref b4, .int (nI n)])), (b1, .inl (cI, 30, .inl (aI sh))), (b4, .inl (cL, 30, .inr (.inl (aL gr))))] := hD.sub [0, 1, 2, 3, 4] (by decide) rfl
  refine lv_istore (lv' := [(4, .int (nI c3)), (0, .ref h), (1, .ref hbk), (2, .int x), (3, .int y)]) hx hb d_Wa_most_6 hl (by decide) rfl (fun ls hl => ?_)
  refine lv_iload_n hx hb d_Wa_most_8 rfl (lv_at hl 4 rfl) ?_
  refine lv_i2l (v := (y).toInt64) hx hb d_Wa_most_9 rfl ?_
  refine lv_lstore (lv' := [(5, .long ((y).toInt64)), (4, .int (nI c3)), (0, .ref h), (1, .ref hbk), (2, .int x), (3, .int y)]) hx hb d_Wa_most_10 hl (by decide) rfl (fun ls hl => ?_)
  refine lv_iconst (v := nI 0) hx hb d_Wa_most_12 (by decide +kernel) ?_
  refine lv_istore (lv' := [(7, .int (nI 0)), (5, .long ((y).toInt64)), (4, .int (nI c3)), (0, .ref h), (1, .ref hbk), (2, .int x), (3, .int y)]) hx hb d_Wa_most_13 hl (by decide) rfl (fun ls hl => ?_)
  refine lv_iconst (v := nI 0) hx hb d_Wa_most_15 (by decide +kernel) ?_
  refine lv_istore (lv' := [(8, .int (nI 0)), (7, .int (nI 0)), (5, .long ((y).toInt64)), (4, .int (nI c3)), (0, .ref h), (1, .ref hbk), (2, .int x), (3, .int y)]) hx hb d_Wa_most_16 hl (by decide) rfl (fun ls hl => ?_)
  have J18 : ∀ (k : Nat) (i : Nat) (lf : Int64), (i + k = c3) → (i + grS (lstF mn3 i k) lf.toInt = grS (lstF mn3 0 c3) y.toInt) → (-2147483648 ≤ lf.toInt ∧ lf.toInt < 2147483648) → ∀ (H : Heap) (locs : List Loc), va_P (dC, dI) vwCl [(h, .inr (6, [.ref a1])), (a1, .inl (cL, 30, .inr (.inl (aL mn3)))), (hbk, .inr (1, [.ref b1, .ref b2, .ref b3, .ref b4, .int (nI n)])), (b1, .inl (cI, 30, .inl (aI sh))), (b4, .inl (cL, 30, .inr (.inl (aL gr))))] H → va_D A [(h, .inr (6, [.ref a1])), (a1, .inl (cL, 30, .inr (.inl (aL mn3)))), (hbk, .inr (1, [.ref b1, .ref b2, .ref b3, .ref b4, .int (nI n)])), (b1, .inl (cI, 30, .inl (aI sh))), (b4, .inl (cL, 30, .inr (.inl (aL gr))))] → va_S A s.heap H locs → ∀ (ls : Array Slot), lv_has ls 9 [(0, .ref h), (4, .int (nI c3)), (5, .long lf), (7, .int (nI i)), (8, .int (nI i))] → W pr l en (headSpec ws_Wa_most { frames := 2, cells := 0, slots := 0, locals := 48 }).room s m ([.ref h, .ref hbk, .int x, .int y] : List Value).toArray below meth c H locs 0 0 (MQ below (va_Qi (fun (r : Int32) (u : Nat → Nat) => ∃ k, r = nI k ∧ k ≤ 30 ∧ isCam (cl sh gr x n) y.toInt k) (fun (u : Nat → Nat) => wrQ (dC, dI) vwCl [(cI, .int), (cL, .long), (cZ, .boolean)] A [(h, .inr (6, [.ref a1])), (a1, .inl (cL, 30, .inr (.inl (aL u)))), (hbk, .inr (1, [.ref b1, .ref b2, .ref b3, .ref b4, .int (nI n)])), (b1, .inl (cI, 30, .inl (aI sh))), (b4, .inl (cL, 30, .inr (.inl (aL gr))))]) A) ([.ref h, .ref hbk, .int x, .int y] : List Value).toArray s 0 0 A) (F0 m 18 ls []) := by
    intro k
    induction k with
    | zero =>
      intro i lf hk hg hlf H locs hP hD hS ls hl
      refine lv_iload hx hb d_Wa_most_18 (lv_at hl 4 rfl) ?_
      refine lv_iload hx hb d_Wa_most_20 (lv_at hl 1 rfl) ?_
      refine bk_icmp_ge (a := i) (b := c3) (tgt := 59) hx hb (by omega) (by omega) d_Wa_most_22 (by decide) (fun c22 => ?_) (fun c22 => by exfalso; omega)
      refine lv_iload hx hb d_Wa_most_59 (lv_at hl 3 rfl) ?_
      have hP9 := hP.sub (ws' := [(h, .inr (6, [.ref a1])), (a1, .inl (cL, 30, .inr (.inl (aL mn3)))), (hbk, .inr (1, [.ref b1, .ref b2, .ref b3, .ref b4, .int (nI n)])), (b1, .inl (cI, 30, .inl (aI sh))), (b4, .inl (cL, 30, .inr (.inl (aL gr))))]) [0, 1, 2, 3, 4] rfl
      have hD9 := hD.sub (ws' := [(h, .inr (6, [.ref a1])), (a1, .inl (cL, 30, .inr (.inl (aL mn3)))), (hbk, .inr (1, [.ref b1, .ref b2, .ref b3, .ref b4, .int (nI n)])), (b1, .inl (cI, 30, .inl (aI sh))), (b4, .inl (cL, 30, .inr (.inl (aL gr))))]) [0, 1, 2, 3, 4] (by decide) rfl
      exact W.iret (v := nI i) hx hb hr (fun t9 ht9 hW9 => ⟨⟨nI i, (mn3), rfl, ⟨i, rfl, by omega, lstF mn3 0 c3, sortedN_pw hso3, hpe3, by first | (rw [lstF, grS] at hg; exact hg; done) | (rw [lstF, grS, if_neg (by rw [Int64.lt_iff_toInt_lt, pk_lT (by omega)] at c34; omega)] at hg; exact hg)⟩, by rw [ht9]; exact hP9, va_K.moved hW9.alike hK, hD9⟩, hS.F ht9⟩) hS.2.2 d_Wa_most_61
    | succ k ih18 =>
      intro i lf hk hg hlf H locs hP hD hS ls hl
      have hm1 := hbo3 i (by omega)
      refine lv_iload hx hb d_Wa_most_18 (lv_at hl 4 rfl) ?_
      refine lv_iload hx hb d_Wa_most_20 (lv_at hl 1 rfl) ?_
      refine bk_icmp_ge (a := i) (b := c3) (tgt := 59) hx hb (by omega) (by omega) d_Wa_most_22 (by decide) (fun c22 => by exfalso; omega) (fun c22 => ?_)
      refine lv_aload_n hx hb d_Wa_most_25 rfl (lv_at hl 0 rfl) ?_
      refine va_get (D := (dC, dI)) (ci := 6) (v := .ref a1) (C := R_Wa) (T := F_Wa) (N := 1) hx hb htg iw_Wa hown hK hP 0 rfl rfl 0 (by decide) (htg _ k1_135) (fun _ h9 => h9) rfl d_Wa_most_26 ?_
      refine lv_iload hx hb d_Wa_most_29 (lv_at hl 4 rfl) ?_
      refine bk_lald (v := lN (mn3 i)) hx hb hK hP 1 1 rfl rfl (by omega) (by decide) rfl d_Wa_most_31 ?_
      refine lv_lload hx hb d_Wa_most_32 (lv_at hl 2 rfl) ?_
      refine bk_lcmp_gt (x := lN (mn3 i)) (y := lf) (tgt := 59) hx hb d_Wa_most_34 d_Wa_most_35 (by decide) (fun c34 => ?_) (fun c34 => ?_)
      · refine lv_iload hx hb d_Wa_most_59 (lv_at hl 3 rfl) ?_
        have hP9 := hP.sub (ws' := [(h, .inr (6, [.ref a1])), (a1, .inl (cL, 30, .inr (.inl (aL mn3)))), (hbk, .inr (1, [.ref b1, .ref b2, .ref b3, .ref b4, .int (nI n)])), (b1, .inl (cI, 30, .inl (aI sh))), (b4, .inl (cL, 30, .inr (.inl (aL gr))))]) [0, 1, 2, 3, 4] rfl
        have hD9 := hD.sub (ws' := [(h, .inr (6, [.ref a1])), (a1, .inl (cL, 30, .inr (.inl (aL mn3)))), (hbk, .inr (1, [.ref b1, .ref b2, .ref b3, .ref b4, .int (nI n)])), (b1, .inl (cI, 30, .inl (aI sh))), (b4, .inl (cL, 30, .inr (.inl (aL gr))))]) [0, 1, 2, 3, 4] (by decide) rfl
        exact W.iret (v := nI i) hx hb hr (fun t9 ht9 hW9 => ⟨⟨nI i, (mn3), rfl, ⟨i, rfl, by omega, lstF mn3 0 c3, sortedN_pw hso3, hpe3, by first | (rw [lstF, grS] at hg; exact hg; done) | (rw [lstF, grS, if_neg (by rw [Int64.lt_iff_toInt_lt, pk_lT (by omega)] at c34; omega)] at hg; exact hg)⟩, by rw [ht9]; exact hP9, va_K.moved hW9.alike hK, hD9⟩, hS.F ht9⟩) hS.2.2 d_Wa_most_61
      · have hcl2 : ((mn3 i : Nat) : Int) ≤ lf.toInt := by rw [Int64.le_iff_toInt_le, pk_lT (by omega)] at c34; exact c34
        refine lv_lload hx hb d_Wa_most_38 (lv_at hl 2 rfl) ?_
        refine lv_aload_n hx hb d_Wa_most_40 rfl (lv_at hl 0 rfl) ?_
        refine va_get (D := (dC, dI)) (ci := 6) (v := .ref a1) (C := R_Wa) (T := F_Wa) (N := 1) hx hb htg iw_Wa hown hK hP 0 rfl rfl 0 (by decide) (htg _ k1_135) (fun _ h9 => h9) rfl d_Wa_most_41 ?_
        refine lv_iload hx hb d_Wa_most_44 (lv_at hl 4 rfl) ?_
        refine bk_lald (v := lN (mn3 i)) hx hb hK hP 1 1 rfl rfl (by omega) (by decide) rfl d_Wa_most_46 ?_
        refine lv_lsub hx hb d_Wa_most_47 ?_
        refine lv_lstore (lv' := [(5, .long (lf - (lN (mn3 i)))), (0, .ref h), (4, .int (nI c3)), (7, .int (nI i)), (8, .int (nI i))]) hx hb d_Wa_most_48 hl (by decide) rfl (fun ls hl => ?_)
        refine lv_iinc (v := nI (i + 1)) (lv' := [(7, .int (nI (i + 1))), (5, .long (lf - (lN (mn3 i)))), (0, .ref h), (4, .int (nI c3)), (8, .int (nI i))]) hx hb d_Wa_most_50 hl (k := 3) rfl (bk_inc i) (by decide) rfl (fun ls hl => ?_)
        refine lv_iinc (v := nI (i + 1)) (lv' := [(8, .int (nI (i + 1))), (7, .int (nI (i + 1))), (5, .long (lf - (lN (mn3 i)))), (0, .ref h), (4, .int (nI c3))]) hx hb d_Wa_most_53 hl (k := 4) rfl (bk_inc i) (by decide) rfl (fun ls hl => ?_)
        refine lv_goto (tgt := 18) hx hb d_Wa_most_56 (by decide) ?_
        exact ih18 (i + 1) (lf - lN (mn3 i)) (by omega) (by rw [lsub_toInt hlf hm1 hcl2, Nat.add_right_comm]; rw [lstF, grS, if_pos hcl2] at hg; exact hg) (by rw [lsub_toInt hlf hm1 hcl2]; omega) _ _ (hP.sub [0, 1, 2, 3, 4] rfl) (hD.sub [0, 1, 2, 3, 4] (by decide) rfl) hS ls (lv_sub hl [3, 4, 2, 1, 0] rfl)
  exact J18 c3 0 y.toInt64 (by omega) (by rw [Int32.toInt_toInt64]; exact Nat.zero_add _) (by rw [Int32.toInt_toInt64]; have := Int32.toInt_lt y; have := Int32.le_toInt y; omega) _ _ (hP.sub [0, 1, 2, 3, 4] rfl) (hD.sub [0, 1, 2, 3, 4] (by decide) rfl) hS ls (lv_sub hl [4, 3, 2, 1, 0] rfl)
set_option maxHeartbeats 4000000 in
set_option maxRecDepth 100000 in
theorem c_B_choose (l : Launch) (dC : Nat → ClassId) (dI : Nat → Nat → Nat) (cI cL cZ : ClassId) (a s0 : Nat) (ha : a ≤ 30) (hs : s0 ≤ 30) : Met l y_B_choose ws_B_choose { frames := 0, cells := 0, slots := 0, locals := 0 } (va_Pc [.int (nI a), .int (nI s0)] (fun _ => True)) (vp_Sl (fun r => r = lN (chs a s0))) 0 0 (fun _ => False) := by
  refine Met.ofW (cc := b_B_choose) (maxL := 5) (ret := (some .long)) (by decide) rfl ?_
  intro pr en s m args below meth c s₁ B hml hv
  obtain ⟨rfl, -⟩ := hv
  have hx := B.exec
  have hb := B.bytes
  have hr := B.returns
  have hts := atoms_spec (ws := ws_B_choose) B.pre
  have htg : ∀ w ∈ gW, w.before _ s = true := fun w h => hts w (List.mem_cons_of_mem _ h)
  have hown : s.vm.findClass R_B = some m.cls := findClass_of_methodNamed B.named
  have hlocks := B.notSynchronized
  have hl := lv_entry ([.int (nI a), .int (nI s0)]) (n := 5) (Nat.le_of_ble_eq_true rfl)
  rw [lg_entry_eq]
  generalize (lg_sl ([.int (nI a), .int (nI s0)]) ++ List.replicate (5 - (lg_sl ([.int (nI a), .int (nI s0)])).length) Slot.unset).toArray = ls at hl ⊢
  have hl : lv_has ls 5 [(0, .int (nI a)), (1, .int (nI s0))] := hl
  refine lv_iload_n hx hb d_B_choose_0 rfl (lv_at hl 1 rfl) ?_
  refine lv_iload_n hx hb d_B_choose_1 rfl (lv_at hl 0 rfl) ?_
  refine bk_icmp_le (a := s0) (b := a) (tgt := 7) hx hb (by omega) (by omega) d_B_choose_2 (by decide) (fun c2 => ?_) (fun c2 => ?_)
  · refine lv_lconst (v := lN 1) hx hb d_B_choose_7 (by decide +kernel) ?_
    refine lv_lstore_n (lv' := [(2, .long (lN 1)), (0, .int (nI a)), (1, .int (nI s0))]) hx hb d_B_choose_8 rfl hl (by decide) rfl (fun ls hl => ?_)
    refine lv_iconst (v := nI 1) hx hb d_B_choose_9 (by decide +kernel) ?_
    refine lv_istore (lv' := [(4, .int (nI 1)), (2, .long (lN 1)), (0, .int (nI a)), (1, .int (nI s0))]) hx hb d_B_choose_10 hl (by decide) rfl (fun ls hl => ?_)
    have J12 : ∀ (k : Nat) (i : Nat) (t : Nat), (i + k = s0) → (t = chI a s0 i) → ∀ (ls : Array Slot), lv_has ls 5 [(0, .int (nI a)), (1, .int (nI s0)), (2, .long (lN t)), (4, .int (nI (i + 1)))] → W pr l en (headSpec ws_B_choose { frames := 0, cells := 0, slots := 0, locals := 0 }).room s m ([.int (nI a), .int (nI s0)] : List Value).toArray below meth c s.heap [] 0 0 (MQ below (vp_Sl (fun r => r = lN (chs a s0))) ([.int (nI a), .int (nI s0)] : List Value).toArray s 0 0 (fun _ => False)) (F0 m 12 ls []) := by
      intro k
      induction k with
      | zero =>
        intro i t hk htt ls hl
        refine lv_iload hx hb d_B_choose_12 (lv_at hl 3 rfl) ?_
        refine lv_iload_n hx hb d_B_choose_14 rfl (lv_at hl 1 rfl) ?_
        refine bk_icmp_gt (a := i + 1) (b := s0) (tgt := 38) hx hb (by omega) (by omega) d_B_choose_15 (by decide) (fun c15 => ?_) (fun c15 => by exfalso; omega)
        refine lv_lload_n hx hb d_B_choose_38 rfl (lv_at hl 2 rfl) ?_
        exact W.lret (v := lN t) hx hb hr (fun t9 ht9 hW9 => ⟨lN t, rfl, (by rw [chs, if_neg (by omega), htt, show i = s0 by omega]), ht9⟩) (fun q h => nomatch h) d_B_choose_39
      | succ k ih12 =>
        intro i t hk htt ls hl
        have hle := chI_le a (by omega) s0 (by omega) (by omega) i (by omega) (by omega)
        have hm9 : t * (a - s0 + (i + 1)) ≤ 155117520 * 31 := Nat.mul_le_mul (by omega) (by omega)
        refine lv_iload hx hb d_B_choose_12 (lv_at hl 3 rfl) ?_
        refine lv_iload_n hx hb d_B_choose_14 rfl (lv_at hl 1 rfl) ?_
        refine bk_icmp_gt (a := i + 1) (b := s0) (tgt := 38) hx hb (by omega) (by omega) d_B_choose_15 (by decide) (fun c15 => by exfalso; omega) (fun c15 => ?_)
        refine lv_lload_n hx hb d_B_choose_18 rfl (lv_at hl 2 rfl) ?_
        refine lv_iload_n hx hb d_B_choose_19 rfl (lv_at hl 0 rfl) ?_
        refine lv_iload_n hx hb d_B_choose_20 rfl (lv_at hl 1 rfl) ?_
        refine bk_isub hx hb (by omega) d_B_choose_21 ?_
        refine lv_iload hx hb d_B_choose_22 (lv_at hl 3 rfl) ?_
        refine bk_iadd hx hb d_B_choose_24 ?_
        refine bk_i2l hx hb (by omega) d_B_choose_25 ?_
        refine bk_lmul hx hb d_B_choose_26 ?_
        refine lv_iload hx hb d_B_choose_27 (lv_at hl 3 rfl) ?_
        refine bk_i2l hx hb (by omega) d_B_choose_29 ?_
        refine bk_ldiv hx hb (by omega) (by omega) (by omega) d_B_choose_30 ?_
        refine lv_lstore_n (lv' := [(2, .long (lN ((t * ((a - s0) + (i + 1))) / (i + 1)))), (0, .int (nI a)), (1, .int (nI s0)), (4, .int (nI (i + 1)))]) hx hb d_B_choose_31 rfl hl (by decide) rfl (fun ls hl => ?_)
        refine lv_iinc (v := nI (i + 1 + 1)) (lv' := [(4, .int (nI (i + 1 + 1))), (2, .long (lN ((t * ((a - s0) + (i + 1))) / (i + 1)))), (0, .int (nI a)), (1, .int (nI s0))]) hx hb d_B_choose_32 hl (k := 3) rfl (bk_inc (i + 1)) (by decide) rfl (fun ls hl => ?_)
        refine lv_goto (tgt := 12) hx hb d_B_choose_35 (by decide) ?_
        exact ih12 (i + 1) ((t * ((a - s0) + (i + 1))) / (i + 1)) (by omega) (by rw [htt]; rfl) ls (lv_sub hl [2, 3, 1, 0] rfl)
    exact J12 s0 0 1 (by omega) rfl ls (lv_sub hl [2, 3, 1, 0] rfl)
  · refine lv_lconst (v := lN 0) hx hb d_B_choose_5 (by decide +kernel) ?_
    exact W.lret (v := lN 0) hx hb hr (fun t9 ht9 hW9 => ⟨lN 0, rfl, (by rw [chs, if_pos (by omega)]), ht9⟩) (fun q h => nomatch h) d_B_choose_6
set_option maxHeartbeats 4000000 in
set_option maxRecDepth 100000 in
theorem c_B_commonDivisor (l : Launch) (dC : Nat → ClassId) (dI : Nat → Nat → Nat) (cI cL cZ : ClassId) (a b : Nat) (ha : a < 2 ^ 62) (hb0 : b < 2 ^ 62) : Met l y_B_commonDivisor ws_B_commonDivisor { frames := 0, cells := 0, slots := 0, locals := 0 } (va_Pc [.long (lN a), .long (lN b)] (fun _ => True)) (vp_Sl (fun r => r = lN (gcdF 128 a b))) 0 0 (fun _ => False) := by
  refine Met.ofW (cc := b_B_commonDivisor) (maxL := 11) (ret := (some .long)) (by decide) rfl ?_
  intro pr en s m args below meth c s₁ B hml hv
  obtain ⟨rfl, -⟩ := hv
  have hx := B.exec
  have hb := B.bytes
  have hr := B.returns
  have hts := atoms_spec (ws := ws_B_commonDivisor) B.pre
  have htg : ∀ w ∈ gW, w.before _ s = true := fun w h => hts w (List.mem_cons_of_mem _ h)
  have hown : s.vm.findClass R_B = some m.cls := findClass_of_methodNamed B.named
  have hlocks := B.notSynchronized
  have hl := lv_entry ([.long (lN a), .long (lN b)]) (n := 11) (Nat.le_of_ble_eq_true rfl)
  rw [lg_entry_eq]
  generalize (lg_sl ([.long (lN a), .long (lN b)]) ++ List.replicate (11 - (lg_sl ([.long (lN a), .long (lN b)])).length) Slot.unset).toArray = ls at hl ⊢
  have hl : lv_has ls 11 [(0, .long (lN a)), (2, .long (lN b))] := hl
  refine lv_lload_n hx hb d_B_commonDivisor_0 rfl (lv_at hl 0 rfl) ?_
  refine lv_lstore (lv' := [(4, .long (lN a)), (0, .long (lN a)), (2, .long (lN b))]) hx hb d_B_commonDivisor_1 hl (by decide) rfl (fun ls hl => ?_)
  refine lv_lload_n hx hb d_B_commonDivisor_3 rfl (lv_at hl 2 rfl) ?_
  refine lv_lstore (lv' := [(6, .long (lN b)), (4, .long (lN a)), (0, .long (lN a)), (2, .long (lN b))]) hx hb d_B_commonDivisor_4 hl (by decide) rfl (fun ls hl => ?_)
  refine lv_iconst (v := nI 0) hx hb d_B_commonDivisor_6 (by decide +kernel) ?_
  refine lv_istore (lv' := [(8, .int (nI 0)), (6, .long (lN b)), (4, .long (lN a)), (0, .long (lN a)), (2, .long (lN b))]) hx hb d_B_commonDivisor_7 hl (by decide) rfl (fun ls hl => ?_)
  have J9 : ∀ (k : Nat) (i : Nat) (g : Nat) (l0 : Nat), (i + k = 128) → (gcdF k g l0 = gcdF 128 a b) → (g < 2 ^ 62) → (l0 < 2 ^ 62) → ∀ (ls : Array Slot), lv_has ls 11 [(4, .long (lN g)), (6, .long (lN l0)), (8, .int (nI i))] → W pr l en (headSpec ws_B_commonDivisor { frames := 0, cells := 0, slots := 0, locals := 0 }).room s m ([.long (lN a), .long (lN b)] : List Value).toArray below meth c s.heap [] 0 0 (MQ below (vp_Sl (fun r => r = lN (gcdF 128 a b))) ([.long (lN a), .long (lN b)] : List Value).toArray s 0 0 (fun _ => False)) (F0 m 9 ls []) := by
    intro k
    induction k with
    | zero =>
      intro i g l0 hk hg h1 h2 ls hl
      refine lv_iload hx hb d_B_commonDivisor_9 (lv_at hl 2 rfl) ?_
      refine lv_sipush (v := nI 128) hx hb d_B_commonDivisor_11 (by decide +kernel) ?_
      refine bk_icmp_ge (a := i) (b := 128) (tgt := 45) hx hb (by omega) (by omega) d_B_commonDivisor_14 (by decide) (fun c14 => ?_) (fun c14 => by exfalso; omega)
      refine lv_lload hx hb d_B_commonDivisor_45 (lv_at hl 0 rfl) ?_
      exact W.lret (v := lN g) hx hb hr (fun t9 ht9 hW9 => ⟨lN g, rfl, (by first | (rw [gcdF] at hg; rw [hg]; done) | (rw [gcdF, if_pos c20] at hg; rw [hg])), ht9⟩) (fun q h => nomatch h) d_B_commonDivisor_47
    | succ k ih9 =>
      intro i g l0 hk hg h1 h2 ls hl
      refine lv_iload hx hb d_B_commonDivisor_9 (lv_at hl 2 rfl) ?_
      refine lv_sipush (v := nI 128) hx hb d_B_commonDivisor_11 (by decide +kernel) ?_
      refine bk_icmp_ge (a := i) (b := 128) (tgt := 45) hx hb (by omega) (by omega) d_B_commonDivisor_14 (by decide) (fun c14 => by exfalso; omega) (fun c14 => ?_)
      refine lv_lload hx hb d_B_commonDivisor_17 (lv_at hl 1 rfl) ?_
      refine lv_lconst (v := lN 0) hx hb d_B_commonDivisor_19 (by decide +kernel) ?_
      refine bk_ncmp_eq (a := l0) (b := 0) (tgt := 45) hx hb (by omega) (by omega) d_B_commonDivisor_20 d_B_commonDivisor_21 (by decide) (fun c20 => ?_) (fun c20 => ?_)
      · refine lv_lload hx hb d_B_commonDivisor_45 (lv_at hl 0 rfl) ?_
        exact W.lret (v := lN g) hx hb hr (fun t9 ht9 hW9 => ⟨lN g, rfl, (by first | (rw [gcdF] at hg; rw [hg]; done) | (rw [gcdF, if_pos c20] at hg; rw [hg])), ht9⟩) (fun q h => nomatch h) d_B_commonDivisor_47
      · refine lv_lload hx hb d_B_commonDivisor_24 (lv_at hl 0 rfl) ?_
        refine lv_lload hx hb d_B_commonDivisor_26 (lv_at hl 1 rfl) ?_
        refine bk_lrem hx hb (by omega) (by omega) (by omega) d_B_commonDivisor_28 ?_
        refine lv_lstore (lv' := [(9, .long (lN (g % l0))), (4, .long (lN g)), (6, .long (lN l0)), (8, .int (nI i))]) hx hb d_B_commonDivisor_29 hl (by decide) rfl (fun ls hl => ?_)
        refine lv_lload hx hb d_B_commonDivisor_31 (lv_at hl 2 rfl) ?_
        refine lv_lstore (lv' := [(4, .long (lN l0)), (9, .long (lN (g % l0))), (6, .long (lN l0)), (8, .int (nI i))]) hx hb d_B_commonDivisor_33 hl (by decide) rfl (fun ls hl => ?_)
        refine lv_lload hx hb d_B_commonDivisor_35 (lv_at hl 1 rfl) ?_
        refine lv_lstore (lv' := [(6, .long (lN (g % l0))), (4, .long (lN l0)), (9, .long (lN (g % l0))), (8, .int (nI i))]) hx hb d_B_commonDivisor_37 hl (by decide) rfl (fun ls hl => ?_)
        refine lv_iinc (v := nI (i + 1)) (lv' := [(8, .int (nI (i + 1))), (6, .long (lN (g % l0))), (4, .long (lN l0)), (9, .long (lN (g % l0)))]) hx hb d_B_commonDivisor_39 hl (k := 3) rfl (bk_inc i) (by decide) rfl (fun ls hl => ?_)
        refine lv_goto (tgt := 9) hx hb d_B_commonDivisor_42 (by decide) ?_
        exact ih9 (i + 1) l0 (g % l0) (by omega) (by rw [gcdF, if_neg c20] at hg; exact hg) (by omega) (Nat.lt_of_lt_of_le (Nat.mod_lt _ (by omega)) (by omega)) ls (lv_sub hl [2, 1, 0] rfl)
  exact J9 128 0 a b (by omega) rfl ha hb0 ls (lv_sub hl [2, 1, 0] rfl)
