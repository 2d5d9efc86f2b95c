theorem nests_in : ∀ w ∈ nests, w ∈ lw_tbl := by
  intro w hw
  simp only [nests, List.mem_cons, List.not_mem_nil, or_false] at hw
  rcases hw with rfl | rfl | rfl | rfl | rfl | rfl | rfl | rfl | rfl | rfl | rfl | rfl
  · exact List.mem_append_right _ (in1 (List.mem_of_getElem? (i := 26) rfl))
  · exact List.mem_append_right _ (in1 (List.mem_of_getElem? (i := 75) rfl))
  · exact List.mem_append_right _ (in1 (List.mem_of_getElem? (i := 113) rfl))
  · exact List.mem_append_right _ (in1 (List.mem_of_getElem? (i := 131) rfl))
  · exact List.mem_append_right _ (in1 (List.mem_of_getElem? (i := 196) rfl))
  · exact List.mem_append_right _ (in1 (List.mem_of_getElem? (i := 199) rfl))
  · exact List.mem_append_right _ (in1 (List.mem_of_getElem? (i := 203) rfl))
  · exact List.mem_append_right _ (in1 (List.mem_of_getElem? (i := 206) rfl))
  · exact List.mem_append_right _ (in2 (List.mem_of_getElem? (i := 54) rfl))
  · exact List.mem_append_right _ (in2 (List.mem_of_getElem? (i := 67) rfl))
  · exact List.mem_append_right _ (in2 (List.mem_of_getElem? (i := 116) rfl))
  · exact List.mem_append_right _ (in2 (List.mem_of_getElem? (i := 195) rfl))
theorem nests_ot : ∀ w ∈ nests, w.onTables = true := by decide +kernel
theorem arr_known {ty : FieldType} {args : Array Value} {s : State} (h : (Cond.arrayClass ty).before args s = true) : ∃ cA, ArrOfT s cA ty ∧ s.vm.findClass ("[" ++ ty.toString) = some cA := by
  obtain ⟨cA, kA, comp, h1, h2, h3⟩ := Cond.arrayClass_spec h
  exact ⟨cA, fun n z => ⟨fun k h => (by cases h), kA, h2, comp, h3⟩, h1⟩
set_option maxHeartbeats 4000000 in
set_option maxRecDepth 100000 in
theorem c_Lw_cell (l : Launch) (b L : Nat) (xs : Nat → Int32) (hL : L ≤ 3073) : Met l y_Lw_cell ws_Lw_cell { frames := 0, cells := 0, slots := 0, locals := 0 } (va_Pc [.ref b, .int (nI 0)] (fun U => va_X b L xs U U.heap)) (vp_Si (fun r => r = (if 0 < L then xs 0 else nI 0))) 0 0 (fun _ => False) := by
  refine Met.ofW (cc := b_Lw_cell) (maxL := 2) (ret := (some .int)) (by decide) rfl ?_
  intro pr en s m args below meth c s₁ B hml hv
  obtain ⟨rfl, hX⟩ := hv
  have hx := B.exec
  have hb := B.bytes
  have hr := B.returns
  have hlocks := B.notSynchronized
  have hbl : b < s.heap.size := by
    obtain ⟨scr, h1, -⟩ := hX
    exact (Array.getElem?_eq_some_iff.mp h1).1
  have hS : va_S (fun _ => False) s.heap s.heap [] := va_S.rf
  have hl := lv_entry ([.ref b, .int (nI 0)]) (n := 2) (Nat.le_of_ble_eq_true rfl)
  rw [lg_entry_eq]
  generalize (lg_sl ([.ref b, .int (nI 0)]) ++ List.replicate (2 - (lg_sl ([.ref b, .int (nI 0)])).length) Slot.unset).toArray = ls at hl ⊢
  have hl : lv_has ls 2 [(0, .ref b), (1, .int (nI 0))] := hl
  refine lv_iload_n hx hb d_Lw_cell_0 rfl (lv_at hl 1 rfl) ?_
  refine lv_aload_n hx hb d_Lw_cell_1 rfl (lv_at hl 0 rfl) ?_
  refine va_slen hx hb hX hbl (fun h => h) hS d_Lw_cell_2 ?_
  refine bk_icmp_ge (a := 0) (b := L) (tgt := 12) hx hb (by omega) (by omega) d_Lw_cell_3 (by decide) (fun c3 => ?_) (fun c3 => ?_)
  · refine lv_iconst (v := nI 0) hx hb d_Lw_cell_12 (by decide +kernel) ?_
    exact W.iret (v := nI 0) hx hb hr (fun t9 ht9 hW9 => ⟨nI 0, rfl, (by rw [if_neg (by omega)]), ht9⟩) (fun q h => nomatch h) d_Lw_cell_13
  · refine lv_aload_n hx hb d_Lw_cell_6 rfl (lv_at hl 0 rfl) ?_
    refine lv_iload_n hx hb d_Lw_cell_7 rfl (lv_at hl 1 rfl) ?_
    refine bk_sld hx hb hX hbl (fun h => h) hS (show 0 < L by omega) (by omega) d_Lw_cell_8 ?_
    refine lv_goto (tgt := 13) hx hb d_Lw_cell_9 (by decide) ?_
    exact W.iret (v := xs 0) hx hb hr (fun t9 ht9 hW9 => ⟨xs 0, rfl, (by rw [if_pos c3]), ht9⟩) (fun q h => nomatch h) d_Lw_cell_13
theorem start_K {s : State} {args : Array Value} (htg : ∀ w ∈ gW, w.before args s = true) : ∃ (dC : Nat → ClassId) (dI : Nat → Nat → Nat) (cI cL cZ : ClassId), va_K (dC, dI) vwCl [(cI, .int), (cL, .long), (cZ, .boolean)] s := by
  obtain ⟨k0, iS0, hKn0⟩ := u_known (C := R_B) (T := F_B) (N := 10) (n := 10) htg iw_B (htg _ k1_17)
  obtain ⟨k1, iS1, hKn1⟩ := u_known (C := R_Bk) (T := F_Bk) (N := 5) (n := 5) htg iw_Bk (htg _ k1_25)
  obtain ⟨k2, iS2, hKn2⟩ := u_known (C := R_Jo) (T := F_Jo) (N := 2) (n := 2) htg iw_Jo (htg _ k1_57)
  obtain ⟨k3, iS3, hKn3⟩ := u_known (C := R_Pl) (T := F_Pl) (N := 6) (n := 6) htg iw_Pl (htg _ k1_74)
  obtain ⟨k4, iS4, hKn4⟩ := u_known (C := R_Ri) (T := F_Ri) (N := 2) (n := 2) htg iw_Ri (htg _ k1_99)
  obtain ⟨k5, iS5, hKn5⟩ := u_known (C := R_Ro) (T := F_Ro) (N := 3) (n := 3) htg iw_Ro (htg _ k1_112)
  obtain ⟨k6, iS6, hKn6⟩ := u_known (C := R_Wa) (T := F_Wa) (N := 1) (n := 1) htg iw_Wa (htg _ k1_130)
  obtain ⟨k7, iS7, hKn7⟩ := u_known (C := R_Ac) (T := F_Ac) (N := 3) (n := 3) htg iw_Ac (htg _ k1_140)
  obtain ⟨k8, iS8, hKn8⟩ := u_known (C := R_Mo) (T := F_Mo) (N := 27) (n := 27) htg iw_Mo (htg _ k3_47)
  obtain ⟨cI, hI1, hI2⟩ := arr_known (htg _ k1_54)
  obtain ⟨cL, hJ1, hJ2⟩ := arr_known (htg _ k1_55)
  obtain ⟨cZ, hZ1, hZ2⟩ := arr_known (htg _ k3_134)
  refine ⟨fun k => if k = 0 then k0 else if k = 1 then k1 else if k = 2 then k2 else if k = 3 then k3 else if k = 4 then k4 else if k = 5 then k5 else if k = 6 then k6 else if k = 7 then k7 else k8, fun k => if k = 0 then iS0 else if k = 1 then iS1 else if k = 2 then iS2 else if k = 3 then iS3 else if k = 4 then iS4 else if k = 5 then iS5 else if k = 6 then iS6 else if k = 7 then iS7 else iS8, cI, cL, cZ, fun k q hq => ?_, fun k q hq => ?_⟩
  · match k, hq with
    | 0, hq => cases hq; exact hKn0
    | 1, hq => cases hq; exact hKn1
    | 2, hq => cases hq; exact hKn2
    | 3, hq => cases hq; exact hKn3
    | 4, hq => cases hq; exact hKn4
    | 5, hq => cases hq; exact hKn5
    | 6, hq => cases hq; exact hKn6
    | 7, hq => cases hq; exact hKn7
    | 8, hq => cases hq; exact hKn8
    | k + 9, hq => simp [vwCl] at hq
  · match k, hq with
    | 0, hq => cases hq; exact ⟨hI1, hI2⟩
    | 1, hq => cases hq; exact ⟨hJ1, hJ2⟩
    | 2, hq => cases hq; exact ⟨hZ1, hZ2⟩
    | k + 3, hq => simp at hq
