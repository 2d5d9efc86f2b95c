theorem hd_le {L i : Nat} (hL : L ≤ 3073) (hi : i < 2 ^ 20) (h : ¬ nI L - nI 6 < nI i) : i + 6 ≤ L := by
  rw [Int32.lt_iff_toInt_lt, pk_sub_toInt (by omega) (by decide), nI_toInt (by omega)] at h
  omega
set_option maxHeartbeats 8000000 in
set_option maxRecDepth 100000 in
theorem law_loop {p : Program} {l : Launch} {e : Env} {s : State} {m : MethodId} {below : List Frame} {meth : Method} {c : Code} {dC : Nat → ClassId} {dI : Nat → Nat → Nat} {cI cL cZ : ClassId} {b L : Nat} {xs : Nat → Int32} (hL : L ≤ 3073) (C0 : lw_At p s m meth c b L xs) (hN : nw s) (hK : va_K (dC, dI) vwCl [(cI, .int), (cL, .long), (cZ, .boolean)] s) (ad : Nat → Nat) (sd : Int64) (hlt : l.stackTraces = false) : ∀ (k n0 : Nat) (cn : Nat → Nat) (ms : Nat → Nat) (md : Nat → Nat) (mk : Nat → Nat) (mg : Nat → Nat) (sp : Nat → Option Nat) (ps : Nat → Option Nat) (so : Nat → Option Nat) (bo : Nat → Bool) (pn : Nat) (inn : Nat → Nat) (pk : Nat → Nat) (ou : Nat → Nat) (ok : Nat → Nat) (og : Nat → Nat) (wt : Nat → Nat) (wl : Nat → Nat) (dc : Nat) (as0 : Nat) (tk : Nat → Nat) (dr : Nat → Nat) (qc : Nat) (qa : Nat) (qt : Nat → Nat) (tc : Nat) (tr : Nat → Nat) (go : Nat → Bool) (mn : Nat → Nat) (wa : Nat → Bool) (sa : Nat → Nat) (wr : Nat → Nat) (pe : Nat → Option Nat) (ch : Nat → Nat) (co : Nat) (ov : Nat → Nat), n0 + k = 513 → lwI cn ms md mk mg sp ps so bo pn inn pk ou ok og wt wl dc as0 tk dr qc qa qt tc tr go mn wa sa wr pe ch co ov → ∀ (H : Heap) (locs : List Loc), va_P (dC, dI) vwCl (lwW cI cL cZ ad sd cn ms md mk mg sp ps so bo pn inn pk ou ok og wt wl dc as0 tk dr qc qa qt tc tr go mn wa sa wr pe ch co ov) H → va_D (fun q : Nat => s.heap.size ≤ q) (lwW cI cL cZ ad sd cn ms md mk mg sp ps so bo pn inn pk ou ok og wt wl dc as0 tk dr qc qa qt tc tr go mn wa sa wr pe ch co ov) → va_S (fun q : Nat => s.heap.size ≤ q) s.heap H locs → ∀ (ls : Array Slot), lv_has ls 8 [(0, .ref b), (1, .ref (ad 0)), (2, .ref (ad 33)), (3, .ref (ad 55)), (4, .int (nI (1 + 6 * n0)))] → W p l e room_1 s m #[Value.ref b] below meth c H locs (56 + n0) (2255 + 6 * n0) (lw_Z below #[Value.ref b] s) (F0 m 35 ls []) := by
  obtain ⟨hx, hb, hr, hml, hown, hts, hX, hbl, hlocks, hgv⟩ := id C0
  have hbA : ¬ (fun q : Nat => s.heap.size ≤ q) b := Nat.not_le.mpr hbl
  intro k
  induction k with
  | zero =>
    intro n0 cn ms md mk mg sp ps so bo pn inn pk ou ok og wt wl dc as0 tk dr qc qa qt tc tr go mn wa sa wr pe ch co ov hk hI H locs hP hD hS ls hl
    refine lv_iload hx hb d_Lw_law_35 (lv_at hl 4 rfl) ?_
    refine lv_aload_n hx hb d_Lw_law_37 rfl (lv_at hl 0 rfl) ?_
    refine va_slen hx hb hX hbl hbA hS d_Lw_law_38 ?_
    refine lv_bipush (v := nI 6) hx hb d_Lw_law_39 (by decide +kernel) ?_
    refine lv_isub hx hb d_Lw_law_41 ?_
    refine lv_icmp_gt (x := nI (1 + 6 * n0)) (y := nI L - nI 6) (tgt := 1110) hx hb d_Lw_law_42 (by decide) (fun c42 => ?_) (fun c42 => ?_)
    · refine lv_iconst (v := 1) hx hb d_Lw_law_1110 (by decide) ?_
      refine va_forget (fun q hq => hS.2.2 q hq) ?_
      refine W.widen (k := 1081) (n := 10453) (by omega) (by omega) ?_
      exact lw_ret hx hb hr hlocks d_Lw_law_1111
    · exfalso
      have := hd_le hL (by omega) c42
      omega
  | succ k ih =>
    intro n0 cn ms md mk mg sp ps so bo pn inn pk ou ok og wt wl dc as0 tk dr qc qa qt tc tr go mn wa sa wr pe ch co ov hk hI H locs hP hD hS ls hl
    refine lv_iload hx hb d_Lw_law_35 (lv_at hl 4 rfl) ?_
    refine lv_aload_n hx hb d_Lw_law_37 rfl (lv_at hl 0 rfl) ?_
    refine va_slen hx hb hX hbl hbA hS d_Lw_law_38 ?_
    refine lv_bipush (v := nI 6) hx hb d_Lw_law_39 (by decide +kernel) ?_
    refine lv_isub hx hb d_Lw_law_41 ?_
    refine lv_icmp_gt (x := nI (1 + 6 * n0)) (y := nI L - nI 6) (tgt := 1110) hx hb d_Lw_law_42 (by decide) (fun c42 => ?_) (fun c42 => ?_)
    · refine lv_iconst (v := 1) hx hb d_Lw_law_1110 (by decide) ?_
      refine va_forget (fun q hq => hS.2.2 q hq) ?_
      refine W.widen (k := 1081) (n := 10453) (by omega) (by omega) ?_
      exact lw_ret hx hb hr hlocks d_Lw_law_1111
    · have hi6 := hd_le hL (by omega) c42
      have K : ∀ (cn : Nat → Nat) (ms : Nat → Nat) (md : Nat → Nat) (mk : Nat → Nat) (mg : Nat → Nat) (sp : Nat → Option Nat) (ps : Nat → Option Nat) (so : Nat → Option Nat) (bo : Nat → Bool) (pn : Nat) (inn : Nat → Nat) (pk : Nat → Nat) (ou : Nat → Nat) (ok : Nat → Nat) (og : Nat → Nat) (wt : Nat → Nat) (wl : Nat → Nat) (dc : Nat) (as0 : Nat) (tk : Nat → Nat) (dr : Nat → Nat) (qc : Nat) (qa : Nat) (qt : Nat → Nat) (tc : Nat) (tr : Nat → Nat) (go : Nat → Bool) (mn : Nat → Nat) (wa : Nat → Bool) (sa : Nat → Nat) (wr : Nat → Nat) (pe : Nat → Option Nat) (ch : Nat → Nat) (co : Nat) (ov : Nat → Nat), lwI cn ms md mk mg sp ps so bo pn inn pk ou ok og wt wl dc as0 tk dr qc qa qt tc tr go mn wa sa wr pe ch co ov → ∀ (H : Heap) (locs : List Loc), va_P (dC, dI) vwCl (lwW cI cL cZ ad sd cn ms md mk mg sp ps so bo pn inn pk ou ok og wt wl dc as0 tk dr qc qa qt tc tr go mn wa sa wr pe ch co ov) H → va_D (fun q : Nat => s.heap.size ≤ q) (lwW cI cL cZ ad sd cn ms md mk mg sp ps so bo pn inn pk ou ok og wt wl dc as0 tk dr qc qa qt tc tr go mn wa sa wr pe ch co ov) → va_S (fun q : Nat => s.heap.size ≤ q) s.heap H locs → ∀ (ls : Array Slot), lv_has ls 8 [(0, .ref b), (1, .ref (ad 0)), (2, .ref (ad 33)), (3, .ref (ad 55)), (4, .int (nI (1 + 6 * n0)))] → W p l e room_1 s m #[Value.ref b] below meth c H locs (56 + n0 + 1) (2255 + 6 * n0 + 6) (lw_Z below #[Value.ref b] s) (F0 m 1104 ls []) := by
        intro cn ms md mk mg sp ps so bo pn inn pk ou ok og wt wl dc as0 tk dr qc qa qt tc tr go mn wa sa wr pe ch co ov hI H locs hP hD hS ls hl
        refine lv_iinc (v := nI (1 + 6 * (n0 + 1))) (lv' := [(4, .int (nI (1 + 6 * (n0 + 1)))), (0, .ref b), (1, .ref (ad 0)), (2, .ref (ad 33)), (3, .ref (ad 55))]) hx hb d_Lw_law_1104 hl (k := 4) rfl (by rw [show 1 + 6 * (n0 + 1) = (1 + 6 * n0) + 6 by omega]; exact nI_add _ 6) (by decide) rfl (fun ls hl => ?_)
        refine lv_goto (tgt := 35) hx hb d_Lw_law_1107 (by decide) ?_
        refine W.widen (k := 56 + (n0 + 1)) (n := 2255 + 6 * (n0 + 1)) (by omega) (by omega) ?_
        exact ih (n0 + 1) cn ms md mk mg sp ps so bo pn inn pk ou ok og wt wl dc as0 tk dr qc qa qt tc tr go mn wa sa wr pe ch co ov (by omega) hI H locs hP hD hS ls (lv_sub hl [1, 2, 3, 4, 0] rfl)
      refine lv_aload_n hx hb d_Lw_law_45 rfl (lv_at hl 0 rfl) ?_
      refine lv_iload hx hb d_Lw_law_46 (lv_at hl 4 rfl) ?_
      refine bk_sld hx hb hX hbl hbA hS (show 1 + 6 * n0 < L by omega) (by omega) d_Lw_law_48 ?_
      refine lv_bipush (v := nI 31) hx hb d_Lw_law_49 (by decide +kernel) ?_
      refine lv_iand hx hb d_Lw_law_51 ?_
      have wd : 56 + n0 ≤ 56 + n0 + 1 ∧ 2255 + 6 * n0 ≤ 2255 + 6 * n0 + 6 := ⟨by omega, by omega⟩
      rcases pk_ix (xs (1 + 6 * n0) &&& nI 31) (n := 22) (by decide) with t52 | t52 | ⟨jt, hjt, t52⟩
      · refine lv_tableOut (tgt := 1104) hx hb d_Lw_law_52 (Or.inl (by rw [Int32.lt_iff_toInt_lt] at t52; exact t52)) (by decide) ?_
        refine W.widen wd.1 wd.2 ?_
        exact K cn ms md mk mg sp ps so bo pn inn pk ou ok og wt wl dc as0 tk dr qc qa qt tc tr go mn wa sa wr pe ch co ov hI H locs hP hD hS ls (lv_sub hl [0, 1, 2, 3, 4] rfl)
      · refine lv_tableOut (tgt := 1104) hx hb d_Lw_law_52 (Or.inr (by rw [Int32.le_iff_toInt_le, nI_toInt (by decide)] at t52; omega)) (by decide) ?_
        refine W.widen wd.1 wd.2 ?_
        exact K cn ms md mk mg sp ps so bo pn inn pk ou ok og wt wl dc as0 tk dr qc qa qt tc tr go mn wa sa wr pe ch co ov hI H locs hP hD hS ls (lv_sub hl [0, 1, 2, 3, 4] rfl)
      · rcases (show jt = 0 ∨ jt = 1 ∨ jt = 2 ∨ jt = 3 ∨ jt = 4 ∨ jt = 5 ∨ jt = 6 ∨ jt = 7 ∨ jt = 8 ∨ jt = 9 ∨ jt = 10 ∨ jt = 11 ∨ jt = 12 ∨ jt = 13 ∨ jt = 14 ∨ jt = 15 ∨ jt = 16 ∨ jt = 17 ∨ jt = 18 ∨ jt = 19 ∨ jt = 20 ∨ jt = 21 by omega) with rfl | rfl | rfl | rfl | rfl | rfl | rfl | rfl | rfl | rfl | rfl | rfl | rfl | rfl | rfl | rfl | rfl | rfl | rfl | rfl | rfl | rfl
        · refine bk_topi (y := nI 0) t52 ?_
          refine lv_tableIn (off := 104) (tgt := 156) hx hb d_Lw_law_52 (by decide) (by decide) (by decide) (by decide) ?_
          exact lc_page hL C0 hN hK ad sd n0 (56 + n0) (2255 + 6 * n0) hi6 (by omega) (by omega) cn ms md mk mg sp ps so bo pn inn pk ou ok og wt wl dc as0 tk dr qc qa qt tc tr go mn wa sa wr pe ch co ov hI H locs hP hD hS ls hl K
        · refine bk_topi (y := nI 1) t52 ?_
          refine lv_tableIn (off := 197) (tgt := 249) hx hb d_Lw_law_52 (by decide) (by decide) (by decide) (by decide) ?_
          exact lc_sale hL C0 hN hK ad sd n0 (56 + n0) (2255 + 6 * n0) hi6 (by omega) (by omega) cn ms md mk mg sp ps so bo pn inn pk ou ok og wt wl dc as0 tk dr qc qa qt tc tr go mn wa sa wr pe ch co ov hI H locs hP hD hS ls hl K
        · refine bk_topi (y := nI 2) t52 ?_
          refine lv_tableIn (off := 290) (tgt := 342) hx hb d_Lw_law_52 (by decide) (by decide) (by decide) (by decide) ?_
          exact lc_run hL C0 hN hK ad sd n0 (56 + n0) (2255 + 6 * n0) hi6 (by omega) (by omega) cn ms md mk mg sp ps so bo pn inn pk ou ok og wt wl dc as0 tk dr qc qa qt tc tr go mn wa sa wr pe ch co ov hI H locs hP hD hS ls hl K
        · refine bk_topi (y := nI 3) t52 ?_
          refine lv_tableIn (off := 303) (tgt := 355) hx hb d_Lw_law_52 (by decide) (by decide) (by decide) (by decide) ?_
          exact lc_pair hL C0 hN hK ad sd n0 (56 + n0) (2255 + 6 * n0) hi6 (by omega) (by omega) cn ms md mk mg sp ps so bo pn inn pk ou ok og wt wl dc as0 tk dr qc qa qt tc tr go mn wa sa wr pe ch co ov hI H locs hP hD hS ls hl K
        · refine bk_topi (y := nI 4) t52 ?_
          refine lv_tableIn (off := 328) (tgt := 380) hx hb d_Lw_law_52 (by decide) (by decide) (by decide) (by decide) ?_
          exact lc_points hL C0 hN hK ad sd n0 (56 + n0) (2255 + 6 * n0) hi6 (by omega) (by omega) cn ms md mk mg sp ps so bo pn inn pk ou ok og wt wl dc as0 tk dr qc qa qt tc tr go mn wa sa wr pe ch co ov hI H locs hP hD hS ls hl K
        · refine bk_topi (y := nI 5) t52 ?_
          refine lv_tableIn (off := 353) (tgt := 405) hx hb d_Lw_law_52 (by decide) (by decide) (by decide) (by decide) ?_
          exact lc_differs hL C0 hN hK ad sd n0 (56 + n0) (2255 + 6 * n0) hi6 (by omega) (by omega) cn ms md mk mg sp ps so bo pn inn pk ou ok og wt wl dc as0 tk dr qc qa qt tc tr go mn wa sa wr pe ch co ov hI H locs hP hD hS ls hl K
        · refine bk_topi (y := nI 6) t52 ?_
          refine lv_tableIn (off := 379) (tgt := 431) hx hb d_Lw_law_52 (by decide) (by decide) (by decide) (by decide) ?_
          exact lc_waits hL C0 hN hK ad sd n0 (56 + n0) (2255 + 6 * n0) hi6 (by omega) (by omega) cn ms md mk mg sp ps so bo pn inn pk ou ok og wt wl dc as0 tk dr qc qa qt tc tr go mn wa sa wr pe ch co ov hI H locs hP hD hS ls hl K
        · refine bk_topi (y := nI 7) t52 ?_
          refine lv_tableIn (off := 416) (tgt := 468) hx hb d_Lw_law_52 (by decide) (by decide) (by decide) (by decide) ?_
          exact lc_pageAt hL C0 hN hK ad sd n0 (56 + n0) (2255 + 6 * n0) hlt hi6 (by omega) (by omega) cn ms md mk mg sp ps so bo pn inn pk ou ok og wt wl dc as0 tk dr qc qa qt tc tr go mn wa sa wr pe ch co ov hI H locs hP hD hS ls hl K
        · refine bk_topi (y := nI 8) t52 ?_
          refine lv_tableIn (off := 471) (tgt := 523) hx hb d_Lw_law_52 (by decide) (by decide) (by decide) (by decide) ?_
          exact lc_balance hL C0 hN hK ad sd n0 (56 + n0) (2255 + 6 * n0) hi6 (by omega) (by omega) cn ms md mk mg sp ps so bo pn inn pk ou ok og wt wl dc as0 tk dr qc qa qt tc tr go mn wa sa wr pe ch co ov hI H locs hP hD hS ls hl K
        · refine bk_topi (y := nI 9) t52 ?_
          refine lv_tableIn (off := 497) (tgt := 549) hx hb d_Lw_law_52 (by decide) (by decide) (by decide) (by decide) ?_
          exact lc_plant hL C0 hN hK ad sd n0 (56 + n0) (2255 + 6 * n0) hi6 (by omega) (by omega) cn ms md mk mg sp ps so bo pn inn pk ou ok og wt wl dc as0 tk dr qc qa qt tc tr go mn wa sa wr pe ch co ov hI H locs hP hD hS ls hl K
        · refine bk_topi (y := nI 10) t52 ?_
          refine lv_tableIn (off := 566) (tgt := 618) hx hb d_Lw_law_52 (by decide) (by decide) (by decide) (by decide) ?_
          exact lc_out hL C0 hN hK ad sd n0 (56 + n0) (2255 + 6 * n0) hi6 (by omega) (by omega) cn ms md mk mg sp ps so bo pn inn pk ou ok og wt wl dc as0 tk dr qc qa qt tc tr go mn wa sa wr pe ch co ov hI H locs hP hD hS ls hl K
        · refine bk_topi (y := nI 11) t52 ?_
          refine lv_tableIn (off := 647) (tgt := 699) hx hb d_Lw_law_52 (by decide) (by decide) (by decide) (by decide) ?_
          exact lc_lacks hL C0 hN hK ad sd n0 (56 + n0) (2255 + 6 * n0) hi6 (by omega) (by omega) cn ms md mk mg sp ps so bo pn inn pk ou ok og wt wl dc as0 tk dr qc qa qt tc tr go mn wa sa wr pe ch co ov hI H locs hP hD hS ls hl K
        · refine bk_topi (y := nI 12) t52 ?_
          refine lv_tableIn (off := 673) (tgt := 725) hx hb d_Lw_law_52 (by decide) (by decide) (by decide) (by decide) ?_
          exact lc_nowhere hL C0 hN hK ad sd n0 (56 + n0) (2255 + 6 * n0) hi6 (by omega) (by omega) cn ms md mk mg sp ps so bo pn inn pk ou ok og wt wl dc as0 tk dr qc qa qt tc tr go mn wa sa wr pe ch co ov hI H locs hP hD hS ls hl K
        · refine bk_topi (y := nI 13) t52 ?_
          refine lv_tableIn (off := 710) (tgt := 762) hx hb d_Lw_law_52 (by decide) (by decide) (by decide) (by decide) ?_
          exact lc_risk hL C0 hN hK ad sd n0 (56 + n0) (2255 + 6 * n0) hi6 (by omega) (by omega) cn ms md mk mg sp ps so bo pn inn pk ou ok og wt wl dc as0 tk dr qc qa qt tc tr go mn wa sa wr pe ch co ov hI H locs hP hD hS ls hl K
        · refine bk_topi (y := nI 14) t52 ?_
          refine lv_tableIn (off := 759) (tgt := 811) hx hb d_Lw_law_52 (by decide) (by decide) (by decide) (by decide) ?_
          exact lc_draw hL C0 hN hK ad sd n0 (56 + n0) (2255 + 6 * n0) hi6 (by omega) (by omega) cn ms md mk mg sp ps so bo pn inn pk ou ok og wt wl dc as0 tk dr qc qa qt tc tr go mn wa sa wr pe ch co ov hI H locs hP hD hS ls hl K
        · refine bk_topi (y := nI 15) t52 ?_
          refine lv_tableIn (off := 784) (tgt := 836) hx hb d_Lw_law_52 (by decide) (by decide) (by decide) (by decide) ?_
          exact lc_drawn hL C0 hN hK ad sd n0 (56 + n0) (2255 + 6 * n0) hi6 (by omega) (by omega) cn ms md mk mg sp ps so bo pn inn pk ou ok og wt wl dc as0 tk dr qc qa qt tc tr go mn wa sa wr pe ch co ov hI H locs hP hD hS ls hl K
        · refine bk_topi (y := nI 16) t52 ?_
          refine lv_tableIn (off := 809) (tgt := 861) hx hb d_Lw_law_52 (by decide) (by decide) (by decide) (by decide) ?_
          exact lc_same hL C0 hN hK ad sd n0 (56 + n0) (2255 + 6 * n0) hi6 (by omega) (by omega) cn ms md mk mg sp ps so bo pn inn pk ou ok og wt wl dc as0 tk dr qc qa qt tc tr go mn wa sa wr pe ch co ov hI H locs hP hD hS ls hl K
        · refine bk_topi (y := nI 17) t52 ?_
          refine lv_tableIn (off := 866) (tgt := 918) hx hb d_Lw_law_52 (by decide) (by decide) (by decide) (by decide) ?_
          exact lc_missed hL C0 hN hK ad sd n0 (56 + n0) (2255 + 6 * n0) hi6 (by omega) (by omega) cn ms md mk mg sp ps so bo pn inn pk ou ok og wt wl dc as0 tk dr qc qa qt tc tr go mn wa sa wr pe ch co ov hI H locs hP hD hS ls hl K
        · refine bk_topi (y := nI 18) t52 ?_
          refine lv_tableIn (off := 916) (tgt := 968) hx hb d_Lw_law_52 (by decide) (by decide) (by decide) (by decide) ?_
          exact lc_camera hL C0 hN hK ad sd n0 (56 + n0) (2255 + 6 * n0) hi6 (by omega) (by omega) cn ms md mk mg sp ps so bo pn inn pk ou ok og wt wl dc as0 tk dr qc qa qt tc tr go mn wa sa wr pe ch co ov hI H locs hP hD hS ls hl K
        · refine bk_topi (y := nI 19) t52 ?_
          refine lv_tableIn (off := 953) (tgt := 1005) hx hb d_Lw_law_52 (by decide) (by decide) (by decide) (by decide) ?_
          exact lc_act hL C0 hN hK ad sd n0 (56 + n0) (2255 + 6 * n0) hi6 (by omega) (by omega) cn ms md mk mg sp ps so bo pn inn pk ou ok og wt wl dc as0 tk dr qc qa qt tc tr go mn wa sa wr pe ch co ov hI H locs hP hD hS ls hl K
        · refine bk_topi (y := nI 20) t52 ?_
          refine lv_tableIn (off := 1002) (tgt := 1054) hx hb d_Lw_law_52 (by decide) (by decide) (by decide) (by decide) ?_
          exact lc_state hL C0 hN hK ad sd n0 (56 + n0) (2255 + 6 * n0) hi6 (by omega) (by omega) cn ms md mk mg sp ps so bo pn inn pk ou ok og wt wl dc as0 tk dr qc qa qt tc tr go mn wa sa wr pe ch co ov hI H locs hP hD hS ls hl K
        · refine bk_topi (y := nI 21) t52 ?_
          refine lv_tableIn (off := 1027) (tgt := 1079) hx hb d_Lw_law_52 (by decide) (by decide) (by decide) (by decide) ?_
          exact lc_repeated hL C0 hN hK ad sd n0 (56 + n0) (2255 + 6 * n0) hi6 (by omega) (by omega) cn ms md mk mg sp ps so bo pn inn pk ou ok og wt wl dc as0 tk dr qc qa qt tc tr go mn wa sa wr pe ch co ov hI H locs hP hD hS ls hl K
