/-! class and reference answer alike -/
theorem nI_uniq {a b n : Nat} (hn : n < 2 ^ 31) {x : Int32} (ha : a < n) (hb : b < n) (e1 : x = nI a) (e2 : x = nI b) : a = b := (nI_eq (by omega) (by omega)).mp (e1.symm.trans e2)
theorem bkI_up {n : Nat} {sh dy kd gr : Nat → Nat} (h : bkI n sh dy kd gr) {x1 x2 x3 : Int32} {x4 : Int64} (ok : addOk n x1 x2 x3 x4) : bkI (n + 1) (va_up sh n (tn x1)) (va_up dy n (tn x2)) (va_up kd n (tn x3)) (va_up gr n (tl x4)) := by
  obtain ⟨h0, ⟨a, ha, rfl⟩, ⟨b, hb, rfl⟩, ⟨c, hc, rfl⟩, ⟨d, hd1, hd2, rfl⟩⟩ := ok
  refine ⟨by omega, fun j hj => ?_⟩
  by_cases e : j = n
  · rw [show va_up sh n (tn (nI a)) j = tn (nI a) from if_pos e, show va_up dy n (tn (nI b)) j = tn (nI b) from if_pos e, show va_up kd n (tn (nI c)) j = tn (nI c) from if_pos e, show va_up gr n (tl (lN d)) j = tl (lN d) from if_pos e, tn_nI (by omega), tn_nI (by omega), tn_nI (by omega), tl_lN (by omega)]
    exact ⟨ha, by omega, hc, hd1, hd2⟩
  · rw [show va_up sh n (tn (nI a)) j = sh j from if_neg e, show va_up dy n (tn (nI b)) j = dy j from if_neg e, show va_up kd n (tn (nI c)) j = kd j from if_neg e, show va_up gr n (tl (lN d)) j = gr j from if_neg e]
    exact h.2 j (by omega)
theorem bkI_congr {n : Nat} {sh dy kd gr sh2 dy2 kd2 gr2 : Nat → Nat} (h : bkI n sh dy kd gr) (e1 : ∀ j, j < 30 → sh2 j = sh j) (e2 : ∀ j, j < 30 → dy2 j = dy j) (e3 : ∀ j, j < 30 → kd2 j = kd j) (e4 : ∀ j, j < 30 → gr2 j = gr j) : bkI n sh2 dy2 kd2 gr2 := ⟨h.1, fun j hj => by
  have := h.1
  rw [e1 j (by omega), e2 j (by omega), e3 j (by omega), e4 j (by omega)]
  exact h.2 j hj⟩
theorem sh30_up (f : Nat → Nat) (n v : Nat) : sh30 (va_up f (30 + n) v) = va_up (sh30 f) n v := by
  funext j
  by_cases e : j = n
  · subst e; simp [sh30, va_up]
  · simp [sh30, va_up, e]
theorem sh30_low {f : Nat → Nat} {n v : Nat} (h : n < 30) : sh30 (va_up f n v) = sh30 f := by
  funext j
  show va_up f n v (30 + j) = f (30 + j)
  exact if_neg (by omega)
theorem low_up {f : Nat → Nat} {n v j : Nat} (h : j < 30) : va_up f (30 + n) v j = f j := if_neg (by omega)
theorem ag_pair {n : Nat} (hn : n ≤ 30) {sp so : Nat → Option Nat} (hso : ∀ p, p < n → so p = sp p) (hno : ∀ p k, sp p = some k → p < n) {x r r2 : Int32} (h1 : (∃ j, j < 30 ∧ x = nI j ∧ r = oI (sp j)) ∨ (¬ inR 30 x ∧ r = oI none)) (h2 : (∃ j, j < n ∧ x = nI j ∧ r2 = oI (so j)) ∨ (¬ inR n x ∧ r2 = oI none)) : r = r2 := by
  rcases h1 with ⟨j, hj, e, rfl⟩ | ⟨h1, rfl⟩
  · rcases h2 with ⟨k, hk, e2, rfl⟩ | ⟨h2, rfl⟩
    · rw [nI_uniq (n := 30) (by decide) hj (by omega) e e2, hso k hk]
    · have : sp j = none := by
        cases z : sp j with
        | none => rfl
        | some k => exact absurd ⟨j, hno j k z, e⟩ h2
      rw [this]
  · rcases h2 with ⟨k, hk, e2, rfl⟩ | ⟨h2, rfl⟩
    · exact absurd ⟨k, by omega, e2⟩ h1
    · rfl
theorem ag_joined {n : Nat} (hn : n ≤ 30) {sp so : Nat → Option Nat} (hso : ∀ p, p < n → so p = sp p) (hno : ∀ p k, sp p = some k → p < n) {α : Type} {x : Int32} {r r2 z0 : α} {f : Nat → Nat → α} (h1 : (∃ j k, j < 30 ∧ x = nI j ∧ sp j = some k ∧ r = f j k) ∨ ((∀ j, j < 30 → x = nI j → sp j = none) ∧ r = z0)) (h2 : (∃ j k, j < n ∧ x = nI j ∧ so j = some k ∧ r2 = f j k) ∨ ((∀ j, j < n → x = nI j → so j = none) ∧ r2 = z0)) : r = r2 := by
  rcases h1 with ⟨j, k, hj, e, hs, rfl⟩ | ⟨h1, rfl⟩
  · have hjn := hno j k hs
    rcases h2 with ⟨j2, k2, hk, e2, hs2, rfl⟩ | ⟨h2, rfl⟩
    · obtain rfl := nI_uniq (n := 30) (by decide) hj (by omega) e e2
      rw [hso j hk, hs] at hs2
      cases hs2
      rfl
    · have := h2 j hjn e
      rw [hso j hjn, hs] at this
      cases this
  · rcases h2 with ⟨j2, k2, hk, e2, hs2, rfl⟩ | ⟨h2, rfl⟩
    · have := h1 j2 (by omega) e2
      rw [hso j2 hk, this] at hs2
      cases hs2
    · rfl
theorem cntB_congr {f g : Nat → Bool} : ∀ n, (∀ i, i < n → f i = g i) → cntB f n = cntB g n
  | 0, _ => rfl
  | n + 1, h => by rw [cntB, cntB, cntB_congr n (fun i hi => h i (by omega)), h n (Nat.lt_succ_self n)]
theorem kth_congr {f g : Nat → Bool} {n : Nat} {k : Int32} (h : ∀ i, i < n → f i = g i) {o : Option Nat} (hk : kth f n k o) : kth g n k o := by
  cases o with
  | none => exact fun p hp hg e => hk p hp (by rw [h p hp]; exact hg) (by rw [cntB_congr p (fun i hi => h i (by omega))]; exact e)
  | some p => exact ⟨hk.1, by rw [← h p hk.1]; exact hk.2.1, by rw [← cntB_congr p (fun i hi => h i (by have := hk.1; omega))]; exact hk.2.2⟩
theorem ag_waits {n : Nat} (hn : n ≤ 30) {sp so : Nat → Option Nat} (hso : ∀ p, p < n → so p = sp p) {md : Nat → Nat} {x y r r2 : Int32} (h1 : ∃ o, r = oI o ∧ kth (wB sp md x) n y o) (h2 : ∃ o, r2 = oI o ∧ kth (wB so md x) n y o) : r = r2 := by
  obtain ⟨o, rfl, h1⟩ := h1
  obtain ⟨o2, rfl, h2⟩ := h2
  rw [kth_uniq (by omega) h1 (kth_congr (fun i hi => by unfold wB; rw [hso i hi]) h2)]
theorem ag_lacks {n : Nat} {inn pk ou ok og : Nat → Nat} (hi : plI n inn pk ou ok og) {x : Int32} {r r2 : Int64} (h1 : (∃ p, p < n ∧ x = nI p ∧ r = lN (lackN inn pk ou ok og p)) ∨ (¬ inR n x ∧ r = -1)) (h2 : (∃ p, p < n ∧ x = nI p ∧ r2 = lN (lackM inn pk ou ok og p)) ∨ (¬ inR n x ∧ r2 = -1)) : r = r2 := by
  have hn := hi.1
  rcases h1 with ⟨p, hp, e, rfl⟩ | ⟨h1, rfl⟩
  · rcases h2 with ⟨q, hq, e2, rfl⟩ | ⟨h2, rfl⟩
    · rw [nI_uniq (n := n) (by omega) hp hq e e2, lack_eq (hi.2.1 q hq).2.2.1]
    · exact absurd ⟨p, hp, e⟩ h2
  · rcases h2 with ⟨q, hq, e2, rfl⟩ | ⟨h2, rfl⟩
    · exact absurd ⟨q, hq, e2⟩ h1
    · rfl
theorem ag_nowhere {n : Nat} {inn pk ou ok og : Nat → Nat} (hi : plI n inn pk ou ok og) {x y r r2 : Int32} (h1 : (∃ p, p < n ∧ x = nI p ∧ ∃ o, r = oI o ∧ kth (fun i => (lsR inn pk ou ok og p).testBit i) 8 y o) ∨ (¬ inR n x ∧ r = oI none)) (h2 : (∃ p, p < n ∧ x = nI p ∧ ∃ o, r2 = oI o ∧ kth (fun i => (nwM inn pk ou ok og p).testBit (7 - i)) 8 y o) ∨ (¬ inR n x ∧ r2 = oI none)) : r = r2 := by
  have hn := hi.1
  rcases h1 with ⟨p, hp, e, o, rfl, k1⟩ | ⟨h1, rfl⟩
  · rcases h2 with ⟨q, hq, e2, o2, rfl, k2⟩ | ⟨h2, rfl⟩
    · obtain rfl := nI_uniq (n := n) (by omega) hp hq e e2
      rw [kth_uniq (by decide) k1 (kth_congr (fun i hi9 => (least_eq (hi.2.1 p hp).2.2.1 i hi9).symm) k2)]
    · exact absurd ⟨p, hp, e⟩ h2
  · rcases h2 with ⟨q, hq, e2, o2, rfl, k2⟩ | ⟨h2, rfl⟩
    · exact absurd ⟨q, hq, e2⟩ h1
    · rfl
theorem ag_read {n : Nat} (hn : n ≤ 30) {f g : Nat → Nat} (hfg : ∀ j, j < n → f j = g j) {x r r2 : Int32} (h1 : (∃ j, j < n ∧ x = nI j ∧ r = nI (f j)) ∨ (¬ inR n x ∧ r = oI none)) (h2 : (∃ j, j < n ∧ x = nI j ∧ r2 = nI (g j)) ∨ (¬ inR n x ∧ r2 = oI none)) : r = r2 := by
  rcases h1 with ⟨p, hp, e, rfl⟩ | ⟨h1, rfl⟩
  · rcases h2 with ⟨q, hq, e2, rfl⟩ | ⟨h2, rfl⟩
    · obtain rfl := nI_uniq (n := 30) (by decide) (by omega) (by omega) e e2
      rw [hfg p hp]
    · exact absurd ⟨p, hp, e⟩ h2
  · rcases h2 with ⟨q, hq, e2, rfl⟩ | ⟨h2, rfl⟩
    · exact absurd ⟨q, hq, e2⟩ h1
    · rfl
theorem ag_missed {n : Nat} (hn : n ≤ 30) {x1 x2 x3 : Int32} {r r2 : Int64} (h1 : (∃ a b p0, a ≤ n ∧ b ≤ n ∧ p0 ≤ 1 ∧ x1 = nI a ∧ x2 = nI b ∧ x3 = nI p0 ∧ r = lN (misN n a b p0)) ∨ (¬ (inR (n + 1) x1 ∧ inR (n + 1) x2 ∧ inR 2 x3) ∧ r = -1)) (h2 : (∃ a b p0, a ≤ n ∧ b ≤ n ∧ p0 ≤ 1 ∧ x1 = nI a ∧ x2 = nI b ∧ x3 = nI p0 ∧ r2 = lN (misM n a b p0)) ∨ (¬ (inR (n + 1) x1 ∧ inR (n + 1) x2 ∧ inR 2 x3) ∧ r2 = -1)) : r = r2 := by
  rcases h1 with ⟨a, b, p0, ha, hb, hp, e1, e2, e3, rfl⟩ | ⟨h1, rfl⟩
  · rcases h2 with ⟨a2, b2, p2, ha2, hb2, hp2, f1, f2, f3, rfl⟩ | ⟨h2, rfl⟩
    · obtain rfl := nI_uniq (n := 31) (by decide) (by omega) (by omega) e1 f1
      obtain rfl := nI_uniq (n := 31) (by decide) (by omega) (by omega) e2 f2
      obtain rfl := nI_uniq (n := 31) (by decide) (by omega) (by omega) e3 f3
      rw [mis_eq hn ha hb hp]
    · exact absurd ⟨⟨a, by omega, e1⟩, ⟨b, by omega, e2⟩, ⟨p0, by omega, e3⟩⟩ h2
  · rcases h2 with ⟨a2, b2, p2, ha2, hb2, hp2, f1, f2, f3, rfl⟩ | ⟨h2, rfl⟩
    · exact absurd ⟨⟨a2, by omega, f1⟩, ⟨b2, by omega, f2⟩, ⟨p2, by omega, f3⟩⟩ h1
    · rfl
theorem ag_camera {l : List Nat} {x : Int} {r r2 : Int32} (h1 : ∃ k, r = nI k ∧ k ≤ 30 ∧ isCam l x k) (h2 : ∃ k, r2 = nI k ∧ k ≤ 30 ∧ isCam l x k) : r = r2 := by
  obtain ⟨k, rfl, -, h1⟩ := h1
  obtain ⟨k2, rfl, -, h2⟩ := h2
  rw [isCam_uniq h1 h2]
theorem ag_same {n : Nat} {w0 : Nat → Nat} {y : Int64} {as0 dc : Nat} {tk dr : Nat → Nat} (htk : ∀ j, j < dc → tk j = dr j ∧ tk j < 30) {r r2 : Int32} (h1 : ∃ k, isDraw n w0 y as0 k ∧ (((dc = k ∧ ∀ j, j < dc → tk j = pkD n w0 y j) ∧ r = nI 1) ∨ (¬ (dc = k ∧ ∀ j, j < dc → tk j = pkD n w0 y j) ∧ r = nI 0))) (h2 : ∃ k, isDraw n w0 y as0 k ∧ (((dc = k ∧ ∀ j, j < dc → dr j = pkD n w0 y j) ∧ r2 = nI 1) ∨ (¬ (dc = k ∧ ∀ j, j < dc → dr j = pkD n w0 y j) ∧ r2 = nI 0))) : r = r2 := by
  obtain ⟨k, d1, h1⟩ := h1
  obtain ⟨k2, d2, h2⟩ := h2
  obtain rfl := isDraw_uniq d1 d2
  rcases h1 with ⟨a, rfl⟩ | ⟨a, rfl⟩ <;> rcases h2 with ⟨b, rfl⟩ | ⟨b, rfl⟩
  · rfl
  · exact absurd ⟨a.1, fun j hj => by rw [← (htk j hj).1]; exact a.2 j hj⟩ b
  · exact absurd ⟨b.1, fun j hj => by rw [(htk j hj).1]; exact b.2 j hj⟩ a
  · rfl
theorem plI_plant {n : Nat} {inn pk ou ok og : Nat → Nat} (h : plI n inn pk ou ok og) {x1 : Int64} {x2 : Int32} (o : plOk n x1 x2) : plI (n + 1) (va_up inn n (tl x1)) (va_up pk n (tn x2)) ou ok og := by
  obtain ⟨h0, ⟨d, -, hd, rfl⟩, ⟨c, hc, rfl⟩⟩ := o
  refine ⟨by omega, fun p hp => ?_, fun p hp => h.2.2 p (by omega)⟩
  by_cases e : p = n
  · subst e
    rw [show va_up inn p (tl (lN d)) p = tl (lN d) from if_pos rfl, show va_up pk p (tn (nI c)) p = tn (nI c) from if_pos rfl, tl_lN (by omega), tn_nI (by omega), h.2.2 p (Nat.le_refl _)]
    exact ⟨hd, hc, by omega, fun i hi => absurd hi (by omega)⟩
  · rw [show va_up inn n (tl (lN d)) p = inn p from if_neg e, show va_up pk n (tn (nI c)) p = pk p from if_neg e]
    exact h.2.1 p (by omega)
theorem plI_out {n : Nat} {inn pk ou ok og : Nat → Nat} (h : plI n inn pk ou ok og) {x1 x2 : Int32} {x3 : Int64} (o : outOk n ou x1 x2 x3) : plI n inn pk (va_up ou (tn x1) (ou (tn x1) + 1)) (va_up ok (tn x1 * 8 + ou (tn x1)) (tn x2)) (va_up og (tn x1 * 8 + ou (tn x1)) (tl x3)) := by
  obtain ⟨⟨q, hq, rfl⟩, ⟨c, hc, rfl⟩, ⟨d, hd1, hd2, rfl⟩, h4⟩ := o
  have hn := h.1
  rw [tn_nI (by omega)] at h4 ⊢
  rw [tn_nI (by omega), tl_lN (by omega)]
  refine ⟨hn, fun p hp => ?_, fun p hp => ?_⟩
  · obtain ⟨a1, a2, a3, a4⟩ := h.2.1 p hp
    have hou : va_up ou q (ou q + 1) p ≤ 8 := by unfold va_up; split <;> omega
    refine ⟨a1, a2, hou, fun i hi => ?_⟩
    by_cases e : p * 8 + i = q * 8 + ou q
    · rw [show va_up ok (q * 8 + ou q) c (p * 8 + i) = c from if_pos e, show va_up og (q * 8 + ou q) d (p * 8 + i) = d from if_pos e]
      exact ⟨hc, hd2⟩
    · rw [show va_up ok (q * 8 + ou q) c (p * 8 + i) = ok (p * 8 + i) from if_neg e, show va_up og (q * 8 + ou q) d (p * 8 + i) = og (p * 8 + i) from if_neg e]
      refine a4 i ?_
      unfold va_up at hi
      split at hi
      · rename_i e2
        subst e2
        omega
      · exact hi
  · rw [show va_up ou q (ou q + 1) p = ou p from if_neg (by omega)]
    exact h.2.2 p hp
theorem wt_up {wt : Nat → Nat} (h : ∀ j, j < 10 → wt j ≤ 2520) {x1 x2 x3 : Int32} (o : setOk x1 x2 x3) : ∀ j, j < 10 → va_up wt (tn x1) (2520 / tn x3 * tn x2) j ≤ 2520 := fun j hj => by
  obtain ⟨⟨q, hq, rfl⟩, a, b, h1, h2, h3, rfl, rfl⟩ := o
  unfold va_up
  split
  · rw [tn_nI (by omega), tn_nI (by omega)]
    exact Nat.le_trans (Nat.mul_le_mul_left _ h3) (Nat.div_mul_le_self _ _)
  · exact h j hj
theorem sa_up {sa : Nat → Nat} {pe : Nat → Option Nat} {x1 x2 x3 : Int32} {to : Nat} (h : ∀ j, j < 10 → sa j ≤ 3) (o : actOk sa pe x1 x2 x3 to) : ∀ j, j < 10 → va_up sa (tn x1) to j ≤ 3 := fun j hj => by
  unfold va_up
  split
  · exact aft_le o.2.2.2
  · exact h j hj
theorem pe_up {sa : Nat → Nat} {pe : Nat → Option Nat} {x1 x2 x3 : Int32} {to : Nat} (h : ∀ j k, pe j = some k → k < 100) (o : actOk sa pe x1 x2 x3 to) : ∀ j k, va_up pe (tn x1) (some (tn x3)) j = some k → k < 100 := fun j k e => by
  obtain ⟨-, ⟨q, hq, rfl⟩, -⟩ := o
  unfold va_up at e
  split at e
  · rw [tn_nI (by omega)] at e
    cases e
    exact hq
  · exact h j k e
