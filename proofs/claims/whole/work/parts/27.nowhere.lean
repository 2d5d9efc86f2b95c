/-- less of it comes before -/
def kkey (s : Nat) : Nat := popc s * 256 + (255 - rev s)
theorem and_lt {s t : Nat} (h : s < 256) : s &&& t < 256 := Nat.lt_of_le_of_lt Nat.and_le_left h
theorem xor_lt {s t : Nat} (hs : s < 256) (ht : t < 256) : s ^^^ t < 256 := Nat.xor_lt_two_pow (n := 8) hs ht
theorem nI_0iff {a : Nat} (h : a < 2 ^ 31) : nI a = 0 ↔ a = 0 := nI_eq (b := 0) h (by decide)
theorem bf_key {s t : Nat} (hs : s < 256) (ht : t < 256) : bfP s t ↔ kkey s < kkey t := by
  have p1 := popc_le s
  have p2 := popc_le t
  have r1 := rev_lt s
  have r2 := rev_lt t
  have hx := xor_lt hs ht
  have hl : lowb (s ^^^ t) < 256 := and_lt hx
  have e1 : (nI s &&& ((nI s ^^^ nI t) &&& -(nI s ^^^ nI t))) = nI (s &&& lowb (s ^^^ t)) := by
    rw [nw_xor, low_neg _ hx, nw_and]
  have e2 : (nI (popc t) - nI (popc s)).toInt = (popc t : Int) - popc s := pk_sub_toInt (by omega) (by omega)
  unfold bfP kkey
  rw [e1, nI_0iff (by have := and_lt (t := lowb (s ^^^ t)) hs; omega), low_rev s hs t ht, Int32.lt_iff_toInt_lt, e2, show (0 : Int32).toInt = 0 by decide]
  have e3 : nI (popc t) - nI (popc s) = 0 ↔ popc t = popc s := by
    rw [← Int32.toInt_inj, e2, show (0 : Int32).toInt = 0 by decide]
    omega
  rw [e3]
  constructor
  · rintro (h | ⟨h1, h2⟩) <;> omega
  · intro h
    by_cases z : popc s < popc t
    · exact Or.inl (by omega)
    · exact Or.inr ⟨by omega, by omega⟩
theorem kkey_inj {s t : Nat} (hs : s < 256) (ht : t < 256) (h : kkey s = kkey t) : s = t := by
  have r1 := rev_lt s
  have r2 := rev_lt t
  unfold kkey at h
  have : rev s = rev t := by omega
  rw [← rev_rev s hs, this, rev_rev t ht]
theorem own_iff {s o : Nat} (hs : s < 256) (ho : o < 256) : (nI s &&& (nI o ^^^ oI none)) = 0 ↔ s &&& o = s := by
  have e : oI none = nI 4294967295 := by decide
  rw [e, nw_xor, nw_and, nI_0iff (by have := and_lt (t := o ^^^ 4294967295) hs; omega)]
  exact sub_own s hs o ho
theorem ownM_bit {ok pk : Nat → Nat} {p : Nat} : ∀ m i, (ownM ok pk p m).testBit i = (decide (i < m) && decide (ok (p * 8 + i) = pk p))
  | 0, i => by simp [ownM]
  | m + 1, i => by
    rw [ownM]
    have hlt := ownM_lt ok pk p m
    by_cases e : ok (p * 8 + m) = pk p
    · rw [if_pos e]
      by_cases z : i = m
      · subst z
        rw [Nat.add_comm, Nat.testBit_two_pow_add_eq, Nat.testBit_lt_two_pow hlt]
        simp [e]
      · by_cases y : i < m
        · rw [Nat.add_comm, Nat.testBit_two_pow_add_gt y, ownM_bit m i]
          simp [y, show i < m + 1 by omega]
        · have hb : ownM ok pk p m + 2 ^ m < 2 ^ i := by
            have : 2 ^ (m + 1) ≤ 2 ^ i := Nat.pow_le_pow_right (by decide) (by omega)
            rw [Nat.pow_succ] at this
            omega
          rw [Nat.testBit_lt_two_pow hb]
          simp [show ¬ i < m + 1 by omega]
    · rw [if_neg e, Nat.add_zero, ownM_bit m i]
      by_cases z : i = m
      · subst z; simp [e]
      · by_cases y : i < m
        · simp [y, show i < m + 1 by omega]
        · simp [y, show ¬ i < m + 1 by omega]
theorem gsum_congr {og : Nat → Nat} {p s t : Nat} : ∀ m, (∀ i, i < m → s.testBit i = t.testBit i) → gsum og p s m = gsum og p t m
  | 0, _ => rfl
  | m + 1, h => by rw [gsum, gsum, gsum_congr m (fun i hi => h i (by omega)), h m (Nat.lt_succ_self m)]
theorem gsumM_eq {ok og pk : Nat → Nat} {p s M : Nat} (hs : s < 256) (hM : M ≤ 8) : ∀ m, m ≤ M → gsumM ok og pk p s m = gsum og p (rev s &&& ownM ok pk p M) m
  | 0, _ => rfl
  | m + 1, h => by
    rw [gsumM, gsum, gsumM_eq hs hM m (by omega), Nat.testBit_and, rev_bit s hs m (by omega), ownM_bit]
    congr 1
    by_cases e : ok (p * 8 + m) = pk p <;> cases s.testBit (7 - m) <;> simp [e, show m < M by omega]
theorem cnt_lt {f g : Nat → Bool} : ∀ n, (∀ i, i < n → f i = true → g i = true) → cntB f n ≤ cntB g n ∧ ((∃ i, i < n ∧ f i = false ∧ g i = true) → cntB f n < cntB g n)
  | 0, _ => ⟨Nat.le_refl _, fun ⟨i, h, _⟩ => absurd h (by omega)⟩
  | n + 1, h => by
    obtain ⟨h1, h2⟩ := cnt_lt n (fun i hi => h i (by omega))
    have h3 := h n (Nat.lt_succ_self n)
    rw [cntB, cntB]
    refine ⟨?_, ?_⟩
    · cases ef : f n <;> cases eg : g n <;> simp [ef, eg] at h3 ⊢ <;> omega
    · rintro ⟨i, hi, hf, hg⟩
      by_cases e : i = n
      · subst e
        simp [hf, hg]
        omega
      · have := h2 ⟨i, by omega, hf, hg⟩
        cases ef : f n <;> cases eg : g n <;> simp [ef, eg] at h3 ⊢ <;> omega
theorem popc_sub {s o : Nat} (hs : s < 256) (h : s &&& o ≠ s) : popc (s &&& o) < popc s := by
  refine (cnt_lt 8 (fun i _ hf => ?_)).2 ?_
  · rw [Nat.testBit_and] at hf
    exact (Bool.and_eq_true _ _ ▸ hf).1
  · by_cases z : ∃ i, i < 8 ∧ (s &&& o).testBit i = false ∧ s.testBit i = true
    · exact z
    · exfalso
      apply h
      apply Nat.eq_of_testBit_eq
      intro i
      by_cases y : i < 8
      · cases e1 : (s &&& o).testBit i <;> cases e2 : s.testBit i
        · rfl
        · exact absurd ⟨i, y, e1, e2⟩ z
        · rw [Nat.testBit_and, e2] at e1; simp at e1
        · rfl
      · have hp : 256 ≤ 2 ^ i := by
          have : 2 ^ 8 ≤ 2 ^ i := Nat.pow_le_pow_right (by decide) (by omega)
          omega
        rw [Nat.testBit_and, Nat.testBit_lt_two_pow (show s < 2 ^ i by omega)]
        simp
/-- the class's set: it is enough, and none that is comes before it -/
theorem lsF_min {own L : Nat} {og : Nat → Nat} {p m : Nat} (ho : own < 256) (hL : L ≤ gsum og p own m) : ∀ k, k ≤ own → (lsF own L og p m k &&& own = lsF own L og p m k ∧ L ≤ gsum og p (lsF own L og p m k) m) ∧ (∀ s, 1 ≤ s → s ≤ k → s &&& own = s → L ≤ gsum og p s m → kkey (lsF own L og p m k) ≤ kkey s)
  | 0, _ => ⟨⟨Nat.and_self own, hL⟩, fun s h1 h2 => absurd h1 (by omega)⟩
  | k + 1, hk => by
    obtain ⟨⟨a1, a2⟩, a3⟩ := lsF_min ho hL k (by omega)
    have hlt := lsF_lt (L := L) (og := og) (p := p) (m := m) ho k (by omega)
    by_cases c : (nI (k + 1) &&& (nI own ^^^ oI none)) = 0 ∧ bfP (k + 1) (lsF own L og p m k) ∧ L ≤ gsum og p (k + 1) m
    · rw [← lsF_yes c.1 c.2.1 c.2.2]
      have hb := (bf_key (by omega) hlt).mp c.2.1
      refine ⟨⟨(own_iff (by omega) ho).mp c.1, c.2.2⟩, fun s h1 h2 h3 h4 => ?_⟩
      by_cases e : s = k + 1
      · rw [e]; exact Nat.le_refl _
      · have := a3 s h1 (by omega) h3 h4
        omega
    · rw [← lsF_no c]
      refine ⟨⟨a1, a2⟩, fun s h1 h2 h3 h4 => ?_⟩
      by_cases e : s = k + 1
      · subst e
        by_cases z : kkey (lsF own L og p m k) ≤ kkey (k + 1)
        · exact z
        · exact absurd ⟨(own_iff (by omega) ho).mpr h3, (bf_key (by omega) hlt).mpr (by omega), h4⟩ c
      · exact a3 s h1 (by omega) h3 h4
set_option maxRecDepth 10000 in
/-- the reference's set likewise -/
theorem lmS_min {L : Nat} {ok og pk : Nat → Nat} {p m : Nat} (hL : L ≤ gsumM ok og pk p 255 m) : ∀ k, k ≤ 255 → 1 ≤ k → (L ≤ gsumM ok og pk p (lmS L ok og pk p m k).1 m ∧ (lmS L ok og pk p m k).2 = popc (lmS L ok og pk p m k).1 ∧ 255 - k < (lmS L ok og pk p m k).1) ∧ (∀ s, 255 - k < s → s < 256 → L ≤ gsumM ok og pk p s m → popc (lmS L ok og pk p m k).1 * 256 + (255 - (lmS L ok og pk p m k).1) ≤ popc s * 256 + (255 - s))
  | 0, _, h => absurd h (by omega)
  | k + 1, hk, _ => by
    by_cases c : popc (255 - k) < (lmS L ok og pk p m k).2 ∧ L ≤ gsumM ok og pk p (255 - k) m
    · rw [← lmS_yes c.1 c.2]
      refine ⟨⟨c.2, rfl, by show 255 - (k + 1) < 255 - k; omega⟩, fun s h1 h2 h3 => ?_⟩
      show popc (255 - k) * 256 + (255 - (255 - k)) ≤ _
      by_cases e : s = 255 - k
      · rw [e]; exact Nat.le_refl _
      · by_cases z : k = 0
        · omega
        · obtain ⟨⟨b1, b2, b3⟩, b4⟩ := lmS_min hL k (by omega) (by omega)
          have := b4 s (by omega) h2 h3
          have q := (lmS_lt (L := L) (ok := ok) (og := og) (pk := pk) (p := p) (m := m) k).1
          omega
    · rw [← lmS_no c]
      have k0 : 1 ≤ k := by
        by_cases z : k = 0
        · subst z
          refine absurd ⟨?_, hL⟩ c
          show popc 255 < 9
          decide
        · omega
      obtain ⟨⟨b1, b2, b3⟩, b4⟩ := lmS_min hL k (by omega) k0
      refine ⟨⟨b1, b2, by omega⟩, fun s h1 h2 h3 => ?_⟩
      by_cases e : s = 255 - k
      · subst e
        have q := (lmS_lt (L := L) (ok := ok) (og := og) (pk := pk) (p := p) (m := m) k).1
        have : ¬ popc (255 - k) < (lmS L ok og pk p m k).2 := fun y => c ⟨y, h3⟩
        omega
      · exact b4 s (by omega) h2 h3
theorem lack_eq {inn pk ou ok og : Nat → Nat} {p : Nat} (h : ou p ≤ 8) : lackN inn pk ou ok og p = lackM inn pk ou ok og p := by
  have e : rev 255 &&& ownM ok pk p (ou p) = ownM ok pk p (ou p) := by
    have h1 := ownM_256 (ok := ok) (pk := pk) (p := p) h
    rw [show rev 255 = 255 by decide, Nat.and_comm]
    exact Nat.and_two_pow_sub_one_of_lt_two_pow (n := 8) h1
  rw [lackN, lackM, gsumM_eq (by decide) h (ou p) (Nat.le_refl _), e]
theorem gsum_0 {og : Nat → Nat} {p : Nat} : ∀ m, gsum og p 0 m = 0
  | 0 => rfl
  | m + 1 => by rw [gsum, gsum_0 m]; simp
theorem least_eq {inn pk ou ok og : Nat → Nat} {p : Nat} (h : ou p ≤ 8) : ∀ i, i < 8 → (lsR inn pk ou ok og p).testBit i = (nwM inn pk ou ok og p).testBit (7 - i) := by
  intro i hi
  unfold lsR nwM
  rw [← lack_eq h]
  by_cases z : lackN inn pk ou ok og p = 0
  · rw [if_pos z, if_pos z]; simp
  · rw [if_neg z, if_neg z]
    have ho := ownM_256 (ok := ok) (pk := pk) (p := p) h
    generalize hown : ownM ok pk p (ou p) = own at *
    generalize hLk : lackN inn pk ou ok og p = L at *
    have hL : L ≤ gsum og p own (ou p) := by rw [← hLk, lackN, hown]; omega
    have GM : ∀ s, s < 256 → gsumM ok og pk p s (ou p) = gsum og p (rev s &&& own) (ou p) := fun s hs => by rw [gsumM_eq hs h (ou p) (Nat.le_refl _), hown]
    have e255 : rev 255 &&& own = own := by
      rw [show rev 255 = 255 by decide, Nat.and_comm]
      exact Nat.and_two_pow_sub_one_of_lt_two_pow (n := 8) ho
    obtain ⟨⟨a1, a2⟩, a3⟩ := lsF_min ho hL own (Nat.le_refl _)
    obtain ⟨⟨b1, b2, b3⟩, b4⟩ := lmS_min (ok := ok) (og := og) (pk := pk) (p := p) (m := ou p) (L := L) (by rw [GM 255 (by decide), e255]; exact hL) 255 (Nat.le_refl _) (by decide)
    have hc := lsF_lt (L := L) (og := og) (p := p) (m := ou p) ho own (Nat.le_refl _)
    have hm := (lmS_lt (L := L) (ok := ok) (og := og) (pk := pk) (p := p) (m := ou p) 255).1
    generalize lsF own L og p (ou p) own = c at *
    generalize (lmS L ok og pk p (ou p) 255).1 = t at *
    rw [GM t hm] at b1
    have hr := rev_lt t
    have key2 : ∀ s, s < 256 → popc s * 256 + (255 - s) = kkey (rev s) := fun s hs => by rw [kkey, rev_popc s hs, rev_rev s hs]
    have pos : ∀ s, L ≤ gsum og p s (ou p) → 1 ≤ s := fun s hs => by
      by_cases y : s = 0
      · rw [y, gsum_0] at hs; omega
      · omega
    -- the reference's set lies within the own kind
    have hin : rev t &&& own = rev t := by
      by_cases y : rev t &&& own = rev t
      · exact y
      · exfalso
        have hlt := popc_sub hr y
        have hb := and_lt (t := own) hr
        have := b4 (rev (rev t &&& own)) (by
          have h5 := pos _ b1
          have h6 : rev (rev t &&& own) ≠ 0 := fun e => by
            have := rev_rev _ hb
            rw [e] at this
            have h7 : rev 0 = 0 := by decide
            omega
          omega) (rev_lt _) (by rw [GM _ (rev_lt _), rev_rev _ hb, Nat.and_assoc, Nat.and_self]; exact b1)
        rw [key2 t hm, key2 _ (rev_lt _), rev_rev _ hb] at this
        unfold kkey at this
        have r1 := rev_lt (rev t)
        omega
    rw [hin] at b1
    have le1 : kkey c ≤ kkey (rev t) := a3 (rev t) (pos _ b1) (by rw [← hin]; exact Nat.and_le_right) hin b1
    have le2 : kkey (rev t) ≤ kkey c := by
      have := b4 (rev c) (by
        have h5 := pos c a2
        have h6 : rev c ≠ 0 := fun e => by
          have := rev_rev c hc
          rw [e] at this
          have h7 : rev 0 = 0 := by decide
          omega
        omega) (rev_lt _) (by rw [GM _ (rev_lt _), rev_rev c hc, a1]; exact a2)
      rw [key2 t hm, key2 _ (rev_lt _), rev_rev c hc] at this
      exact this
    have hct : c = rev t := kkey_inj hc hr (Nat.le_antisymm le1 le2)
    rw [hct, rev_bit t hm i hi]
