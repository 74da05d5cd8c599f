/-- the champion -/
theorem p_best (F : Nat → Nat → Int32) : ∀ n : Nat, n ≤ 8 → dBestS F n = match rChm F n with
    | none => (-1, 0, 0)
    | some j => (nI j, F j 3, F j 4)
  | 0, _ => rfl
  | n + 1, hn => by
    have ih := p_best F n (by omega)
    unfold dBestS rChm
    rw [ih]
    cases hc : rChm F n with
    | none => simp
    | some j =>
      have hj := rChm_lt hc
      have n0 : ¬ nI j < 0 := nI_pos (by omega)
      simp only [if_neg n0]
      by_cases c1 : F j 3 < F n 3
      · simp only [if_pos c1]
      · simp only [if_neg c1]
        by_cases c2 : F n 3 = F j 3
        · simp only [if_pos c2]
          by_cases c3 : F j 4 ≤ F n 4
          · simp only [if_pos c3]
          · simp only [if_neg c3]
        · simp only [if_neg c2]
theorem p_chm {F G : Nat → Nat → Int32} : ∀ {n : Nat}, (∀ b, b < n → F b 3 = G b 3 ∧ F b 4 = G b 4) → rChm F n = rChm G n
  | 0, _ => rfl
  | n + 1, h => by
    unfold rChm
    rw [p_chm (fun b hb => h b (by omega))]
    cases hc : rChm G n with
    | none => rfl
    | some j =>
      have hj := rChm_lt hc
      simp only [(h n (by omega)).1, (h n (by omega)).2, (h j (by omega)).1, (h j (by omega)).2]
theorem pF.champ {F G : Nat → Nat → Int32} {n : Nat} (hn : n ≤ 8) (h : pF F G n) : (dBestS F n).1 = q_oi (rChm G n) := by
  rw [p_best F n hn, p_chm (fun b hb => ⟨(h b hb).1 3 (by omega), (h b hb).1 4 (by omega)⟩)]
  cases rChm G n <;> rfl
/-- who is ahead: places are not below 0 -/
theorem p_far (F : Nat → Nat → Int32) : ∀ n : Nat, (∀ b, b < n → ∃ p, p < 2 ^ 30 ∧ F b 5 = nI p) → dFarS F n = match rAhd F n with
    | none => (-1, -1)
    | some j => (nI j, F j 5)
  | 0, _ => rfl
  | n + 1, h => by
    have ih := p_far F n (fun b hb => h b (by omega))
    unfold dFarS rAhd
    rw [ih]
    obtain ⟨p, hp, e5⟩ := h n (by omega)
    have hneg : ¬ F n 5 ≤ -1 := fun q => by
      have q1 := Int32.le_iff_toInt_le.mp q
      rw [e5, nI_toInt (by omega), show (-1 : Int32).toInt = -1 by decide] at q1
      omega
    by_cases c : bIsIn (F n 9) 1 2 = 0
    · rw [if_pos c]
      have n1 : ¬ F n 9 = 1 := fun q => by rw [q] at c; exact absurd c (by decide)
      have n2 : ¬ F n 9 = 2 := fun q => by rw [q] at c; exact absurd c (by decide)
      rw [if_neg n1, if_neg n2]
    · rw [if_neg c]
      have h12 : F n 9 = 1 ∨ F n 9 = 2 := by
        unfold bIsIn at c
        by_cases a1 : F n 9 < 1
        · rw [if_pos a1] at c; exact absurd rfl c
        · rw [if_neg a1] at c
          by_cases a2 : 2 < F n 9
          · rw [if_pos a2] at c; exact absurd rfl c
          · have b1 := Int32.le_iff_toInt_le.mp (Int32.not_lt.mp a1)
            have b2 := Int32.le_iff_toInt_le.mp (Int32.not_lt.mp a2)
            rw [show (1 : Int32).toInt = 1 by decide] at b1
            rw [show (2 : Int32).toInt = 2 by decide] at b2
            rcases (show (F n 9).toInt = 1 ∨ (F n 9).toInt = 2 by omega) with q | q
            · exact Or.inl (Int32.toInt_inj.mp (q.trans (by decide)))
            · exact Or.inr (Int32.toInt_inj.mp (q.trans (by decide)))
      cases hc : rAhd F n with
      | none =>
        rcases h12 with q | q
        · simp only [q, if_true, if_neg hneg]
        · simp only [q, if_true, if_neg hneg, show ¬ (2 : Int32) = 1 by decide, if_false]
      | some j =>
        by_cases c3 : F n 5 ≤ F j 5
        · rcases h12 with q | q
          · simp only [q, if_true, if_pos c3]
          · simp only [q, if_true, if_pos c3, show ¬ (2 : Int32) = 1 by decide, if_false]
        · rcases h12 with q | q
          · simp only [q, if_true, if_neg c3]
          · simp only [q, if_true, if_neg c3, show ¬ (2 : Int32) = 1 by decide, if_false]
theorem p_ahd {F G : Nat → Nat → Int32} : ∀ {n : Nat}, (∀ b, b < n → F b 5 = G b 5 ∧ F b 9 = G b 9) → rAhd F n = rAhd G n
  | 0, _ => rfl
  | n + 1, h => by
    unfold rAhd
    rw [p_ahd (fun b hb => h b (by omega)), (h n (by omega)).2]
    split
    · rfl
    · cases hc : rAhd G n with
      | none => rfl
      | some j =>
        have hj := rAhd_lt hc
        simp only [(h n (by omega)).1, (h j (by omega)).1]
theorem pF.far {F G : Nat → Nat → Int32} {n : Nat} (h : pF F G n) (hp : ∀ b, b < n → ∃ p, p < 2 ^ 30 ∧ F b 5 = nI p) : (dFarS F n).1 = q_oi (rAhd G n) := by
  rw [p_far F n hp, p_ahd (fun b hb => ⟨(h b hb).1 5 (by omega), (h b hb).2.1⟩)]
  cases rAhd G n <;> rfl
theorem q_sum_z {f : Nat → Int32} (hf : ∀ k, f k = 0 ∨ f k = 1) : ∀ {n : Nat}, n ≤ 8 → q_sum f n = 0 → ∀ k, k < n → f k = 0
  | 0, _, _, k, hk => absurd hk (by omega)
  | n + 1, hn, h, k, hk => by
    obtain ⟨m, h1, h2⟩ := q_sum01 hf n
    rcases hf n with z | z
    · by_cases q : k = n
      · subst q; exact z
      · refine q_sum_z hf (n := n) (by omega) ?_ k (by omega)
        rw [q_sum, z, Int32.add_zero] at h
        exact h
    · rw [q_sum, h2, z] at h
      have e : nI (m + 1) = 0 := by rw [← h]; exact (nI_1 m).symm
      exact absurd e (nI_ne0 (by omega) (by omega))
def pW (F : Nat → Nat → Int32) (n j : Nat) : Prop := F j 9 = 2 ∧ dRank F n j = 0
theorem pW.bet {F : Nat → Nat → Int32} {n i j : Nat} (hn : n ≤ 8) (hj : j < n) (hi : pW F n i) (h9 : F j 9 = 2) : ¬ bRes (F j) < bRes (F i) ∧ (bRes (F j) = bRes (F i) → nI i ≤ nI j) := by
  have h := q_sum_z (dAh01 F i) hn hi.2 j hj
  unfold dAh at h
  rw [if_pos h9] at h
  unfold dBet at h
  by_cases c1 : bRes (F j) < bRes (F i)
  · rw [if_pos c1] at h; exact absurd h (by decide)
  · refine ⟨c1, fun q => ?_⟩
    rw [if_neg c1, if_pos q] at h
    by_cases c2 : nI i ≤ nI j
    · exact c2
    · rw [if_neg c2] at h; exact absurd h (by decide)
theorem pW.one {F : Nat → Nat → Int32} {n i j : Nat} (hn : n ≤ 8) (hi : i < n) (hj : j < n) (h1 : pW F n i) (h2 : pW F n j) : i = j := by
  obtain ⟨a1, a2⟩ := pW.bet hn hj h1 h2.1
  obtain ⟨b1, b2⟩ := pW.bet hn hi h2 h1.1
  have e : bRes (F j) = bRes (F i) := Int32.le_antisymm (Int32.not_lt.mp b1) (Int32.not_lt.mp a1)
  have l1 := (nI_leI (by omega) (by omega)).mp (a2 e)
  have l2 := (nI_leI (by omega) (by omega)).mp (b2 e.symm)
  omega
theorem p_fst_no {F : Nat → Nat → Int32} {n : Nat} : ∀ (f i : Nat), (∀ j, i ≤ j → j < i + f → ¬ pW F n j) → dFst F n f i = -1
  | 0, _, _ => rfl
  | f + 1, i, h => by
    have ih := p_fst_no f (i + 1) (fun j h1 h2 => h j (by omega) (by omega))
    have h0 := h i (Nat.le_refl i) (by omega)
    unfold dFst
    by_cases c : F i 9 = 2
    · have c2 : ¬ dRank F n i = 0 := fun q => h0 ⟨c, q⟩
      rw [if_pos c, if_neg c2]; exact ih
    · rw [if_neg c]; exact ih
theorem p_fst_at {F : Nat → Nat → Int32} {n j : Nat} (hj : pW F n j) : ∀ (f i : Nat), i ≤ j → j < i + f → (∀ a, i ≤ a → a < j → ¬ pW F n a) → dFst F n f i = nI j
  | 0, i, h1, h2, _ => absurd h2 (by omega)
  | f + 1, i, h1, h2, h => by
    unfold dFst
    by_cases q : i = j
    · subst q
      rw [if_pos hj.1, if_pos hj.2]
    · have ih := p_fst_at hj f (i + 1) (by omega) (by omega) (fun a a1 a2 => h a (by omega) a2)
      have h0 := h i (Nat.le_refl i) (by omega)
      by_cases c : F i 9 = 2
      · have c2 : ¬ dRank F n i = 0 := fun z => h0 ⟨c, z⟩
        rw [if_pos c, if_neg c2]; exact ih
      · rw [if_neg c]; exact ih
theorem p_win_no {F : Nat → Nat → Int32} {n : Nat} : ∀ (m : Nat), (∀ j, j < m → ¬ pW F n j) → rWin F n m = -1
  | 0, _ => rfl
  | m + 1, h => by
    have ih := p_win_no m (fun j hj => h j (by omega))
    have h0 := h m (by omega)
    unfold rWin
    by_cases c : F m 9 = 2
    · have c2 : ¬ dRank F n m = 0 := fun q => h0 ⟨c, q⟩
      rw [if_pos c, if_neg c2]; exact ih
    · rw [if_neg c]; exact ih
theorem p_win_at {F : Nat → Nat → Int32} {n j : Nat} (hj : pW F n j) : ∀ (m : Nat), j < m → (∀ a, j < a → a < m → ¬ pW F n a) → rWin F n m = nI j
  | 0, h1, _ => absurd h1 (by omega)
  | m + 1, h1, h => by
    unfold rWin
    by_cases q : m = j
    · subst q
      rw [if_pos hj.1, if_pos hj.2]
    · have ih := p_win_at hj m (by omega) (fun a a1 a2 => h a a1 (by omega))
      have h0 := h m (by omega) (by omega)
      by_cases c : F m 9 = 2
      · have c2 : ¬ dRank F n m = 0 := fun z => h0 ⟨c, z⟩
        rw [if_pos c, if_neg c2]; exact ih
      · rw [if_neg c]; exact ih
theorem p_first {F : Nat → Nat → Int32} {n : Nat} (hn : n ≤ 8) : dFst F n n 0 = rWin F n n := by
  by_cases h : ∃ j, j < n ∧ pW F n j
  · obtain ⟨j, h1, h2⟩ := h
    rw [p_fst_at h2 n 0 (by omega) (by omega) (fun a _ a2 q => absurd (pW.one hn (by omega) h1 q h2) (by omega)), p_win_at h2 n h1 (fun a a1 a2 q => absurd (pW.one hn a2 h1 q h2) (by omega))]
  · have h' : ∀ j, j < n → ¬ pW F n j := fun j hj q => h ⟨j, hj, q⟩
    rw [p_fst_no n 0 (fun j _ h2 => h' j (by omega)), p_win_no n h']
theorem p_win_congr {F G : Nat → Nat → Int32} {n : Nat} (h : pF F G n) : ∀ m, m ≤ n → rWin F n m = rWin G n m
  | 0, _ => rfl
  | m + 1, hm => by
    unfold rWin
    rw [p_win_congr h m (by omega), (h m (by omega)).2.1, h.rank (by omega)]
theorem pF.first {F G : Nat → Nat → Int32} {n : Nat} (hn : n ≤ 8) (h : pF F G n) : dFst F n n 0 = rWin G n n := by
  rw [p_first hn, p_win_congr h n (Nat.le_refl n)]
