/-! a minute in the law's Sim: its words -/
/-- how wet sailors are: 0 to 9 -/
def sWt (G : Nat → Nat → Int32) (n : Nat) : Prop := ∀ b, b < n → ∃ q, q ≤ 9 ∧ G b 4 = nI q
theorem s_wet_all : ∀ q, q ≤ 9 → (if nI q + 2 < 9 then nI q + 2 else 9) = if nI q ≤ 6 then nI q + 2 else 9 := by
  intro q hq
  have h : ∀ q, q < 10 → (if nI q + 2 < 9 then nI q + 2 else 9) = if nI q ≤ 6 then nI q + 2 else 9 := by decide +kernel
  exact h q (by omega)
theorem s_wetA {r : Nat → Int32} (h : ∃ q, q ≤ 9 ∧ r 4 = nI q) (c : r 4 ≤ 6) : bWet r = r 4 + 2 := by
  obtain ⟨q, q1, q2⟩ := h
  unfold bWet
  rw [q2] at c ⊢
  rw [s_wet_all q q1, if_pos c]
theorem s_wetB {r : Nat → Int32} (h : ∃ q, q ≤ 9 ∧ r 4 = nI q) (c : ¬ r 4 ≤ 6) : bWet r = 9 := by
  obtain ⟨q, q1, q2⟩ := h
  unfold bWet
  rw [q2] at c ⊢
  rw [s_wet_all q q1, if_neg c]
theorem s_bwet {r : Nat → Int32} (h : ∃ q, q ≤ 9 ∧ r 4 = nI q) : ∃ q, q ≤ 9 ∧ bWet r = nI q := by
  obtain ⟨q, q1, q2⟩ := h
  unfold bWet
  rw [q2, s_wet_all q q1]
  have hh : ∀ q, q < 10 → ∃ z, z < 10 ∧ (if nI q ≤ 6 then nI q + 2 else 9) = nI z := by decide +kernel
  obtain ⟨z, z1, z2⟩ := hh q (by omega)
  exact ⟨z, by omega, z2⟩
theorem s_dry_all : ∀ q, q < 10 → (if 0 < nI q - 1 then nI q - 1 else 0) = if nI q ≤ 0 then nI q else nI q - 1 := by decide +kernel
theorem s_dry4 {r : Nat → Int32} (h : ∃ q, q ≤ 9 ∧ r 4 = nI q) : bDry r = if r 4 ≤ 0 then r else upd r 4 (r 4 - 1) := by
  obtain ⟨q, q1, q2⟩ := h
  unfold bDry
  rw [q2, s_dry_all q (by omega)]
  by_cases c : nI q ≤ 0
  · rw [if_pos c, if_pos c, ← q2]
    funext k
    by_cases e : k = 4
    · subst e; simp [upd]
    · simp [upd, e]
  · rw [if_neg c, if_neg c]
section SD
variable {G : Nat → Nat → Int32} {nu : Nat → Int32} {b : Nat}
theorem s_dryA (h : ¬ nu 0 - nu 0 / 5 * 5 = 0) : rDryF G nu b = G b := if_neg h
theorem s_dryB (hw : ∃ q, q ≤ 9 ∧ G b 4 = nI q) (c : G b 4 ≤ 0) : rDryF G nu b = G b := by
  unfold rDryF
  rw [s_dry4 hw, if_pos c]
  split
  · split
    · rfl
    · split <;> rfl
  · rfl
theorem s_dryC (ho : ¬ bOn nu = 0) (c : ¬ G b 9 = 0) : rDryF G nu b = G b := by
  unfold rDryF
  rw [if_neg ho, if_neg c]
  split <;> rfl
theorem s_dryD (h : nu 0 - nu 0 / 5 * 5 = 0) (hw : ∃ q, q ≤ 9 ∧ G b 4 = nI q) (c : ¬ G b 4 ≤ 0) (d : G b 9 = 0 ∨ bOn nu = 0) : rDryF G nu b = upd (G b) 4 (G b 4 - 1) := by
  unfold rDryF
  rw [if_pos h, s_dry4 hw, if_neg c]
  rcases d with d | d
  · rw [if_pos d]
    split <;> rfl
  · rw [if_pos d]
end SD
section SF
variable {G : Nat → Nat → Int32} {wv ey : Nat → Int32} {nj b : Nat}
theorem s_foA (h : wv b = 0) : rFouls G wv ey nj b = G b := if_pos h
theorem s_foB (h : G b 5 < 1) : rFouls G wv ey nj b = G b := by
  have h2 : G b 5 ≤ 0 := by
    rw [Int32.lt_iff_toInt_lt, show (1 : Int32).toInt = 1 from by decide] at h
    rw [Int32.le_iff_toInt_le, show (0 : Int32).toInt = 0 from by decide]
    omega
  unfold rFouls
  split
  · rfl
  · split
    · rfl
    · rfl
theorem s_foC (h : rSee ey nj (G b 5) = 0) : rFouls G wv ey nj b = G b := by
  unfold rFouls
  split
  · rfl
  · split
    · rfl
    · split
      · rfl
      · rfl
theorem s_foD (h : rFl (fun a => G a 5) wv (G b 5) b = 0) : rFouls G wv ey nj b = G b := by
  unfold rFouls
  split
  · rfl
  · rfl
theorem s_foE (h1 : ¬ wv b = 0) (h2 : ¬ G b 5 < 1) (h3 : ¬ rSee ey nj (G b 5) = 0) (h4 : ¬ rFl (fun a => G a 5) wv (G b 5) b = 0) : rFouls G wv ey nj b = upd (G b) 7 (G b 7 + 1) := by
  have h5 : ¬ G b 5 ≤ 0 := by
    rw [Int32.lt_iff_toInt_lt, show (1 : Int32).toInt = 1 from by decide] at h2
    rw [Int32.le_iff_toInt_le, show (0 : Int32).toInt = 0 from by decide]
    omega
  unfold rFouls
  rw [if_neg h1, if_neg h4, if_neg h5, if_neg h3]
end SF
theorem s_dn {β : Type} (i : Nat) (F g : Nat → β) : va_up (q_upto (i + 1) F g) i (g i) = q_upto i F g := by
  funext b
  by_cases h : b = i
  · subst h; simp [q_upto, va_up]
  · by_cases h2 : b < i
    · simp [q_upto, va_up, h, h2, Nat.lt_succ_of_lt h2]
    · have : ¬ b < i + 1 := by omega
      simp [q_upto, va_up, h, h2, this]
theorem s_dn_at {β : Type} (i : Nat) (F g : Nat → β) : q_upto (i + 1) F g i = F i := by simp [q_upto]
theorem s_dn_lt {β : Type} {i a : Nat} (h : a < i) (F g : Nat → β) : q_upto (i + 1) F g a = F a := by
  have : a < i + 1 := by omega
  simp [q_upto, this]
theorem s_up0 {g : Nat → Int32} {i : Nat} (h : g i = 0) : q_upto (i + 1) g (fun _ => 0) = q_upto i g (fun _ => 0) := by
  funext b
  by_cases e : b = i
  · subst e; simp [q_upto, h]
  · by_cases h2 : b < i
    · simp [q_upto, h2, Nat.lt_succ_of_lt h2]
    · have : ¬ b < i + 1 := by omega
      simp [q_upto, h2, this]
theorem s_up1 {g : Nat → Int32} {i : Nat} (h : g i = 1) : q_upto (i + 1) g (fun _ => 0) = upd (q_upto i g (fun _ => 0)) i 1 := by
  rw [← h]
  exact q_upto_su.symm
/-! what is told on the way in -/
section SA
variable {F : Nat → Nat → Int32} {len : Int32} {b : Nat}
theorem s_arA (h : ¬ F b 9 = 1) : dArr F len b = 0 := by unfold dArr bInR; rw [if_neg h]; rfl
theorem s_arB (h : ¬ len ≤ F b 5) : dArr F len b = 0 := by
  unfold dArr bInR
  rw [if_neg h]
  split <;> rfl
theorem s_arC (h : F b 9 = 1) (h2 : len ≤ F b 5) : dArr F len b = 1 := by unfold dArr bInR; rw [if_pos h, if_pos h2]; rfl
theorem s_inA {t : Int32} (h : ¬ F b 9 = 1) : dInF F len t b = F b := by unfold dInF bIn; rw [if_neg h]
theorem s_inB {t : Int32} (h : ¬ len ≤ F b 5) : dInF F len t b = F b := by
  unfold dInF bIn
  rw [if_neg h]
  split <;> rfl
theorem s_inC {t : Int32} (h : F b 9 = 1) (h2 : len ≤ F b 5) : dInF F len t b = upd (upd (F b) 9 2) 6 t := by unfold dInF bIn; rw [if_pos h, if_pos h2]
end SA
/-- whether the race is over, as the law counts it -/
def sOv (M : Nat → Nat → Int32) (g : Int32) : Nat → Int32
  | 0 => 1
  | b + 1 => if sOv M g b = 0 then 0 else if M b 9 = 1 then (if g = 60 then 1 else 0) else 1
theorem sOv_60 (M : Nat → Nat → Int32) : ∀ n : Nat, sOv M 60 n = 1
  | 0 => rfl
  | n + 1 => by
    rw [sOv, sOv_60 M n, if_neg (by decide), if_pos rfl]
    split <;> rfl
theorem sOv_no {M : Nat → Nat → Int32} {g : Int32} : ∀ {n : Nat}, sOv M g n = 0 → ¬ g = 60 ∧ ∃ b, b < n ∧ M b 9 = 1
  | 0, h => by cases h
  | n + 1, h => by
    by_cases c : sOv M g n = 0
    · obtain ⟨h1, b, h2, h3⟩ := sOv_no c
      exact ⟨h1, b, by omega, h3⟩
    · rw [sOv, if_neg c] at h
      by_cases d : M n 9 = 1
      · rw [if_pos d] at h
        by_cases e : g = 60
        · rw [if_pos e] at h; exact absurd h (by decide)
        · exact ⟨e, n, by omega, d⟩
      · rw [if_neg d] at h; exact absurd h (by decide)
theorem sOv_st {M : Nat → Nat → Int32} {g : Int32} : ∀ {n : Nat}, (∀ b, b < n → ¬ M b 9 = 1) → sOv M g n = 1
  | 0, _ => rfl
  | n + 1, h => by rw [sOv, sOv_st (fun b hb => h b (by omega)), if_neg (by decide), if_neg (h n (by omega))]
theorem sOv_yes {M : Nat → Nat → Int32} {g : Int32} {n : Nat} (hn : n ≤ 8) (h : ¬ sOv M g n = 0) : q_sum (dSt M 1) n = 0 ∨ g = 60 := by
  by_cases e : g = 60
  · exact Or.inr e
  · refine Or.inl ?_
    have key : ∀ {m : Nat}, ¬ sOv M g m = 0 → ∀ b, b < m → ¬ M b 9 = 1 := by
      intro m
      induction m with
      | zero => intro _ b hb; exact absurd hb (Nat.not_lt_zero b)
      | succ m ih =>
        intro h b hb
        by_cases c : sOv M g m = 0
        · rw [sOv, if_pos c] at h; exact absurd rfl h
        · by_cases q : b = m
          · subst q
            intro d
            rw [sOv, if_neg c, if_pos d, if_neg e] at h
            exact absurd rfl h
          · exact ih c b (by omega)
    have h0 : q_sum (dSt M 1) n = q_sum (fun _ => (0 : Int32)) n := q_sum_congr fun b hb => by
      unfold dSt
      rw [if_neg (key h b hb)]
    rw [h0]
    clear h0 key h
    induction n with
    | zero => rfl
    | succ n ih => rw [q_sum, ih (by omega)]; rfl
theorem dSt01 (M : Nat → Nat → Int32) (x : Int32) (k : Nat) : dSt M x k = 0 ∨ dSt M x k = 1 := by
  unfold dSt
  split
  · exact Or.inr rfl
  · exact Or.inl rfl
theorem sOv_no2 {M : Nat → Nat → Int32} {g : Int32} {n : Nat} (hn : n ≤ 8) (h : sOv M g n = 0) : ¬ q_sum (dSt M 1) n = 0 ∧ ¬ g = 60 := by
  obtain ⟨h1, b, h2, h3⟩ := sOv_no h
  refine ⟨fun q => ?_, h1⟩
  have := q_sum_z (dSt01 M 1) hn q b h2
  unfold dSt at this
  rw [if_pos h3] at this
  exact absurd this (by decide)
/-- places and wetness through a minute's parts -/
theorem s_on {nu : Nat → Int32} (h : nu 2 = 1) : ¬ bOn nu = 0 := by unfold bOn; rw [if_pos h]; decide
theorem s_off {nu : Nat → Int32} (h : nu 2 = 0) : bOn nu = 0 := by unfold bOn; rw [h]; rfl
theorem s_rU1_on {nu : Nat → Int32} (h : nu 2 = 1) : rU1 nu = upd nu 3 (nu 3 + 1) := if_neg (s_on h)
theorem s_rU1_off {nu : Nat → Int32} (h : nu 2 = 0) : rU1 nu = nu := if_pos (s_off h)
section SR
variable {G : Nat → Nat → Int32} {n : Nat} {w : Int32} {ey : Nat → Int32} {k : Nat} {len t : Int32}
theorem s_wt_sail (h : sWt G n) : sWt (rG1 G w n) n := fun b hb => by
  unfold rG1
  rw [q_upto_lt _ _ hb]
  unfold rSails rSail
  have hb2 := h b hb
  split
  · split
    · split
      · split
        · obtain ⟨q, q1, q2⟩ := s_bwet hb2
          exact ⟨q, q1, by simp [rWet, upd, q2]⟩
        · obtain ⟨q, q1, q2⟩ := s_bwet hb2
          exact ⟨q, q1, by simp [rWet, upd, q2]⟩
      · simpa [upd] using hb2
    · simpa [upd] using hb2
  · exact hb2
theorem s_wt_foul {wv : Nat → Int32} (h : sWt G n) : sWt (q_upto n (rFouls G wv ey k) G) n := fun b hb => by
  rw [q_upto_lt _ _ hb]
  have hb2 := h b hb
  unfold rFouls
  split
  · exact hb2
  · split
    · exact hb2
    · split
      · exact hb2
      · split
        · exact hb2
        · simpa [upd] using hb2
theorem s_wt_in (h : sWt G n) : sWt (q_upto n (dInF G len t) G) n := fun b hb => by
  rw [q_upto_lt _ _ hb]
  have hb2 := h b hb
  unfold dInF bIn
  split
  · split
    · simpa [upd] using hb2
    · exact hb2
  · exact hb2
theorem s_wt_race (h : sWt G n) : sWt (rRace G w ey k len t n) n := s_wt_in (s_wt_foul (s_wt_sail h))
theorem s_pl_sail {w : Nat} (hw : w < 10) (hB : pBs G n) (h : pP G n 60) : ∀ b, b < n → ∃ p, p < 2 ^ 30 ∧ rG1 G (nI w) n b 5 = nI p := fun b hb => by
  unfold rG1
  rw [q_upto_lt _ _ hb]
  obtain ⟨p, p1, p2⟩ := h b hb
  obtain ⟨q, q1, q2⟩ := (hB b hb).speed hw
  unfold rSails rSail
  split
  · split
    · split
      · split
        · exact ⟨p, by omega, by simp [rWet, upd, p2]⟩
        · exact ⟨p, by omega, by simp [rWet, upd, p2]⟩
      · exact ⟨p + q, by omega, by simp [upd, p2, q2, nI_add]⟩
    · exact ⟨p, by omega, by simp [upd, p2]⟩
  · exact ⟨p, by omega, p2⟩
end SR
theorem s_dec (j : Nat) : nI (j + 1) + -1 = nI j := by
  rw [← nI_pred j, Int32.sub_eq_add_neg]
theorem s_dn_0 {G : Nat → Nat → Int32} {w : Int32} {ey : Nat → Int32} {k n b : Nat} (hb : b < n) : rG2 G w ey k n b = q_upto (0 + 1) (rG1 G w n) (rFouls (rG1 G w n) (rWv G w n) ey k) b := by
  unfold rG2
  rw [q_upto_lt _ _ hb]
  by_cases e : b = 0
  · subst e
    rw [q_upto_lt _ _ (by omega)]
    exact s_foD rfl
  · rw [q_upto_ge _ _ (by omega)]
section SG
variable {G : Nat → Nat → Int32} {nu : Nat → Int32} {w : Int32} {ey : Nat → Int32} {k n : Nat} {len : Int32}
theorem s_rG_off (ho : nu 2 = 0) : rG G nu w ey k len n = rA2 G nu n := by
  have e1 : rA1 G nu w ey k len n = G := if_pos (s_off ho)
  unfold rG
  rw [e1, s_rU1_off ho]
  exact if_pos (s_off ho)
theorem s_rU_off (ho : nu 2 = 0) : rU G nu w ey k len n = rU2 nu := by
  unfold rU
  rw [s_rU1_off ho]
  exact if_pos (s_off ho)
theorem s_rA1_on (ho : nu 2 = 1) : rA1 G nu w ey k len n = rRace G w ey k len (nu 3 + 1) n := if_neg (s_on ho)
theorem s_on1 (ho : nu 2 = 1) : ¬ bOn (rU1 nu) = 0 := by rw [s_rU1_on ho]; exact s_on ho
theorem s_u3 (ho : nu 2 = 1) : rU1 nu 3 = nu 3 + 1 := by rw [s_rU1_on ho]; simp [upd]
theorem s_rG_on1 (hn : n ≤ 8) (ho : nu 2 = 1) (h : sOv (rA2 (rRace G w ey k len (nu 3 + 1) n) (rU1 nu) n) (nu 3 + 1) n = 0) : rG G nu w ey k len n = rA2 (rRace G w ey k len (nu 3 + 1) n) (rU1 nu) n := by
  obtain ⟨h1, h2⟩ := sOv_no2 hn h
  unfold rG
  rw [s_rA1_on ho]
  unfold rA3
  rw [if_neg (s_on1 ho), if_neg h1, if_neg (by rw [s_u3 ho]; exact h2)]
theorem s_rU_on1 (hn : n ≤ 8) (ho : nu 2 = 1) (h : sOv (rA2 (rRace G w ey k len (nu 3 + 1) n) (rU1 nu) n) (nu 3 + 1) n = 0) : rU G nu w ey k len n = rU2 (upd nu 3 (nu 3 + 1)) := by
  obtain ⟨h1, h2⟩ := sOv_no2 hn h
  unfold rU
  rw [s_rA1_on ho]
  unfold rU3
  rw [if_neg (s_on1 ho), if_neg h1, if_neg (by rw [s_u3 ho]; exact h2), s_rU1_on ho]
theorem s_rG_on2 (hn : n ≤ 8) (ho : nu 2 = 1) (h : ¬ sOv (rA2 (rRace G w ey k len (nu 3 + 1) n) (rU1 nu) n) (nu 3 + 1) n = 0) : rG G nu w ey k len n = q_upto n (dEnd (rA2 (rRace G w ey k len (nu 3 + 1) n) (rU1 nu) n) n) (rA2 (rRace G w ey k len (nu 3 + 1) n) (rU1 nu) n) := by
  unfold rG
  rw [s_rA1_on ho]
  unfold rA3
  rw [if_neg (s_on1 ho)]
  rcases sOv_yes hn h with q | q
  · rw [if_pos q]
  · split
    · rfl
    · rw [if_pos (by rw [s_u3 ho]; exact q)]
theorem s_rU_on2 (hn : n ≤ 8) (ho : nu 2 = 1) (h : ¬ sOv (rA2 (rRace G w ey k len (nu 3 + 1) n) (rU1 nu) n) (nu 3 + 1) n = 0) : rU G nu w ey k len n = upd (rU2 (upd nu 3 (nu 3 + 1))) 2 0 := by
  unfold rU
  rw [s_rA1_on ho]
  unfold rU3
  rw [if_neg (s_on1 ho)]
  rcases sOv_yes hn h with q | q
  · rw [if_pos q, s_rU1_on ho]
  · split
    · rw [s_rU1_on ho]
    · rw [if_pos (by rw [s_u3 ho]; exact q), s_rU1_on ho]
end SG
