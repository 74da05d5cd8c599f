/-! a minute of the class, boat by boat -/
section KC
variable {X : Nat → Nat → Int32} {u ju : Nat → Int32} {n b k c : Nat} {len t w on : Int32} {r : Nat → Int32}
theorem k_end (hc : ¬ c = 3) : dEnd X n b c = X b c := by
  unfold dEnd
  split
  · simp [upd, hc]
  · rfl
theorem k_mF3 (hc : ¬ c = 3) : mF3 X u n b c = X b c := by
  unfold mF3
  split
  · rfl
  · split
    · exact k_end hc
    · split
      · exact k_end hc
      · rfl
theorem k_dry (hc : ¬ c = 4) : bDry r c = r c := by simp [bDry, upd, hc]
theorem k_mF2 (hc : ¬ c = 4) : mF2 X u b c = X b c := by
  unfold mF2
  split
  · unfold dDry
    split
    · exact k_dry hc
    · split
      · exact k_dry hc
      · rfl
  · rfl
theorem k_foul (hc : ¬ c = 7) : dFoul X ju k b c = X b c := by
  unfold dFoul dFoulR
  split
  · simp [upd, hc]
  · rfl
theorem k_in (h6 : ¬ c = 6) (h9 : ¬ c = 9) : dInF X len t b c = X b c := by
  unfold dInF bIn
  split
  · split
    · simp [upd, h6, h9]
    · rfl
  · rfl
/-- what sailing leaves of a row -/
def kSail (r : Nat → Int32) (w : Int32) (q : Nat → Int32) : Prop :=
  (q 0 = r 0 ∧ q 1 = r 1 ∧ q 2 = r 2 ∧ q 3 = r 3 ∧ q 6 = r 6 ∧ q 7 = r 7) ∧
  ((r 9 = 1 ∧ ¬ r 8 = 0 ∧ q 4 = r 4 ∧ q 5 = r 5 ∧ q 8 = r 8 - 1 ∧ q 9 = 1 ∧ q 10 = 0) ∨
   (r 9 = 1 ∧ r 8 = 0 ∧ bHeel r w ≤ 30 ∧ q 4 = r 4 ∧ q 5 = r 5 + bSpeed r w ∧ q 8 = 0 ∧ q 9 = 1 ∧ q 10 = 1) ∨
   (r 9 = 1 ∧ r 8 = 0 ∧ ¬ bHeel r w ≤ 30 ∧ bWet r = 9 ∧ q 4 = 9 ∧ q 5 = r 5 ∧ q 8 = 0 ∧ q 9 = 3 ∧ q 10 = 0) ∨
   (r 9 = 1 ∧ r 8 = 0 ∧ ¬ bHeel r w ≤ 30 ∧ ¬ bWet r = 9 ∧ q 4 = bWet r ∧ q 5 = r 5 ∧ q 8 = 2 ∧ q 9 = 1 ∧ q 10 = 0) ∨
   (¬ r 9 = 1 ∧ q 4 = r 4 ∧ q 5 = r 5 ∧ q 8 = r 8 ∧ q 9 = r 9 ∧ q 10 = 0))
theorem k_sail (h8 : r 8 = 0 ∨ r 8 = 1 ∨ r 8 = 2) : kSail r w (bSail r w) := by
  unfold bSail
  rw [p_heel10, p_speed10]
  by_cases c9 : r 9 = 1
  · rw [if_pos c9]
    by_cases c8 : r 8 = 0
    · rw [if_pos (show r 8 ≤ 0 from by rw [c8]; decide)]
      by_cases c3 : bHeel r w ≤ 30
      · rw [if_pos c3]
        exact ⟨⟨rfl, rfl, rfl, rfl, rfl, rfl⟩, Or.inr (Or.inl ⟨c9, c8, c3, rfl, rfl, c8, c9, rfl⟩)⟩
      · rw [if_neg c3]
        have hc := p_can (upd r 10 0)
        have hw : bWet (upd r 10 0) = bWet r := rfl
        unfold bFall
        rw [hw] at hc ⊢
        by_cases c2 : bWet r = 9
        · rw [if_pos (hc.mpr c2)]
          exact ⟨⟨rfl, rfl, rfl, rfl, rfl, rfl⟩, Or.inr (Or.inr (Or.inl ⟨c9, c8, c3, c2, c2, rfl, c8, rfl, rfl⟩))⟩
        · rw [if_neg (fun q => c2 (hc.mp q))]
          exact ⟨⟨rfl, rfl, rfl, rfl, rfl, rfl⟩, Or.inr (Or.inr (Or.inr (Or.inl ⟨c9, c8, c3, c2, rfl, rfl, rfl, c9, rfl⟩)))⟩
    · rw [if_neg (show ¬ r 8 ≤ 0 from by rcases h8 with q | q | q; · exact absurd q c8
                                         · rw [q]; decide
                                         · rw [q]; decide)]
      exact ⟨⟨rfl, rfl, rfl, rfl, rfl, rfl⟩, Or.inl ⟨c9, c8, rfl, rfl, rfl, c9, rfl⟩⟩
  · rw [if_neg c9]
    exact ⟨⟨rfl, rfl, rfl, rfl, rfl, rfl⟩, Or.inr (Or.inr (Or.inr (Or.inr ⟨c9, rfl, rfl, rfl, rfl, rfl⟩)))⟩
end KC
section KM
variable {F : Nat → Nat → Int32} {u ju : Nat → Int32} {n b k : Nat} {len w : Int32}
/-- the rows ahead of the race's end -/
def kM (F : Nat → Nat → Int32) (u : Nat → Int32) (w : Int32) (ju : Nat → Int32) (k : Nat) (len : Int32) : Nat → Nat → Int32 := mF2 (mF1 F u w ju k len) (mU1 u)
theorem k_eq : mF F u w ju k len n = mF3 (kM F u w ju k len) (mU1 u) n := rfl
theorem k_race (ho : ¬ u 2 = 0) : mF1 F u w ju k len = dRace F w ju k len (u 3 + 1) := if_neg ho
theorem k_norace (ho : u 2 = 0) : mF1 F u w ju k len = F := if_pos ho
theorem k_u0 : mU1 u 0 = u 0 := by
  unfold mU1
  split
  · rfl
  · simp [upd]
theorem k_u2 : mU1 u 2 = u 2 := by
  unfold mU1
  split
  · rfl
  · simp [upd]
/-- columns, in a race -/
theorem k_5 (ho : ¬ u 2 = 0) : mF F u w ju k len n b 5 = bSail (F b) w 5 := by rw [p_mF5, if_neg ho]; rfl
theorem k_8 (ho : ¬ u 2 = 0) : mF F u w ju k len n b 8 = bSail (F b) w 8 := by
  rw [k_eq, k_mF3 (by decide), kM, k_mF2 (by decide), k_race ho, dRace, k_in (by decide) (by decide), k_foul (by decide)]; rfl
theorem k_7 (ho : ¬ u 2 = 0) : mF F u w ju k len n b 7 = dFoul (dSail F w) ju k b 7 := by
  rw [k_eq, k_mF3 (by decide), kM, k_mF2 (by decide), k_race ho, dRace, k_in (by decide) (by decide)]
theorem k_in9 {X : Nat → Nat → Int32} {t : Int32} : dInF X len t b 9 = if X b 9 = 1 then (if len ≤ X b 5 then 2 else X b 9) else X b 9 := by
  unfold dInF bIn
  split
  · split
    · simp [upd]
    · rfl
  · rfl
theorem k_in6 {X : Nat → Nat → Int32} {t : Int32} : dInF X len t b 6 = if X b 9 = 1 then (if len ≤ X b 5 then t else X b 6) else X b 6 := by
  unfold dInF bIn
  split
  · split
    · simp [upd]
    · rfl
  · rfl
theorem k_9 (ho : ¬ u 2 = 0) : mF F u w ju k len n b 9 = if bSail (F b) w 9 = 1 then (if len ≤ bSail (F b) w 5 then 2 else bSail (F b) w 9) else bSail (F b) w 9 := by
  rw [k_eq, k_mF3 (by decide), kM, k_mF2 (by decide), k_race ho, dRace, k_in9, k_foul (by decide), k_foul (by decide)]; rfl
theorem k_6 (ho : ¬ u 2 = 0) : mF F u w ju k len n b 6 = if bSail (F b) w 9 = 1 then (if len ≤ bSail (F b) w 5 then u 3 + 1 else bSail (F b) w 6) else bSail (F b) w 6 := by
  rw [k_eq, k_mF3 (by decide), kM, k_mF2 (by decide), k_race ho, dRace, k_in6, k_foul (by decide), k_foul (by decide), k_foul (by decide)]; rfl
theorem k_r4 {t : Int32} : dRace F w ju k len t b 4 = bSail (F b) w 4 := by rw [dRace, k_in (by decide) (by decide), k_foul (by decide)]; rfl
theorem k_r9 {t : Int32} : dRace F w ju k len t b 9 = if bSail (F b) w 9 = 1 then (if len ≤ bSail (F b) w 5 then 2 else bSail (F b) w 9) else bSail (F b) w 9 := by rw [dRace, k_in9, k_foul (by decide), k_foul (by decide)]; rfl
theorem k_dry4 {r : Nat → Int32} (h : ∃ q, q ≤ 9 ∧ r 4 = nI q) : bDry r 4 = if r 4 ≤ 0 then r 4 else r 4 - 1 := by
  rw [s_dry4 h]
  split
  · rfl
  · simp [upd]
theorem k_m4 {X : Nat → Nat → Int32} {v : Nat → Int32} (h : ∃ q, q ≤ 9 ∧ X b 4 = nI q) : mF2 X v b 4 = if v 0 - v 0 / 5 * 5 = 0 then (if v 2 = 0 ∨ X b 9 = 0 then (if X b 4 ≤ 0 then X b 4 else X b 4 - 1) else X b 4) else X b 4 := by
  unfold mF2
  split
  · unfold dDry
    by_cases c : v 2 = 0
    · rw [if_pos c, if_pos (Or.inl c)]; exact k_dry4 h
    · rw [if_neg c]
      by_cases d : X b 9 = 0
      · rw [if_pos d, if_pos (Or.inr d)]; exact k_dry4 h
      · rw [if_neg d, if_neg (fun q => q.elim c d)]
  · rfl
theorem k_3 : kM F u w ju k len b 3 = F b 3 := by
  rw [kM, k_mF2 (by decide)]
  by_cases ho : u 2 = 0
  · rw [k_norace ho]
  · rw [k_race ho, dRace, k_in (by decide) (by decide), k_foul (by decide)]
    unfold dSail bSail
    split
    · split
      · split
        · rfl
        · unfold bFall; split <;> rfl
      · rfl
    · rfl
/-- the race's end, or not -/
theorem k_over (ho : ¬ u 2 = 0) : (mF F u w ju k len n = dEnd (kM F u w ju k len) n ∧ mU F u w ju k len n 2 = 0) ∨ (mF F u w ju k len n = kM F u w ju k len ∧ mU F u w ju k len n 2 = u 2) := by
  have e2 : ¬ mU1 u 2 = 0 := by rw [k_u2]; exact ho
  have e3 : ∀ v : Nat → Int32, mU2 v 2 = v 2 := fun v => by simp [mU2, upd]
  rw [k_eq]
  unfold mU mF3 mU3
  rw [if_neg e2, if_neg e2]
  split
  · exact Or.inl ⟨rfl, by simp [upd]⟩
  · split
    · next h => exact Or.inl ⟨rfl, by unfold kM at h; rw [if_pos h]; simp [upd]⟩
    · next h => exact Or.inr ⟨rfl, by unfold kM at h; rw [if_neg h, e3, k_u2]⟩
theorem k_off (ho : u 2 = 0) : mF F u w ju k len n = mF2 F u ∧ mU F u w ju k len n = mU2 u := by
  have e : mU1 u = u := if_pos ho
  constructor
  · rw [k_eq, kM, e, k_norace ho]; exact if_pos ho
  · unfold mU mU3
    rw [e, if_pos ho]
theorem k_U0 : mU F u w ju k len n 0 = u 0 + 1 := by
  unfold mU mU3 mU2
  split
  · simp [upd, k_u0]
  · split
    · simp [upd, k_u0]
    · split <;> simp [upd, k_u0]
theorem k_U1 : mU F u w ju k len n 1 = u 1 := by
  have e : mU1 u 1 = u 1 := by
    unfold mU1
    split
    · rfl
    · simp [upd]
  unfold mU mU3 mU2
  split
  · simp [upd, e]
  · split
    · simp [upd, e]
    · split <;> simp [upd, e]
theorem k_pts (x : Int32) : bPts x = 8 ∨ bPts x = 5 ∨ bPts x = 3 ∨ bPts x = 1 := by
  unfold bPts
  split
  · exact Or.inl rfl
  · split
    · exact Or.inr (Or.inl rfl)
    · split
      · exact Or.inr (Or.inr (Or.inl rfl))
      · exact Or.inr (Or.inr (Or.inr rfl))
/-- what a minute asks of a boat's row, and keeps -/
def kB (F : Nat → Nat → Int32) (n : Nat) : Prop := ∀ b, b < n → (F b 8 = 0 ∨ F b 8 = 1 ∨ F b 8 = 2) ∧ (F b 9 = 3 → F b 8 = 0)
theorem kB.of {G : Nat → Nat → Int32} (h : pF F G n) : kB F n := fun b hb => ⟨(h b hb).2.2.2.2, (h b hb).2.2.1⟩
theorem k_wt1 (hk : kB F n) (hw : sWt F n) : sWt (mF1 F u w ju k len) n := fun b hb => by
  by_cases ho : u 2 = 0
  · rw [k_norace ho]; exact hw b hb
  · rw [k_race ho, k_r4]
    obtain ⟨-, hs⟩ := k_sail (w := w) (hk b hb).1
    obtain ⟨q, q1, q2⟩ := hw b hb
    rcases hs with h | h | h | h | h
    · exact ⟨q, q1, h.2.2.1.trans q2⟩
    · exact ⟨q, q1, h.2.2.2.1.trans q2⟩
    · exact ⟨9, by omega, h.2.2.2.2.1.trans rfl⟩
    · obtain ⟨z, z1, z2⟩ := s_bwet (hw b hb)
      exact ⟨z, z1, h.2.2.2.2.1.trans z2⟩
    · exact ⟨q, q1, h.2.1.trans q2⟩
theorem k_4 (hk : kB F n) (hw : sWt F n) (hb : b < n) : mF F u w ju k len n b 4 = if u 0 - u 0 / 5 * 5 = 0 then (if u 2 = 0 ∨ mF1 F u w ju k len b 9 = 0 then (if mF1 F u w ju k len b 4 ≤ 0 then mF1 F u w ju k len b 4 else mF1 F u w ju k len b 4 - 1) else mF1 F u w ju k len b 4) else mF1 F u w ju k len b 4 := by
  rw [k_eq, k_mF3 (by decide), kM, k_m4 (k_wt1 hk hw b hb), k_u0, k_u2]
theorem k_wt (hk : kB F n) (hw : sWt F n) : sWt (mF F u w ju k len n) n := fun b hb => by
  obtain ⟨q, q1, q2⟩ := k_wt1 (u := u) (w := w) (ju := ju) (k := k) (len := len) hk hw b hb
  rw [k_4 hk hw hb, q2]
  split
  · split
    · split
      · exact ⟨q, q1, rfl⟩
      · next c =>
        rcases Nat.eq_zero_or_pos q with z | z
        · subst z; exact absurd (by decide) c
        · obtain ⟨y, rfl⟩ : ∃ y, q = y + 1 := ⟨q - 1, by omega⟩
          exact ⟨y, by omega, nI_pred y⟩
    · exact ⟨q, q1, rfl⟩
  · exact ⟨q, q1, rfl⟩
theorem k_end3 {X : Nat → Nat → Int32} : dEnd X n b 3 = if X b 9 = 2 then X b 3 + bPts (dRank X n b) else X b 3 := by
  unfold dEnd
  split
  · simp [upd]
  · rfl
theorem k_col3 : ∃ z, z ≤ 8 ∧ mF F u w ju k len n b 3 = F b 3 + nI z ∧ (¬ (¬ u 2 = 0 ∧ mU F u w ju k len n 2 = 0 ∧ mF F u w ju k len n b 9 = 2) → z = 0) := by
  by_cases ho : u 2 = 0
  · refine ⟨0, by omega, ?_, fun _ => rfl⟩
    rw [(k_off ho).1, k_mF2 (by decide)]
    exact (Int32.add_zero _).symm
  · rcases k_over (F := F) (w := w) (ju := ju) (k := k) (len := len) (n := n) ho with ⟨e1, e2⟩ | ⟨e1, e2⟩
    · rw [e1, k_end3, k_3, k_end (by decide)]
      by_cases c : kM F u w ju k len b 9 = 2
      · rw [if_pos c]
        rcases k_pts (dRank (kM F u w ju k len) n b) with q | q | q | q
        · exact ⟨8, by omega, by rw [q]; rfl, fun h => absurd ⟨ho, e2, c⟩ h⟩
        · exact ⟨5, by omega, by rw [q]; rfl, fun h => absurd ⟨ho, e2, c⟩ h⟩
        · exact ⟨3, by omega, by rw [q]; rfl, fun h => absurd ⟨ho, e2, c⟩ h⟩
        · exact ⟨1, by omega, by rw [q]; rfl, fun h => absurd ⟨ho, e2, c⟩ h⟩
      · rw [if_neg c]
        exact ⟨0, by omega, (Int32.add_zero _).symm, fun _ => rfl⟩
    · rw [e1, k_3]
      exact ⟨0, by omega, (Int32.add_zero _).symm, fun _ => rfl⟩
theorem k_on2 (h : mU F u w ju k len n 2 = 1) (hb2 : u 2 = 0 ∨ u 2 = 1) : u 2 = 1 := by
  rcases hb2 with q | q
  · rw [(k_off q).2, show mU2 u 2 = u 2 from by simp [mU2, upd], q] at h
    exact absurd h (by decide)
  · exact q
/-- all that is kept through a minute -/
theorem aI.minute {e0 j ar br mk : Nat} {G : Nat → Nat → Int32} {nu wf wg ey : Nat → Int32} {w0 : Nat} (h : aI e0 j ar br n k mk len F G u nu wf wg ju ey) (hw : wf (mk % 10) = nI w0) (hmk : mk < 2 ^ 31) :
    aI e0 (j + 1) ar br n k (mk + 1) len (mF F u (nI w0) ju k len n) (rG G nu (nI w0) ey k len n) (mU F u (nI w0) ju k len n) (rU G nu (nI w0) ey k len n) wf wg ju ey := by
  obtain ⟨h1, ⟨⟨r, r1, r2, r3⟩, x2, x3⟩, h3, h4, ⟨z, z1, z2, z3⟩, h5⟩ := h
  have hF := h1.2.1
  have hU := h1.2.2.1
  have hm : u 0 = nI mk := h1.1.2.2.2
  have hwq : ∀ q, q < 10 → wf q = wg q := h1.2.2.2.2.2.2.1
  have ew : wAt wf (u 0) = nI w0 := by unfold wAt; rw [hm, nI_clamp hmk, hw]
  have ew2 : wAt wg (nu 0) = nI w0 := by
    unfold wAt
    rw [← hU.1, hm, nI_clamp hmk, ← hwq _ (Nat.mod_lt _ (by omega)), hw]
  have p1 := h1.pass len (t := 1) (by omega)
  have q1 : mIt wf ju k len n (F, u) 1 = (mF F u (nI w0) ju k len n, mU F u (nI w0) ju k len n) := by
    show mS wf ju k len n (F, u) = _
    unfold mS
    rw [ew]
  have q2 : rIt wg ey k len n (G, nu) 1 = (rG G nu (nI w0) ey k len n, rU G nu (nI w0) ey k len n) := by
    show rS wg ey k len n (G, nu) = _
    unfold rS
    rw [ew2]
  rw [q1, q2] at p1
  refine ⟨p1, ⟨⟨r, by omega, by rw [k_U1]; exact r2, fun q => r3 (k_on2 q hU.2.2.2.2 )⟩, k_wt (kB.of hF) x2, fun b hb => ?_⟩, h3, h4, ⟨z, z1, z2, z3⟩, fun q b hb c9 => ?_⟩
  · obtain ⟨p, p1, p2⟩ := x3 b hb
    obtain ⟨y, y1, y2, -⟩ := k_col3 (F := F) (u := u) (w := nI w0) (ju := ju) (k := k) (len := len) (n := n) (b := b)
    exact ⟨p + y, by omega, by rw [y2, p2, nI_add]⟩
  · have ho1 : u 2 = 1 := k_on2 q hU.2.2.2.2
    have ho : ¬ u 2 = 0 := by rw [ho1]; decide
    rw [k_5 ho]
    rw [k_9 ho] at c9
    by_cases c : bSail (F b) (nI w0) 9 = 1
    · rw [if_pos c] at c9
      intro d
      rw [if_pos d] at c9
      exact absurd c9 (by decide)
    · rw [if_neg c] at c9
      exact absurd c9 c
end KM
