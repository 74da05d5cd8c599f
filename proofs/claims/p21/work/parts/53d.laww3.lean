/-! times to come, points, and a minute without a race -/
section ZE
variable {F F2 : Nat → Nat → Int32} {u u2 ju ey wf : Nat → Int32} {w len : Int32} {k n i mk w0 : Nat}
theorem m_keep9 {G : Nat → Nat → Int32} {v : Nat → Int32} {b : Nat} {y : Int32} (ho : ¬ v 2 = 0) (h : G b 9 = 2) : mF G v y ju k len n b 9 = 2 ∧ mF G v y ju k len n b 6 = G b 6 := by
  have s9 : bSail (G b) y 9 = 2 := by
    unfold bSail
    rw [if_neg (by rw [h]; decide)]
    exact h
  have s6 : bSail (G b) y 6 = G b 6 := by
    unfold bSail
    rw [if_neg (by rw [h]; decide)]
    rfl
  constructor
  · rw [k_9 ho, if_neg (by rw [s9]; decide)]; exact s9
  · rw [k_6 ho, if_neg (by rw [s9]; decide)]; exact s6
theorem m_run {b : Nat} : ∀ (f : Nat) (S : (Nat → Nat → Int32) × (Nat → Int32)), S.1 b 9 = 2 → (mRun wf ju k len n f S).1 b 6 = S.1 b 6
  | 0, _, _ => rfl
  | f + 1, S, h => by
    have e : mRun wf ju k len n (f + 1) S = if S.2 2 = 0 then S else mRun wf ju k len n f (mS wf ju k len n S) := rfl
    rw [e]
    by_cases c : S.2 2 = 0
    · rw [if_pos c]
    · rw [if_neg c, m_run f _ (m_keep9 c h).1]
      exact (m_keep9 c h).2
theorem m_when1 (h : F i 9 = 2) : (mRun wf ju k len n 60 (F, u)).1 i 6 = F i 6 := m_run 60 (F, u) h
theorem m_when2 (ho : u 2 = 1) (hm : u 0 = nI mk) (hmk : mk < 2 ^ 31) (hw : wf (mk % 10) = nI w0) (h : mF F u (nI w0) ju k len n i 9 = 2) : (mRun wf ju k len n 60 (F, u)).1 i 6 = mF F u (nI w0) ju k len n i 6 := by
  have e : mRun wf ju k len n 60 (F, u) = if u 2 = 0 then (F, u) else mRun wf ju k len n 59 (mS wf ju k len n (F, u)) := rfl
  have e1 : mS wf ju k len n (F, u) = (mF F u (nI w0) ju k len n, mU F u (nI w0) ju k len n) := k_it1 hm hmk hw
  rw [e, if_neg (by rw [ho]; decide), e1, m_run 59 _ h]
theorem z_pts_all : ∀ q, q < 9 → q_sum (fun i => bPts (nI i)) q = zP (nI q) := by decide +kernel
theorem z_total (hn : n ≤ 8) (hF2 : F2 = mF F u w ju k len n) (hu2 : u2 = mU F u w ju k len n) (h : ∀ a, a < n → zH F F2 u u2 w len a) (ho : u 2 = 1) : q_sum (dCol F2 3) n = q_sum (dCol F 3) n + (if u2 2 = 0 then zP (q_sum (zI F2 u2) n) else 0) := by
  have ho0 : ¬ u 2 = 0 := by rw [ho]; decide
  have c3 : ∀ b, kM F u w ju k len b 3 = F b 3 := fun b => k_3
  rcases k_over (F := F) (w := w) (ju := ju) (k := k) (len := len) (n := n) ho0 with ⟨e1, e2⟩ | ⟨e1, e2⟩
  · obtain ⟨q, q1, q2, q3⟩ := s_total (G := kM F u w ju k len) hn
    have eI : q_sum (zI F2 u2) n = q_sum (dSt (kM F u w ju k len) 2) n := q_sum_congr fun a ha => by
      unfold zI dSt
      rw [(h a ha).2.2.1 4]
      show (if F2 a 9 = 2 then (1 : Int32) else 0) = _
      rw [hF2, e1, k_end (by decide)]
    rw [hu2, if_pos e2, ← hu2, eI, q2, ← z_pts_all q (by omega), hF2, e1, q3]
    congr 1
    exact q_sum_congr fun a _ => c3 a
  · rw [hu2, if_neg (by rw [e2]; exact ho0), hF2, e1, Int32.add_zero]
    exact q_sum_congr fun a _ => c3 a
theorem zI01 : zI F2 u2 i = 0 ∨ zI F2 u2 i = 1 := by
  unfold zI
  split
  · exact Or.inr rfl
  · exact Or.inl rfl
theorem z_le {p z : Nat} (hp : p ≤ 8000) (hz : z ≤ 8) : ¬ nI p + nI z < nI p ∧ nI p + nI z ≤ nI p + 8 ∧ nI p + 8 = nI (p + 8) := by
  have e8 : nI p + 8 = nI (p + 8) := nI_add p 8
  refine ⟨?_, ?_, e8⟩
  · rw [nI_add]; exact nI_nlt (by omega) (by omega)
  · rw [e8, nI_add]; exact nI_le (by omega) (by omega)
theorem z_pt1 (hF2 : F2 = mF F u w ju k len n) (hp : ∃ p, p ≤ 8000 ∧ F i 3 = nI p) : ¬ F2 i 3 < F i 3 := by
  obtain ⟨p, p1, p2⟩ := hp
  obtain ⟨z, z1, z2, -⟩ := k_col3 (F := F) (u := u) (w := w) (ju := ju) (k := k) (len := len) (n := n) (b := i)
  rw [hF2, z2, p2]
  exact (z_le p1 z1).1
theorem z_pt2 (hF2 : F2 = mF F u w ju k len n) (hp : ∃ p, p ≤ 8000 ∧ F i 3 = nI p) : F2 i 3 ≤ F i 3 + 8 := by
  obtain ⟨p, p1, p2⟩ := hp
  obtain ⟨z, z1, z2, -⟩ := k_col3 (F := F) (u := u) (w := w) (ju := ju) (k := k) (len := len) (n := n) (b := i)
  rw [hF2, z2, p2]
  exact (z_le p1 z1).2.1
theorem z_pt3 (hF2 : F2 = mF F u w ju k len n) (hu2 : u2 = mU F u w ju k len n) (h : ¬ (¬ u 2 = 0 ∧ u2 2 = 0 ∧ F2 i 9 = 2)) : F2 i 3 ≤ F i 3 + 0 := by
  obtain ⟨z, z1, z2, z3⟩ := k_col3 (F := F) (u := u) (w := w) (ju := ju) (k := k) (len := len) (n := n) (b := i)
  have e := z3 (by rw [← hF2, ← hu2]; exact h)
  rw [hF2, z2, e]
  exact Int32.le_refl _
/-- without a race -/
theorem zO_abt (ho : u 2 = 0) (hF2 : F2 = mF F u w ju k len n) (hu2 : u2 = mU F u w ju k len n) {o : Nat} (ho5 : o < 5) : dAbt F2 u2 i o = dAbt F u i o := by
  unfold dAbt
  rw [hu2, k_U1, hF2, (k_off ho).1, k_mF2 (by omega)]
theorem zO_wet (ho : u 2 = 0) (hF2 : F2 = mF F u w ju k len n) (hw : ∃ q, q ≤ 9 ∧ F i 4 = nI q) : F2 i 4 = if zD F u i = 0 then F i 4 else F i 4 - 1 := by
  rw [hF2, (k_off ho).1, k_m4 hw]
  unfold zD
  by_cases a : u 0 - u 0 / 5 * 5 = 0
  · rw [if_pos a, if_pos a, if_pos (Or.inl ho)]
    by_cases b : F i 4 ≤ 0
    · rw [if_pos b, if_pos b, if_pos rfl]
    · rw [if_neg b, if_neg b, if_pos ho, if_neg (by decide)]
  · rw [if_neg a, if_neg a, if_pos rfl]
theorem zO_W2 (ho : u 2 = 0) (hF2 : F2 = mF F u w ju k len n) (hw : ∃ q, q ≤ 9 ∧ F i 4 = nI q) (d : ¬ zD F u i = 0) : F2 i 4 = F i 4 - 1 := by rw [zO_wet ho hF2 hw, if_neg d]
theorem zO_W3 (ho : u 2 = 0) (hF2 : F2 = mF F u w ju k len n) (hw : ∃ q, q ≤ 9 ∧ F i 4 = nI q) (d : zD F u i = 0) : F2 i 4 = F i 4 := by rw [zO_wet ho hF2 hw, if_pos d]
theorem zO_tot (ho : u 2 = 0) (hF2 : F2 = mF F u w ju k len n) : q_sum (dCol F2 3) n = q_sum (dCol F 3) n + 0 := by
  rw [Int32.add_zero]
  refine q_sum_congr fun a _ => ?_
  unfold dCol
  rw [hF2, (k_off ho).1, k_mF2 (by decide)]
theorem zO_u2 (ho : u 2 = 0) (hu2 : u2 = mU F u w ju k len n) : u2 2 = 0 := by
  rw [hu2, (k_off ho).2]
  show upd u 0 (u 0 + 1) 2 = 0
  exact ho
theorem zN_off (ho : u 2 = 0) (hF2 : F2 = mF F u w ju k len n) (hu2 : u2 = mU F u w ju k len n) : zN F u F2 u2 i = 0 := by
  unfold zN
  rw [zO_abt ho hF2 hu2 (by omega)]
  split
  · next a => rw [if_neg (by rw [a]; decide)]
  · rfl
theorem zO_l3 (ho : u 2 = 0) (hF2 : F2 = mF F u w ju k len n) (hu2 : u2 = mU F u w ju k len n) (hB : F i 9 = 3 → F i 8 = 0) (c : dAbt F2 u2 i 4 = 3) : dAbt F2 u2 i 3 = 0 := by
  rw [zO_abt ho hF2 hu2 (by omega)] at c ⊢
  unfold dAbt at c ⊢
  by_cases a : u 1 = 0
  · rw [if_pos a] at c; exact absurd c (by decide)
  · rw [if_neg a] at c ⊢
    exact hB c
end ZE
