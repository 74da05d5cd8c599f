/-! what holds of the class and of the reference ahead of every call -/
/-- j calls at most were made; n boats, k judges, minute mk; F, u: the fleet and what it counts; G, nu: the reference's -/
def lI (j n k mk : Nat) (F G : Nat → Nat → Int32) (u nu wf wg ju ey : Nat → Int32) : Prop :=
  (n ≤ 8 ∧ k ≤ 3 ∧ mk ≤ 90 * j ∧ u 0 = nI mk) ∧ pF F G n ∧ pU u nu ∧ rGo nu 0 ∧ pBs F n ∧ p10 F n ∧ (∀ q, q < 10 → wf q = wg q) ∧ (∀ q, q < 10 → ∃ w, w < 10 ∧ wf q = nI w) ∧ (∀ q, q < k → ju q = ey q) ∧ pP F n 60 ∧ (∀ g, u 2 = 1 → u 3 = nI g → g < 60 → pP F n g)
section LI
variable {j n k mk : Nat} {F G : Nat → Nat → Int32} {u nu wf wg ju ey : Nat → Int32}
theorem lI.more (h : lI j n k mk F G u nu wf wg ju ey) : lI (j + 1) n k mk F G u nu wf wg ju ey := by
  obtain ⟨⟨h1, h2, h3, h4⟩, h5⟩ := h
  exact ⟨⟨h1, h2, by omega, h4⟩, h5⟩
theorem lI.wind (h : lI j n k mk F G u nu wf wg ju ey) {i w : Nat} (hi : i < 10) (hw : w < 10) : lI (j + 1) n k mk F G u nu (upd wf (i % 10) (nI w)) (upd wg i (nI w)) ju ey := by
  obtain ⟨⟨h1, h2, h3, h4⟩, h5, h6, h7, h8, h9, h10, h11, h12, h13, h14⟩ := h
  rw [Nat.mod_eq_of_lt hi]
  refine ⟨⟨h1, h2, by omega, h4⟩, h5, h6, h7, h8, h9, fun q hq => ?_, fun q hq => ?_, h12, h13, h14⟩
  · by_cases e : q = i
    · simp [upd, e]
    · simp [upd, e, h10 q hq]
  · by_cases e : q = i
    · exact ⟨w, hw, by simp [upd, e]⟩
    · obtain ⟨z, z1, z2⟩ := h11 q hq
      exact ⟨z, z1, by simp [upd, e, z2]⟩
theorem lI_off {n : Nat} {F : Nat → Nat → Int32} {u : Nat → Int32} (h : u 2 = 0) : ∀ g, u 2 = 1 → u 3 = nI g → g < 60 → pP F n g := fun g h1 => absurd (h.symm.trans h1) (by decide)
theorem lI.build (h : lI j n k mk F G u nu wf wg ju ey) (hn : n < 8) (h0 : u 2 = 0) {a g : Nat} (ha1 : 1 ≤ a) (ha : a < 10) (hg : g < 3) : lI (j + 1) (n + 1) k mk (va_up F n (bNew (nI a) (nI g))) (va_up G n (rNew (nI a) (nI g))) u nu wf wg ju ey := by
  obtain ⟨⟨h1, h2, h3, h4⟩, h5, h6, h7, h8, h9, h10, h11, h12, h13, h14⟩ := h
  have old : ∀ {β : Type} (f : Nat → β) (x : β) (b : Nat), b < n + 1 → ¬ b = n → b < n ∧ va_up f n x b = f b := fun f x b hb e => ⟨by omega, va_up_ne f x e⟩
  refine ⟨⟨by omega, h2, by omega, h4⟩, fun b hb => ?_, h6, h7, fun b hb => ?_, fun b hb => ?_, h10, h11, h12, fun b hb => ?_, lI_off h0⟩
  · by_cases e : b = n
    · subst e; rw [va_up_self, va_up_self]; exact pE.new _ _
    · rw [va_up_ne _ _ e, va_up_ne _ _ e]; exact h5 b (by omega)
  · by_cases e : b = n
    · subst e; rw [va_up_self]
      exact ⟨⟨a, ha1, ha, by simp [bNew, upd]⟩, ⟨g, hg, by simp [bNew, upd]⟩, ⟨0, by omega, by simp [bNew, upd]; rfl⟩⟩
    · rw [va_up_ne _ _ e]; exact h8 b (by omega)
  · by_cases e : b = n
    · subst e; rw [va_up_self]; exact Or.inl (by simp [bNew, upd])
    · rw [va_up_ne _ _ e]; exact h9 b (by omega)
  · by_cases e : b = n
    · subst e; rw [va_up_self]; exact ⟨0, by omega, by simp [bNew, upd]; rfl⟩
    · rw [va_up_ne _ _ e]; exact h13 b (by omega)
theorem lI.ballast (h : lI j n k mk F G u nu wf wg ju ey) {i z : Nat} (hi : i < n) (hz : z < 10) (h0 : u 2 = 0) : lI (j + 1) n k mk (va_up F i (upd (F i) 2 (nI z))) (va_up G i (upd (G i) 2 (nI z))) u nu wf wg ju ey := by
  obtain ⟨⟨h1, h2, h3, h4⟩, h5, h6, h7, h8, h9, h10, h11, h12, h13, h14⟩ := h
  refine ⟨⟨h1, h2, by omega, h4⟩, fun b hb => ?_, h6, h7, fun b hb => ?_, fun b hb => ?_, h10, h11, h12, fun b hb => ?_, lI_off h0⟩
  · by_cases e : b = i
    · subst e; rw [va_up_self, va_up_self]; exact (h5 b hb).upd8 2 (by omega) _
    · rw [va_up_ne _ _ e, va_up_ne _ _ e]; exact h5 b hb
  · by_cases e : b = i
    · subst e; rw [va_up_self]
      obtain ⟨⟨a, a1, a2, a3⟩, ⟨g, g1, g2⟩, -⟩ := h8 b hb
      exact ⟨⟨a, a1, a2, by simp [upd, a3]⟩, ⟨g, g1, by simp [upd, g2]⟩, ⟨z, hz, by simp [upd]⟩⟩
    · rw [va_up_ne _ _ e]; exact h8 b hb
  · by_cases e : b = i
    · subst e; rw [va_up_self]; simpa [upd] using h9 b hb
    · rw [va_up_ne _ _ e]; exact h9 b hb
  · by_cases e : b = i
    · subst e; rw [va_up_self]; simpa [upd] using h13 b hb
    · rw [va_up_ne _ _ e]; exact h13 b hb
theorem lI.judge (h : lI j n k mk F G u nu wf wg ju ey) (hk : k < 3) (x : Int32) : lI (j + 1) n (k + 1) mk F G u nu wf wg (q_jAdd ju k x) (upd ey k x) := by
  obtain ⟨⟨h1, h2, h3, h4⟩, h5, h6, h7, h8, h9, h10, h11, h12, h13, h14⟩ := h
  refine ⟨⟨h1, by omega, by omega, h4⟩, h5, h6, h7, h8, h9, h10, h11, fun q hq => ?_, h13, h14⟩
  by_cases e : q = k
  · simp [q_jAdd, upd, e]
  · have : q < k := by omega
    simp [q_jAdd, q_cpj, upd, e, this, h12 q this]
theorem lI.start (h : lI j n k mk F G u nu wf wg ju ey) : lI (j + 1) n k mk (dEnter F) (q_upto n (rEnters G) G) (dBegU u) (rBegU (upd nu 1 (nu 1 + 1))) wf wg ju ey := by
  obtain ⟨⟨h1, h2, h3, h4⟩, h5, h6, h7, h8, h9, h10, h11, h12, h13, h14⟩ := h
  have hp : ∀ g, pP (dEnter F) n g := fun g b _ => ⟨0, by omega, by simp [dEnter, bEnter, upd]; rfl⟩
  refine ⟨⟨h1, h2, by omega, by simpa [dBegU, upd] using h4⟩, h5.enter, ⟨?_, ?_, ?_, ?_, ?_⟩, Or.inr ⟨0, by omega, by omega, by simp [rBegU, upd]; rfl⟩, h8.keep (dEnter_keep F), fun b hb => ?_, h10, h11, h12, hp 60, fun g _ _ _ => hp g⟩
  · simp [dBegU, rBegU, upd, h6.1]
  · simp [dBegU, rBegU, upd, h6.2.1]
  · simp [dBegU, rBegU, upd]
  · simp [dBegU, rBegU, upd]
  · exact Or.inr (by simp [dBegU, upd])
  · simpa [dEnter, bEnter, upd] using h9 b hb
/-- one minute of both -/
def lM (n : Nat) (S R : (Nat → Nat → Int32) × (Nat → Int32)) : Prop := pS S R n ∧ rGo R.2 0 ∧ pBs S.1 n ∧ p10 S.1 n ∧ pP S.1 n 60 ∧ (∀ g, S.2 2 = 1 → S.2 3 = nI g → g < 60 → pP S.1 n g)
theorem l_mU_on (F : Nat → Nat → Int32) (u : Nat → Int32) (w : Int32) (ju : Nat → Int32) (k : Nat) (len : Int32) (n : Nat) : (u 2 = 0 → mU F u w ju k len n 2 = 0) ∧ (¬ u 2 = 0 → mU F u w ju k len n 3 = u 3 + 1) := by
  unfold mU mU3
  constructor
  · intro h
    have e : mU1 u = u := if_pos h
    rw [e, if_pos h]
    simp [mU2, upd, h]
  · intro h
    have e : mU1 u = upd u 3 (u 3 + 1) := if_neg h
    have e2 : ¬ upd u 3 (u 3 + 1) 2 = 0 := by simpa [upd] using h
    rw [e, if_neg e2]
    split
    · simp [mU2, upd]
    · split
      · simp [mU2, upd]
      · simp [mU2, upd]
theorem lM.step {n k : Nat} {wf wg ju ey : Nat → Int32} {len : Int32} {S R : (Nat → Nat → Int32) × (Nat → Int32)} (h : lM n S R) (hw : ∀ q, q < 10 → wf q = wg q) (hw2 : ∀ q, q < 10 → ∃ w, w < 10 ∧ wf q = nI w) (hj : ∀ q, q < k → ju q = ey q) : lM n (mS wf ju k len n S) (rS wg ey k len n R) := by
  obtain ⟨h1, h2, h3, h4, h5, h6⟩ := h
  obtain ⟨w, w1, w2⟩ := hw2 ((S.2 0).toNatClampNeg % 10) (Nat.mod_lt _ (by omega))
  have w3 : wAt wf (S.2 0) = nI w := w2
  have hon := l_mU_on S.1 S.2 (nI w) ju k len n
  have e1 : (mS wf ju k len n S).1 = mF S.1 S.2 (nI w) ju k len n := by unfold mS; rw [w3]
  have e2 : (mS wf ju k len n S).2 = mU S.1 S.2 (nI w) ju k len n := by unfold mS; rw [w3]
  refine ⟨p_mS h1 h2 hw hj len, rS_goA h2, ?_, ?_, ?_, ?_⟩
  · rw [e1]; exact h3.keep (mF_keep _ _ _ _ _ _ _)
  · rw [e1]; exact h4.minute _ _ _ _ _
  · rw [e1]
    by_cases c : S.2 2 = 0
    · intro b hb
      rw [p_mF5, if_pos c]
      exact h5 b hb
    · have c1 : S.2 2 = 1 := h1.2.2.2.2.2.resolve_left c
      rcases h2 with q | ⟨g, -, g2, g3⟩
      · exact absurd (h1.2.on.mp q) c
      · exact ((h6 g c1 (h1.2.2.2.2.1.trans g3) g2).minute h3 w1 _ _ _ _).more (by omega)
  · intro g c2 c3 c4
    rw [e2] at c2 c3
    rw [e1]
    by_cases c : S.2 2 = 0
    · rw [hon.1 c] at c2; exact absurd c2 (by decide)
    · have c1 : S.2 2 = 1 := h1.2.2.2.2.2.resolve_left c
      rcases h2 with q | ⟨g9, -, g2, g3⟩
      · exact absurd (h1.2.on.mp q) c
      · have e3 : S.2 3 = nI g9 := h1.2.2.2.2.1.trans g3
        rw [hon.2 c, e3, nI_1] at c3
        have e4 : g9 + 1 = g := (nI_eq (by omega) (by omega)).mp c3
        subst e4
        exact (h6 g9 c1 e3 g2).minute h3 w1 _ _ _ _
theorem lM.it {n k : Nat} {wf wg ju ey : Nat → Int32} {len : Int32} {S R : (Nat → Nat → Int32) × (Nat → Int32)} (h : lM n S R) (hw : ∀ q, q < 10 → wf q = wg q) (hw2 : ∀ q, q < 10 → ∃ w, w < 10 ∧ wf q = nI w) (hj : ∀ q, q < k → ju q = ey q) : ∀ t, lM n (mIt wf ju k len n S t) (rIt wg ey k len n R t)
  | 0 => h
  | t + 1 => (lM.it h hw hw2 hj t).step hw hw2 hj
theorem lI.pass (h : lI j n k mk F G u nu wf wg ju ey) (len : Int32) {t : Nat} (ht : t ≤ 90) : lI (j + 1) n k (mk + t) (mIt wf ju k len n (F, u) t).1 (rIt wg ey k len n (G, nu) t).1 (mIt wf ju k len n (F, u) t).2 (rIt wg ey k len n (G, nu) t).2 wf wg ju ey := by
  obtain ⟨⟨h1, h2, h3, h4⟩, h5, h6, h7, h8, h9, h10, h11, h12, h13, h14⟩ := h
  obtain ⟨⟨m1, m2⟩, m3, m4, m5, m6, m7⟩ := lM.it (len := len) (S := (F, u)) (R := (G, nu)) ⟨⟨h5, h6⟩, h7, h8, h9, h13, h14⟩ h10 h11 h12 t
  exact ⟨⟨h1, h2, by omega, mIt_0 wf ju k len n (F, u) h4 t⟩, m1, m2, m3, m4, m5, h10, h11, h12, m6, m7⟩
end LI
/-! the answers' conditions: the class's and the reference's -/
theorem l_in {v lo hi : Int32} : bIsIn v lo hi = 0 ↔ (v < lo ∨ ¬ v ≤ hi) := by
  unfold bIsIn
  by_cases a : v < lo
  · rw [if_pos a]; exact ⟨fun _ => Or.inl a, fun _ => rfl⟩
  · rw [if_neg a]
    by_cases b : hi < v
    · rw [if_pos b]; exact ⟨fun _ => Or.inr (Int32.not_le.mpr b), fun _ => rfl⟩
    · rw [if_neg b]
      refine ⟨fun q => absurd q (by decide), fun q => ?_⟩
      rcases q with q | q
      · exact absurd q a
      · exact absurd (Int32.not_lt.mp b) q
theorem l_inN {v lo hi : Int32} : ¬ bIsIn v lo hi = 0 ↔ (¬ v < lo ∧ v ≤ hi) := by
  rw [l_in]
  constructor
  · intro h
    exact ⟨fun q => h (Or.inl q), Classical.byContradiction fun q => h (Or.inr q)⟩
  · rintro ⟨h1, h2⟩ (q | q)
    · exact h1 q
    · exact q h2
/-- 'v < k' and 'v ≤ k - 1' -/
theorem l_lt {v : Int32} {k : Nat} (hk : k < 1000) : v < nI k ↔ v ≤ nI k - 1 := by
  have h1 : (nI k).toInt = k := nI_toInt (by omega)
  have h2 : (nI k - 1).toInt = (k : Int) - 1 := by
    by_cases z : k = 0
    · subst z; decide
    · obtain ⟨q, rfl⟩ : ∃ q, k = q + 1 := ⟨k - 1, by omega⟩
      rw [nI_pred, nI_toInt (by omega)]
      omega
  rw [Int32.lt_iff_toInt_lt, Int32.le_iff_toInt_le, h1, h2]
  omega
theorem l_boat {v : Int32} {n : Nat} (hn : n ≤ 8) : bIsIn v 0 (nI n - 1) = 0 ↔ (v < 0 ∨ ¬ v < nI n) := by
  rw [l_in, l_lt (by omega)]
theorem l_boatN {v : Int32} {n : Nat} (hn : n ≤ 8) (h : ¬ (v < 0 ∨ ¬ v < nI n)) : ∃ i, i < n ∧ v = nI i := by
  have h1 : ¬ v < 0 := fun q => h (Or.inl q)
  have h2 : v < nI n := Classical.byContradiction fun q => h (Or.inr q)
  obtain ⟨i, i1, rfl⟩ := nI_of h1
  exact ⟨i, (nI_ltI i1 (by omega)).mp h2, rfl⟩
/-- 0 to m, as the class asks: v < 0, v < m + 1 -/
theorem l_upN {v : Int32} {m : Nat} (hm : m < 1000) (h : ¬ (v < 0 ∨ ¬ v < nI m)) : ∃ i, i < m ∧ v = nI i := by
  have h1 : ¬ v < 0 := fun q => h (Or.inl q)
  have h2 : v < nI m := Classical.byContradiction fun q => h (Or.inr q)
  obtain ⟨i, i1, rfl⟩ := nI_of h1
  exact ⟨i, (nI_ltI i1 (by omega)).mp h2, rfl⟩
theorem l_toN {v : Int32} {m : Nat} (hm : m < 1000) (h : ¬ (v < 0 ∨ ¬ v ≤ nI m)) : ∃ i, i ≤ m ∧ v = nI i := by
  have h1 : ¬ v < 0 := fun q => h (Or.inl q)
  have h2 : v ≤ nI m := Classical.byContradiction fun q => h (Or.inr q)
  obtain ⟨i, i1, rfl⟩ := nI_of h1
  exact ⟨i, (nI_leI i1 (by omega)).mp h2, rfl⟩
theorem l_fromN {v : Int32} {m : Nat} (hm : m < 1000) (h : ¬ (v < 1 ∨ ¬ v ≤ nI m)) : ∃ i, 1 ≤ i ∧ i ≤ m ∧ v = nI i := by
  have h1 : ¬ v < 1 := fun q => h (Or.inl q)
  have h2 : v ≤ nI m := Classical.byContradiction fun q => h (Or.inr q)
  have h0 : ¬ v < 0 := fun q => h1 (by
    have := Int32.lt_iff_toInt_lt.mp q
    rw [show (0 : Int32).toInt = 0 by decide] at this
    exact Int32.lt_iff_toInt_lt.mpr (by rw [show (1 : Int32).toInt = 1 by decide]; omega))
  obtain ⟨i, i1, rfl⟩ := nI_of h0
  refine ⟨i, ?_, (nI_leI i1 (by omega)).mp h2, rfl⟩
  rcases Nat.lt_or_ge i 1 with q | q
  · exact absurd (show nI i < 1 from nI_lt (a := i) (b := 1) q (by omega)) h1
  · exact q
theorem l_below {v lo hi M : Int32} (h : M.toInt = hi.toInt + 1) : bIsIn v lo hi = 0 ↔ (v < lo ∨ ¬ v < M) := by
  rw [l_in]
  have e : v ≤ hi ↔ v < M := by
    rw [Int32.lt_iff_toInt_lt, Int32.le_iff_toInt_le, h]
    omega
  rw [e]
/-! how many races there were changes nothing else -/
theorem l_up1 (f : Nat → Int32) (a : Nat) (x z : Int32) (ha : ¬ a = 1) : upd (upd f 1 z) a x = upd (upd f a x) 1 z := by
  funext b
  simp only [upd]
  by_cases h : b = a
  · rw [if_pos h, h, if_neg ha, if_pos rfl]
  · rw [if_neg h, if_neg h]
theorem l_on1 (nu : Nat → Int32) (z : Int32) : bOn (upd nu 1 z) = bOn nu := rfl
theorem l_rU1 (nu : Nat → Int32) (z : Int32) : rU1 (upd nu 1 z) = upd (rU1 nu) 1 z := by
  unfold rU1
  rw [l_on1]
  split
  · rfl
  · exact l_up1 nu 3 _ z (by decide)
theorem l_rU2 (nu : Nat → Int32) (z : Int32) : rU2 (upd nu 1 z) = upd (rU2 nu) 1 z := l_up1 nu 0 _ z (by decide)
theorem l_rU3 (G : Nat → Nat → Int32) (nu : Nat → Int32) (n : Nat) (z : Int32) : rU3 G (upd nu 1 z) n = upd (rU3 G nu n) 1 z := by
  unfold rU3
  rw [l_on1, l_rU2, l_up1 (rU2 nu) 2 0 z (by decide), show upd nu 1 z 3 = nu 3 from rfl]
  split
  · rfl
  · split
    · rfl
    · split
      · rfl
      · rfl
theorem l_rS (wf ey : Nat → Int32) (k : Nat) (len : Int32) (n : Nat) (G : Nat → Nat → Int32) (nu : Nat → Int32) (z : Int32) : rS wf ey k len n (G, upd nu 1 z) = ((rS wf ey k len n (G, nu)).1, upd (rS wf ey k len n (G, nu)).2 1 z) := by
  have e0 : upd nu 1 z 0 = nu 0 := rfl
  have a1 : ∀ w, rA1 G (upd nu 1 z) w ey k len n = rA1 G nu w ey k len n := fun w => rfl
  have a2 : ∀ M, rA2 M (upd (rU1 nu) 1 z) n = rA2 M (rU1 nu) n := fun M => rfl
  have a3 : ∀ M, rA3 M (upd (rU1 nu) 1 z) n = rA3 M (rU1 nu) n := fun M => rfl
  unfold rS
  simp only [e0]
  unfold rG rU
  rw [a1, l_rU1, a2, a3, l_rU3]
theorem l_rRun (wf ey : Nat → Int32) (k : Nat) (len : Int32) (n : Nat) : ∀ (f : Nat) (G : Nat → Nat → Int32) (nu : Nat → Int32) (z : Int32), (rRun wf ey k len n f (G, upd nu 1 z)).1 = (rRun wf ey k len n f (G, nu)).1
  | 0, _, _, _ => rfl
  | f + 1, G, nu, z => by
    have e : ∀ S : (Nat → Nat → Int32) × (Nat → Int32), rRun wf ey k len n (f + 1) S = if bOn S.2 = 0 then S else rRun wf ey k len n f (rS wf ey k len n S) := fun S => rfl
    rw [e, e]
    by_cases c : bOn nu = 0
    · rw [if_pos (show bOn (G, upd nu 1 z).2 = 0 from c), if_pos (show bOn (G, nu).2 = 0 from c)]
    · rw [if_neg (show ¬ bOn (G, upd nu 1 z).2 = 0 from c), if_neg (show ¬ bOn (G, nu).2 = 0 from c), l_rS, l_rRun wf ey k len n f]
theorem l_begU (nu : Nat → Int32) (z : Int32) : rBegU (upd nu 1 z) = upd (rBegU nu) 1 z := by
  unfold rBegU
  rw [l_up1 nu 2 1 z (by decide), l_up1 _ 3 0 z (by decide)]
/-- the winner of a race that would be started now -/
theorem lI.win {j n k mk : Nat} {F G : Nat → Nat → Int32} {u nu wf wg ju ey : Nat → Int32} (h : lI j n k mk F G u nu wf wg ju ey) (len : Int32) : pF (mRun wf ju k len n 60 (dEnter F, dBegU u)).1 (rRun wg ey k len n 60 (q_upto n (rEnters G) G, rBegU nu)).1 n := by
  obtain ⟨-, h5, h6, h7, -, -, h10, -, h12, -, -⟩ := h.start
  have := (p_mRun h10 h12 len 60 (dEnter F, dBegU u) (q_upto n (rEnters G) G, rBegU (upd nu 1 (nu 1 + 1))) ⟨h5, h6⟩ h7).1
  rw [l_begU, l_rRun] at this
  exact this
