/-! the end of a race as the law has it: the best one that is left, one after the other -/
def sPk (G : Nat → Nat → Int32) (D : Nat → Int32) : Nat → Option Nat
  | 0 => none
  | k + 1 => if D k = 0 then (if G k 9 = 2 then (match sPk G D k with
      | none => some k
      | some j => if bRes (G k) < bRes (G j) then some k else some j) else sPk G D k) else sPk G D k
/-- a comes ahead of b -/
def sBt (G : Nat → Nat → Int32) (a b : Nat) : Prop := bRes (G a) < bRes (G b) ∨ (bRes (G a) = bRes (G b) ∧ a < b)
theorem s_nlt {x : Int32} : ¬ x < x := fun h => absurd (Int32.lt_iff_toInt_lt.mp h) (by omega)
theorem s_trans {x y z : Int32} (h1 : x < y) (h2 : y < z) : x < z := Int32.lt_iff_toInt_lt.mpr (Int.lt_trans (Int32.lt_iff_toInt_lt.mp h1) (Int32.lt_iff_toInt_lt.mp h2))
theorem s_lt_of {x y : Int32} (h : ¬ y < x) (h2 : ¬ x = y) : x < y := by
  rw [Int32.lt_iff_toInt_lt] at h ⊢
  have : ¬ x.toInt = y.toInt := fun e => h2 (Int32.toInt_inj.mp e)
  omega
theorem s_asym {x y : Int32} (h : x < y) : ¬ y < x := fun q => s_nlt (s_trans h q)
theorem sBt.bet {G : Nat → Nat → Int32} {a b : Nat} (h : sBt G a b) (hb : b < 2 ^ 31) : dBet G b a = 1 := by
  unfold dBet
  rcases h with h | ⟨h1, h2⟩
  · rw [if_pos h]
  · rw [if_neg (by rw [h1]; exact s_nlt), if_pos h1, if_neg (nI_ge h2 hb)]
theorem sBt.nbet {G : Nat → Nat → Int32} {a b : Nat} (h : sBt G a b) (hb : b < 2 ^ 31) : dBet G a b = 0 := by
  unfold dBet
  rcases h with h | ⟨h1, h2⟩
  · rw [if_neg (s_asym h), if_neg (fun e => by rw [e] at h; exact s_nlt h)]
  · rw [if_neg (by rw [h1]; exact s_nlt), if_pos h1.symm, if_pos (nI_le (Nat.le_of_lt h2) hb)]
theorem s_bet_self {G : Nat → Nat → Int32} {a : Nat} (ha : a < 2 ^ 31) : dBet G a a = 0 := by
  unfold dBet
  rw [if_neg s_nlt, if_pos rfl, if_pos (nI_le (Nat.le_refl a) ha)]
section PK
variable {G : Nat → Nat → Int32} {D : Nat → Int32}
theorem sPk_skip1 {k : Nat} (h : ¬ D k = 0) : sPk G D (k + 1) = sPk G D k := by rw [sPk, if_neg h]
theorem sPk_skip2 {k : Nat} (h : ¬ G k 9 = 2) : sPk G D (k + 1) = sPk G D k := by
  by_cases d : D k = 0
  · rw [sPk, if_pos d, if_neg h]
  · exact sPk_skip1 d
theorem sPk_new {k : Nat} (h : D k = 0) (h2 : G k 9 = 2) (h3 : sPk G D k = none) : sPk G D (k + 1) = some k := by rw [sPk, if_pos h, if_pos h2, h3]
theorem sPk_bet {k j : Nat} (h : D k = 0) (h2 : G k 9 = 2) (h3 : sPk G D k = some j) (h4 : bRes (G k) < bRes (G j)) : sPk G D (k + 1) = some k := by rw [sPk, if_pos h, if_pos h2, h3]; exact if_pos h4
theorem sPk_not {k j : Nat} (h : D k = 0) (h2 : G k 9 = 2) (h3 : sPk G D k = some j) (h4 : ¬ bRes (G k) < bRes (G j)) : sPk G D (k + 1) = some j := by rw [sPk, if_pos h, if_pos h2, h3]; exact if_neg h4
theorem sPk_lt : ∀ {n j : Nat}, sPk G D n = some j → j < n
  | 0, _, h => by cases h
  | m + 1, j, h => by
    by_cases d : D m = 0
    · by_cases g : G m 9 = 2
      · cases hm : sPk G D m with
        | none => rw [sPk_new d g hm] at h; cases h; omega
        | some i =>
          have := sPk_lt hm
          by_cases c : bRes (G m) < bRes (G i)
          · rw [sPk_bet d g hm c] at h; cases h; omega
          · rw [sPk_not d g hm c] at h; cases h; omega
      · rw [sPk_skip2 g] at h; have := sPk_lt h; omega
    · rw [sPk_skip1 d] at h; have := sPk_lt h; omega
theorem sPk_none : ∀ {n : Nat}, sPk G D n = none → ∀ k, k < n → D k = 0 → ¬ G k 9 = 2
  | 0, _, k, hk, _ => absurd hk (Nat.not_lt_zero k)
  | m + 1, h, k, hk, h1 => fun h2 => by
    by_cases e : k = m
    · subst e
      cases hm : sPk G D k with
      | none => rw [sPk_new h1 h2 hm] at h; cases h
      | some i =>
        by_cases c : bRes (G k) < bRes (G i)
        · rw [sPk_bet h1 h2 hm c] at h; cases h
        · rw [sPk_not h1 h2 hm c] at h; cases h
    · have hm : sPk G D m = none := by
        by_cases d : D m = 0
        · by_cases g : G m 9 = 2
          · cases hm : sPk G D m with
            | none => rfl
            | some i =>
              by_cases c : bRes (G m) < bRes (G i)
              · rw [sPk_bet d g hm c] at h; cases h
              · rw [sPk_not d g hm c] at h; cases h
          · rw [sPk_skip2 g] at h; exact h
        · rw [sPk_skip1 d] at h; exact h
      exact sPk_none hm k (by omega) h1 h2
theorem sPk_some : ∀ {n j : Nat}, sPk G D n = some j → D j = 0 ∧ G j 9 = 2 ∧ ∀ k, k < n → D k = 0 → G k 9 = 2 → ¬ k = j → sBt G j k
  | 0, _, h => by cases h
  | m + 1, j, h => by
    by_cases d : D m = 0
    · by_cases g : G m 9 = 2
      · cases hm : sPk G D m with
        | none =>
          rw [sPk_new d g hm] at h
          cases h
          exact ⟨d, g, fun k hk h1 h2 h3 => absurd h2 (sPk_none hm k (by omega) h1)⟩
        | some i =>
          obtain ⟨i1, i2, i3⟩ := sPk_some hm
          have il := sPk_lt hm
          by_cases c : bRes (G m) < bRes (G i)
          · rw [sPk_bet d g hm c] at h
            cases h
            refine ⟨d, g, fun k hk h1 h2 h3 => ?_⟩
            by_cases e : k = i
            · subst e; exact Or.inl c
            · rcases i3 k (by omega) h1 h2 e with q | ⟨q, -⟩
              · exact Or.inl (s_trans c q)
              · exact Or.inl (by rw [← q]; exact c)
          · rw [sPk_not d g hm c] at h
            cases h
            refine ⟨i1, i2, fun k hk h1 h2 h3 => ?_⟩
            by_cases e : k = m
            · subst e
              by_cases q : bRes (G j) = bRes (G k)
              · exact Or.inr ⟨q, il⟩
              · exact Or.inl (s_lt_of c q)
            · exact i3 k (by omega) h1 h2 h3
      · rw [sPk_skip2 g] at h
        obtain ⟨i1, i2, i3⟩ := sPk_some h
        refine ⟨i1, i2, fun k hk h1 h2 h3 => ?_⟩
        by_cases e : k = m
        · subst e; exact absurd h2 g
        · exact i3 k (by omega) h1 h2 h3
    · rw [sPk_skip1 d] at h
      obtain ⟨i1, i2, i3⟩ := sPk_some h
      refine ⟨i1, i2, fun k hk h1 h2 h3 => ?_⟩
      by_cases e : k = m
      · subst e; exact absurd h1 d
      · exact i3 k (by omega) h1 h2 h3
theorem sPk_congr {F : Nat → Nat → Int32} (h : ∀ a, bRes (F a) = bRes (G a) ∧ F a 9 = G a 9) : ∀ n : Nat, sPk F D n = sPk G D n
  | 0 => rfl
  | n + 1 => by
    rw [sPk, sPk, sPk_congr h n, (h n).2, (h n).1]
    cases sPk G D n with
    | none => rfl
    | some j => simp only [(h j).1]
/-- how many are done -/
def sCt (D : Nat → Int32) : Nat → Nat
  | 0 => 0
  | k + 1 => sCt D k + (if D k = 0 then 0 else 1)
theorem sCt_le : ∀ n : Nat, sCt D n ≤ n
  | 0 => Nat.le_refl 0
  | n + 1 => by
    have := sCt_le n
    rw [sCt]
    split <;> omega
theorem sCt_q : ∀ n : Nat, q_sum (fun b => if D b = 0 then (0 : Int32) else 1) n = nI (sCt D n)
  | 0 => rfl
  | n + 1 => by
    rw [q_sum, sCt_q n, sCt]
    by_cases h : D n = 0
    · rw [if_pos h, if_pos h, Int32.add_zero, Nat.add_zero]
    · rw [if_neg h, if_neg h, nI_1]
theorem sCt_congr {E : Nat → Int32} : ∀ {n : Nat}, (∀ k, k < n → D k = E k) → sCt D n = sCt E n
  | 0, _ => rfl
  | n + 1, h => by rw [sCt, sCt, sCt_congr (fun k hk => h k (by omega)), h n (by omega)]
theorem sCt_up {j : Nat} (hd : D j = 0) : ∀ {n : Nat}, j < n → sCt (upd D j 1) n = sCt D n + 1
  | 0, h => absurd h (Nat.not_lt_zero j)
  | n + 1, h => by
    rw [sCt, sCt]
    by_cases e : j = n
    · subst e
      rw [sCt_congr (E := D) (fun k hk => by have : ¬ k = j := by omega
                                             simp [upd, this]), hd, if_pos rfl, show upd D j 1 j = 1 by simp [upd], if_neg (by decide)]
    · rw [sCt_up hd (by omega), show upd D j 1 n = D n by have : ¬ n = j := by omega
                                                          simp [upd, this]]
      omega
theorem sCt_full : ∀ {n : Nat}, sCt D n = n → ∀ k, k < n → ¬ D k = 0
  | 0, _, k, hk => absurd hk (Nat.not_lt_zero k)
  | n + 1, h, k, hk => by
    rw [sCt] at h
    have := sCt_le (D := D) n
    by_cases d : D n = 0
    · rw [if_pos d] at h; omega
    · rw [if_neg d] at h
      by_cases e : k = n
      · subst e; exact d
      · exact sCt_full (n := n) (by omega) k (by omega)
end PK
theorem q_sum_up {f : Nat → Int32} {j : Nat} {x : Int32} : ∀ {n : Nat}, j < n → q_sum (upd f j (f j + x)) n = q_sum f n + x
  | 0, h => absurd h (Nat.not_lt_zero j)
  | n + 1, h => by
    rw [q_sum, q_sum]
    by_cases e : j = n
    · subst e
      rw [q_sum_congr (g := f) (fun k hk => by have : ¬ k = j := by omega
                                               simp [upd, this]), show upd f j (f j + x) j = f j + x by simp [upd], Int32.add_assoc]
    · rw [q_sum_up (by omega), show upd f j (f j + x) n = f n by have : ¬ n = j := by omega
                                                                 simp [upd, this], Int32.add_assoc, Int32.add_assoc, Int32.add_comm x]
/-- p are done: they are the best p, and have their points -/
def sInv (G : Nat → Nat → Int32) (n p : Nat) (M : Nat → Nat → Int32) (D : Nat → Int32) : Prop :=
  sCt D n = p ∧ (∀ a, ¬ D a = 0 → a < n ∧ G a 9 = 2 ∧ M a = dEnd G n a) ∧ (∀ a, D a = 0 → M a = G a) ∧ (∀ a b, ¬ D a = 0 → b < n → D b = 0 → G b 9 = 2 → sBt G a b) ∧ q_sum (dCol M 3) n = q_sum (dCol G 3) n + q_sum (fun i => bPts (nI i)) p
theorem sInv.init (G : Nat → Nat → Int32) (n : Nat) : sInv G n 0 G (fun _ => 0) := by
  refine ⟨?_, fun a h => absurd rfl h, fun _ _ => rfl, fun a b h => absurd rfl h, (Int32.add_zero _).symm⟩
  induction n with
  | zero => rfl
  | succ n ih => rw [sCt, ih]; rfl
section IV
variable {G M : Nat → Nat → Int32} {n p : Nat} {D : Nat → Int32}
theorem sInv.same (h : sInv G n p M D) (a : Nat) : bRes (M a) = bRes (G a) ∧ M a 9 = G a 9 := by
  by_cases d : D a = 0
  · rw [h.2.2.1 a d]; exact ⟨rfl, rfl⟩
  · obtain ⟨-, -, e⟩ := h.2.1 a d
    obtain ⟨c6, c7, c9⟩ := dEnd_cols G n a
    rw [e]
    exact ⟨by unfold bRes; rw [c6, c7], c9⟩
theorem sInv.rank (h : sInv G n p M D) (hn : n ≤ 8) {j : Nat} (hj : sPk M D n = some j) : dRank G n j = nI p ∧ j < n ∧ D j = 0 ∧ G j 9 = 2 := by
  rw [sPk_congr h.same] at hj
  obtain ⟨j1, j2, j3⟩ := sPk_some hj
  have jl := sPk_lt hj
  refine ⟨?_, jl, j1, j2⟩
  rw [← h.1, ← sCt_q, dRank]
  refine q_sum_congr fun b hb => ?_
  unfold dAh
  by_cases g : G b 9 = 2
  · rw [if_pos g]
    by_cases d : D b = 0
    · rw [if_pos d]
      by_cases e : b = j
      · subst e; exact s_bet_self (by omega)
      · exact (j3 b hb d g e).nbet (by omega)
    · rw [if_neg d]
      exact (h.2.2.2.1 b j d jl j1 j2).bet (by omega)
  · rw [if_neg g]
    by_cases d : D b = 0
    · rw [if_pos d]
    · exact absurd (h.2.1 b d).2.1 g
theorem sInv.step (h : sInv G n p M D) (hn : n ≤ 8) {j : Nat} (hj : sPk M D n = some j) : sInv G n (p + 1) (va_up M j (upd (M j) 3 (M j 3 + bPts (nI p)))) (upd D j 1) := by
  obtain ⟨r1, r2, r3, r4⟩ := h.rank hn hj
  have hj2 := hj
  rw [sPk_congr h.same] at hj2
  obtain ⟨-, -, j3⟩ := sPk_some hj2
  have dn : ∀ a, ¬ a = j → upd D j 1 a = D a := fun a ha => by simp [upd, ha]
  have dj : upd D j 1 j = 1 := by simp [upd]
  refine ⟨by rw [sCt_up r3 r2, h.1], fun a ha => ?_, fun a ha => ?_, fun a b ha hb hc hd => ?_, ?_⟩
  · by_cases e : a = j
    · subst e
      refine ⟨r2, r4, ?_⟩
      rw [va_up_self, h.2.2.1 a r3]
      unfold dEnd
      rw [if_pos r4, r1]
    · rw [dn a e] at ha
      rw [va_up_ne _ _ e]
      exact h.2.1 a ha
  · by_cases e : a = j
    · subst e; rw [dj] at ha; exact absurd ha (by decide)
    · rw [dn a e] at ha
      rw [va_up_ne _ _ e]
      exact h.2.2.1 a ha
  · have eb : ¬ b = j := fun e => by subst e; rw [dj] at hc; exact absurd hc (by decide)
    rw [dn b eb] at hc
    by_cases e : a = j
    · subst e; exact j3 b hb hc hd eb
    · rw [dn a e] at ha
      exact h.2.2.2.1 a b ha hb hc hd
  · have e1 : dCol (va_up M j (upd (M j) 3 (M j 3 + bPts (nI p)))) 3 = upd (dCol M 3) j (dCol M 3 j + bPts (nI p)) := by
      funext b
      unfold dCol
      by_cases e : b = j
      · subst e; rw [va_up_self]; simp [upd]
      · rw [va_up_ne _ _ e]; simp [upd, e]
    rw [e1, q_sum_up r2, h.2.2.2.2, q_sum, Int32.add_assoc]
theorem sInv.fin (h : sInv G n p M D) (he : p = n ∨ sPk M D n = none) : (∀ b, b < n → M b = dEnd G n b) ∧ q_sum (dSt G 2) n = nI p := by
  have all : ∀ b, b < n → D b = 0 → ¬ G b 9 = 2 := by
    rcases he with e | e
    · intro b hb d
      exact absurd d (sCt_full (h.1.trans e) b hb)
    · rw [sPk_congr h.same] at e
      exact sPk_none e
  refine ⟨fun b hb => ?_, ?_⟩
  · by_cases d : D b = 0
    · rw [h.2.2.1 b d]
      unfold dEnd
      rw [if_neg (all b hb d)]
    · exact (h.2.1 b d).2.2
  · rw [← h.1, ← sCt_q]
    refine q_sum_congr fun b hb => ?_
    unfold dSt
    by_cases d : D b = 0
    · rw [if_pos d, if_neg (all b hb d)]
    · rw [if_neg d, if_pos (h.2.1 b d).2.1]
end IV
theorem s_fin_ex {G : Nat → Nat → Int32} {n : Nat} (hn : n ≤ 8) : ∀ (f p : Nat) (M : Nat → Nat → Int32) (D : Nat → Int32), sInv G n p M D → n ≤ p + f → ∃ (q : Nat) (M2 : Nat → Nat → Int32) (D2 : Nat → Int32), sInv G n q M2 D2 ∧ (q = n ∨ sPk M2 D2 n = none)
  | 0, p, M, D, h, hf => ⟨p, M, D, h, Or.inl (by have := sCt_le (D := D) n; rw [h.1] at this; omega)⟩
  | f + 1, p, M, D, h, hf => by
    cases hj : sPk M D n with
    | none => exact ⟨p, M, D, h, Or.inr hj⟩
    | some j => exact s_fin_ex hn f (p + 1) _ _ (h.step hn hj) (by omega)
/-- what a race gives in all -/
theorem s_total {G : Nat → Nat → Int32} {n : Nat} (hn : n ≤ 8) : ∃ q, q ≤ n ∧ q_sum (dSt G 2) n = nI q ∧ q_sum (dCol (dEnd G n) 3) n = q_sum (dCol G 3) n + q_sum (fun i => bPts (nI i)) q := by
  obtain ⟨q, M, D, h, e⟩ := s_fin_ex hn n 0 G (fun _ => 0) (sInv.init G n) (by omega)
  obtain ⟨f1, f2⟩ := h.fin e
  refine ⟨q, by rw [← h.1]; exact sCt_le n, f2, ?_⟩
  rw [← h.2.2.2.2]
  exact q_sum_congr fun b hb => by unfold dCol; rw [f1 b hb]
