-- of 12.model

/-! the reference: rows of numbers -/
abbrev q_mc (a : Nat) (th : Int32) (nb nj : Nat) (len : Int32) (mw me mf mn : Nat) : Nat × va_E := (a, .inr (5, [.int th, .int (nI nb), .int (nI nj), .int len, .ref mw, .ref me, .ref mf, .ref mn]))
def q_flat (G : Nat → Nat → Int32) : Nat → Int32 := fun j => G (j / 10) (j % 10)
abbrev q_fa (T : Nat → ClassId) (a : Nat) (G : Nat → Nat → Int32) : Nat × va_E := (a, .inl (T 0, 80, .inl (q_flat G)))
theorem q_flat_at (G : Nat → Nat → Int32) {b k : Nat} (hk : k < 10) : q_flat G (10 * b + k) = G b k := by
  unfold q_flat
  rw [show (10 * b + k) / 10 = b by omega, show (10 * b + k) % 10 = k by omega]
theorem q_flat_upd (G : Nat → Nat → Int32) {b k : Nat} (hk : k < 10) (v : Int32) : upd (q_flat G) (10 * b + k) v = q_flat (va_up G b (upd (G b) k v)) := by
  funext j
  unfold upd q_flat va_up
  by_cases h : j = 10 * b + k
  · subst h
    rw [show (10 * b + k) / 10 = b by omega, show (10 * b + k) % 10 = k by omega]
    simp
  · rw [if_neg h]
    by_cases h2 : j / 10 = b
    · rw [if_pos h2]
      show _ = if j % 10 = k then v else G b (j % 10)
      rw [if_neg (by omega), h2]
    · rw [if_neg h2]
theorem q_up_up {β : Type} {F : Nat → β} {i : Nat} {a b : β} : va_up (va_up F i a) i b = va_up F i b := by
  funext j
  by_cases h : j = i
  · subst h; simp [va_up]
  · simp [va_up, h]
def bIsIn (v lo hi : Int32) : Int32 := if v < lo then 0 else if hi < v then 0 else 1
def rEnter (r : Nat → Int32) : Nat → Int32 := upd (upd (upd (upd (upd r 5 0) 6 (-1)) 7 0) 8 0) 9 (if 9 ≤ r 4 then 0 else 1)
def rRdy (G : Nat → Nat → Int32) (b : Nat) : Int32 := if 9 ≤ G b 4 then 0 else 1
def rWet (r : Nat → Int32) : Nat → Int32 := upd (upd r 8 2) 4 (bWet r)
def rSail (r : Nat → Int32) (w : Int32) : Nat → Int32 := if r 9 = 1 then (if r 8 ≤ 0 then (if 30 < bHeel r w then (if bWet r = 9 then upd (rWet r) 9 3 else rWet r) else upd r 5 (r 5 + bSpeed r w)) else upd r 8 (r 8 - 1)) else r
def rWent (r : Nat → Int32) (w : Int32) : Int32 := if r 9 = 1 then (if r 8 ≤ 0 then (if 30 < bHeel r w then 0 else 1) else 0) else 0

theorem bIsIn01 (v lo hi : Int32) : bIsIn v lo hi = 0 ∨ bIsIn v lo hi = 1 := by
  unfold bIsIn
  split
  · exact Or.inl rfl
  · split
    · exact Or.inl rfl
    · exact Or.inr rfl
def bOn (nu : Nat → Int32) : Int32 := if nu 2 = 1 then 1 else 0
theorem q_bk (b k : Nat) : (10 : Int32) * nI b + nI k = nI (10 * b + k) := by
  rw [show (10 : Int32) = nI 10 from rfl, pk_mul, nI_add]
def rEnters (G : Nat → Nat → Int32) : Nat → Nat → Int32 := fun b => rEnter (G b)
def rBegU (nu : Nat → Int32) : Nat → Int32 := upd (upd nu 2 1) 3 0
def rSee (ey : Nat → Int32) (k : Nat) (x : Int32) : Int32 := if q_any (fun j => decide (bAbs (ey j - x) ≤ 10)) k = true then 1 else 0
-- of 13.model2
def q_gv : Nat → Int32 := upd (upd (upd (upd (fun _ => 0) 0 8) 1 5) 2 3) 3 1
theorem q_gv_at {m : Nat} (h : m ≤ 8) : q_gv (if m < 3 then m else 3) = bPts (nI m) := by
  match m, h with
  | 0, _ => rfl
  | 1, _ => rfl
  | 2, _ => rfl
  | m + 3, h =>
    rw [if_neg (by omega), q_pts3 (by rw [nI_toInt (by omega)]; omega)]
    rfl
theorem q_min3 {m : Nat} (h : m ≤ 8) : (if nI m < 3 then nI m else 3) = nI (if m < 3 then m else 3) := by
  by_cases h3 : m < 3
  · rw [if_pos h3, if_pos (show nI m < (3 : Int32) from nI_lt (b := 3) h3 (by omega))]
  · rw [if_neg h3, if_neg (show ¬ nI m < (3 : Int32) from nI_nlt (b := 3) (by omega) (by omega))]; rfl

def rSails (G : Nat → Nat → Int32) (w : Int32) : Nat → Nat → Int32 := fun b => rSail (G b) w
def rWents (G : Nat → Nat → Int32) (w : Int32) : Nat → Int32 := fun b => rWent (G b) w
def rFl (P wv : Nat → Int32) (x : Int32) : Nat → Int32
  | 0 => 0
  | a + 1 => if rFl P wv x a = 0 then (if wv a = 0 then 0 else if P a = x then 1 else 0) else 1
theorem rFl_congr {P P' wv : Nat → Int32} {x : Int32} : ∀ {n : Nat}, (∀ a, a < n → P a = P' a) → rFl P wv x n = rFl P' wv x n
  | 0, _ => rfl
  | n + 1, h => by rw [rFl, rFl, rFl_congr (fun a ha => h a (by omega)), h n (by omega)]
def rFouls (G : Nat → Nat → Int32) (wv ey : Nat → Int32) (nj : Nat) : Nat → Nat → Int32 := fun b =>
  if wv b = 0 then G b else if rFl (fun a => G a 5) wv (G b 5) b = 0 then G b else if G b 5 ≤ 0 then G b else if rSee ey nj (G b 5) = 0 then G b else upd (G b) 7 (G b 7 + 1)
theorem rFouls_5 (G : Nat → Nat → Int32) (wv ey : Nat → Int32) (nj b : Nat) : rFouls G wv ey nj b 5 = G b 5 := by
  unfold rFouls
  split
  · rfl
  · split
    · rfl
    · split
      · rfl
      · split
        · rfl
        · simp [upd]
theorem rFl_upto (G : Nat → Nat → Int32) (wv ey : Nat → Int32) (nj b : Nat) (x : Int32) : rFl (fun a => q_upto b (rFouls G wv ey nj) G a 5) wv x b = rFl (fun a => G a 5) wv x b :=
  rFl_congr fun a ha => by
    show q_upto b (rFouls G wv ey nj) G a 5 = G a 5
    rw [q_upto_lt _ _ ha, rFouls_5]
def rG1 (G : Nat → Nat → Int32) (w : Int32) (nb : Nat) : Nat → Nat → Int32 := q_upto nb (rSails G w) G
def rWv (G : Nat → Nat → Int32) (w : Int32) (nb : Nat) : Nat → Int32 := q_upto nb (rWents G w) (fun _ => 0)
def rG2 (G : Nat → Nat → Int32) (w : Int32) (ey : Nat → Int32) (nj nb : Nat) : Nat → Nat → Int32 := q_upto nb (rFouls (rG1 G w nb) (rWv G w nb) ey nj) (rG1 G w nb)
def rRace (G : Nat → Nat → Int32) (w : Int32) (ey : Nat → Int32) (nj : Nat) (len t : Int32) (nb : Nat) : Nat → Nat → Int32 := q_upto nb (dInF (rG2 G w ey nj nb) len t) (rG2 G w ey nj nb)
theorem rWent01 (r : Nat → Int32) (w : Int32) : rWent r w = 0 ∨ rWent r w = 1 := by
  unfold rWent
  split
  · split
    · split
      · exact Or.inl rfl
      · exact Or.inr rfl
    · exact Or.inl rfl
  · exact Or.inl rfl
theorem q_nar01 {x : Int32} (h : x = 0 ∨ x = 1) : vp_nar .boolean x = x := by rcases h with rfl | rfl <;> rfl
theorem q_upto_su {i : Nat} {g F : Nat → Int32} : upd (q_upto i g F) i (g i) = q_upto (i + 1) g F := q_upto_s i g F

-- of 14.model3

def rU1 (nu : Nat → Int32) : Nat → Int32 := if bOn nu = 0 then nu else upd nu 3 (nu 3 + 1)
def rA1 (G : Nat → Nat → Int32) (nu : Nat → Int32) (w : Int32) (ey : Nat → Int32) (nj : Nat) (len : Int32) (nb : Nat) : Nat → Nat → Int32 := if bOn nu = 0 then G else rRace G w ey nj len (nu 3 + 1) nb
def rDryF (G : Nat → Nat → Int32) (nu : Nat → Int32) : Nat → Nat → Int32 := fun b => if nu 0 - nu 0 / 5 * 5 = 0 then (if bOn nu = 0 then bDry (G b) else if G b 9 = 0 then bDry (G b) else G b) else G b
def rA2 (G : Nat → Nat → Int32) (nu : Nat → Int32) (nb : Nat) : Nat → Nat → Int32 := q_upto nb (rDryF G nu) G
def rU2 (nu : Nat → Int32) : Nat → Int32 := upd nu 0 (nu 0 + 1)
def rA3 (G : Nat → Nat → Int32) (nu : Nat → Int32) (nb : Nat) : Nat → Nat → Int32 := if bOn nu = 0 then G else if q_sum (dSt G 1) nb = 0 then q_upto nb (dEnd G nb) G else if nu 3 = 60 then q_upto nb (dEnd G nb) G else G
def rU3 (G : Nat → Nat → Int32) (nu : Nat → Int32) (nb : Nat) : Nat → Int32 := if bOn nu = 0 then rU2 nu else if q_sum (dSt G 1) nb = 0 then upd (rU2 nu) 2 0 else if nu 3 = 60 then upd (rU2 nu) 2 0 else rU2 nu
def rG (G : Nat → Nat → Int32) (nu : Nat → Int32) (w : Int32) (ey : Nat → Int32) (nj : Nat) (len : Int32) (nb : Nat) : Nat → Nat → Int32 := rA3 (rA2 (rA1 G nu w ey nj len nb) (rU1 nu) nb) (rU1 nu) nb
def rU (G : Nat → Nat → Int32) (nu : Nat → Int32) (w : Int32) (ey : Nat → Int32) (nj : Nat) (len : Int32) (nb : Nat) : Nat → Int32 := rU3 (rA2 (rA1 G nu w ey nj len nb) (rU1 nu) nb) (rU1 nu) nb
theorem rU1_0 (nu : Nat → Int32) : rU1 nu 0 = nu 0 := by
  unfold rU1
  split
  · rfl
  · simp [upd]

theorem rU2_0 (nu : Nat → Int32) : rU2 nu 0 = nu 0 + 1 := by simp [rU2, upd]
theorem rU3_0 (G : Nat → Nat → Int32) (nu : Nat → Int32) (nb : Nat) : rU3 G nu nb 0 = nu 0 + 1 := by
  unfold rU3
  split
  · exact rU2_0 nu
  · split
    · rw [show upd (rU2 nu) 2 0 0 = rU2 nu 0 from rfl, rU2_0]
    · split
      · rw [show upd (rU2 nu) 2 0 0 = rU2 nu 0 from rfl, rU2_0]
      · exact rU2_0 nu
def rS (wf ey : Nat → Int32) (nj : Nat) (len : Int32) (nb : Nat) (S : (Nat → Nat → Int32) × (Nat → Int32)) : (Nat → Nat → Int32) × (Nat → Int32) := (rG S.1 S.2 (wAt wf (S.2 0)) ey nj len nb, rU S.1 S.2 (wAt wf (S.2 0)) ey nj len nb)
def rRun (wf ey : Nat → Int32) (nj : Nat) (len : Int32) (nb : Nat) : Nat → (Nat → Nat → Int32) × (Nat → Int32) → (Nat → Nat → Int32) × (Nat → Int32)
  | 0, S => S
  | f + 1, S => if bOn S.2 = 0 then S else rRun wf ey nj len nb f (rS wf ey nj len nb S)
theorem rRun_stop {wf ey : Nat → Int32} {nj : Nat} {len : Int32} {nb : Nat} {S : (Nat → Nat → Int32) × (Nat → Int32)} (h : bOn S.2 = 0) : ∀ f, rRun wf ey nj len nb f S = S
  | 0 => rfl
  | f + 1 => by rw [rRun, if_pos h]
theorem rS_0 (wf ey : Nat → Int32) (nj : Nat) (len : Int32) (nb : Nat) (S : (Nat → Nat → Int32) × (Nat → Int32)) : (rS wf ey nj len nb S).2 0 = S.2 0 + 1 := by
  show rU3 _ (rU1 S.2) nb 0 = _
  rw [rU3_0, rU1_0]
theorem q_upto_keep {n : Nat} {F G : Nat → Nat → Int32} (h : mKeep F G) : mKeep F (q_upto n G F) := fun b => by
  by_cases hb : b < n
  · rw [q_upto_lt _ _ hb]; exact h b
  · rw [q_upto_ge _ _ (Nat.le_of_not_lt hb)]; exact ⟨rfl, rfl, rfl⟩
theorem rSail_keep (r : Nat → Int32) (w : Int32) : rSail r w 0 = r 0 ∧ rSail r w 1 = r 1 ∧ rSail r w 2 = r 2 := by
  unfold rSail
  split
  · split
    · split
      · split
        · simp [rWet, upd]
        · simp [rWet, upd]
      · simp [upd]
    · simp [upd]
  · exact ⟨rfl, rfl, rfl⟩
theorem rFouls_keep (G : Nat → Nat → Int32) (wv ey : Nat → Int32) (nj : Nat) : mKeep G (rFouls G wv ey nj) := fun b => by
  unfold rFouls
  split
  · exact ⟨rfl, rfl, rfl⟩
  · split
    · exact ⟨rfl, rfl, rfl⟩
    · split
      · exact ⟨rfl, rfl, rfl⟩
      · split
        · exact ⟨rfl, rfl, rfl⟩
        · simp [upd]
theorem rRace_keep (G : Nat → Nat → Int32) (w : Int32) (ey : Nat → Int32) (nj : Nat) (len t : Int32) (nb : Nat) : mKeep G (rRace G w ey nj len t nb) :=
  (mKeep.tr (mKeep.tr (q_upto_keep (fun b => rSail_keep (G b) w)) (q_upto_keep (rFouls_keep _ _ ey nj))) (q_upto_keep (fun b => bIn_keep _ len t)))
theorem rDryF_keep (G : Nat → Nat → Int32) (nu : Nat → Int32) : mKeep G (rDryF G nu) := fun b => by
  unfold rDryF
  split
  · split
    · exact bDry_keep _
    · split
      · exact bDry_keep _
      · exact ⟨rfl, rfl, rfl⟩
  · exact ⟨rfl, rfl, rfl⟩
theorem rA3_keep (G : Nat → Nat → Int32) (nu : Nat → Int32) (nb : Nat) : mKeep G (rA3 G nu nb) := by
  unfold rA3
  split
  · exact mKeep.rf
  · split
    · exact q_upto_keep (dEnd_keep G nb)
    · split
      · exact q_upto_keep (dEnd_keep G nb)
      · exact mKeep.rf
theorem rG_keep (G : Nat → Nat → Int32) (nu : Nat → Int32) (w : Int32) (ey : Nat → Int32) (nj : Nat) (len : Int32) (nb : Nat) : mKeep G (rG G nu w ey nj len nb) := by
  refine mKeep.tr (mKeep.tr ?_ (q_upto_keep (rDryF_keep _ _))) (rA3_keep _ _ nb)
  unfold rA1
  split
  · exact mKeep.rf
  · exact rRace_keep G w ey nj len _ nb
/-- how far the race is: none, or g of its 60 minutes are gone -/
def rGo (nu : Nat → Int32) (j : Nat) : Prop := bOn nu = 0 ∨ ∃ g, j ≤ g ∧ g < 60 ∧ nu 3 = nI g
theorem rS_go {wf ey : Nat → Int32} {nj : Nat} {len : Int32} {nb j : Nat} {S : (Nat → Nat → Int32) × (Nat → Int32)} (hon : ¬ bOn S.2 = 0) (h : rGo S.2 j) : rGo (rS wf ey nj len nb S).2 (j + 1) := by
  rcases h with h | ⟨g, h1, h2, h3⟩
  · exact absurd h hon
  have e1 : rU1 S.2 = upd S.2 3 (S.2 3 + 1) := if_neg hon
  have e3 : rU1 S.2 3 = nI (g + 1) := by rw [e1, show upd S.2 3 (S.2 3 + 1) 3 = S.2 3 + 1 from rfl, h3]; exact nI_1 g
  show rGo (rU3 _ (rU1 S.2) nb) (j + 1)
  unfold rU3
  split
  · refine Or.inr ?_
    rename_i hb
    exact absurd (show bOn S.2 = 0 by rw [← hb, e1]; rfl) hon
  · split
    · exact Or.inl rfl
    · split
      · exact Or.inl rfl
      · rename_i h60
        have hg : g + 1 < 60 := by
          rcases Nat.lt_or_ge (g + 1) 60 with q | q
          · exact q
          · exact absurd (show rU1 S.2 3 = 60 by rw [e3, show g + 1 = 60 by omega]; rfl) h60
        exact Or.inr ⟨g + 1, by omega, hg, by rw [show rU2 (rU1 S.2) 3 = rU1 S.2 3 from rfl, e3]⟩

def qTold (F : Nat → Nat → Int32) (b k : Nat) (w : Int32) : Int32 := if k = 5 then bHeel (F b) w else if k = 6 then bSpeed (F b) w else F b k
theorem qTold_a {F : Nat → Nat → Int32} {b k : Nat} {w : Int32} (hk : k < 7) (h : ¬ (5 : Int32) ≤ nI k) : qTold F b k w = F b k := by
  have h5 : k < 5 := by
    rcases Nat.lt_or_ge k 5 with q | q
    · exact q
    · exact absurd (nI_le (a := 5) q (by omega)) h
  rw [qTold, if_neg (by omega), if_neg (by omega)]
theorem qTold_b {F : Nat → Nat → Int32} {b k : Nat} {w : Int32} (hk : k < 7) (h : nI k = 5) : qTold F b k w = bHeel (F b) w := by
  have h5 : k = 5 := (nI_eq (b := 5) (by omega) (by omega)).mp h
  rw [qTold, if_pos h5]
theorem qTold_c {F : Nat → Nat → Int32} {b k : Nat} {w : Int32} (hk : k < 7) (h : (5 : Int32) ≤ nI k) (h2 : ¬ nI k = 5) : qTold F b k w = bSpeed (F b) w := by
  have h5 : 5 ≤ k := (nI_leI (a := 5) (by omega) (by omega)).mp h
  have h6 : ¬ k = 5 := fun e => h2 (by rw [e]; rfl)
  rw [qTold, if_neg h6, if_pos (by omega)]
def rAbt (G : Nat → Nat → Int32) (nu : Nat → Int32) (b k : Nat) : Int32 := if nu 1 = 0 then -1 else if nI k = 3 then (if G b 9 = 3 then 0 else G b (5 + k)) else G b (5 + k)

def qCnt (mi w n j ra on sl pt we : Int32) : Nat → Int32
  | 0 => mi
  | 1 => w
  | 2 => n
  | 3 => j
  | 4 => ra
  | 5 => on
  | 6 => sl
  | 7 => pt
  | _ => we

-- of 15.model4

theorem q_isb {b nb : Nat} (hb : b < nb) (hn : nb ≤ 8) : ¬ bIsIn (nI b) 0 (nI nb - 1) = 0 := by
  have e : nI nb - 1 = nI (nb - 1) := by
    obtain ⟨c, rfl⟩ : ∃ c, nb = c + 1 := ⟨nb - 1, by omega⟩
    exact nI_pred c
  rw [bIsIn, e, if_neg (nI_pos (by omega)), if_neg (nI_nlt (by omega) (by omega))]
  decide
theorem q_isk {k n : Nat} (hk : k ≤ n) (hn : n < 2 ^ 31) : ¬ bIsIn (nI k) 0 (nI n) = 0 := by
  rw [bIsIn, if_neg (nI_pos (by omega)), if_neg (nI_nlt (by omega) (by omega))]
  decide

def qFal (r : Nat → Int32) (x : Int32) : Int32 := if bHeel r x ≤ 30 then 0 else 1
def rIt (wf ey : Nat → Int32) (nj : Nat) (len : Int32) (nb : Nat) (S : (Nat → Nat → Int32) × (Nat → Int32)) : Nat → (Nat → Nat → Int32) × (Nat → Int32)
  | 0 => S
  | j + 1 => rS wf ey nj len nb (rIt wf ey nj len nb S j)
theorem rIt_0 (wf ey : Nat → Int32) (nj : Nat) (len : Int32) (nb : Nat) (S : (Nat → Nat → Int32) × (Nat → Int32)) {mk : Nat} (hm : S.2 0 = nI mk) : ∀ j, (rIt wf ey nj len nb S j).2 0 = nI (mk + j)
  | 0 => hm
  | j + 1 => by rw [rIt, rS_0, rIt_0 wf ey nj len nb S hm j]; exact nI_1 _
theorem rIt_keep (wf ey : Nat → Int32) (nj : Nat) (len : Int32) (nb : Nat) (S : (Nat → Nat → Int32) × (Nat → Int32)) : ∀ j, mKeep S.1 (rIt wf ey nj len nb S j).1
  | 0 => mKeep.rf
  | j + 1 => (rIt_keep wf ey nj len nb S j).tr (rG_keep _ _ _ _ _ _ _)

theorem q_ist {t : Nat} (h1 : 1 ≤ t) (h2 : t ≤ 90) : ¬ bIsIn (nI t) 1 90 = 0 := by
  rw [bIsIn, if_neg (show ¬ nI t < (1 : Int32) from nI_nlt (b := 1) h1 (by omega)), if_neg (show ¬ (90 : Int32) < nI t from nI_nlt (a := 90) h2 (by omega))]
  decide
-- of 16.model5

section QL
variable {p : Program} {l : Launch} {e : Env} {rm : Room} {s : State} {m : MethodId} {args : Array Value} {below : List Frame} {meth : Method} {c : Code} {H : Heap} {locs : List Loc} {cells slots : Nat} {D : va_G} {tys : List (ClassId × FieldType)} {post : Option Value → va_W → Prop} {A : Nat → Prop} {w : va_W} {cc : ByteArray} {pc : Nat} {ls : Array Slot}
theorem q_lret (hx : p.tables.exec = Jvm.exec) (hb : c.code = cc) (hr : meth.sig.returnType = some .long) (hlocks : meth.locks = false) (hP : va_P D vwCl w H) (hK : va_K D vwCl tys s) (hD : va_D A w) (hS : va_S A s.heap H locs) {v : Int64} (hc : cells ≤ rm.cells) (hs : slots ≤ rm.slots) (hdg : decode cc pc = .ok (.lreturn, 1)) (hp : post (some (.long v)) w) : W p l e rm s m args below meth c H locs cells slots (q_E below D tys post A args s rm) (F0 m pc ls [.long v]) :=
  W.widen hc hs (W.lret hx hb hr (q_end hP hK hD hS hp) hS.2.2 hdg hlocks)
theorem q_dret (hx : p.tables.exec = Jvm.exec) (hb : c.code = cc) (hr : meth.sig.returnType = some .double) (hlocks : meth.locks = false) (hP : va_P D vwCl w H) (hK : va_K D vwCl tys s) (hD : va_D A w) (hS : va_S A s.heap H locs) {v : UInt64} (hc : cells ≤ rm.cells) (hs : slots ≤ rm.slots) (hdg : decode cc pc = .ok (.dreturn, 1)) (hp : post (some (.double v)) w) : W p l e rm s m args below meth c H locs cells slots (q_E below D tys post A args s rm) (F0 m pc ls [.double v]) :=
  W.widen hc hs (W.dret hx hb hr (q_end hP hK hD hS hp) hS.2.2 hdg hlocks)
end QL
def q_oi (o : Option Nat) : Int32 := match o with
  | none => -1
  | some j => nI j
theorem q_oi_ne {j : Nat} (h : j < 2 ^ 31) : ¬ nI j = -1 := fun e => by
  have h1 := nI_toInt h
  rw [e] at h1
  exact absurd h1 (by show ¬ (-1 : Int) = j; omega)
def rAhd (G : Nat → Nat → Int32) : Nat → Option Nat
  | 0 => none
  | b + 1 => if bIsIn (G b 9) 1 2 = 0 then rAhd G b else match rAhd G b with
    | none => some b
    | some j => if G b 5 ≤ G j 5 then some j else some b
theorem rAhd_lt {G : Nat → Nat → Int32} : ∀ {b j : Nat}, rAhd G b = some j → j < b
  | 0, j, h => by cases h
  | b + 1, j, h => by
    unfold rAhd at h
    split at h
    · exact Nat.lt_succ_of_lt (rAhd_lt h)
    · split at h
      · cases h; omega
      · rename_i j2 hj
        have := rAhd_lt hj
        split at h
        · cases h; omega
        · cases h; omega
def rChm (G : Nat → Nat → Int32) : Nat → Option Nat
  | 0 => none
  | b + 1 => match rChm G b with
    | none => some b
    | some j => if G j 3 < G b 3 then some b else if G b 3 = G j 3 then (if G j 4 ≤ G b 4 then some j else some b) else some j
theorem rChm_lt {G : Nat → Nat → Int32} : ∀ {b j : Nat}, rChm G b = some j → j < b
  | 0, j, h => by cases h
  | b + 1, j, h => by
    unfold rChm at h
    split at h
    · cases h; omega
    · rename_i j2 hj
      have := rChm_lt hj
      split at h
      · cases h; omega
      · split at h
        · split at h
          · cases h; omega
          · cases h; omega
        · cases h; omega

set_option maxRecDepth 100000 in
theorem q_mean_ok : ∀ m, m < 73 → ∀ n, n < 9 → n ≠ 0 → (FP.ddiv (FP.i2d (nI m)) (FP.i2d (nI n))) &&& 0x7fffffffffffffff ≤ 0x7ff0000000000000 := by decide +kernel
theorem q_sumb {f : Nat → Int32} {c : Nat} (hf : ∀ k, ∃ m, m ≤ c ∧ f k = nI m) : ∀ n : Nat, ∃ m, m ≤ c * n ∧ q_sum f n = nI m
  | 0 => ⟨0, Nat.zero_le _, rfl⟩
  | n + 1 => by
    obtain ⟨m, h1, h2⟩ := q_sumb hf n
    obtain ⟨k, h3, h4⟩ := hf n
    exact ⟨m + k, by rw [Nat.mul_succ]; omega, by rw [q_sum, h2, h4, nI_add]⟩
theorem q_sumbn {f : Nat → Int32} {c N : Nat} (hf : ∀ k, k < N → ∃ m, m ≤ c ∧ f k = nI m) : ∃ m, m ≤ c * N ∧ q_sum f N = nI m := by
  obtain ⟨m, h1, h2⟩ := q_sumb (f := fun k => if k < N then f k else 0) (c := c) (fun k => by
    by_cases h : k < N
    · simp only [if_pos h]; exact hf k h
    · simp only [if_neg h]; exact ⟨0, Nat.zero_le _, rfl⟩) N
  exact ⟨m, h1, by rw [← h2]; exact q_sum_congr fun k hk => by rw [if_pos hk]⟩
/-- the mean of n leads whose sum is x -/
def qMean (x : Int32) (n : Nat) : UInt64 := if nI n = 0 then FP.dconst0 else FP.ddiv (FP.i2d x) (FP.i2d (nI n))
theorem q_mean_n {F : Nat → Nat → Int32} {n : Nat} (hn : n ≤ 8) (h0 : ¬ nI n = 0) (hl : ∀ b, b < n → ∃ m, m ≤ 9 ∧ F b 2 = nI m) : vf_n64 (FP.ddiv (FP.i2d (q_sum (dCol F 2) n)) (FP.i2d (nI n))) := by
  obtain ⟨m, h1, h2⟩ := q_sumbn (f := dCol F 2) (c := 9) (N := n) hl
  rw [h2]
  exact q_mean_ok m (by omega) n (by omega) (fun e => h0 (by rw [e]; rfl))

def qDg (f : Nat → Int32) (d : Int64) : Nat → Int64
  | 0 => d
  | k + 1 => qDg f d k * 31 + (f k).toInt64
def qDB (f g : Nat → Nat → Int32) (d : Int64) : Nat → Int64
  | 0 => d
  | b + 1 => qDg (g b) (qDg (f b) (qDB f g d b) 7) 5
theorem qDg_congr {f g : Nat → Int32} {d : Int64} : ∀ {n : Nat}, (∀ k, k < n → f k = g k) → qDg f d n = qDg g d n
  | 0, _ => rfl
  | n + 1, h => by rw [qDg, qDg, qDg_congr (fun k hk => h k (by omega)), h n (by omega)]
theorem qDB_congr {f g f2 g2 : Nat → Nat → Int32} {d : Int64} : ∀ {n : Nat}, (∀ b, b < n → ∀ k, k < 7 → f b k = f2 b k) → (∀ b, b < n → ∀ k, k < 5 → g b k = g2 b k) → qDB f g d n = qDB f2 g2 d n
  | 0, _, _ => rfl
  | n + 1, h, h2 => by
    rw [qDB, qDB, qDB_congr (fun b hb => h b (by omega)) (fun b hb => h2 b (by omega)), qDg_congr (h n (by omega)), qDg_congr (h2 n (by omega))]

-- of 17.model6

/-- what the tables say of int[] and int[][] beside -/
def q_gA : (Nat → Prop) → State → Prop := fun _ U => (Cond.castable "[I" "java/lang/Cloneable").before #[] U = true ∧ (Cond.arrayOver (.array .int)).before #[] U = true
theorem q_gA_mv {A A' : Nat → Prop} {U V : State} (hvm : U.vm.Alike V.vm) (h : q_gA A U) : q_gA A' V := by
  refine ⟨?_, ?_⟩
  · have h1 : (Cond.castable "[I" "java/lang/Cloneable").before #[] (U.setVm V.vm) = true := by rw [Cond.castable_setVm hvm]; exact h.1
    exact va_tabs rfl (rfl : (U.setVm V.vm).vm = V.vm) h1
  · obtain ⟨comp, c, k, h1, h2, h3, h4, h5⟩ := arrayOverA_spec h.2
    obtain ⟨k', hk', he⟩ := hvm.2.2 _ _ h3
    have e : V.vm.bare = U.vm.bare := by first | exact hvm.bare_eq | exact hvm.bare_eq.symm
    have hb1 := va_idx_bare U.vm comp
    rw [← e] at hb1
    have hi : (V.vm.classes.findIdx? fun (x : Class) => match x.kind with | .array component _ => component == comp | _ => false) = some c := (va_idx_bare V.vm comp).symm.trans (hb1.trans h2)
    have hkind : k'.kind = .array comp (.array .int) := by rw [he]; exact h4
    have f1 : V.vm.findClass (FieldType.array .int).toString = some comp := by rw [hvm.findClass]; exact h1
    have f2 : V.vm.findClass ("[" ++ (FieldType.array .int).toString) = some c := by rw [hvm.findClass]; exact h5
    unfold Cond.before Cond.holds
    simp only [Cond.value]
    rw [f1, Option.bind_some]
    refine (congrArg (fun o : Option Nat => (o.bind (fun c => (V.vm.classes[c]?).map fun (k : Class) => match k.kind with | .array _ ty => decide (ty = FieldType.array .int) && decide (V.vm.findClass ("[" ++ (FieldType.array .int).toString) = some c) | _ => false) == some true)) hi).trans ?_
    simp [hk', hkind, f2]
theorem q_gA_st : q_st q_gA := fun _ _ _ _ hvm h => q_gA_mv hvm h
theorem q_gA_at {A0 A : Nat → Prop} {H : Heap} {s : State} (h : q_gA A0 s) : ∀ U : State, U.heap = H → s.WarmedH U.vm → q_gA A U := fun _ _ hW => q_gA_mv hW.alike h
section QM
variable {p : Program} {l : Launch} {e : Env} {R : Room} {s : State} {m : MethodId} {args : Array Value} {below : List Frame} {meth : Method} {c : Code} {H : Heap} {locs : List Loc} {cells slots : Nat} {Q : State → Prop} {D : va_G} {T : Nat → ClassId} {A : Nat → Prop} {w : va_W} {cc : ByteArray} {pc : Nat} {ls : Array Slot} {rest : List Value} {H0 : Heap} {a : Nat}
theorem q_newM (hexec : p.tables.exec = Jvm.exec) (hb : c.code = cc) {own : String} {index : Nat} (hown : s.vm.findClass own = some m.cls) (hclink : (Cond.classLink own index "[I").before args s = true) (hover : (Cond.arrayOver (.array .int)).before args s = true) (hK : va_K D vwCl (q_ty T) s) (hP : va_P D vwCl w H) (hD : va_D A w) (hS : va_S A H0 H locs) (hA : ∀ q, H0.size ≤ q → A q)
    {n : Int32} {N : Nat} (hn : ¬ n < 0) (hN : n.toNatClampNeg = N) (hbytes : N * 4 ≤ 536870912) (hcells : cells + 1 ≤ R.cells) (hslots : slots + N ≤ R.slots) (hdg : decode cc pc = .ok (.anewarray index, 3))
    (kk : ∀ (q : Nat) (H1 : Heap), va_P D vwCl (w ++ [(q, .inl (T 4, N, .inr (.inr (.inr (.inr (fun _ => none))))))]) H1 → va_D A (w ++ [(q, .inl (T 4, N, .inr (.inr (.inr (.inr (fun _ => none))))))]) → va_S A H0 H1 locs →
      W p l e R s m args below meth c H1 locs (cells + 1) (slots + N) Q (F0 m (pc + 3) ls (.ref q :: rest))) : W p l e R s m args below meth c H locs cells slots Q (F0 m pc ls (.int n :: rest)) := by
  subst hN
  refine W.anewA (t := .int) hexec hb hown hclink hover rfl hdg rfl hn hbytes hcells hslots fun cA kA comp f1 f2 f3 f4 => ?_
  have e2 : s.vm.findClass ("[" ++ (FieldType.array .int).toString) = some (T 4) := (hK.2 4 _ rfl).2
  have e3 : cA = T 4 := Option.some.inj (f1.symm.trans e2)
  subst e3
  generalize hH1 : H.push ({ cls := T 4, slots := Array.replicate n.toNatClampNeg .null, vm := .none } : Cell) = H1
  have z1 : H1.size = H.size + 1 := by rw [← hH1, Array.size_push]
  have e1 : H1[H.size]? = some (arrV (T 4) n.toNatClampNeg (fun _ => .null)) := by rw [← hH1, Array.getElem?_push_size, ← arrV_new]
  have o1 : ∀ q : Nat, q < H.size → H1[q]? = H[q]? := fun q hq => by rw [← hH1, Array.getElem?_push, if_neg (Nat.ne_of_lt hq)]
  have hk : ∀ (k : Nat) (x : Nat × va_E), w[k]? = some x → H1[x.1]? = H[x.1]? := fun k x hx => o1 x.1 ((hP k x hx).lt)
  refine kk H.size H1 ((hP.kept hk).app (fun k x hx => ?_)) (hD.push hP rfl (hA _ hS.1)) ⟨Nat.le_trans hS.1 (by omega), fun x h1 h2 => (o1 x (Nat.lt_of_lt_of_le h1 hS.1)).trans (hS.2.1 x h1 h2), hS.2.2⟩
  have hz : k < 1 := (List.getElem?_eq_some_iff.mp hx).1
  rw [show k = 0 by omega] at hx
  cases hx
  show H1[H.size]? = some (vp_cell _ _)
  rw [vp_cell_q]
  exact e1
theorem q_aldM (hexec : p.tables.exec = Jvm.exec) (hb : c.code = cc) (hK : va_K D vwCl (q_ty T) s) (hP : va_P D vwCl w H) (q0 : Nat) {n : Nat} {f : Nat → Option Nat} (ha : w[q0]? = some (a, .inl (T 4, n, .inr (.inr (.inr (.inr f)))))) {i : Int32} (hin : vp_in i n) (hdg : decode cc pc = .ok (.aaload, 1))
    (kk : W p l e R s m args below meth c H locs cells slots Q (F0 m (pc + 1) ls (va_rf (f i.toNatClampNeg) :: rest))) : W p l e R s m args below meth c H locs cells slots Q (F0 m pc ls (.int i :: .ref a :: rest)) := by
  have hlt : i.toNatClampNeg < n := Nat.not_le.mp fun q => hin (Or.inr q)
  exact W.aald (v := va_rf (f i.toNatClampNeg)) (ty := .array .int) hexec hb (hP q0 _ ha) ((hK.2 4 _ rfl).1 n (fun j => va_rf (f j))) rfl (fun q => by cases q) (by show ¬ (i < 0 ∨ (arrV _ _ _).slots.size ≤ _); rw [arrV_size]; exact hin) (by show (arrV _ _ _).slots[_]? = _; rw [arrV_read _ _ hlt]) rfl rfl hdg kk
theorem q_astM (hexec : p.tables.exec = Jvm.exec) (hb : c.code = cc) (hover : (Cond.arrayOver (.array .int)).before args s = true) (hK : va_K D vwCl (q_ty T) s) (hP : va_P D vwCl w H) (hD : va_D A w) (hS : va_S A H0 H locs) (q0 qk : Nat) {n v nv : Nat} {f : Nat → Option Nat} {g : Nat → Int32} (ha : w[q0]? = some (a, .inl (T 4, n, .inr (.inr (.inr (.inr f)))))) (hv : w[qk]? = some (v, .inl (T 0, nv, .inl g))) {i : Int32} (hin : vp_in i n) (hdg : decode cc pc = .ok (.aastore, 1))
    (kk : ∀ (H1 : Heap) (locs1 : List Loc), va_P D vwCl (w.set q0 (a, .inl (T 4, n, .inr (.inr (.inr (.inr (va_up f i.toNatClampNeg (some v)))))))) H1 → va_D A (w.set q0 (a, .inl (T 4, n, .inr (.inr (.inr (.inr (va_up f i.toNatClampNeg (some v)))))))) → va_S A H0 H1 locs1 → W p l e R s m args below meth c H1 locs1 cells slots Q (F0 m (pc + 1) ls rest)) : W p l e R s m args below meth c H locs cells slots Q (F0 m pc ls (.ref v :: .int i :: .ref a :: rest)) := by
  have hlt : i.toNatClampNeg < n := Nat.not_le.mp fun q => hin (Or.inr q)
  have h0 : ¬ i < 0 := fun q => hin (Or.inl q)
  obtain ⟨comp, c4, k4, g1, -, g3, g4, g5⟩ := arrayOverA_spec hover
  have e4 : c4 = T 4 := Option.some.inj (g5.symm.trans (hK.2 4 _ rfl).2)
  have e0 : comp = T 0 := Option.some.inj (g1.symm.trans (hK.2 0 _ rfl).2)
  subst e4; subst e0
  obtain ⟨-, k0, k01, -⟩ := (hK.2 0 _ rfl).1 nv (fun j => .int (g j))
  refine W.aast hexec hb (hP q0 _ ha) (fun q h => by cases h) (fun h => by cases h) g3 g4 rfl k01 ⟨h0, by show _ < (arrV _ _ _).slots.size; rw [arrV_size]; exact hlt⟩ (hP qk _ hv) (fun q h => by cases h) k01 (va_asg _ _) rfl rfl hdg fun H1 e z oq => ?_
  refine kk H1 _ (hP.set hD ha ?_ oq) (hD.set ha) (hS.put z oq (hD.2 q0 _ ha))
  show H1[a]? = some (vp_cell _ _)
  rw [e]
  rw [vp_cell_q, vp_cell_q, arrV_store]
  have e8 : (updV (fun j => va_rf (f j)) i.toNatClampNeg (.ref v)) = fun j => va_rf (va_up f i.toNatClampNeg (some v) j) := by
    funext j
    by_cases h : j = i.toNatClampNeg <;> simp [updV, va_up, va_rf, h]
  exact congrArg (fun z => some (arrV (T 4) n z)) e8
end QM


theorem q_nmI {D : va_G} {T : Nat → ClassId} {s : State} (hK : va_K D vwCl (q_ty T) s) : s.vm.findClass "[I" = some (T 0) := by
  have h : s.vm.findClass ("[" ++ FieldType.int.toString) = some (T 0) := (hK.2 0 _ rfl).2
  rwa [show "[" ++ FieldType.int.toString = "[I" from by decide] at h
theorem q_arr_ext {cA : ClassId} {n : Nat} {f g : Nat → Int32} (h : ∀ i, i < n → f i = g i) : vp_cell cA (n, .inl f) = vp_cell cA (n, .inl g) := by
  rw [vp_cell_i, vp_cell_i]
  unfold arrV
  congr 1
  apply Array.ext
  · simp
  · intro i h1 h2
    simp at h1
    simp [h i h1]
theorem q_ia_ext {D : va_G} {cl : List vw_C} {w : va_W} {H : Heap} {k a n : Nat} {cA : ClassId} {f g : Nat → Int32} (hk : w[k]? = some (a, .inl (cA, n, .inl f))) (h : ∀ i, i < n → f i = g i) (hP : va_P D cl w H) : va_P D cl (w.set k (a, .inl (cA, n, .inl g))) H := by
  intro j q hq
  by_cases e : j = k
  · subst e
    have hl := (List.getElem?_eq_some_iff.mp hk).1
    rw [List.getElem?_set_self hl] at hq
    cases hq
    have h1 := hP j _ hk
    show H[a]? = some (vp_cell cA (n, .inl g))
    rw [← q_arr_ext h]
    exact h1
  · rw [List.getElem?_set_ne (Ne.symm e)] at hq
    exact hP j q hq
def q_two (a b : Nat) : Nat → Option Nat := va_up (va_up (fun _ => none) 0 (some a)) 1 (some b)
abbrev q_kc (T : Nat → ClassId) (a x y : Nat) : Nat × va_E := (a, .inl (T 4, 2, .inr (.inr (.inr (.inr (q_two x y))))))
theorem q_cpy_all {f g : Nat → Int32} {n i : Nat} (h : i < n) : va_cpy f g (0 : Int32).toNatClampNeg (0 : Int32).toNatClampNeg n i = f i := by
  show va_cpy f g 0 0 n i = f i
  unfold va_cpy
  rw [if_pos ⟨Nat.zero_le _, by omega⟩]
  congr 1
  omega

def rWin (G : Nat → Nat → Int32) (n : Nat) : Nat → Int32
  | 0 => -1
  | b + 1 => if G b 9 = 2 then (if dRank G n b = 0 then nI b else rWin G n b) else rWin G n b

theorem rEnters_keep (G : Nat → Nat → Int32) (nb : Nat) : mKeep G (q_upto nb (rEnters G) G) := q_upto_keep (fun b => by unfold rEnters rEnter; simp [upd])
theorem rBegU_0 (nu : Nat → Int32) : rBegU nu 0 = nu 0 := by simp [rBegU, upd]
theorem rBegU_go (nu : Nat → Int32) : rGo (rBegU nu) 0 := Or.inr ⟨0, by omega, by omega, by simp [rBegU, upd]; rfl⟩

-- of 18.model7

def rWet0 (G : Nat → Nat → Int32) (bt : Nat) : Nat → Nat → Int32 := fun b => upd (G b) 4 (if nI b = nI bt then 0 else 9)
/-- the rows when boat bt sails alone, dry, with the lead l -/
def rAdG (G : Nat → Nat → Int32) (nb bt l : Nat) : Nat → Nat → Int32 := va_up (q_upto nb (rWet0 G bt) G) bt (upd (q_upto nb (rWet0 G bt) G bt) 2 (nI l))
def rAdS (G : Nat → Nat → Int32) (nu : Nat → Int32) (nb bt l : Nat) : (Nat → Nat → Int32) × (Nat → Int32) := (q_upto nb (rEnters (rAdG G nb bt l)) (rAdG G nb bt l), rBegU nu)
def rAdT (wf ey : Nat → Int32) (nj : Nat) (len : Int32) (nb : Nat) (G : Nat → Nat → Int32) (nu : Nat → Int32) (bt l : Nat) : Int32 := (rRun wf ey nj len nb 60 (rAdS G nu nb bt l)).1 bt 6
/-- the best lead so far and its time, out of the times t -/
def qAdv (t : Nat → Int32) : Nat → Int32 × Int32
  | 0 => (-1, 0)
  | l + 1 => if t l = -1 then qAdv t l else if (qAdv t l).1 = -1 then (nI l, t l) else if t l < (qAdv t l).2 then (nI l, t l) else qAdv t l
theorem rAdG_hz {G : Nat → Nat → Int32} {nb bt l : Nat} (hz : mHz G nb) (hzl : 0 < 2 + G bt 0 + nI l / 2) (hb : bt < nb) : mHz (q_upto nb (rEnters (rAdG G nb bt l)) (rAdG G nb bt l)) nb := by
  refine mHz.keep ?_ (rEnters_keep _ nb)
  intro b hb2
  by_cases h : b = bt
  · subst h
    unfold rAdG
    rw [va_up_self, q_upto_lt _ _ hb2]
    simpa [upd, rWet0] using hzl
  · unfold rAdG
    rw [va_up_ne _ _ h, q_upto_lt _ _ hb2]
    simpa [upd, rWet0] using hz b hb2
theorem q_exit_gt {j n : Nat} (h : nI n < nI j) (hj : j ≤ n + 1) (hn : n + 1 < 2 ^ 31) : j = n + 1 := by
  rcases Nat.lt_or_ge n j with q | q
  · omega
  · exact absurd h (nI_nlt q (by omega))
theorem q_goon_gt {j n : Nat} (h : ¬ nI n < nI j) (hj : j < 2 ^ 31) : j < n + 1 := by
  rcases Nat.lt_or_ge n j with q | q
  · exact absurd (nI_lt q hj) h
  · omega

def qW0 : Nat → Int32 := upd (upd (upd (upd (upd (upd (upd (upd (upd (upd (fun _ => 0) 0 4) 1 4) 2 4) 3 4) 4 4) 5 4) 6 4) 7 4) 8 4) 9 4

def rNew (hull rig : Int32) : Nat → Int32 := upd (upd (upd (upd (upd (upd (upd (upd (upd (upd (fun _ => 0) 0 hull) 1 rig) 2 0) 3 0) 4 0) 5 0) 6 (-1)) 7 0) 8 0) 9 0
theorem q_cpy_row (f : Nat → Int32) (G : Nat → Nat → Int32) (b j : Nat) : va_cpy f (q_flat G) 0 (10 * b) 10 j = q_flat (va_up G b f) j := by
  unfold va_cpy q_flat va_up
  by_cases h : 10 * b ≤ j ∧ j < 10 * b + 10
  · rw [if_pos h, if_pos (show j / 10 = b by omega)]
    congr 1
    omega
  · rw [if_neg h, if_neg (show ¬ j / 10 = b by omega)]

