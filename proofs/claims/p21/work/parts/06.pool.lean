/-! pools of boats, and sums over them -/
def q_pl (L : List Nat) (ad : Nat → Nat) (F : Nat → Nat → Int32) : va_W := L.map (fun b => q_bc (ad b) (F b))
theorem q_open (X : va_W) {L : List Nat} {i : Nat} (hi : i ∈ L) (ad : Nat → Nat) {F : Nat → Nat → Int32} {r : Nat → Int32} (e : F i = r) : (X ++ q_pl L ad F).Perm (q_bc (ad i) r :: (X ++ q_pl (L.erase i) ad F)) := by
  subst e
  have h := (List.perm_cons_erase hi).map (fun b => q_bc (ad b) (F b))
  exact (h.append_left X).trans List.perm_middle
theorem q_pl_congr {L : List Nat} {ad : Nat → Nat} {F F' : Nat → Nat → Int32} (h : ∀ b ∈ L, F b = F' b) : q_pl L ad F = q_pl L ad F' := by
  unfold q_pl
  exact List.map_congr_left fun b hb => by rw [h b hb]
theorem q_shut (X : va_W) {L : List Nat} {i : Nat} (hn : L.Nodup) (hi : i ∈ L) (ad : Nat → Nat) {F F' : Nat → Nat → Int32} {r : Nat → Int32} (e : va_up F i r = F') : (q_bc (ad i) r :: (X ++ q_pl (L.erase i) ad F)).Perm (X ++ q_pl L ad F') := by
  subst e
  have h1 : q_pl (L.erase i) ad F = q_pl (L.erase i) ad (va_up F i r) := q_pl_congr fun b hb => (va_up_ne F r ((List.Nodup.mem_erase_iff hn).mp hb).1).symm
  rw [h1]
  exact (q_open X hi ad (va_up_self F i r)).symm
def q_g (n : Nat) (ad : Nat → Nat) : Nat → Option Nat := fun j => if j < n then some (ad j) else none
abbrev q_arc (cO : ClassId) (n ar : Nat) (ad : Nat → Nat) : Nat × va_E := (ar, .inl (cO, 10, .inr (.inr (.inr (.inr (q_g n ad))))))
/-- a list's row of places (none while it is empty: the JDK's own empty row), and the boats in it -/
def q_tl (cO : ClassId) (n ar : Nat) (ad : Nat → Nat) (F : Nat → Nat → Int32) : va_W := if n = 0 then [] else q_arc cO n ar ad :: q_pl (List.range n) ad F
theorem q_tl_pos {cO : ClassId} {n ar : Nat} {ad : Nat → Nat} {F : Nat → Nat → Int32} (h : 0 < n) : q_tl cO n ar ad F = q_arc cO n ar ad :: q_pl (List.range n) ad F := if_neg (by omega)
theorem q_tl_congr {cO : ClassId} {n ar : Nat} {ad : Nat → Nat} {F F' : Nat → Nat → Int32} (h : ∀ b, b < n → F b = F' b) : q_tl cO n ar ad F = q_tl cO n ar ad F' := by
  unfold q_tl
  rw [q_pl_congr fun b hb => h b (List.mem_range.mp hb)]
/-- from the closed tail to the boat i at the front -/
theorem q_tlo (X : va_W) {cO : ClassId} {n ar i : Nat} (hi : i < n) {ad : Nat → Nat} {F : Nat → Nat → Int32} {r : Nat → Int32} (e : F i = r) : (X ++ q_tl cO n ar ad F).Perm (q_bc (ad i) r :: (X ++ (q_arc cO n ar ad :: q_pl ((List.range n).erase i) ad F))) := by
  rw [q_tl_pos (by omega)]
  have h := q_open (X ++ [q_arc cO n ar ad]) (List.mem_range.mpr hi) ad e
  simpa using h
theorem q_tls (X : va_W) {cO : ClassId} {n ar i : Nat} (hi : i < n) {ad : Nat → Nat} {F F' : Nat → Nat → Int32} {r : Nat → Int32} (e : va_up F i r = F') : (q_bc (ad i) r :: (X ++ (q_arc cO n ar ad :: q_pl ((List.range n).erase i) ad F))).Perm (X ++ q_tl cO n ar ad F') := by
  rw [q_tl_pos (by omega)]
  have h := q_shut (X ++ [q_arc cO n ar ad]) List.nodup_range (List.mem_range.mpr hi) ad e
  simpa using h
def q_upto {β : Type} (i : Nat) (g F : Nat → β) : Nat → β := fun b => if b < i then g b else F b
theorem q_upto_0 {β : Type} (g F : Nat → β) : q_upto 0 g F = F := by funext b; simp [q_upto]
theorem q_upto_at {β : Type} (i : Nat) (g F : Nat → β) : q_upto i g F i = F i := by simp [q_upto]
theorem q_upto_lt {β : Type} {i j : Nat} (g F : Nat → β) (h : j < i) : q_upto i g F j = g j := by simp [q_upto, h]
theorem q_upto_ge {β : Type} {i j : Nat} (g F : Nat → β) (h : i ≤ j) : q_upto i g F j = F j := by simp [q_upto, Nat.not_lt.mpr h]
theorem q_upto_s {β : Type} (i : Nat) (g F : Nat → β) : va_up (q_upto i g F) i (g i) = q_upto (i + 1) g F := by
  funext b
  by_cases h : b = i
  · subst h; simp [q_upto, va_up]
  · by_cases h2 : b < i
    · simp [q_upto, va_up, h, h2, Nat.lt_succ_of_lt h2]
    · have : ¬ b < i + 1 := by omega
      simp [q_upto, va_up, h, h2, this]
def q_sum (f : Nat → Int32) : Nat → Int32
  | 0 => 0
  | k + 1 => q_sum f k + f k
theorem q_sum_congr {f g : Nat → Int32} : ∀ {n : Nat}, (∀ k, k < n → f k = g k) → q_sum f n = q_sum g n
  | 0, _ => rfl
  | n + 1, h => by rw [q_sum, q_sum, q_sum_congr (fun k hk => h k (by omega)), h n (by omega)]
def q_any (f : Nat → Bool) : Nat → Bool
  | 0 => false
  | k + 1 => q_any f k || f k
theorem q_any_congr {f g : Nat → Bool} : ∀ {n : Nat}, (∀ k, k < n → f k = g k) → q_any f n = q_any g n
  | 0, _ => rfl
  | n + 1, h => by rw [q_any, q_any, q_any_congr (fun k hk => h k (by omega)), h n (by omega)]
theorem q_any_hit {f : Nat → Bool} : ∀ {n k : Nat}, k < n → f k = true → q_any f n = true
  | 0, _, h, _ => absurd h (Nat.not_lt_zero _)
  | n + 1, k, h, hk => by
    rcases Nat.lt_or_ge k n with q | q
    · simp [q_any, q_any_hit q hk]
    · have e : k = n := by omega
      subst e
      simp [q_any, hk]
theorem q_any_no {f : Nat → Bool} {n k : Nat} (h : q_any f n = false) (hk : k < n) : f k = false := by
  cases e : f k with
  | false => rfl
  | true => rw [q_any_hit hk e] at h; cases h
/-- a fleet's cell, by its row: minute, races, racing, minutes of the race -/
abbrev q_fc (a al : Nat) (u : Nat → Int32) : Nat × va_E := (a, .inr (2, [.ref al, .int (u 0), .int (u 1), .int (u 2), .int (u 3)]))
abbrev q_ac (a : Nat) (md : Int32) (ar n : Nat) : Nat × va_E := (a, .inr (0, [.int md, .ref ar, .int (nI n)]))
