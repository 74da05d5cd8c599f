/-! the law's simulation: cells, rows of references, pools behind them -/
abbrev q_sb (a : Nat) (r : Nat → Int32) : Nat × va_E := (a, .inr (5, [.int (r 0), .int (r 1), .int (r 2), .int (r 3), .int (r 4), .int (r 9), .int (r 5), .int (r 6), .int (r 7), .int (r 8)]))
abbrev q_sm (a : Nat) (len : Int32) (sw so sj : Nat) (mi ra go : Int32) : Nat × va_E := (a, .inr (6, [.int len, .ref sw, .ref so, .ref sj, .int mi, .int ra, .int go]))
/-- minutes of the race, -1 without one -/
def sGo (nu : Nat → Int32) : Int32 := if nu 2 = 1 then nu 3 else -1
abbrev q_ra (cA : ClassId) (a n : Nat) (ad : Nat → Nat) : Nat × va_E := (a, .inl (cA, n, .inr (.inr (.inr (.inr (q_g n ad))))))
/-- what lies at ad b for each b of L: C (ad b) (F b) -/
def q_gp (C : Nat → (Nat → Int32) → Nat × va_E) (L : List Nat) (ad : Nat → Nat) (F : Nat → Nat → Int32) : va_W := L.map (fun b => C (ad b) (F b))
section GP
variable {C : Nat → (Nat → Int32) → Nat × va_E} {L : List Nat} {ad : Nat → Nat} {F F' : Nat → Nat → Int32} {i n : Nat} {r : Nat → Int32}
theorem q_gpo (X : va_W) (hi : i ∈ L) (e : F i = r) : (X ++ q_gp C L ad F).Perm (C (ad i) r :: (X ++ q_gp C (L.erase i) ad F)) := by
  subst e
  have h := (List.perm_cons_erase hi).map (fun b => C (ad b) (F b))
  exact (h.append_left X).trans List.perm_middle
theorem q_gp_congr (h : ∀ b ∈ L, F b = F' b) : q_gp C L ad F = q_gp C L ad F' := by
  unfold q_gp
  exact List.map_congr_left fun b hb => by rw [h b hb]
theorem q_gps (X : va_W) (hn : L.Nodup) (hi : i ∈ L) (e : va_up F i r = F') : (C (ad i) r :: (X ++ q_gp C (L.erase i) ad F)).Perm (X ++ q_gp C L ad F') := by
  subst e
  have h1 : q_gp C (L.erase i) ad F = q_gp C (L.erase i) ad (va_up F i r) := q_gp_congr fun b hb => (va_up_ne F r ((List.Nodup.mem_erase_iff hn).mp hb).1).symm
  rw [h1]
  exact (q_gpo X hi (va_up_self F i r)).symm
theorem q_gp_cn (h : ∀ b, b < n → F b = F' b) : q_gp C (List.range n) ad F = q_gp C (List.range n) ad F' := q_gp_congr fun b hb => h b (List.mem_range.mp hb)
theorem q_gno (X : va_W) (hi : i < n) (e : F i = r) : (X ++ q_gp C (List.range n) ad F).Perm (C (ad i) r :: (X ++ q_gp C ((List.range n).erase i) ad F)) := q_gpo X (List.mem_range.mpr hi) e
theorem q_gns (X : va_W) (hi : i < n) (e : va_up F i r = F') : (C (ad i) r :: (X ++ q_gp C ((List.range n).erase i) ad F)).Perm (X ++ q_gp C (List.range n) ad F') := q_gps X List.nodup_range (List.mem_range.mpr hi) e
theorem q_ref (hi : i < n) (hn : n < 2 ^ 31) : va_rf (q_g n ad (nI i).toNatClampNeg) = .ref (ad i) := by
  rw [nI_clamp (by omega), q_g, if_pos hi]
  rfl
end GP
theorem q_apt {α : Type} (L t : List α) (a : α) : ((L ++ t) ++ [a]).Perm ((L ++ [a]) ++ t) := by
  rw [List.append_assoc, List.append_assoc]
  exact List.perm_append_comm.append_left L
def sNew : Nat → Int32 := upd (fun _ => 0) 6 (-1)
def sPull (g w : Int32) : Int32 := if g = 2 then (if w ≤ 0 then 0 else w + 5) else if g = 1 then w * w / 2 else w + w + w
theorem sPull_all : ∀ g, g < 3 → ∀ w, w < 10 → sPull (nI g) (nI w) = bPull (nI g) (nI w) := by decide +kernel
theorem sPull_eq {r : Nat → Int32} (h : pB r) {w : Nat} (hw : w < 10) : bPull (r 1) (nI w) = sPull (r 1) (nI w) := by
  obtain ⟨-, ⟨g, g1, g2⟩, -⟩ := h
  rw [g2]
  exact (sPull_all g g1 w hw).symm
theorem s_he_a {x : Int32} (h : 0 ≤ x) : (if 0 < x then x else 0) = x := by
  by_cases c : 0 < x
  · rw [if_pos c]
  · rw [if_neg c]; exact Int32.le_antisymm h (Int32.not_lt.mp c)
theorem s_he_b {x : Int32} (h : ¬ 0 ≤ x) : (if 0 < x then x else 0) = 0 := if_neg (fun c => h (Int32.le_of_lt c))
theorem s_sp_a {x : Int32} (h : x ≤ 20) : (if x < 20 then x else 20) = x := by
  by_cases c : x < 20
  · rw [if_pos c]
  · rw [if_neg c]; exact Int32.le_antisymm (Int32.not_lt.mp c) h
theorem s_sp_b {x : Int32} (h : ¬ x ≤ 20) : (if x < 20 then x else 20) = 20 := if_neg (fun c => h (Int32.le_of_lt c))
/-- the rows of a boat that enters, in the law's order -/
theorem s_enter (r : Nat → Int32) (v : Int32) (h : v = if 9 ≤ r 4 then 0 else 1) : upd (upd (upd (upd (upd r 9 v) 5 0) 6 (-1)) 7 0) 8 0 = rEnter r := by
  subst h
  funext k
  unfold rEnter
  simp only [upd]
  by_cases a : k = 9
  · subst a; simp
  · simp [a]
/-- a place seen by a judge, as the law asks it -/
def sSee (ey : Nat → Int32) (x : Int32) (j : Nat) : Bool := decide (x - 10 ≤ ey j) && decide (ey j ≤ x + 10)
theorem s_see1 {y x : Int32} {a p : Nat} (ha : a < 2 ^ 30) (hp : p < 2 ^ 30) (hy : y = nI a) (hx : x = nI p) : (x - 10 ≤ y ∧ y ≤ x + 10) ↔ bAbs (y - x) ≤ 10 := by
  subst hx
  subst hy
  have e1 : (nI p).toInt = p := nI_toInt (by omega)
  have e2 : (nI a).toInt = a := nI_toInt (by omega)
  have h10 : (10 : Int32).toInt = 10 := by decide
  have h0 : (0 : Int32).toInt = 0 := by decide
  have e32 : (2 ^ 32 : Nat) = 4294967296 := by decide
  have t1 : (nI p - 10).toInt = (p : Int) - 10 := by
    rw [Int32.toInt_sub, e1, h10, e32]
    simp only [Int.bmod]
    split <;> omega
  have t2 : (nI p + 10).toInt = (p : Int) + 10 := by
    rw [Int32.toInt_add, e1, h10, e32]
    simp only [Int.bmod]
    split <;> omega
  have t3 : (nI a - nI p).toInt = (a : Int) - p := by
    rw [Int32.toInt_sub, e1, e2, e32]
    simp only [Int.bmod]
    split <;> omega
  have t4 : ((0 : Int32) - (nI a - nI p)).toInt = (p : Int) - a := by
    rw [Int32.toInt_sub, t3, h0, e32]
    simp only [Int.bmod]
    split <;> omega
  rw [Int32.le_iff_toInt_le, Int32.le_iff_toInt_le, t1, t2, e2]
  unfold bAbs
  by_cases c : 0 ≤ nI a - nI p
  · rw [if_pos c, Int32.le_iff_toInt_le, h10, t3]
    rw [Int32.le_iff_toInt_le, h0, t3] at c
    omega
  · rw [if_neg c, Int32.le_iff_toInt_le, h10, t4]
    rw [Int32.le_iff_toInt_le, h0, t3] at c
    omega
/-- judges are put at 0 to 199 -/
def sJu (ey : Nat → Int32) (k : Nat) : Prop := ∀ j, j < k → ∃ a, a < 200 ∧ ey j = nI a
section SNB
variable {p : Program} {l : Launch} {e : Env} {R : Room} {s : State} {m : MethodId} {args : Array Value} {below : List Frame} {meth : Method} {c : Code} {H : Heap} {locs : List Loc} {cells slots : Nat} {Q : State → Prop} {D : va_G} {T : Nat → ClassId} {A : Nat → Prop} {w : va_W} {cc : ByteArray} {pc : Nat} {ls : Array Slot} {rest : List Value} {H0 : Heap} {a : Nat}
theorem q_newB (hexec : p.tables.exec = Jvm.exec) (hb : c.code = cc) {own : String} {index : Nat} (hown : s.vm.findClass own = some m.cls) (hclink : (Cond.classLink own index RX4).before args s = true) (hover : va_AO RX4 s) (hK : va_K D vwCl (q_ty T) s) (hP : va_P D vwCl w H) (hD : va_D A w) (hS : va_S A H0 H locs) (hA : ∀ q, H0.size ≤ q → A q)
    {n : Int32} {N : Nat} (hn : ¬ n < 0) (hN : n.toNatClampNeg = N) (hbytes : N * 4 ≤ 536870912) (hcells : cells + 1 ≤ R.cells) (hslots : slots + N ≤ R.slots) (hdg : decode cc pc = .ok (.anewarray index, 3))
    (kk : ∀ (q : Nat) (H1 : Heap), va_P D vwCl (w ++ [(q, .inl (T 3, N, .inr (.inr (.inr (.inr (fun _ => none))))))]) H1 → va_D A (w ++ [(q, .inl (T 3, N, .inr (.inr (.inr (.inr (fun _ => none))))))]) → va_S A H0 H1 locs →
      W p l e R s m args below meth c H1 locs (cells + 1) (slots + N) Q (F0 m (pc + 3) ls (.ref q :: rest))) : W p l e R s m args below meth c H locs cells slots Q (F0 m pc ls (.int n :: rest)) := by
  refine va_newq (D := D) hexec hb hown hclink hover hK hP hD hS hA hn hN hbytes hcells hslots hdg (fun q cA H1 hK1 hP1 hD1 hS1 => ?_)
  obtain ⟨-, -, -, -, -, e1⟩ := (hK1.2 5 _ rfl).2
  obtain ⟨-, -, -, -, -, e2⟩ := (hK.2 3 _ rfl).2
  have e3 : cA = T 3 := Option.some.inj (e1.symm.trans e2)
  subst e3
  exact kk q H1 hP1 hD1 hS1
end SNB
