/-! the law's body: its words, and what they say of a minute -/
abbrev q_ri (T : Nat → ClassId) (K : Nat) (a : Nat) (f : Nat → Int32) : Nat × va_E := (a, .inl (T 0, K, .inl f))
section NMM
variable {p : Program} {l : Launch} {e : Env} {R : Room} {s : State} {m : MethodId} {args : Array Value} {below : List Frame} {meth : Method} {c : Code} {H : Heap} {locs : List Loc} {cells slots : Nat} {Q : State → Prop} {D : va_G} {T : Nat → ClassId} {A : Nat → Prop} {w : va_W} {cc : ByteArray} {pc : Nat} {ls : Array Slot} {rest : List Value} {H0 : Heap}
theorem q_newMM (hexec : p.tables.exec = Jvm.exec) (hb : c.code = cc) {own : String} {index : Nat} (hown : s.vm.findClass own = some m.cls) (hclink : (Cond.classLink own index "[[I").before args s = true) (hover : va_AOA .int s) (harr : (Cond.arrayClass .int).before args s = true) (hK : va_K D vwCl (q_ty T) s) (hP : va_P D vwCl w H) (hD : va_D A w) (hS : va_S A H0 H locs) (hA : ∀ q, H0.size ≤ q → A q)
    {n k : Int32} {N K : Nat} (hn : ¬ n < 0) (hk : ¬ k < 0) (hN : n.toNatClampNeg = N) (hM : k.toNatClampNeg = K) (hb1 : N ≤ 1000) (hb2 : K ≤ 1000) (hcells : cells + (1 + N) ≤ R.cells) (hslots : slots + (N + N * K) ≤ R.slots) (hdg : decode cc pc = .ok (.multianewarray index 2, 4))
    (kk : ∀ (q : Nat) (rd : Nat → Nat) (H1 : Heap), va_P D vwCl (w ++ (q_ra (T 4) q N rd :: q_gp (q_ri T K) (List.range N) rd (fun _ _ => 0))) H1 → va_D A (w ++ (q_ra (T 4) q N rd :: q_gp (q_ri T K) (List.range N) rd (fun _ _ => 0))) → va_S A H0 H1 locs →
      W p l e R s m args below meth c H1 locs (cells + 1 + N) (slots + N + N * K) Q (F0 m (pc + 4) ls (.ref q :: rest))) : W p l e R s m args below meth c H locs cells slots Q (F0 m pc ls (.int k :: .int n :: rest)) := by
  have hcl : (Cond.classLink own index ("[" ++ (FieldType.array FieldType.int).toString)).before args s = true := hclink
  refine va_mna (X := w) (L := []) (f := fun _ => .inl (T 0, 0, .inl fun _ => 0)) (ty := .int) (cy := T 0) (z := (K, .inl (fun _ => 0))) hexec hb hown hcl hover harr (q_nmI hK) hK (by simpa [va_pl] using hP) (by simpa [va_pl] using hD) hS hA hn hk hN hM (by omega) (by show K * 4 ≤ 536870912; omega) (by omega) rfl rfl hcells hslots (fun c9 => ?_) hdg (fun q r cA H1 _ _ hK1 hP1 hD1 hS1 => ?_)
  · show ({ cls := c9, slots := Array.replicate K (.int 0), vm := .none } : Cell) = _
    rw [arrV_new]
    rfl
  · have e1 : s.vm.findClass ("[" ++ (FieldType.array .int).toString) = some cA := (hK1.2 5 _ rfl).2
    have e2 : s.vm.findClass ("[" ++ (FieldType.array .int).toString) = some (T 4) := (hK.2 4 _ rfl).2
    have e3 : cA = T 4 := Option.some.inj (e1.symm.trans e2)
    subst e3
    have e4 : va_pl ([] ++ (List.range N).map r) (vr_up (fun _ => .inl (T 0, 0, .inl fun _ => 0)) ((List.range N).map r) (.inl (T 0, (K, .inl (fun _ => 0))))) = q_gp (q_ri T K) (List.range N) r (fun _ _ => 0) := by
      unfold va_pl q_gp
      rw [List.nil_append, List.map_map]
      apply List.map_congr_left
      intro b hb
      show (r b, vr_up _ _ _ (r b)) = _
      rw [vr_up_in (List.mem_map.mpr ⟨b, hb, rfl⟩)]
    rw [e4] at hP1 hD1
    have e5 : ∀ (x : Nat × va_E) (t : va_W), (w ++ [x]) ++ t = w ++ (x :: t) := fun x t => by simp
    rw [e5] at hP1 hD1
    exact kk q r H1 hP1 hD1 hS1
end NMM
theorem q_apt3 (L a1 a2 a3 t : va_W) (x : Nat × va_E) : ((L ++ (a1 ++ (a2 ++ a3))) ++ (x :: t)).Perm ((L ++ [x]) ++ (a1 ++ (a2 ++ (a3 ++ t)))) := by
  refine q_pc fun _ a => ?_
  simp only [List.count_append, List.count_cons, List.count_nil]
  omega
theorem q_apt4 (L a1 a2 a3 a4 t : va_W) (x : Nat × va_E) : ((L ++ (a1 ++ (a2 ++ (a3 ++ a4)))) ++ (x :: t)).Perm ((L ++ [x]) ++ (a1 ++ (a2 ++ (a3 ++ (a4 ++ t))))) := by
  refine q_pc fun _ a => ?_
  simp only [List.count_append, List.count_cons, List.count_nil]
  omega
section ZZ
variable (F : Nat → Nat → Int32) (u : Nat → Int32) (w : Int32) (F2 : Nat → Nat → Int32) (u2 : Nat → Int32) (i : Nat)
def zT1 (b : Nat) : Nat → Int32 := q_upto 7 (fun o => qTold F b o w) (fun _ => 0)
def zA1 (b : Nat) : Nat → Int32 := q_upto 5 (fun o => dAbt F u b o) (fun _ => 0)
def zS : Int32 := if dAbt F u i 4 = 1 then 1 else 0
def zF : Int32 := if zS F u i = 0 then 0 else if dAbt F u i 3 = 0 then (if bHeel (F i) w ≤ 30 then 0 else 1) else 0
def zG : Int32 := if zS F u i = 0 then 0 else if dAbt F u i 3 = 0 then (if 30 < bHeel (F i) w then 0 else 1) else 0
def zD : Int32 := if u 0 - u 0 / 5 * 5 = 0 then (if F i 4 ≤ 0 then 0 else if u 2 = 0 then 1 else if dAbt F u i 4 = 0 then 1 else 0) else 0
def zI : Int32 := if dAbt F2 u2 i 4 = 2 then 1 else 0
def zN : Int32 := if dAbt F2 u2 i 4 = 2 then (if dAbt F u i 4 = 1 then 1 else 0) else 0
def zT : Nat → Int32
  | 0 => 0
  | a + 1 => if zT a = 0 then (if dAbt F u a 4 = 1 then (if dAbt F u a 3 = 0 then (if 30 < bHeel (F a) w then 0 else if dAbt F2 u2 a 0 = dAbt F2 u2 i 0 then 1 else 0) else 0) else 0) else 1
def zP (c : Int32) : Int32 := if c = 0 then 0 else if c = 1 then 8 else if c = 2 then 13 else 13 + c
end ZZ
/-- a boat's row behind a minute of a race -/
def zR (F F2 : Nat → Nat → Int32) (u : Nat → Int32) (w len : Int32) (i : Nat) : Prop :=
  (F i 9 = 1 ∧ ¬ F i 8 = 0 ∧ F2 i 4 = F i 4 ∧ F2 i 5 = F i 5 ∧ F2 i 6 = F i 6 ∧ F2 i 8 = F i 8 - 1 ∧ F2 i 9 = 1) ∨
  (F i 9 = 1 ∧ F i 8 = 0 ∧ bHeel (F i) w ≤ 30 ∧ F2 i 4 = F i 4 ∧ F2 i 5 = F i 5 + bSpeed (F i) w ∧ F2 i 8 = 0 ∧ ((len ≤ F2 i 5 ∧ F2 i 9 = 2 ∧ F2 i 6 = u 3 + 1) ∨ (¬ len ≤ F2 i 5 ∧ F2 i 9 = 1 ∧ F2 i 6 = F i 6))) ∨
  (F i 9 = 1 ∧ F i 8 = 0 ∧ ¬ bHeel (F i) w ≤ 30 ∧ bWet (F i) = 9 ∧ F2 i 4 = 9 ∧ F2 i 5 = F i 5 ∧ F2 i 6 = F i 6 ∧ F2 i 8 = 0 ∧ F2 i 9 = 3) ∨
  (F i 9 = 1 ∧ F i 8 = 0 ∧ ¬ bHeel (F i) w ≤ 30 ∧ ¬ bWet (F i) = 9 ∧ F2 i 4 = bWet (F i) ∧ F2 i 5 = F i 5 ∧ F2 i 6 = F i 6 ∧ F2 i 8 = 2 ∧ F2 i 9 = 1) ∨
  (¬ F i 9 = 1 ∧ F2 i 4 = (if u 0 - u 0 / 5 * 5 = 0 then (if F i 9 = 0 then (if F i 4 ≤ 0 then F i 4 else F i 4 - 1) else F i 4) else F i 4) ∧ F2 i 5 = F i 5 ∧ F2 i 6 = F i 6 ∧ F2 i 8 = F i 8 ∧ F2 i 9 = F i 9)
section ZL
variable {F : Nat → Nat → Int32} {u ju : Nat → Int32} {w len : Int32} {k n i : Nat}
theorem z_row (ho : u 2 = 1) (hB : kB F n) (hw : sWt F n) (hL : ∀ b, b < n → F b 9 = 1 → ¬ len ≤ F b 5) (hi : i < n) : zR F (mF F u w ju k len n) u w len i := by
  have ho0 : ¬ u 2 = 0 := by rw [ho]; decide
  have e4 := k_4 (F := F) (u := u) (w := w) (ju := ju) (k := k) (len := len) hB hw hi
  rw [k_race ho0, k_r4, k_r9] at e4
  have e5 := k_5 (F := F) (u := u) (w := w) (ju := ju) (k := k) (len := len) (n := n) (b := i) ho0
  have e6 := k_6 (F := F) (u := u) (w := w) (ju := ju) (k := k) (len := len) (n := n) (b := i) ho0
  have e8 := k_8 (F := F) (u := u) (w := w) (ju := ju) (k := k) (len := len) (n := n) (b := i) ho0
  have e9 := k_9 (F := F) (u := u) (w := w) (ju := ju) (k := k) (len := len) (n := n) (b := i) ho0
  obtain ⟨⟨-, -, -, -, s6, -⟩, hs⟩ := k_sail (w := w) (hB i hi).1
  have nd : ∀ {x y z v : Int32}, ¬ v = 0 → (if u 0 - u 0 / 5 * 5 = 0 then (if u 2 = 0 ∨ v = 0 then x else y) else y) = y := fun {x y z v} hv => by
    split
    · rw [if_neg (fun q => q.elim ho0 hv)]
    · rfl
  rcases hs with ⟨a1, a2, a4, a5, a8, a9, -⟩ | ⟨a1, a2, a3, a4, a5, a8, a9, -⟩ | ⟨a1, a2, a3, a33, a4, a5, a8, a9, -⟩ | ⟨a1, a2, a3, a33, a4, a5, a8, a9, -⟩ | ⟨a1, a4, a5, a8, a9, -⟩
  · have nl : ¬ len ≤ bSail (F i) w 5 := by rw [a5]; exact hL i hi a1
    rw [if_pos a9, if_neg nl, a9] at e9
    rw [if_pos a9, if_neg nl, s6] at e6
    rw [if_pos a9, if_neg nl, a9, nd (z := 0) (by decide), a4] at e4
    exact Or.inl ⟨a1, a2, e4, e5.trans a5, e6, e8.trans a8, e9⟩
  · refine Or.inr (Or.inl ⟨a1, a2, a3, ?_, e5.trans a5, e8.trans a8, ?_⟩)
    · by_cases c : len ≤ bSail (F i) w 5
      · rw [if_pos a9, if_pos c, nd (z := 0) (by decide), a4] at e4; exact e4
      · rw [if_pos a9, if_neg c, a9, nd (z := 0) (by decide), a4] at e4; exact e4
    · rw [e5]
      by_cases c : len ≤ bSail (F i) w 5
      · rw [if_pos a9, if_pos c] at e9 e6
        exact Or.inl ⟨c, e9, e6⟩
      · rw [if_pos a9, if_neg c] at e9 e6
        exact Or.inr ⟨c, e9.trans a9, e6.trans s6⟩
  · have n9 : ¬ bSail (F i) w 9 = 1 := by rw [a9]; decide
    rw [if_neg n9, a9] at e9
    rw [if_neg n9, s6] at e6
    rw [if_neg n9, a9, nd (z := 0) (by decide), a4] at e4
    exact Or.inr (Or.inr (Or.inl ⟨a1, a2, a3, a33, e4, e5.trans a5, e6, e8.trans a8, e9⟩))
  · have nl : ¬ len ≤ bSail (F i) w 5 := by rw [a5]; exact hL i hi a1
    rw [if_pos a9, if_neg nl, a9] at e9
    rw [if_pos a9, if_neg nl, s6] at e6
    rw [if_pos a9, if_neg nl, a9, nd (z := 0) (by decide), a4] at e4
    exact Or.inr (Or.inr (Or.inr (Or.inl ⟨a1, a2, a3, a33, e4, e5.trans a5, e6, e8.trans a8, e9⟩)))
  · have n9 : ¬ bSail (F i) w 9 = 1 := by rw [a9]; exact a1
    rw [if_neg n9, a9] at e9
    rw [if_neg n9, s6] at e6
    rw [if_neg n9, a9, a4] at e4
    refine Or.inr (Or.inr (Or.inr (Or.inr ⟨a1, ?_, e5.trans a5, e6, e8.trans a8, e9⟩)))
    rw [e4]
    by_cases c : F i 9 = 0
    · rw [if_pos (Or.inr c), if_pos c]
    · rw [if_neg (show ¬ (u 2 = 0 ∨ F i 9 = 0) from fun q => q.elim ho0 c), if_neg c]
theorem z_abt {o : Nat} (hu : ¬ u 1 = 0) : dAbt F u i o = F i (5 + o) := if_neg hu
end ZL
/-- what is known in a race, at boat i -/
def zH (F F2 : Nat → Nat → Int32) (u u2 : Nat → Int32) (w len : Int32) (i : Nat) : Prop := zR F F2 u w len i ∧ (∀ o, dAbt F u i o = F i (5 + o)) ∧ (∀ o, dAbt F2 u2 i o = F2 i (5 + o)) ∧ u 2 = 1
section ZC
variable {F F2 : Nat → Nat → Int32} {u u2 : Nat → Int32} {w len : Int32} {i : Nat}
theorem zS1 (h : zH F F2 u u2 w len i) : (zS F u i = 1 ∧ F i 9 = 1) ∨ (zS F u i = 0 ∧ ¬ F i 9 = 1) := by
  unfold zS
  rw [h.2.1 4]
  by_cases c : F i 9 = 1
  · exact Or.inl ⟨if_pos c, c⟩
  · exact Or.inr ⟨if_neg c, c⟩
/-- falls, goes: as the row has it -/
theorem zFG (h : zH F F2 u u2 w len i) :
    (F i 9 = 1 ∧ ¬ F i 8 = 0 ∧ zF F u w i = 0 ∧ zG F u w i = 0) ∨ (F i 9 = 1 ∧ F i 8 = 0 ∧ bHeel (F i) w ≤ 30 ∧ zF F u w i = 0 ∧ zG F u w i = 1) ∨ (F i 9 = 1 ∧ F i 8 = 0 ∧ ¬ bHeel (F i) w ≤ 30 ∧ zF F u w i = 1 ∧ zG F u w i = 0) ∨ (¬ F i 9 = 1 ∧ zF F u w i = 0 ∧ zG F u w i = 0) := by
  have e3 : dAbt F u i 3 = F i 8 := h.2.1 3
  rcases zS1 h with ⟨s, c⟩ | ⟨s, c⟩
  · have s0 : ¬ zS F u i = 0 := by rw [s]; decide
    by_cases d : F i 8 = 0
    · by_cases g : bHeel (F i) w ≤ 30
      · refine Or.inr (Or.inl ⟨c, d, g, ?_, ?_⟩)
        · unfold zF; rw [if_neg s0, e3, if_pos d, if_pos g]
        · unfold zG; rw [if_neg s0, e3, if_pos d, if_neg (Int32.not_lt.mpr g)]
      · refine Or.inr (Or.inr (Or.inl ⟨c, d, g, ?_, ?_⟩))
        · unfold zF; rw [if_neg s0, e3, if_pos d, if_neg g]
        · unfold zG; rw [if_neg s0, e3, if_pos d, if_pos (Int32.not_le.mp g)]
    · refine Or.inl ⟨c, d, ?_, ?_⟩
      · unfold zF; rw [if_neg s0, e3, if_neg d]
      · unfold zG; rw [if_neg s0, e3, if_neg d]
  · refine Or.inr (Or.inr (Or.inr ⟨c, ?_, ?_⟩))
    · unfold zF; rw [if_pos s]
    · unfold zG; rw [if_pos s]
theorem zW1 (h : zH F F2 u u2 w len i) (c : ¬ zF F u w i = 0) : F2 i 4 = if F i 4 + 2 < 9 then F i 4 + 2 else 9 := by
  rcases zFG h with ⟨-, -, q, -⟩ | ⟨-, -, -, q, -⟩ | ⟨a, b, d, -, -⟩ | ⟨-, q, -⟩
  · exact absurd q c
  · exact absurd q c
  · rcases h.1 with z | z | z | z | z
    · exact absurd b z.2.1
    · exact absurd z.2.2.1 d
    · exact z.2.2.2.2.1.trans z.2.2.2.1.symm
    · exact z.2.2.2.2.1
    · exact absurd a z.1
  · exact absurd q c
theorem zDd (h : zH F F2 u u2 w len i) : zD F u i = if u 0 - u 0 / 5 * 5 = 0 then (if F i 4 ≤ 0 then 0 else if F i 9 = 0 then 1 else 0) else 0 := by
  unfold zD
  rw [show dAbt F u i 4 = F i 9 from h.2.1 4, if_neg (show ¬ u 2 = 0 from by rw [h.2.2.2]; decide)]
theorem zW2 (h : zH F F2 u u2 w len i) (c : zF F u w i = 0) (d : ¬ zD F u i = 0) : F2 i 4 = F i 4 - 1 := by
  rw [zDd h] at d
  have d1 : u 0 - u 0 / 5 * 5 = 0 := by
    by_cases q : u 0 - u 0 / 5 * 5 = 0
    · exact q
    · rw [if_neg q] at d; exact absurd rfl d
  rw [if_pos d1] at d
  have d2 : ¬ F i 4 ≤ 0 := fun q => by rw [if_pos q] at d; exact d rfl
  rw [if_neg d2] at d
  have d3 : F i 9 = 0 := by
    by_cases q : F i 9 = 0
    · exact q
    · rw [if_neg q] at d; exact absurd rfl d
  rcases h.1 with z | z | z | z | z
  · exact absurd (z.1.symm.trans d3) (by decide)
  · exact absurd (z.1.symm.trans d3) (by decide)
  · exact absurd (z.1.symm.trans d3) (by decide)
  · exact absurd (z.1.symm.trans d3) (by decide)
  · rw [z.2.1, if_pos d1, if_pos d3, if_neg d2]
theorem zW3 (h : zH F F2 u u2 w len i) (c : zF F u w i = 0) (d : zD F u i = 0) : F2 i 4 = F i 4 := by
  rw [zDd h] at d
  rcases zFG h with ⟨a, b, -, -⟩ | ⟨a, b, g, -, -⟩ | ⟨-, -, -, q, -⟩ | ⟨a, -, -⟩
  · rcases h.1 with z | z | z | z | z
    · exact z.2.2.1
    · exact absurd z.2.1 b
    · exact absurd z.2.1 b
    · exact absurd z.2.1 b
    · exact absurd a z.1
  · rcases h.1 with z | z | z | z | z
    · exact absurd b z.2.1
    · exact z.2.2.2.1
    · exact absurd g z.2.2.1
    · exact absurd g z.2.2.1
    · exact absurd a z.1
  · rw [q] at c; exact absurd c (by decide)
  · rcases h.1 with z | z | z | z | z
    · exact absurd z.1 a
    · exact absurd z.1 a
    · exact absurd z.1 a
    · exact absurd z.1 a
    · rw [z.2.1]
      split
      · next d1 =>
        rw [if_pos d1] at d
        split
        · next d3 =>
          split
          · rfl
          · next d2 => rw [if_neg d2, if_pos d3] at d; exact absurd d (by decide)
        · rfl
      · rfl
theorem zP1 (h : zH F F2 u u2 w len i) (c : ¬ zG F u w i = 0) : dAbt F2 u2 i 0 = dAbt F u i 0 + bSpeed (F i) w := by
  rw [h.2.1 0, h.2.2.1 0]
  rcases zFG h with ⟨-, -, -, q⟩ | ⟨a, b, g, -, -⟩ | ⟨-, -, -, -, q⟩ | ⟨-, -, q⟩
  · exact absurd q c
  · rcases h.1 with z | z | z | z | z
    · exact absurd b z.2.1
    · exact z.2.2.2.2.1
    · exact absurd g z.2.2.1
    · exact absurd g z.2.2.1
    · exact absurd a z.1
  · exact absurd q c
  · exact absurd q c
theorem zP0 (h : zH F F2 u u2 w len i) (c : zG F u w i = 0) : dAbt F2 u2 i 0 = dAbt F u i 0 + 0 := by
  rw [h.2.1 0, h.2.2.1 0, Int32.add_zero]
  rcases zFG h with ⟨a, b, -, -⟩ | ⟨-, -, -, -, q⟩ | ⟨a, b, g, -, -⟩ | ⟨a, -, -⟩
  · rcases h.1 with z | z | z | z | z
    · exact z.2.2.2.1
    · exact absurd z.2.1 b
    · exact absurd z.2.1 b
    · exact absurd z.2.1 b
    · exact absurd a z.1
  · rw [q] at c; exact absurd c (by decide)
  · rcases h.1 with z | z | z | z | z
    · exact absurd b z.2.1
    · exact absurd z.2.2.1 g
    · exact z.2.2.2.2.2.1
    · exact z.2.2.2.2.2.1
    · exact absurd a z.1
  · rcases h.1 with z | z | z | z | z
    · exact absurd z.1 a
    · exact absurd z.1 a
    · exact absurd z.1 a
    · exact absurd z.1 a
    · exact z.2.2.1
end ZC
