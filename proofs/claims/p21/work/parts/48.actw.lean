/-! what a number chooses: its words -/
theorem s_and (v : Int32) : ¬ (v &&& 2147483647) < 0 := by
  have h : 0 ≤ (v &&& 2147483647).toBitVec.toInt := by
    rw [Int32.toBitVec_and]
    exact BitVec.toInt_nonneg_of_msb_false (by rw [BitVec.msb_and, show (2147483647 : Int32).toBitVec.msb = false from by decide, Bool.and_false])
  have h2 : 0 ≤ (v &&& 2147483647).toInt := h
  rw [Int32.lt_iff_toInt_lt, show (0 : Int32).toInt = 0 from by decide]
  omega
/-- a number below n that v chooses -/
def lB (v : Int32) (n : Nat) : Nat := (v &&& 2147483647).toNatClampNeg % n
theorem lB_lt {v : Int32} {n : Nat} (h : 0 < n) : lB v n < n := Nat.mod_lt _ h
theorem lB_eq (v : Int32) {n : Nat} (h : 0 < n) (hn : n < 2 ^ 31) : (v &&& 2147483647) - (v &&& 2147483647) / nI n * nI n = nI (lB v n) := by
  obtain ⟨j, j1, j2⟩ := nI_of (s_and v)
  unfold lB
  rw [j2, nI_clamp j1]
  exact pk_rem j1 h hn
/-- the class's and the simulation's cells outside: what is asked of the tables -/
def q_gS (b L : Nat) (xs : Nat → Int32) : (Nat → Prop) → State → Prop := fun A U => va_X b L xs U U.heap ∧ b < U.heap.size ∧ ¬ A b
theorem q_gS_st (b L : Nat) (xs : Nat → Int32) : q_st (q_gS b L xs) := fun A U V hh hvm h => ⟨by rw [hh]; exact va_X.moved hvm h.1, by rw [hh]; exact h.2.1, h.2.2⟩
theorem q_gS_at {b L : Nat} {xs : Nat → Int32} {A : Nat → Prop} {s : State} {H : Heap} {locs : List Loc} {w C R1 : va_W} (hG : q_gS b L xs A s) (hD : va_D A w) (hS : va_S A s.heap H locs) (hA : ∀ q, s.heap.size ≤ q → A q) (hperm : w.Perm (C ++ R1)) : ∀ U : State, U.heap = H → s.WarmedH U.vm → q_gS b L xs (va_A C H.size) U := by
  intro U hU hW
  have hF := q_free hD hS hA hperm
  have e : H[b]? = s.heap[b]? := hS.2.1 b hG.2.1 hG.2.2
  refine ⟨?_, ?_, fun q => hG.2.2 (hF b q)⟩
  · rw [hU]
    exact va_X.moved hW.alike (va_X.kept hG.1 e)
  · rw [hU]
    exact Nat.lt_of_lt_of_le hG.2.1 hS.1
/-- links to the private makers, and rows of the law's boats -/
def q_gN : (Nat → Prop) → State → Prop := fun _ U => va_Nw (.methodLinkNest RL 31 yX4_init RL) U ∧ va_Nw (.methodLinkNest RL 76 yX5_init RL) U ∧ va_AO RX4 U
theorem q_gN_at {A A2 : Nat → Prop} {s : State} {H : Heap} (hG : q_gN A s) : ∀ U : State, U.heap = H → s.WarmedH U.vm → q_gN A2 U := fun _ _ hW => ⟨va_Nw.warmM hW hG.1, va_Nw.warmM hW hG.2.1, hG.2.2.moved hW.alike⟩
/-- what is asked of the outside may be asked at any state with this heap and this machine's tables -/
def q_st0 (G : (Nat → Prop) → State → Prop) : Prop := ∀ (A : Nat → Prop) (U V : State), V.heap = U.heap → V.vm = U.vm → G A U → G A V
theorem q_gN_st : q_st0 q_gN := fun _ U V _ hvm h => ⟨h.1.same rfl hvm.symm, h.2.1.same rfl hvm.symm, h.2.2.moved (by rw [hvm]; exact Vm.Alike.refl _)⟩
theorem q_st.to0 {G : (Nat → Prop) → State → Prop} (h : q_st G) : q_st0 G := fun A U V hh hvm g => h A U V hh (by rw [hvm]; exact Vm.Alike.refl _) g
def q_and (G1 G2 : (Nat → Prop) → State → Prop) : (Nat → Prop) → State → Prop := fun A U => G1 A U ∧ G2 A U
theorem q_and_st {G1 G2 : (Nat → Prop) → State → Prop} (h1 : q_st0 G1) (h2 : q_st0 G2) : q_st0 (q_and G1 G2) := fun A U V hh hvm g => ⟨h1 A U V hh hvm g.1, h2 A U V hh hvm g.2⟩
section QD
variable {p : Program} {l : Launch} {e : Env} {R : Room} {s : State} {m : MethodId} {args : Array Value} {below : List Frame} {meth : Method} {c : Code} {H : Heap} {locs : List Loc} {cells slots : Nat} {Q : State → Prop}
variable {y : MethodName} {bytes cc : ByteArray} {maxL nL n index pc : Nat} {ret : Option FieldType} {wsy Ts : List Cond} {rmy : Room} {own host : String} {b : Addr} {As rs st0 : List Value} {ls : Array Slot}
variable {D : va_G} {tys : List (ClassId × FieldType)} {C w R1 : va_W} {G : (Nat → Prop) → State → Prop} {post : Option Value → va_W → Prop} {A : Nat → Prop} {H0 : Heap}
theorem q_P0_blind0 {av : List Value} {sz : Nat} (hG : q_st0 G) : FrameBlind (q_P0 D tys av C G sz) := fun a U g mk q => by
  obtain ⟨q0, q1, qP, qK, qD, qG⟩ := q
  exact ⟨q0, q1, qP, va_K.moved (u := U) (U := U.calling g mk a) (Vm.Alike.refl U.vm) qK, qD, hG _ U _ rfl rfl qG⟩
theorem q_callS0 (S : CallFix p m c cc nL s args Ts own) (hM : q_M l D tys y wsy rmy As C G post) (hGb : q_st0 G) (hGU : ∀ U : State, U.heap = H → s.WarmedH U.vm → G (va_A C H.size) U) (cw : CallB R s args own index y bytes maxL ret wsy rmy rmy.cells rmy.slots n ∧ (Cond.static y).before args s = true)
    (hK : va_K D vwCl tys s) (hP : va_P D vwCl w H) (hD : va_D A w) (hS : va_S A H0 H locs) (hA : ∀ q, H0.size ≤ q → A q) (hperm : w.Perm (C ++ R1)) (hn : As.length = n) (hsize : ls.size = nL) (hst : st0 = As.reverse ++ rs) (hW : (rs.map fun v => v.category).sum ≤ 8) (hdg : decode cc pc = .ok (.invokestatic index, 3)) (hf : cells + rmy.cells ≤ R.cells ∧ slots + rmy.slots ≤ R.slots)
    (kk : ∀ (v : Option Value) (C' : va_W) (H1 : Heap) (locs1 : List Loc), post v C' → va_P D vwCl (C' ++ R1) H1 → va_D A (C' ++ R1) → va_S A H0 H1 locs1 → W p l e R s m args below meth c H1 locs1 (cells + rmy.cells) (slots + rmy.slots) Q (F0 m (pc + 3) ls (v.toList ++ rs))) : W p l e R s m args below meth c H locs cells slots Q (F0 m pc ls st0) := by
  have hP' := q_P_left (q_P_perm hperm hP)
  have hD' := q_D_left (q_D_perm hperm hD)
  exact q_go (va_runS (As := As) (rest := rs) S (hM H.size) cw ⟨q_P0_blind0 hGb, fun U hU hW => ⟨rfl, by rw [hU], by rw [hU]; exact hP', va_K.moved hW.alike hK, hD'.weaken (fun _ _ _ _ => trivial), hGU U hU hW⟩⟩ rfl hn hsize hst (lv_room hW) hdg hf) hP hD hS hA hperm kk
/-- a call of a nest mate's private maker -/
theorem q_callIN (S : CallFix p m c cc nL s args Ts own) (hM : q_M l D tys y wsy rmy (.ref b :: As) C G post) (hGb : q_st G) (hGU : ∀ U : State, U.heap = H → s.WarmedH U.vm → G (va_A C H.size) U) (cw : va_CN R s args own index y host bytes maxL none wsy rmy rmy.cells rmy.slots n ∧ y.name = "<init>" ∧ (Cond.instanceMethod y).before args s = true)
    (hK : va_K D vwCl tys s) (hP : va_P D vwCl w H) (hD : va_D A w) (hS : va_S A H0 H locs) (hA : ∀ q, H0.size ≤ q → A q) (hperm : w.Perm (C ++ R1)) (hn : As.length = n) (hsize : ls.size = nL) (hst : st0 = As.reverse ++ .ref b :: rs) (hW : (rs.map fun v => v.category).sum ≤ 8) (hdg : decode cc pc = .ok (.invokespecial index, 3)) (hf : cells + rmy.cells ≤ R.cells ∧ slots + rmy.slots ≤ R.slots)
    (kk : ∀ (v : Option Value) (C' : va_W) (H1 : Heap) (locs1 : List Loc), post v C' → va_P D vwCl (C' ++ R1) H1 → va_D A (C' ++ R1) → va_S A H0 H1 locs1 → W p l e R s m args below meth c H1 locs1 (cells + rmy.cells) (slots + rmy.slots) Q (F0 m (pc + 3) ls (v.toList ++ rs))) : W p l e R s m args below meth c H locs cells slots Q (F0 m pc ls st0) := by
  have hP' := q_P_left (q_P_perm hperm hP)
  have hD' := q_D_left (q_D_perm hperm hD)
  exact q_go (va_runIN (As := As) (rest := rs) S (hM H.size) cw ⟨q_P0_blind hGb, fun U hU hW => ⟨rfl, by rw [hU], by rw [hU]; exact hP', va_K.moved hW.alike hK, hD'.weaken (fun _ _ _ _ => trivial), hGU U hU hW⟩⟩ rfl hn hsize hst (lv_room hW) hdg hf) hP hD hS hA hperm kk
end QD
/-- the class's cells and the simulation's -/
abbrev aW (T : Nat → ClassId) (x wa fl tf tb al ta ar br wi ja si sw so sj n k : Nat) (md mt len : Int32) (u v : Nat → Int32) (ad bd sd : Nat → Nat) (F K G : Nat → Nat → Int32) (ju wf wg ey nu : Nat → Int32) : va_W :=
  [q_xc x wa fl tf tb, q_fc tf ta v, q_ac ta mt br n, q_fc fl al u, q_ac al md ar n, q_wc wa len wi ja, q_ia T wi 10 wf, q_ia T ja k ju, q_sm si len sw so sj (nu 0) (nu 1) (sGo nu), q_ia T sw 10 wg, q_ra (T 3) so n sd, q_ia T sj k ey] ++ (q_tl (T 1) n br bd K ++ (q_tl (T 1) n ar ad F ++ q_gp q_sb (List.range n) sd G))
/-- a pond's length; who sails on isn't as far as that -/
def sLn (len : Int32) (n : Nat) (F : Nat → Nat → Int32) (u : Nat → Int32) : Prop := (∃ z, 20 ≤ z ∧ z ≤ 200 ∧ len = nI z) ∧ (u 2 = 1 → ∀ b, b < n → F b 9 = 1 → ¬ len ≤ F b 5)
theorem sLn.off {len : Int32} {n m : Nat} {F F2 : Nat → Nat → Int32} {u : Nat → Int32} (h : sLn len n F u) (h0 : u 2 = 0) : sLn len m F2 u := ⟨h.1, fun q => absurd (h0.symm.trans q) (by decide)⟩
def aI (e0 j ar br n k mk : Nat) (len : Int32) (F G : Nat → Nat → Int32) (u nu wf wg ju ey : Nat → Int32) : Prop :=
  lI j n k mk F G u nu wf wg ju ey ∧ sX j n F u ∧ sJu ey k ∧ (n = 0 → ar = e0 ∧ br = e0) ∧ sLn len n F u
abbrev aPost (T : Nat → ClassId) (e0 j mk x wa fl tf tb al ta wi si sw : Nat) : Option Value → va_W → Prop := fun v9 w9 => v9 = some (.int 1) ∧
  ∃ (ar br ja so sj n k : Nat) (md mt len : Int32) (u v : Nat → Int32) (ad bd sd : Nat → Nat) (F K G : Nat → Nat → Int32) (ju wf wg ey nu : Nat → Int32), aI e0 (j + 1) ar br n k mk len F G u nu wf wg ju ey ∧ w9.Perm (aW T x wa fl tf tb al ta ar br wi ja si sw so sj n k md mt len u v ad bd sd F K G ju wf wg ey nu)
section AI
variable {e0 j ar br n k mk : Nat} {len : Int32} {F G : Nat → Nat → Int32} {u nu wf wg ju ey : Nat → Int32}
theorem sX.more (h : sX j n F u) : sX (j + 1) n F u := by
  obtain ⟨⟨r, r1, r2, r3⟩, h2, h3⟩ := h
  exact ⟨⟨r, by omega, r2, r3⟩, h2, fun b hb => by obtain ⟨p, p1, p2⟩ := h3 b hb; exact ⟨p, by omega, p2⟩⟩
theorem aI.more (h : aI e0 j ar br n k mk len F G u nu wf wg ju ey) : aI e0 (j + 1) ar br n k mk len F G u nu wf wg ju ey := ⟨h.1.more, h.2.1.more, h.2.2.1, h.2.2.2⟩
theorem aI.pond (h : aI e0 j ar br n k mk len F G u nu wf wg ju ey) (h0 : u 2 = 0) {z : Nat} (h1 : 20 ≤ z) (h2 : z ≤ 200) : aI e0 (j + 1) ar br n k mk (nI z) F G u nu wf wg ju ey := ⟨h.1.more, h.2.1.more, h.2.2.1, h.2.2.2.1, ⟨z, h1, h2, rfl⟩, fun q => absurd (h0.symm.trans q) (by decide)⟩
theorem aI.wind (h : aI e0 j ar br n k mk len F G u nu wf wg ju ey) {i w : Nat} (hi : i < 10) (hw : w < 10) : aI e0 (j + 1) ar br n k mk len F G u nu (upd wf (i % 10) (nI w)) (upd wg i (nI w)) ju ey := ⟨h.1.wind hi hw, h.2.1.more, h.2.2.1, h.2.2.2⟩
theorem aI.ballast (h : aI e0 j ar br n k mk len F G u nu wf wg ju ey) {i z : Nat} (hi : i < n) (hz : z < 10) (h0 : u 2 = 0) : aI e0 (j + 1) ar br n k mk len (va_up F i (upd (F i) 2 (nI z))) (va_up G i (upd (G i) 2 (nI z))) u nu wf wg ju ey := by
  obtain ⟨h1, ⟨x1, x2, x3⟩, h3, h4, h5⟩ := h
  refine ⟨h1.ballast hi hz h0, ⟨?_, fun b hb => ?_, fun b hb => ?_⟩, h3, h4, h5.off h0⟩
  · obtain ⟨r, r1, r2, r3⟩ := x1
    exact ⟨r, by omega, r2, r3⟩
  · by_cases e : b = i
    · subst e; rw [va_up_self]; simpa [upd] using x2 b hb
    · rw [va_up_ne _ _ e]; exact x2 b hb
  · by_cases e : b = i
    · subst e; rw [va_up_self]
      obtain ⟨p, p1, p2⟩ := x3 b hb
      exact ⟨p, by omega, by simpa [upd] using p2⟩
    · rw [va_up_ne _ _ e]
      obtain ⟨p, p1, p2⟩ := x3 b hb
      exact ⟨p, by omega, p2⟩
theorem lI.eyc (h : lI j n k mk F G u nu wf wg ju ey) {ez : Nat → Int32} (he : ∀ q, q < k → ey q = ez q) : lI j n k mk F G u nu wf wg ju ez := by
  obtain ⟨a, b, c, d, f, g, i, o, z, t, v⟩ := h
  exact ⟨a, b, c, d, f, g, i, o, fun q hq => (z q hq).trans (he q hq), t, v⟩
theorem aI.judge (h : aI e0 j ar br n k mk len F G u nu wf wg ju ey) (hk : k < 3) {a : Nat} (ha : a < 200) : aI e0 (j + 1) ar br n (k + 1) mk len F G u nu wf wg (q_jAdd ju k (nI a)) (q_jAdd ey k (nI a)) := by
  obtain ⟨h1, h2, h3, h4, h5⟩ := h
  refine ⟨(h1.judge hk (nI a)).eyc (fun q hq => ?_), h2.more, fun q hq => ?_, h4, h5⟩
  · by_cases e : q = k
    · simp [q_jAdd, upd, e]
    · have : q < k := by omega
      simp [q_jAdd, q_cpj, upd, e, this]
  · by_cases e : q = k
    · exact ⟨a, ha, by simp [q_jAdd, upd, e]⟩
    · have : q < k := by omega
      obtain ⟨z, z1, z2⟩ := h3 q this
      exact ⟨z, z1, by simp [q_jAdd, q_cpj, upd, e, this, z2]⟩
theorem aI.build (h : aI e0 j ar br n k mk len F G u nu wf wg ju ey) (hn : n < 8) (h0 : u 2 = 0) {a g ar2 br2 : Nat} (ha1 : 1 ≤ a) (ha : a < 10) (hg : g < 3) : aI e0 (j + 1) ar2 br2 (n + 1) k mk len (va_up F n (bNew (nI a) (nI g))) (va_up G n (rNew (nI a) (nI g))) u nu wf wg ju ey := by
  obtain ⟨h1, ⟨x1, x2, x3⟩, h3, h4, h5⟩ := h
  refine ⟨h1.build hn h0 ha1 ha hg, ⟨?_, fun b hb => ?_, fun b hb => ?_⟩, h3, fun q => absurd q (Nat.succ_ne_zero n), h5.off h0⟩
  · obtain ⟨r, r1, r2, r3⟩ := x1
    exact ⟨r, by omega, r2, r3⟩
  · by_cases e : b = n
    · subst e; rw [va_up_self]; exact ⟨0, by omega, by simp [bNew, upd]; rfl⟩
    · rw [va_up_ne _ _ e]; exact x2 b (by omega)
  · by_cases e : b = n
    · subst e; rw [va_up_self]; exact ⟨0, by omega, by simp [bNew, upd]; rfl⟩
    · rw [va_up_ne _ _ e]
      obtain ⟨p, p1, p2⟩ := x3 b (by omega)
      exact ⟨p, by omega, p2⟩
theorem aI.start (h : aI e0 j ar br n k mk len F G u nu wf wg ju ey) : aI e0 (j + 1) ar br n k mk len (dEnter F) (q_upto n (rEnters G) G) (dBegU u) (rBegU (upd nu 1 (nu 1 + 1))) wf wg ju ey := by
  obtain ⟨h1, ⟨⟨r, r1, r2, r3⟩, x2, x3⟩, h3, h4, ⟨z, z1, z2, z3⟩, -⟩ := h
  refine ⟨h1.start, ⟨⟨r + 1, by omega, ?_, fun _ => by omega⟩, fun b hb => ?_, fun b hb => ?_⟩, h3, h4, ⟨z, z1, z2, z3⟩, fun _ b _ _ q => ?_⟩
  rotate_left 3
  · rw [z3, show dEnter F b 5 = 0 from by simp [dEnter, bEnter, upd]] at q
    exact nI_nle (by omega) (by omega) q
  · simp [dBegU, upd, r2, nI_1]
  · simpa [dEnter, bEnter, upd] using x2 b hb
  · obtain ⟨p, p1, p2⟩ := x3 b hb
    exact ⟨p, by omega, by simpa [dEnter, bEnter, upd] using p2⟩
end AI
theorem s_start_eq {F G : Nat → Nat → Int32} {n : Nat} (h : pF F G n) : q_sum (dSt (dEnter F) 1) n = q_sum (rRdy (rEnters G)) n := q_sum_congr fun b hb => by
  have e4 : F b 4 = G b 4 := (h b hb).1 4 (by omega)
  unfold dSt dEnter rRdy rEnters
  have h1 : bEnter (F b) 9 = if 9 ≤ F b 4 then 0 else 1 := by
    unfold bEnter bCan
    simp only [upd]
    by_cases c : 9 ≤ F b 4
    · simp [c]
    · simp [c]
  have h2 : rEnter (G b) 4 = G b 4 := by simp [rEnter, upd]
  rw [h1, h2, e4]
  by_cases c : 9 ≤ G b 4
  · rw [if_pos c]; rfl
  · rw [if_neg c]; rfl
theorem s_push (k : Nat) (sd : Nat → Nat) : va_up (q_g k sd) k (some (sd k)) = q_g (k + 1) sd := by rw [q_g_push, q_up_id]
theorem q_g0 (sd : Nat → Nat) : q_g 0 sd = fun _ => none := by funext j; simp [q_g]
theorem q_gp_push {C : Nat → (Nat → Int32) → Nat × va_E} {n q : Nat} {sd : Nat → Nat} {G : Nat → Nat → Int32} {r : Nat → Int32} : q_gp C (List.range (n + 1)) (va_up sd n q) (va_up G n r) = q_gp C (List.range n) sd G ++ [C q r] := by
  unfold q_gp
  rw [List.range_succ, List.map_append, List.map_cons, List.map_nil, va_up_self, va_up_self]
  congr 1
  apply List.map_congr_left
  intro b hb
  have : ¬ b = n := by have := List.mem_range.mp hb; omega
  rw [va_up_ne _ _ this, va_up_ne _ _ this]
theorem s_cpj (ey : Nat → Int32) (k : Nat) : upd (q_cpj ey k) k (ey k) = q_cpj ey (k + 1) := by
  funext j
  unfold q_cpj
  by_cases h : j = k
  · subst h; simp [upd]
  · by_cases h2 : j < k
    · simp [upd, h, h2, Nat.lt_succ_of_lt h2]
    · have : ¬ j < k + 1 := by omega
      simp [upd, h, h2, this]
theorem s_cpj0 (ey : Nat → Int32) : q_cpj ey 0 = fun _ => 0 := by funext j; simp [q_cpj]
