/-! the law's body: worlds in segments, calls of the law's own static methods, the loop's state -/
def q_cat : List va_W → va_W
  | [] => []
  | [t] => t
  | s :: t :: r => s ++ q_cat (t :: r)
theorem q_cat_flat : ∀ S : List va_W, q_cat S = S.flatten
  | [] => rfl
  | [t] => by simp [q_cat]
  | s :: t :: r => by
    rw [q_cat, q_cat_flat (t :: r)]
    rfl
theorem q_flat_perm {α : Type} {a b : List (List α)} (h : a.Perm b) : a.flatten.Perm b.flatten := by
  induction h with
  | nil => exact List.Perm.refl _
  | cons x _ ih =>
    rw [List.flatten_cons, List.flatten_cons]
    exact ih.append_left _
  | swap x y l =>
    simp only [List.flatten_cons, ← List.append_assoc]
    exact List.perm_append_comm.append_right _
  | trans _ _ ih1 ih2 => exact ih1.trans ih2
theorem q_seg_id {α : Type} (S : List α) (d : α) : (List.range S.length).map (fun i => S.getD i d) = S := by
  apply List.ext_getElem
  · simp
  · intro i h1 h2
    simp [List.getD, h2]
/-- the segments a to the front, the segments b behind them -/
theorem q_segp (N : Nat) (S : List va_W) (a b : List Nat) (hN : S.length = N) (h : List.isPerm (List.range N) (a ++ b) = true) : (q_cat S).Perm (q_cat (a.map (fun i => S.getD i [])) ++ q_cat (b.map (fun i => S.getD i []))) := by
  subst hN
  rw [q_cat_flat, q_cat_flat, q_cat_flat, ← List.flatten_append, ← List.map_append]
  have h1 := q_flat_perm ((List.isPerm_iff.mp h).map (fun i => S.getD i []))
  rw [q_seg_id] at h1
  exact h1
/-- .. and in a new order -/
theorem q_segb (N : Nat) (S1 S2 : List va_W) (js : List Nat) (hN : (S1 ++ S2).length = N) (h : List.isPerm (List.range N) js = true) : (q_cat S1 ++ q_cat S2).Perm (q_cat (js.map (fun i => (S1 ++ S2).getD i []))) := by
  subst hN
  rw [q_cat_flat, q_cat_flat, q_cat_flat, ← List.flatten_append]
  have h1 := q_flat_perm ((List.isPerm_iff.mp h).map (fun i => (S1 ++ S2).getD i []))
  rw [q_seg_id] at h1
  exact h1
section LB
variable {p : Program} {l : Launch} {e : Env} {R : Room} {s : State} {m : MethodId} {args : Array Value} {below : List Frame} {meth : Method} {c : Code} {H : Heap} {locs : List Loc} {cells slots : Nat} {Q : State → Prop}
variable {y : MethodName} {bytes cc : ByteArray} {maxL nL n index pc : Nat} {ret : Option FieldType} {hh : List (Nat × Nat × Nat × Nat)} {wsy Ts : List Cond} {rmy : Room} {own : String} {As rs st0 : List Value} {ls : Array Slot}
variable {D : va_G} {tys : List (ClassId × FieldType)} {C w R1 : va_W} {G : (Nat → Prop) → State → Prop} {post : Option Value → va_W → Prop} {A : Nat → Prop} {H0 : Heap}
theorem q_P0_blind0 {av : List Value} {sz : Nat} (hG : q_st0 G) : FrameBlind (q_P0 D tys av C G sz) := fun a U g mk q => by
  obtain ⟨q0, q1, qP, qK, qD, qG⟩ := q
  exact ⟨q0, q1, qP, va_K.moved (u := U) (U := U.calling g mk a) (Vm.Alike.refl U.vm) qK, qD, hG _ U _ rfl rfl qG⟩
/-- a call of a static method with a table of its own -/
theorem q_callN (S : CallFix p m c cc nL s args Ts own) (hM : q_N l D tys y wsy rmy As C G post) (hGb : q_st0 G) (hGU : ∀ U : State, U.heap = H → s.WarmedH U.vm → G (va_A C H.size) U) (cw : vx_CSW R s args own index y bytes maxL ret hh wsy rmy rmy.cells rmy.slots n)
    (hK : va_K D vwCl tys s) (hP : va_P D vwCl w H) (hD : va_D A w) (hS : va_S A H0 H locs) (hA : ∀ q, H0.size ≤ q → A q) (hperm : w.Perm (C ++ R1)) (hn : As.length = n) (hsize : ls.size = nL) (hst : st0 = As.reverse ++ rs) (hW : (rs.map fun v => v.category).sum ≤ 8) (hdg : decode cc pc = .ok (.invokestatic index, 3)) (hf : cells + rmy.cells ≤ R.cells ∧ slots + rmy.slots ≤ R.slots)
    (kk : ∀ (v : Option Value) (C' : va_W) (H1 : Heap) (locs1 : List Loc), post v C' → va_P D vwCl (C' ++ R1) H1 → va_D A (C' ++ R1) → va_S A H0 H1 locs1 → W p l e R s m args below meth c H1 locs1 (cells + rmy.cells) (slots + rmy.slots) Q (F0 m (pc + 3) ls (v.toList ++ rs))) : W p l e R s m args below meth c H locs cells slots Q (F0 m pc ls st0) := by
  have hP' := q_P_perm hperm hP
  have hD' := q_D_perm hperm hD
  have hPc := q_P_left hP'
  have hDc := q_D_left hD'
  have hF : ∀ q, va_A C H.size q → A q := by
    intro q h
    rcases h with ⟨k, e, h⟩ | h
    · exact (q_D_iff.mp hDc).2 _ (List.mem_of_getElem? h)
    · exact hA q (Nat.le_trans hS.1 h)
  have hr := vx_runSX (meth := meth) (H := H) (locs := locs) (cells := cells) (slots := slots) (below := below) (e := e) (R := R) (As := As) (rest := rs) (g := F0 m pc ls st0) S (hM H.size) cw ⟨q_P0_blind0 hGb, fun U hU hW => ⟨rfl, by rw [hU], by rw [hU]; exact hPc, va_K.moved hW.alike hK, hDc.weaken (fun _ _ _ _ => trivial), hGU U hU hW⟩⟩ rfl hn hsize hst (lv_room hW) hdg hf
  intro T hT X
  rcases hr T hT X with ⟨v, st₀, t, T', L, h0, X', hL, e1, e2, ⟨⟨v2, C1, hv, hp, hP1, hK1, hD1⟩, hz, hk⟩, st⟩ | ⟨q, st₀, t, T', L, E', ce, h0, X', hL, e1, e2, hE, hce, hcv, hcl, st⟩
  · cases hv
    rw [h0] at hz hk
    rw [← e1] at hz hk hP1
    obtain ⟨hP2, hD2⟩ := q_join hP' hD' hk hF hP1 hD1
    obtain ⟨t2, a1, b1⟩ := kk v C1 T'.heap (locs ++ L) hp hP2 hD2
      ⟨Nat.le_trans hS.1 hz, fun q h1 h2 => by rw [hk q (Nat.lt_of_lt_of_le h1 hS.1) (fun z => h2 (hF q z))]; exact hS.2.1 q h1 h2, fun q hq => by
        rcases List.mem_append.mp hq with h | h
        · exact hS.2.2 q h
        · exact hF _ (hL q h)⟩ T' rfl X'
    exact ⟨t2, st t2 a1, b1⟩
  · exact hE.elim
end LB
/-- what holds all through the law's body -/
def lAm (p : Program) (l : Launch) (s : State) (m : MethodId) (meth : Method) (c : Code) (D : va_G) (T : Nat → ClassId) (e0 : Nat) (A : Nat → Prop) (b L : Nat) (xs : Nat → Int32) : Prop :=
  p.tables.exec = Jvm.exec ∧ c.code = code ∧ c.maxLocals = 9 ∧ s.vm.findClass RL = some m.cls ∧ (∀ w ∈ wsL_law, w.before #[Value.ref b] s = true) ∧ va_X b L xs s s.heap ∧ b < s.heap.size ∧ ¬ A b ∧ va_K D vwCl (q_ty T) s ∧ (∀ q, s.heap.size ≤ q → A q) ∧ q_gL e0 A s ∧ q_gA A s ∧ l.stackTraces = false ∧ L ≤ 1536
/-- from every state of the loop with J calls made, and the place qi in the script, at pc -/
def lGo (p : Program) (l : Launch) (e : Env) (s : State) (m : MethodId) (below : List Frame) (meth : Method) (c : Code) (b : Nat) (D : va_G) (T : Nat → ClassId) (e0 : Nat) (A : Nat → Prop) (Q : State → Prop) (J qi pc : Nat) : Prop :=
  ∀ (x wa fl tf tb al ta ar br wi ja mo mw mE mf mn out n k mk : Nat) (md mt th len : Int32) (u v : Nat → Int32) (ad bd : Nat → Nat) (F K G : Nat → Nat → Int32) (ju wf rt wg ey nu : Nat → Int32) (of : Nat → Int64) (H : Heap) (locs : List Loc) (ls : Array Slot),
    lI J n k mk F G u nu wf wg ju ey → (n = 0 → ar = e0 ∧ br = e0) →
    va_P D vwCl ([q_xc x wa fl tf tb, q_fc tf ta v, q_ac ta mt br n, q_fc fl al u, q_ac al md ar n, q_wc wa len wi ja, q_ia T wi 10 wf, q_ia T ja k ju, q_bc tb rt, q_mc mo th n k len mw mE mf mn, q_ia T mw 10 wg, q_ia T mE 3 ey, q_fa T mf G, q_ia T mn 4 nu, q_la T out of] ++ (q_tl (T 1) n br bd K ++ q_tl (T 1) n ar ad F)) H →
    va_D A ([q_xc x wa fl tf tb, q_fc tf ta v, q_ac ta mt br n, q_fc fl al u, q_ac al md ar n, q_wc wa len wi ja, q_ia T wi 10 wf, q_ia T ja k ju, q_bc tb rt, q_mc mo th n k len mw mE mf mn, q_ia T mw 10 wg, q_ia T mE 3 ey, q_fa T mf G, q_ia T mn 4 nu, q_la T out of] ++ (q_tl (T 1) n br bd K ++ q_tl (T 1) n ar ad F)) →
    va_S A s.heap H locs → lv_has ls 9 [(0, .ref b), (1, .ref x), (2, .ref mo), (3, .ref out), (4, .int (nI qi))] →
    W p l e room_1 s m #[Value.ref b] below meth c H locs (20 + 1220 * J) (300 + 7500 * J) Q (F0 m pc ls [])
theorem l_cmp0 {of : Nat → Int64} {X Y : Int32} (h : X = Y) : lg_cmp (vp_updL of 0 X.toInt64 (0 : Int32).toNatClampNeg) Y.toInt64 = 0 := by
  subst h
  rw [show (0 : Int32).toNatClampNeg = 0 from by decide, show vp_updL of 0 X.toInt64 0 = X.toInt64 from if_pos rfl]
  simp [lg_cmp]
theorem l_cmpS {x y : Int64} (h : x = y) : lg_cmp x y = 0 := by
  subst h
  simp [lg_cmp]
theorem l_out0 {of : Nat → Int64} {x : Int64} {y : Int64} (h : x = y) : lg_cmp (vp_updL of 0 x (0 : Int32).toNatClampNeg) y = 0 := by
  subst h
  rw [show (0 : Int32).toNatClampNeg = 0 from by decide, show vp_updL of 0 x 0 = x from if_pos rfl]
  simp [lg_cmp]
theorem l_not {P Q : Prop} (h : ¬ (P ∨ Q)) : ¬ P := fun q => h (Or.inl q)
theorem l_yes {P Q : Prop} (h : ¬ (P ∨ ¬ Q)) : Q := Classical.byContradiction fun q => h (Or.inr q)
