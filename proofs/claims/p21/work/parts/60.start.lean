/-! THE CLAIM OUT OF ONE WALK OF THE LAW'S BODY. Your part is whole_start (and what it stands on); all else here is the same for every law, but numbers. -/
def R_law : String := "ToyRegattaLaw"
def lw_P (b : Addr) (xs : List Int32) (args : Array Value) (s : State) : Prop := args = #[.ref b] ∧ s.IntsAt b xs ∧ xs.length ≤ 260 ∧ (Jvm.Cond.and given_1 narrow_1).before args s = true
/-- what a walk over the start with the record d0 says of its end, said of the start itself -/
theorem lw_closed {s t : State} {o : Outcome} {d0 : Drawn} {L : List Loc} {k n : Nat} (hd0 : s.drawn.sameBut d0 lw_cs) (hv : ∃ v, o = .returned v) (hW : (s.setDrawn d0).WarmedH t.vm) (hs : (s.setDrawn d0).sameButNew ({ t with vm := s.vm } : State) L k n) : State.butDraws s t lw_cs (fun t1 => Framed s o t1 L k n) := by
  have h2 : t.drawn = d0 := congrArg State.drawn hs.1
  refine ⟨⟨hv, hW, State.sameButNew.setDrawn hs s.drawn⟩, ?_, by decide⟩
  rw [h2]
  exact hd0
def lw_Q (_ : Array Value) (s : State) (o : Outcome) (t : State) : Prop := o = .returned (some (.int 1)) ∧ State.butDraws s t lw_cs (fun t1 => Framed s o t1 [] 600172 7300668)
def lw_Z (below : List Frame) (a : Array Value) (s : State) : State → Prop := fun t => ∃ o, t.status = .running ∧ Ended t below o ∧ lw_Q a s o t
/-- the law's own end, with 1 on the stack, nothing written that was there before, its room as the claim has it; d0: the record of draws at this point (at the entry s.drawn: begin with 'refine W.base ?_' and 'have hd0 := Drawn.sameBut.refl s.drawn lw_cs') -/
theorem lw_ret {p : Program} {l : Launch} {e : Env} {s : State} {m : MethodId} {below : List Frame} {meth : Method} {c : Code} {b : Nat} {d0 : Drawn} (hd0 : s.drawn.sameBut d0 lw_cs) (hx : p.tables.exec = Jvm.exec) (hb : c.code = code) (hr : meth.sig.returnType = ret) (hlocks : meth.locks = false) {pc : Nat} {H : Heap} {ls : Array Slot} (hdg : decode code pc = .ok (.ireturn, 1)) : W p l e room_1 (s.setDrawn d0) m #[Value.ref b] below meth c H [] 600172 7300668 (lw_Z below #[Value.ref b] s) (F0 m pc ls [.int 1]) := by
  intro T hT X
  obtain ⟨fs, hret, hrun, hended, hW, hframe⟩ := X.leave (v := some (.int 1)) (hlocks := hlocks) (fun h => by rw [hr] at h; cases h)
  have hmeth' : T.vm.method? m = some meth := X.method'
  refine ⟨T.setFrames fs, ?_, .returned (some (.int 1)), hrun, hended, rfl, lw_closed hd0 ⟨_, rfl⟩ hW hframe⟩
  jvm_step X.here [X.here.top, hx, hb, hdg, hmeth', hr, ret, narrow_b1]
  (try refine ⟨rfl, ?_⟩); (try refine ⟨rfl, ?_⟩)
  first | (intro acts; rw [hret _ acts rfl rfl rfl]) | rw [hret _ _ rfl rfl rfl]
  exact Steps.refl _
/-- what holds at the law's entry: the machine, the code, the tables' words (any of lw_tbl by 'hts w (by decide +kernel)'), the script of L ints xs at the cell b, what the Statement gives of the start (any of its parts by flat_of_before) -/
def lw_At (p : Program) (s : State) (m : MethodId) (meth : Method) (c : Code) (b L : Nat) (xs : Nat → Int32) : Prop :=
  p.tables.exec = Jvm.exec ∧ c.code = code ∧ meth.sig.returnType = ret ∧ c.maxLocals = 25 ∧ s.vm.findClass R_law = some m.cls ∧ (∀ w ∈ lw_tbl, w.before #[Value.ref b] s = true) ∧ va_X b L xs s s.heap ∧ b < s.heap.size ∧ meth.locks = false ∧ (Jvm.Cond.and given_1 narrow_1).before #[Value.ref b] s = true

theorem q_arrP {s : State} {args : Array Value} {ty : FieldType} (h : (Cond.arrayClass ty).before args s = true) : ∃ cA : ClassId, ArrOfT s cA ty ∧ s.vm.findClass ("[" ++ ty.toString) = some cA := by
  obtain ⟨cA, kA, comp, h1, h2, h3⟩ := Cond.arrayClass_spec h
  exact ⟨cA, fun n z => ⟨fun k h => (by cases h), kA, h2, comp, h3⟩, h1⟩
set_option maxHeartbeats 4000000 in
set_option maxRecDepth 100000 in
/-- what the law's body stands on, at its entry -/
theorem l_base {s : State} {b : Nat} (hts0 : ∀ w ∈ lw_tbl, w.before #[Value.ref b] s = true) (hgv : (Jvm.Cond.and given_1 narrow_1).before #[Value.ref b] s = true) :
    ∃ (D : va_G) (T : Nat → ClassId) (e0 : Nat), va_K D vwCl (q_ty T) s ∧ q_gE e0 (fun q : Nat => s.heap.size ≤ q) s ∧ q_gN (fun q : Nat => s.heap.size ≤ q) s ∧ va_AOA .int s := by
  have W9 : ∀ (i : Nat) (w : Cond), lw_tbl[i]? = some w → w.before #[Value.ref b] s = true := fun i w h => hts0 w (List.mem_of_getElem? h)
  have hn := flat_of_before _ hgv
  have hAn : ∀ a : Nat, a < s.heap.size → ¬ (fun q : Nat => s.heap.size ≤ q) a := fun a h q => absurd q (Nat.not_le.mpr h)
  obtain ⟨c0, i0, hk0⟩ := u_known (C := RJx4a65c) (T := TJx4a65c) (N := 3) (n := 3) hts0 in_wsJx4a65c0 (W9 78 (.instantiable RJx4a65c 3) rfl)
  obtain ⟨c1, i1, hk1⟩ := u_known (C := RX0) (T := TX0) (N := 11) (n := 11) hts0 in_wsX00 (W9 124 (.instantiable RX0 11) rfl)
  obtain ⟨c2, i2, hk2⟩ := u_known (C := RX1) (T := TX1) (N := 5) (n := 5) hts0 in_wsX10 (W9 72 (.instantiable RX1 5) rfl)
  obtain ⟨c3, i3, hk3⟩ := u_known (C := RX2) (T := TX2) (N := 3) (n := 3) hts0 in_wsX20 (W9 49 (.instantiable RX2 3) rfl)
  obtain ⟨c4, i4, hk4⟩ := u_known (C := RX3) (T := TX3) (N := 4) (n := 4) hts0 in_wsX30 (W9 41 (.instantiable RX3 4) rfl)
  obtain ⟨c5, i5, hk5⟩ := u_known (C := RX4) (T := TX4) (N := 10) (n := 10) hts0 in_wsX40 (W9 539 (.instantiable RX4 10) rfl)
  obtain ⟨c6, i6, hk6⟩ := u_known (C := RX5) (T := TX5) (N := 7) (n := 7) hts0 in_wsX50 (W9 732 (.instantiable RX5 7) rfl)
  obtain ⟨dC, dI, hKc⟩ : ∃ (dC : Nat → ClassId) (dI : Nat → Nat → Nat), ∀ (k : Nat) (q : vw_C), vwCl[k]? = some q → u_Kn s q.1 q.2.1 q.2.2 (dC k) (dI k) := by
    refine ⟨fun k => if k = 0 then c0 else if k = 1 then c1 else if k = 2 then c2 else if k = 3 then c3 else if k = 4 then c4 else if k = 5 then c5 else c6, fun k => if k = 0 then i0 else if k = 1 then i1 else if k = 2 then i2 else if k = 3 then i3 else if k = 4 then i4 else if k = 5 then i5 else i6, ?_⟩
    intro k q hq
    match k, hq with
    | 0, hq => cases hq; exact hk0
    | 1, hq => cases hq; exact hk1
    | 2, hq => cases hq; exact hk2
    | 3, hq => cases hq; exact hk3
    | 4, hq => cases hq; exact hk4
    | 5, hq => cases hq; exact hk5
    | 6, hq => cases hq; exact hk6
    | k + 7, hq => simp [vwCl] at hq
  obtain ⟨tI, aI, nI9⟩ := q_arrP (W9 70 (.arrayClass .int) rfl)
  obtain ⟨tZ, aZ, nZ⟩ := q_arrP (W9 485 (.arrayClass .boolean) rfl)
  have hoO : (Cond.arrayOver (.object "java/lang/Object")).before #[Value.ref b] s = true := (W9 654 (.arrayOver (.object "java/lang/Object")) rfl)
  have hoB : (Cond.arrayOver (.object RX4)).before #[Value.ref b] s = true := (W9 538 (.arrayOver (.object RX4)) rfl)
  have hoM : (Cond.arrayOver (.array .int)).before #[Value.ref b] s = true := (W9 768 (.arrayOver (.array .int)) rfl)
  obtain ⟨pO, tO, kO, f1, -, f3, f4, f5⟩ := Cond.arrayOver_spec hoO
  obtain ⟨pB, tB, kB, b1, -, b3, b4, b5⟩ := Cond.arrayOver_spec hoB
  obtain ⟨pM, tM, kM, g1, -, g3, g4, g5⟩ := arrayOverA_spec hoM
  have hKt : va_K (dC, dI) vwCl (q_ty (fun k => if k = 0 then tI else if k = 1 then tO else if k = 2 then tZ else if k = 3 then tB else tM)) s := by
    refine ⟨hKc, fun k q hq => ?_⟩
    match k, hq with
    | 0, hq => cases hq; exact ⟨aI, nI9⟩
    | 1, hq => cases hq; exact ⟨fun n z => ⟨fun k h => (by cases h), kO, f3, pO, f4⟩, kO, pO, f3, f4, f1, f5⟩
    | 2, hq => cases hq; exact ⟨aZ, nZ⟩
    | 3, hq => cases hq; exact ⟨fun n z => ⟨fun k h => (by cases h), kB, b3, pB, b4⟩, kB, pB, b3, b4, b1, b5⟩
    | 4, hq => cases hq; exact ⟨fun n z => ⟨fun k h => (by cases h), kM, g3, pM, g4⟩, g5⟩
    | k + 5, hq => simp at hq
  have hAL : (Cond.laysStatic "java/util/ArrayList" "DEFAULTCAPACITY_EMPTY_ELEMENTDATA" "[Ljava/lang/Object;").before #[Value.ref b] s = true := (W9 90 (.laysStatic "java/util/ArrayList" "DEFAULTCAPACITY_EMPTY_ELEMENTDATA" "[Ljava/lang/Object;") rfl)
  obtain ⟨e0, he0, hT0⟩ := va_Tof (N := 0) (f := fun _ => .null) (A := fun q : Nat => s.heap.size ≤ q) (tm := .static "java/util/ArrayList" "DEFAULTCAPACITY_EMPTY_ELEMENTDATA" "[Ljava/lang/Object;") (ty := .object "java/lang/Object") (by decide) (hn _ (by decide +kernel)) (va_eqt (hn (.eq (.length (.static "java/util/ArrayList" "DEFAULTCAPACITY_EMPTY_ELEMENTDATA" "[Ljava/lang/Object;")) (.int 0)) (by decide +kernel))) (fun j hj => absurd hj (Nat.not_lt_zero j)) hAn
  refine ⟨(dC, dI), _, e0, hKt, ⟨va_Zref hAL (W9 25 (.initialized "java/util/ArrayList") rfl) he0 hAn, hT0, va_AO.of hoO, va_tabs rfl rfl (W9 775 (.castable RX0 "java/lang/Object") rfl)⟩, ⟨va_Nw.of rfl (W9 540 (.methodLinkNest RL 31 yX4_init RL) rfl), va_Nw.of rfl (W9 733 (.methodLinkNest RL 76 yX5_init RL) rfl), va_AO.of hoB⟩, hoM⟩
set_option maxHeartbeats 4000000 in
set_option maxRecDepth 100000 in
/-- from the entry, for every script of at most 260 ints, the law comes to its end with true -/
theorem whole_start {p : Program} {e : Env} {s : State} {m : MethodId} {below : List Frame} {meth : Method} {c : Code} (l : Launch) (hflags : l.flags = flags0) {b L : Nat} {xs : Nat → Int32} (hL : L ≤ 260) (C0 : lw_At p s m meth c b L xs) : W p l e room_1 s m #[Value.ref b] below meth c s.heap [] 0 0 (lw_Z below #[Value.ref b] s) (entryFrame m ([Value.ref b] : List Value).toArray 25) := by
  obtain ⟨hx, hb, hr, hml, hown, hts0, hX, hbl, hlocks, hgv⟩ := C0
  obtain ⟨D, T, e0, hK, hGE, hGN, hAOA⟩ := l_base hts0 hgv
  have W9 : ∀ (i : Nat) (w : Cond), lw_tbl[i]? = some w → w.before #[Value.ref b] s = true := fun i w h => hts0 w (List.mem_of_getElem? h)
  have hts : ∀ w ∈ wsW, w.before #[Value.ref b] s = true := fun w h => hts0 w (in_wsW w h)
  have hown : s.vm.findClass RL = some m.cls := hown
  obtain ⟨A, hAe⟩ : ∃ A : Nat → Prop, A = fun q : Nat => s.heap.size ≤ q := ⟨_, rfl⟩
  rw [← hAe] at hGE hGN
  have hA : ∀ q, s.heap.size ≤ q → A q := fun q h => by rw [hAe]; exact h
  have hA2 : ∀ q, A q → s.heap.size ≤ q := fun q h => by rw [hAe] at h; exact h
  have hbA : ¬ A b := fun h => absurd (hA2 b h) (Nat.not_le.mpr hbl)
  have hG : q_and (q_gS b L xs) (q_and (q_gE e0) q_gN) A s := ⟨⟨hX, hbl, hbA⟩, hGE, hGN⟩
  have hC : CallFix p m c cL_law 25 s #[Value.ref b] wsW RL := ⟨hx, hb, hml, hown, hts⟩
  have hS : va_S A s.heap s.heap [] := va_S.rf
  have hP : va_P D vwCl [] s.heap := fun k q h => by simp at h
  have hD : va_D A [] := ⟨fun i j p q h => by simp at h, fun k q h => by simp at h⟩
  have hl := lv_entry ([.ref b]) (n := 25) (Nat.le_of_ble_eq_true rfl)
  rw [lg_entry_eq]
  generalize (lg_sl ([.ref b]) ++ List.replicate (25 - (lg_sl ([.ref b])).length) Slot.unset).toArray = ls at hl ⊢
  have hl : lv_has ls 25 [(0, .ref b)] := hl
  refine va_new (D := D) (ci := 4) (fs := [.null, .null, .null, .null]) (C := RX3) (T := TX3) (N := 4) hx hb hts0 in_wsX30 tyX3 tyX3_ok hown (W9 40 (.classLink RL 39 RX3) rfl) (W9 41 (.instantiable RX3 4) rfl) (W9 19 (.initialized RX3) rfl) hK hP hD hS hA rfl (fun j hj => by rcases (show j = 0 ∨ j = 1 ∨ j = 2 ∨ j = 3 by omega) with rfl | rfl | rfl | rfl <;> rfl) (Nat.le_of_ble_eq_true rfl) (Nat.le_of_ble_eq_true rfl) dL_law_0 (fun x H hP hD hS => ?_)
  have hP : va_P D vwCl [(x, .inr (4, [.null, .null, .null, .null]))] H := hP
  have hD : va_D A [(x, .inr (4, [.null, .null, .null, .null]))] := hD
  refine lv_dup hx hb dL_law_3 rfl ?_
  have hpm : List.Perm [(x, .inr (4, [.null, .null, .null, .null]))] ([(x, .inr (4, [.null, .null, .null, .null]))] ++ ([] : va_W)) := List.Perm.refl _
  refine q_callI (As := []) (rs := [.ref x]) hC (c_X3_init l D T x e0) (q_gE_st e0) (q_gE_at hG.2.1 hD hS hA hpm) (cwI 0 hts gW_X3_init rfl rfl rfl (W9 19 (.initialized RX3) rfl) (W9 42 (.methodLink RL 90 yX3_init) rfl) (W9 43 (.instanceMethod yX3_init) rfl) rfl (by decide +kernel) ⟨Nat.le_of_ble_eq_true rfl, Nat.le_of_ble_eq_true rfl⟩) hK hP hD hS hA hpm rfl hl.1 rfl (Nat.le_of_ble_eq_true rfl) dL_law_4 ⟨Nat.le_of_ble_eq_true rfl, Nat.le_of_ble_eq_true rfl⟩ (fun v9 C9 H locs hp hP hD hS => ?_)
  obtain ⟨wa, wi, ja, fl, al, tf, ta, tb, rfl, h9⟩ := hp
  have hP : va_P D vwCl [q_xc x wa fl tf tb, q_wc wa 60 wi ja, q_ia T wi 10 (q_fill 10 4 (fun _ => 0)), q_ia T ja 0 (fun _ => 0), q_fc fl al (fun _ => 0), q_ac al 0 e0 0, q_fc tf ta (fun _ => 0), q_ac ta 0 e0 0, q_bc tb (bNew 1 0)] H := q_P_perm (h9.append_right []) hP
  have hD : va_D A [q_xc x wa fl tf tb, q_wc wa 60 wi ja, q_ia T wi 10 (q_fill 10 4 (fun _ => 0)), q_ia T ja 0 (fun _ => 0), q_fc fl al (fun _ => 0), q_ac al 0 e0 0, q_fc tf ta (fun _ => 0), q_ac ta 0 e0 0, q_bc tb (bNew 1 0)] := q_D_perm (h9.append_right []) hD
  refine lv_astore_n (lv' := [(1, .ref x), (0, .ref b)]) hx hb dL_law_7 rfl hl (by decide) rfl (fun ls hl => ?_)
  refine lv_aload_n hx hb dL_law_8 rfl (lv_at hl 0 rfl) ?_
  refine lv_aload_n hx hb dL_law_9 rfl (lv_at hl 1 rfl) ?_
  have hpm : List.Perm [q_xc x wa fl tf tb, q_wc wa 60 wi ja, q_ia T wi 10 (q_fill 10 4 (fun _ => 0)), q_ia T ja 0 (fun _ => 0), q_fc fl al (fun _ => 0), q_ac al 0 e0 0, q_fc tf ta (fun _ => 0), q_ac ta 0 e0 0, q_bc tb (bNew 1 0)] ([q_xc x wa fl tf tb, q_fc tf ta (fun _ => 0), q_ac ta 0 e0 0, q_fc fl al (fun _ => 0), q_ac al 0 e0 0, q_wc wa 60 wi ja, q_ia T wi 10 (q_fill 10 4 (fun _ => 0)), q_ia T ja 0 (fun _ => 0)] ++ q_cat [[q_bc tb (bNew 1 0)]]) := q_segp 9 [[q_xc x wa fl tf tb], [q_wc wa 60 wi ja], [q_ia T wi 10 (q_fill 10 4 (fun _ => 0))], [q_ia T ja 0 (fun _ => 0)], [q_fc fl al (fun _ => 0)], [q_ac al 0 e0 0], [q_fc tf ta (fun _ => 0)], [q_ac ta 0 e0 0], [q_bc tb (bNew 1 0)]] [0, 6, 7, 4, 5, 1, 2, 3] [8] rfl (by decide)
  refine q_callS0 (As := [.ref x, .ref b]) (rs := []) hC (c_L_build l D T x wa fl tf tb al ta wi ja e0 b L xs (by omega)) (q_and_st (q_gS_st b L xs).to0 (q_and_st (q_gE_st e0).to0 q_gN_st)) (fun U hU hW => ⟨q_gS_at hG.1 hD hS hA hpm U hU hW, q_gE_at hG.2.1 hD hS hA hpm U hU hW, q_gN_at hG.2.2 U hU hW⟩) (va_cwS 2 hts gW_L_build rfl rfl rfl (by decide +kernel) ⟨Nat.le_of_ble_eq_true rfl, Nat.le_of_ble_eq_true rfl⟩) hK hP hD hS hA hpm rfl hl.1 rfl (Nat.le_of_ble_eq_true rfl) dL_law_10 ⟨Nat.le_of_ble_eq_true rfl, Nat.le_of_ble_eq_true rfl⟩ (fun v9 C9 H locs hp hP hD hS => ?_)
  obtain ⟨si, sw, ar, br, ja2, so, sj, n, k, mk, md, mt, len, u, v, ad, bd, sd, F, K, G, ju, wf, wg, ey, nu, rfl, hI9, hw9⟩ := hp
  have hP : va_P D vwCl (aW T x wa fl tf tb al ta ar br wi ja2 si sw so sj n k md mt len u v ad bd sd F K G ju wf wg ey nu) H := q_P_perm hw9 (q_P_left hP)
  have hD : va_D A (aW T x wa fl tf tb al ta ar br wi ja2 si sw so sj n k md mt len u v ad bd sd F K G ju wf wg ey nu) := q_D_perm hw9 (q_D_left hD)
  refine lv_astore_n (lv' := [(2, .ref si), (1, .ref x), (0, .ref b)]) hx hb dL_law_13 rfl hl (by decide) rfl (fun ls hl => ?_)
  refine lv_aload_n hx hb dL_law_14 rfl (lv_at hl 0 rfl) ?_
  refine lv_ifnonnull (tgt := 20) hx hb dL_law_15 (by decide) ?_
  refine lv_iconst (v := 0) hx hb dL_law_20 (by decide) ?_
  refine lv_istore_n (lv' := [(3, .int (nI 0)), (2, .ref si), (1, .ref x), (0, .ref b)]) hx hb dL_law_21 rfl hl (by decide) rfl (fun ls hl => ?_)
  refine W.widen (k := 300 + 60 * 0) (n := 2500 + 500 * 0) (Nat.le_of_ble_eq_true rfl) (Nat.le_of_ble_eq_true rfl) ?_
  refine law_loop hx hb hml hts hown hK hA hAOA hC hG (by omega) hI9 hP hD hS (lv_sub hl [3, 2, 1, 0] rfl) (fun H locs ls cells slots hS hc hs => ?_)
  refine va_forget (fun q hq => hA2 _ (hS.2.2 q hq)) ?_
  refine W.widen (k := 600172) (n := 7300668) (Nat.le_trans hc (Nat.le_of_ble_eq_true rfl)) (Nat.le_trans hs (Nat.le_of_ble_eq_true rfl)) ?_
  exact lw_ret (d0 := s.drawn) (fun _ => ⟨Nat.le_refl _, fun _ => rfl⟩) hx hb hr hlocks dL_law_1229
-- ===== the skeleton's end =====

set_option maxHeartbeats 4000000 in
theorem lw_walk (l : Launch) (hflags : l.flags = flags0) (b : Addr) (xs : List Int32) : MetFree l x (headSpec (Jvm.Cond.code x code maxLocals ret :: tables_1) room_1) (lw_P b xs) (fun _ _ _ _ _ => True) lw_Q := by
  refine MetFree.of_bodyS (code := code) (maxLocals := maxLocals) (ret := ret) (by decide) ?_ ?_
  · intro args s m h hn
    obtain ⟨meth, c, h1, h2, h3, h4, h5, h6, -, -⟩ := Cond.code_spec hn (atoms_spec (ws := Jvm.Cond.code x code maxLocals ret :: tables_1) h _ List.mem_cons_self)
    exact ⟨meth, c, h1, h2, h3, h4, h5, h6⟩
  · intro p e s m args below meth c s₁ B hml0 hP _
    obtain ⟨rfl, hx, hbd, hgv⟩ := hP
    obtain ⟨scr, harrAt, hlist, hof, hsmall⟩ := hx
    obtain ⟨hcb, hkn, -, -⟩ := State.arrayAt?_spec harrAt
    have hown : s.vm.findClass R_law = some m.cls := findClass_of_methodNamed B.named
    have hts0 : ∀ c ∈ (Jvm.Cond.code x code maxLocals ret :: tables_1), c.before #[Value.ref b] s = true := atoms_spec (ws := Jvm.Cond.code x code maxLocals ret :: tables_1) B.pre
    have hts : ∀ w ∈ lw_tbl, w.before #[Value.ref b] s = true := k2_hts_sels lw_privs (fun w hw => hts0 w (List.mem_cons_of_mem _ hw)) lw_privs_ok
    have hml : c.maxLocals = 25 := B.maxLocals_eq (hts0 _ List.mem_cons_self)
    have X₀ : Stand p l e room_1 s m #[Value.ref b] below meth c s₁ [] 0 0 := Stand.of_body B
    have hh0 : s₁.heap = s.heap := by rw [B.state]; rfl
    have hsz : scr.slots.size = xs.length := by rw [← Array.length_toList, hlist, List.length_map]
    have hval : ∀ j : Nat, j < xs.length → scr.slots[j]? = some (.int (xs.getD j 0)) := fun j hj => by
      rw [← Array.getElem?_toList, hlist]
      simp [hj]
    have hbl : b < s.heap.size := (Array.getElem?_eq_some_iff.mp hcb).1
    have hX : va_X b xs.length (fun j => xs.getD j 0) s s.heap := ⟨scr, hcb, hof, hkn, hsz, hval⟩
    have K : W p l e room_1 s m #[Value.ref b] below meth c s₁.heap [] 0 0 (lw_Z below #[Value.ref b] s) (entryFrame m ([Value.ref b] : List Value).toArray 25) := by
      rw [hh0]
      exact whole_start l hflags hbd ⟨B.exec, B.bytes, B.returns, hml, hown, hts, hX, hbl, B.notSynchronized, hgv⟩
    obtain ⟨t, a1, o, b1, b2, b3⟩ := K s₁ rfl X₀
    exact ⟨t, o, a1, b1, b2, b3⟩
theorem lw_pre_spec {args : Array Value} {s : State} (h : (Jvm.Cond.and given_1 narrow_1).before args s = true) (hr : rest_1_c.before args s = true) : ∃ (b : Addr) (xs : List Int32), lw_P b xs args s := by
  have hs := flat_of_before _ h
  have hq := flat_of_before _ hr
  have hc : (Cond.count 1).before args s = true := hs _ (by decide +kernel)
  have harr : (Cond.arrayOf (.arg 0) .int).before args s = true := hs _ (by decide +kernel)
  have hle : (Cond.le (.length (.arg 0)) (.int 260)).before args s = true := hs _ (by decide +kernel)
  have hlen : (Cond.isInt (.length (.arg 0))).before args s = true := hq _ (by decide +kernel)
  have hall : (Cond.all (.arg 0) (.isInt (.elem (.arg 0) (.index 0)))).before args s = true := hq _ (by decide +kernel)
  obtain ⟨b, xs, hb, hx⟩ := State.ints_of_pre rfl harr hlen hall
  have hsm : xs.length < 2 ^ 31 := hx.choose_spec.2.2.2
  have hev : (Term.length (.arg 0)).eval args s none [] s = some (.int xs.length.toInt32) := hx.length_eval hb
  have hv := Cond.le_ints hev (show (Term.int 260).eval args s none [] s = some (.int 260) from rfl)
  have hd : xs.length.toInt32 ≤ 260 := by
    simpa [Cond.before, Cond.holds, hv] using hle
  have hN : xs.length ≤ 260 := (Int32.ofNat_le_ofNat hsm (by decide)).mp (show Int32.ofNat xs.length ≤ Int32.ofNat 260 from hd)
  exact ⟨b, xs, Cond.one_arg hc (show args[0]? = some (.ref b) from hb), hx, hN, h⟩
theorem lw_comes (l : Launch) (hflags : l.flags = flags0) : Comes l x (Jvm.Cond.code x code maxLocals ret :: tables_1) room_1 (fun tb e args s => Calls_1 tb e args s ∧ rest_1 tb e args s ∧ Pre_1 tb e args s)
    (fun _ _ args s o t => lw_Q args s o t) := by
  intro p e ha hc hk s m args below hf hfit hheap happ hpre
  obtain ⟨b, xs, hP⟩ := lw_pre_spec hpre.2.2 hpre.2.1
  obtain ⟨k, o, h1, h2, h3, hQ⟩ := lw_walk l hflags b xs p e ha hc hk s m args below hf ((Spec.applies_iff_loose hf).mp happ).1 hP trivial
  exact ⟨k, o, h1, h2, h3, hQ⟩
theorem lw_frame {s t : State} {o : Outcome} {args : Array Value} (h : State.butDraws s t lw_cs (fun t1 => Framed s o t1 [] 600172 7300668)) :
    State.butDraws s t [Jvm.Choice.named "NaN.bits"] (fun t1 => Framed s o t1 (fieldLocs frame_1_writes args s ++ arrayLocs frame_1_arrays args s ++ staticLocs frame_1_statics s) 600172 7300668) := h
theorem lw_limb (L : Cond) (hL : ∀ (args : Array Value) (s t : State), L.after args s (.returned (some (.int 1))) t = true) :
    ArmFor flags0 classFile x code maxLocals ret World_1 tables_1 room_1 Calls_1 rest_1 Pre_1
      (fun tb e a s o t => postC L tb e a s o t ∧ State.butDraws s t [Jvm.Choice.named "NaN.bits"] (fun t1 => Framed s o t1 (fieldLocs frame_1_writes a s ++ arrayLocs frame_1_arrays a s ++ staticLocs frame_1_statics s) 600172 7300668)) := by
  intro l hflags _ _ p e ha hc hk s m args below hf hfit hheap happ hpre
  obtain ⟨k, o, h1, h2, h3, rfl, hF⟩ := lw_comes l hflags p e ha hc hk s m args below hf hfit hheap happ hpre
  exact ⟨k, _, h1, h2, h3, hL args s _, lw_frame hF⟩
theorem i_vc : Claimed_1_1 ∧ Claimed_1_2 := ⟨lw_limb limb_1_1 (fun args s t => by simp [limb_1_1, Cond.after, Cond.holds, Cond.value]), lw_limb limb_1_2 (fun args s t => Cond.after_iff.mpr (by
  first | (rw [show limb_1_2 = Cond.eq .result (.int 1) from rfl, Cond.eq_ints (x := 1) (y := 1) rfl rfl]; simp; done) | (simp [limb_1_2, Cond.value, Term.eval]; done)))⟩

