
def q_gL (e0 : Nat) : (Nat → Prop) → State → Prop := fun A U => q_gX A U ∧ q_gE e0 A U ∧ va_Nc q_E80 q_E39 U ∧ va_Nc q_E80 q_E53 U ∧ va_Nc q_E39 q_E53 U
theorem q_gL_st (e0 : Nat) : q_st0 (q_gL e0) := by
  intro A U V hh hvm h
  have hal : U.vm.Alike V.vm := by rw [hvm]; exact Vm.Alike.refl _
  exact ⟨q_gX_st A U V hh hvm h.1, q_gE_st e0 A U V hh hal h.2.1, va_Nc.moved hal h.2.2.1, va_Nc.moved hal h.2.2.2.1, va_Nc.moved hal h.2.2.2.2⟩
theorem q_gL_at {e0 : Nat} {A : Nat → Prop} {s : State} {H : Heap} {locs : List Loc} {w C R1 : va_W} (hG : q_gL e0 A s) (hD : va_D A w) (hS : va_S A s.heap H locs) (hA : ∀ q, s.heap.size ≤ q → A q) (hperm : w.Perm (C ++ R1)) : ∀ U : State, U.heap = H → s.WarmedH U.vm → q_gL e0 (va_A C H.size) U := by
  intro U hU hW
  exact ⟨q_gX_at hG.1 hD hS hA hperm U hU hW, q_gE_at hG.2.1 hD hS hA hperm U hU hW, va_Nc.moved hW.alike hG.2.2.1, va_Nc.moved hW.alike hG.2.2.2.1, va_Nc.moved hW.alike hG.2.2.2.2⟩
/-- THE CONTRACT of a method with a table of its own, that returns -/
def q_N (l : Launch) (D : va_G) (tys : List (ClassId × FieldType)) (y : MethodName) (ws : List Cond) (rm : Room) (av : List Value) (C : va_W) (G : (Nat → Prop) → State → Prop) (post : Option Value → va_W → Prop) : Prop :=
  ∀ sz : Nat, vx_Met l y ws rm (q_P0 D tys av C G sz) (q_Q D tys post (va_A C sz)) (fun _ _ _ => False) rm.cells rm.slots (va_A C sz)
def q_EN (below : List Frame) (D : va_G) (tys : List (ClassId × FieldType)) (post : Option Value → va_W → Prop) (A : Nat → Prop) (args : Array Value) (s : State) (rm : Room) : State → Prop := vx_MQ below (q_Q D tys post A) (fun _ _ _ => False) args s rm.cells rm.slots A
theorem q_startH {l : Launch} {D : va_G} {tys : List (ClassId × FieldType)} {y : MethodName} {ws ws' : List Cond} {rm : Room} {av : List Value} {C : va_W} {G : (Nat → Prop) → State → Prop} {post : Option Value → va_W → Prop} {cc : ByteArray} {maxL : Nat} {ret : Option FieldType} {hh : List (Nat × Nat × Nat × Nat)}
    (hy : plainName y.cls = true) (hw : ws = Cond.codeWith y cc maxL ret hh :: ws') (hav : (lg_sl av).length ≤ maxL)
    (body : ∀ {p : Program} {e : Env} {s : State} {m : MethodId} {args : Array Value} {below : List Frame} {meth : Method} {c : Code} (A : Nat → Prop) (H : Heap) (locs : List Loc),
      p.tables.exec = Jvm.exec → c.code = cc → meth.sig.returnType = ret → (∀ w ∈ ws, w.before args s = true) → s.vm.findClass y.cls = some m.cls → meth.locks = false → c.maxLocals = maxL → meth.name = y.name → c.exceptionTable.toList = tableOf hh →
      va_P D vwCl C H → va_K D vwCl tys s → va_D A C → va_S A s.heap H locs → (∀ q, s.heap.size ≤ q → A q) → G A s → ∀ ls : Array Slot, lv_has ls maxL (lv_args 0 av) →
      W p l e rm s m args below meth c H locs 0 0 (q_EN below D tys post A args s rm) (F0 m 0 ls [])) : q_N l D tys y ws rm av C G post := by
  intro sz
  refine vx_ofWH (cc := cc) (maxL := maxL) (ret := ret) hy hw ?_
  intro p e s m args below meth c s₁ B hml hv
  have hts := atoms_spec (ws := ws) B.pre
  have ht := vx_table (x := y) B (hts _ (by rw [hw]; exact List.mem_cons_self))
  obtain ⟨rfl, hsz, hP, hK, hD0, hG⟩ := hv
  subst hsz
  have hl := lv_entry av (n := maxL) hav
  rw [lg_entry_eq]
  generalize (lg_sl av ++ List.replicate (maxL - (lg_sl av).length) Slot.unset).toArray = ls at hl ⊢
  exact body (va_A C s.heap.size) s.heap [] B.exec B.bytes B.returns hts (findClass_of_methodNamed B.named) B.notSynchronized hml (name_of_methodNamed B.named B.method).1 ht hP hK hD0.self va_S.rf (fun q h => Or.inr h) hG ls hl
section QL
variable {p : Program} {l : Launch} {e : Env} {R : Room} {s : State} {m : MethodId} {args : Array Value} {below : List Frame} {meth : Method} {c : Code} {H : Heap} {locs : List Loc} {cells slots : Nat} {Q : State → Prop}
variable {y : MethodName} {bytes cc : ByteArray} {maxL nL n index pc : Nat} {ret : Option FieldType} {wsy Ts : List Cond} {rmy rm : Room} {own Cy E : String} {b : Addr} {As rs st0 : List Value} {ls : Array Slot}
variable {D : va_G} {tys : List (ClassId × FieldType)} {C w R1 : va_W} {A : Nat → Prop} {H0 : Heap} {mc ms : Nat}
/-- a call of a method that throws, caught by the row x of this method's table -/
theorem q_catV (S : CallFix p m c cc nL s args Ts own) (hM : q_X l D tys y wsy rmy (.ref b :: As) C E) (hG : q_gX A s) (cw : CallW R s args own Cy index y bytes maxL ret wsy rmy rmy.cells rmy.slots n) (hrecv : ∃ cell : Cell, H[b]? = some cell ∧ cell.vm.isStatics = false ∧ s.vm.findClass Cy = some cell.cls)
    (hK : va_K D vwCl tys s) (hP : va_P D vwCl w H) (hD : va_D A w) (hS : va_S A s.heap H locs) (hA : ∀ q, s.heap.size ≤ q → A q) (hperm : w.Perm (C ++ R1)) (hn : As.length = n) (hsize : ls.size = nL) (hst : st0 = As.reverse ++ .ref b :: rs) (hW : (rs.map fun v => v.category).sum ≤ 8) (hdg : decode cc pc = .ok (.invokevirtual index, 3)) (hf : cells + rmy.cells ≤ R.cells ∧ slots + rmy.slots ≤ R.slots)
    {o2 : String} (hown : s.vm.findClass o2 = some m.cls) (pre : List ExceptionTableEntry) (x : ExceptionTableEntry) (suf : List ExceptionTableEntry) (hsplit : c.exceptionTable.toList = pre ++ x :: suf)
    (hpass : ∀ z ∈ pre, covers z pc = false ∨ (z.catchType ≠ 0 ∧ ∃ nm : String, (Cond.classLink o2 z.catchType nm).before args s = true ∧ va_Nc E nm s)) (hx : covers x pc = true) (h0 : x.catchType ≠ 0)
    (hlink : (Cond.classLink o2 x.catchType E).before args s = true) (hcast : Cond.castable E E ∈ q_bw)
    (kk : ∀ (q9 : Nat) (H1 : Heap) (locs1 : List Loc), va_P D vwCl (C ++ R1) H1 → va_D A (C ++ R1) → va_S A s.heap H1 locs1 → W p l e R s m args below meth c H1 locs1 (cells + rmy.cells) (slots + rmy.slots) Q (F0 m x.handlerPc ls [.ref q9])) : W p l e R s m args below meth c H locs cells slots Q (F0 m pc ls st0) := by
  have hP' := q_P_left (q_P_perm hperm hP)
  have hD' := q_D_left (q_D_perm hperm hD)
  refine q_goX (fun _ _ _ h => h) (vx_runV (As := As) (rest := rs) S (hM H.size) cw ⟨q_P0_blindX, hrecv, fun U hU hW => ⟨rfl, by rw [hU], by rw [hU]; exact hP', va_K.moved hW.alike hK, hD'.weaken (fun _ _ _ _ => trivial), q_gX_at hG hD hS hA hperm U hU hW⟩⟩ rfl hn hsize hst (lv_room hW) hdg hf) hP hD hS hA hperm ?_
  intro q9 ce H1 locs1 hP1 hD1 hS1 hce hcv hcl
  exact vx_catch hown pre x suf hsplit hpass hx h0 hlink (q_bw_args hG.2.2.1 _ hcast) hce hcv hcl (kk q9 H1 locs1 hP1 hD1 hS1)
end QL
theorem q_cs80 : Cond.castable q_E80 q_E80 ∈ q_bw := by decide +kernel
theorem q_cs39 : Cond.castable q_E39 q_E39 ∈ q_bw := by decide +kernel
theorem q_cs53 : Cond.castable q_E53 q_E53 ∈ q_bw := by decide +kernel
abbrev q_la (T : Nat → ClassId) (a : Nat) (f : Nat → Int64) : Nat × va_E := (a, .inl (T 3, 1, .inr (.inl f)))

abbrev rmL_pond : Room := { frames := 8, cells := 1, slots := 6, locals := 132 }
set_option maxHeartbeats 1000000 in
set_option maxRecDepth 100000 in
theorem c_L_pond_ok (l : Launch) (D : va_G) (T : Nat → ClassId) (e0 out : Nat) (of : Nat → Int64) (x tf tb fl al ar n : Nat) (md : Int32) (u : Nat → Int32) (ad : Nat → Nat) (F : Nat → Nat → Int32) (hn : n ≤ 8) (wa wi ja k mk : Nat) (len : Int32) (ju wf : Nat → Int32) (hk : k ≤ 3) (hm : u 0 = nI mk) (hmk : mk < 2 ^ 31) (v : Int32) (h1 : ¬ v < 20) (h2 : v ≤ 200) (h3 : u 2 = 0) : q_N l D (q_ty T) yL_pond wsL_pond rmL_pond [.ref x, .int v, .ref out] ([q_xc x wa fl tf tb, q_fc fl al u, q_ac al md ar n, q_wc wa len wi ja, q_ia T wi 10 wf, q_ia T ja k ju, q_la T out of] ++ q_tl (T 1) n ar ad F) (q_gL e0) (q_is (some (.int 0)) ([q_xc x wa fl tf tb, q_fc fl al u, q_ac al md ar n, q_wc wa v wi ja, q_ia T wi 10 wf, q_ia T ja k ju, q_la T out (vp_updL of 0 (len).toInt64)] ++ q_tl (T 1) n ar ad F)) := by
  refine q_startH (cc := cL_pond) (maxL := 4) (ret := (some .int)) (hh := [(0, 9, 12, 13), (0, 9, 15, 15)]) (by decide) rfl (Nat.le_of_ble_eq_true rfl) ?_
  intro p e s m args below meth c A H locs hx hb hr hts hown hlocks hml hnm ht hP hK hD hS hA hG ls hl
  have hown : s.vm.findClass RL = some m.cls := hown
  have hC : CallFix p m c cL_pond 4 s args wsL_pond RL := ⟨hx, hb, hml, hown, hts⟩
  have hl : lv_has ls 4 [(0, .ref x), (1, .int v), (2, .ref out)] := hl
  refine lv_aload_n hx hb dL_pond_0 rfl (lv_at hl 2 rfl) ?_
  refine lv_iconst (v := 0) hx hb dL_pond_1 (by decide) ?_
  refine lv_aload_n hx hb dL_pond_2 rfl (lv_at hl 0 rfl) ?_
  refine lv_iload_n hx hb dL_pond_3 rfl (lv_at hl 1 rfl) ?_
  refine q_callV (As := [.int v]) (rs := [.int 0, .ref out]) hC (c_X3_pond_ok l D T x tf tb fl al ar n md u ad F hn wa wi ja k mk len ju wf hk hm hmk v h1 h2 h3) q_no_st q_no_at (cwV 1 hts gL_pond_X3_pond rfl rfl rfl (by decide +kernel) ⟨Nat.le_of_ble_eq_true rfl, Nat.le_of_ble_eq_true rfl⟩) (va_recv hK hP (ci := 4) (q0 := 0) rfl rfl) hK hP hD hS hA (q_tmask [true, true, true, true, true, true, false] [q_xc x wa fl tf tb, q_fc fl al u, q_ac al md ar n, q_wc wa len wi ja, q_ia T wi 10 wf, q_ia T ja k ju, q_la T out of] (q_tl (T 1) n ar ad F)) rfl hl.1 rfl (Nat.le_of_ble_eq_true rfl) dL_pond_4 ⟨(Nat.le_of_ble_eq_true rfl), (Nat.le_of_ble_eq_true rfl)⟩ (fun v9 C9 H locs hp hP hD hS => ?_)
  obtain ⟨rfl, rfl⟩ := hp
  have hP : va_P D vwCl ([q_xc x wa fl tf tb, q_fc fl al u, q_ac al md ar n, q_wc wa v wi ja, q_ia T wi 10 wf, q_ia T ja k ju, q_la T out of] ++ q_tl (T 1) n ar ad F) H := q_P_perm (q_tback [true, true, true, true, true, true, false] [q_xc x wa fl tf tb, q_fc fl al u, q_ac al md ar n, q_wc wa v wi ja, q_ia T wi 10 wf, q_ia T ja k ju] [q_la T out of] (q_tl (T 1) n ar ad F)) hP
  have hD : va_D A ([q_xc x wa fl tf tb, q_fc fl al u, q_ac al md ar n, q_wc wa v wi ja, q_ia T wi 10 wf, q_ia T ja k ju, q_la T out of] ++ q_tl (T 1) n ar ad F) := q_D_perm (q_tback [true, true, true, true, true, true, false] [q_xc x wa fl tf tb, q_fc fl al u, q_ac al md ar n, q_wc wa v wi ja, q_ia T wi 10 wf, q_ia T ja k ju] [q_la T out of] (q_tl (T 1) n ar ad F)) hD
  refine lv_i2l hx hb dL_pond_7 rfl ?_
  refine va_last (D := D) hx hb hK hP hD hS 6 3 rfl rfl (by unfold vp_in; decide) dL_pond_8 (fun H locs hP hD hS => ?_)
  rw [show (0 : Int32).toNatClampNeg = 0 from by decide] at hP hD
  have hP : va_P D vwCl ([q_xc x wa fl tf tb, q_fc fl al u, q_ac al md ar n, q_wc wa v wi ja, q_ia T wi 10 wf, q_ia T ja k ju, q_la T out (vp_updL of 0 ((len).toInt64))] ++ q_tl (T 1) n ar ad F) H := hP
  have hD : va_D A ([q_xc x wa fl tf tb, q_fc fl al u, q_ac al md ar n, q_wc wa v wi ja, q_ia T wi 10 wf, q_ia T ja k ju, q_la T out (vp_updL of 0 ((len).toInt64))] ++ q_tl (T 1) n ar ad F) := hD
  refine lv_goto (tgt := 18) hx hb dL_pond_9 (by decide) ?_
  refine lv_iconst (v := 0) hx hb dL_pond_18 (by decide) ?_
  exact vx_ret (q_iret hx hb hr hlocks hP hK hD hS (Nat.le_of_ble_eq_true rfl) (Nat.le_of_ble_eq_true rfl) dL_pond_19 ⟨rfl, rfl⟩)
set_option maxHeartbeats 1000000 in
set_option maxRecDepth 100000 in
theorem c_L_pond_f1 (l : Launch) (hst : l.stackTraces = false) (D : va_G) (T : Nat → ClassId) (e0 out : Nat) (of : Nat → Int64) (x wa fl tf tb : Nat) (v : Int32) (h : v < 20 ∨ ¬ v ≤ 200) : q_N l D (q_ty T) yL_pond wsL_pond rmL_pond [.ref x, .int v, .ref out] [q_xc x wa fl tf tb, q_la T out of] (q_gL e0) (q_is (some (.int 1)) [q_xc x wa fl tf tb, q_la T out of]) := by
  refine q_startH (cc := cL_pond) (maxL := 4) (ret := (some .int)) (hh := [(0, 9, 12, 13), (0, 9, 15, 15)]) (by decide) rfl (Nat.le_of_ble_eq_true rfl) ?_
  intro p e s m args below meth c A H locs hx hb hr hts hown hlocks hml hnm ht hP hK hD hS hA hG ls hl
  have hown : s.vm.findClass RL = some m.cls := hown
  have hC : CallFix p m c cL_pond 4 s args wsL_pond RL := ⟨hx, hb, hml, hown, hts⟩
  have hl : lv_has ls 4 [(0, .ref x), (1, .int v), (2, .ref out)] := hl
  refine lv_aload_n hx hb dL_pond_0 rfl (lv_at hl 2 rfl) ?_
  refine lv_iconst (v := 0) hx hb dL_pond_1 (by decide) ?_
  refine lv_aload_n hx hb dL_pond_2 rfl (lv_at hl 0 rfl) ?_
  refine lv_iload_n hx hb dL_pond_3 rfl (lv_at hl 1 rfl) ?_
  refine q_catV (As := [.int v]) (rs := [.int 0, .ref out]) hC (t_X3_pond_f1 l hst D T x wa fl tf tb v h) hG.1 (cwV 1 hts gL_pond_X3_pond rfl rfl rfl (by decide +kernel) ⟨Nat.le_of_ble_eq_true rfl, Nat.le_of_ble_eq_true rfl⟩) (va_recv hK hP (ci := 4) (q0 := 0) rfl rfl) hK hP hD hS hA (q_mask [true, false] _) rfl hl.1 rfl (Nat.le_of_ble_eq_true rfl) dL_pond_4 ⟨(Nat.le_of_ble_eq_true rfl), (Nat.le_of_ble_eq_true rfl)⟩ hown [] ⟨0, 9, 12, 13⟩ [⟨0, 9, 15, 15⟩] (ht.trans rfl) (fun z hz => absurd hz List.not_mem_nil) (by decide) (by decide) (hts (.classLink RL 13 "java/lang/IllegalArgumentException") (by decide +kernel)) q_cs39 (fun q9 H locs hP hD hS => ?_)
  have hP : va_P D vwCl [q_xc x wa fl tf tb, q_la T out of] H := q_P_perm (q_mrg_perm [true, false] _ _) hP
  have hD : va_D A [q_xc x wa fl tf tb, q_la T out of] := q_D_perm (q_mrg_perm [true, false] _ _) hD
  refine lv_astore_n (lv' := [(3, .ref q9), (0, .ref x), (1, .int v), (2, .ref out)]) hx hb dL_pond_12 rfl hl (by decide) rfl (fun ls hl => ?_)
  refine lv_iconst (v := 1) hx hb dL_pond_13 (by decide) ?_
  exact vx_ret (q_iret hx hb hr hlocks hP hK hD hS (Nat.le_of_ble_eq_true rfl) (Nat.le_of_ble_eq_true rfl) dL_pond_14 ⟨rfl, rfl⟩)
set_option maxHeartbeats 1000000 in
set_option maxRecDepth 100000 in
theorem c_L_pond_f2 (l : Launch) (hst : l.stackTraces = false) (D : va_G) (T : Nat → ClassId) (e0 out : Nat) (of : Nat → Int64) (x wa fl tf tb al : Nat) (u : Nat → Int32) (v : Int32) (h1 : ¬ v < 20) (h2 : v ≤ 200) (h9 : ¬ u 2 = 0) : q_N l D (q_ty T) yL_pond wsL_pond rmL_pond [.ref x, .int v, .ref out] [q_xc x wa fl tf tb, q_fc fl al u, q_la T out of] (q_gL e0) (q_is (some (.int 2)) [q_xc x wa fl tf tb, q_fc fl al u, q_la T out of]) := by
  refine q_startH (cc := cL_pond) (maxL := 4) (ret := (some .int)) (hh := [(0, 9, 12, 13), (0, 9, 15, 15)]) (by decide) rfl (Nat.le_of_ble_eq_true rfl) ?_
  intro p e s m args below meth c A H locs hx hb hr hts hown hlocks hml hnm ht hP hK hD hS hA hG ls hl
  have hown : s.vm.findClass RL = some m.cls := hown
  have hC : CallFix p m c cL_pond 4 s args wsL_pond RL := ⟨hx, hb, hml, hown, hts⟩
  have hl : lv_has ls 4 [(0, .ref x), (1, .int v), (2, .ref out)] := hl
  refine lv_aload_n hx hb dL_pond_0 rfl (lv_at hl 2 rfl) ?_
  refine lv_iconst (v := 0) hx hb dL_pond_1 (by decide) ?_
  refine lv_aload_n hx hb dL_pond_2 rfl (lv_at hl 0 rfl) ?_
  refine lv_iload_n hx hb dL_pond_3 rfl (lv_at hl 1 rfl) ?_
  refine q_catV (As := [.int v]) (rs := [.int 0, .ref out]) hC (t_X3_pond_f2 l hst D T x wa fl tf tb al u v h1 h2 h9) hG.1 (cwV 1 hts gL_pond_X3_pond rfl rfl rfl (by decide +kernel) ⟨Nat.le_of_ble_eq_true rfl, Nat.le_of_ble_eq_true rfl⟩) (va_recv hK hP (ci := 4) (q0 := 0) rfl rfl) hK hP hD hS hA (q_mask [true, true, false] _) rfl hl.1 rfl (Nat.le_of_ble_eq_true rfl) dL_pond_4 ⟨(Nat.le_of_ble_eq_true rfl), (Nat.le_of_ble_eq_true rfl)⟩ hown [⟨0, 9, 12, 13⟩] ⟨0, 9, 15, 15⟩ [] (ht.trans rfl) (List.forall_mem_cons.mpr ⟨Or.inr ⟨by decide, q_E39, (hts (.classLink RL 13 "java/lang/IllegalArgumentException") (by decide +kernel)), hG.2.2.1⟩, (fun z hz => absurd hz List.not_mem_nil)⟩) (by decide) (by decide) (hts (.classLink RL 15 "java/lang/IllegalStateException") (by decide +kernel)) q_cs80 (fun q9 H locs hP hD hS => ?_)
  have hP : va_P D vwCl [q_xc x wa fl tf tb, q_fc fl al u, q_la T out of] H := q_P_perm (q_mrg_perm [true, true, false] _ _) hP
  have hD : va_D A [q_xc x wa fl tf tb, q_fc fl al u, q_la T out of] := q_D_perm (q_mrg_perm [true, true, false] _ _) hD
  refine lv_astore_n (lv' := [(3, .ref q9), (0, .ref x), (1, .int v), (2, .ref out)]) hx hb dL_pond_15 rfl hl (by decide) rfl (fun ls hl => ?_)
  refine lv_iconst (v := 2) hx hb dL_pond_16 (by decide) ?_
  exact vx_ret (q_iret hx hb hr hlocks hP hK hD hS (Nat.le_of_ble_eq_true rfl) (Nat.le_of_ble_eq_true rfl) dL_pond_17 ⟨rfl, rfl⟩)
abbrev rmL_setWind : Room := { frames := 8, cells := 1, slots := 6, locals := 133 }
set_option maxHeartbeats 1000000 in
set_option maxRecDepth 100000 in
theorem c_L_setWind_ok (l : Launch) (D : va_G) (T : Nat → ClassId) (e0 out : Nat) (of : Nat → Int64) (x tf tb fl al ar n : Nat) (md : Int32) (u : Nat → Int32) (ad : Nat → Nat) (F : Nat → Nat → Int32) (hn : n ≤ 8) (wa wi ja k mk : Nat) (len : Int32) (ju wf : Nat → Int32) (hk : k ≤ 3) (hm : u 0 = nI mk) (hmk : mk < 2 ^ 31) (i : Nat) (v : Int32) (hi : i < 10) (h1 : ¬ v < 0) (h2 : v ≤ 9) : q_N l D (q_ty T) yL_setWind wsL_setWind rmL_setWind [.ref x, .int (nI i), .int v, .ref out] ([q_xc x wa fl tf tb, q_fc fl al u, q_ac al md ar n, q_wc wa len wi ja, q_ia T wi 10 wf, q_ia T ja k ju, q_la T out of] ++ q_tl (T 1) n ar ad F) (q_gL e0) (q_is (some (.int 0)) ([q_xc x wa fl tf tb, q_fc fl al u, q_ac al md ar n, q_wc wa len wi ja, q_ia T wi 10 (upd wf (i % 10) v), q_ia T ja k ju, q_la T out (vp_updL of 0 ((wf (i % 10))).toInt64)] ++ q_tl (T 1) n ar ad F)) := by
  refine q_startH (cc := cL_setWind) (maxL := 5) (ret := (some .int)) (hh := [(0, 10, 13, 21), (0, 10, 17, 13)]) (by decide) rfl (Nat.le_of_ble_eq_true rfl) ?_
  intro p e s m args below meth c A H locs hx hb hr hts hown hlocks hml hnm ht hP hK hD hS hA hG ls hl
  have hown : s.vm.findClass RL = some m.cls := hown
  have hC : CallFix p m c cL_setWind 5 s args wsL_setWind RL := ⟨hx, hb, hml, hown, hts⟩
  have hl : lv_has ls 5 [(0, .ref x), (1, .int (nI i)), (2, .int v), (3, .ref out)] := hl
  refine lv_aload_n hx hb dL_setWind_0 rfl (lv_at hl 3 rfl) ?_
  refine lv_iconst (v := 0) hx hb dL_setWind_1 (by decide) ?_
  refine lv_aload_n hx hb dL_setWind_2 rfl (lv_at hl 0 rfl) ?_
  refine lv_iload_n hx hb dL_setWind_3 rfl (lv_at hl 1 rfl) ?_
  refine lv_iload_n hx hb dL_setWind_4 rfl (lv_at hl 2 rfl) ?_
  refine q_callV (As := [.int (nI i), .int v]) (rs := [.int 0, .ref out]) hC (c_X3_setWind_ok l D T x tf tb fl al ar n md u ad F hn wa wi ja k mk len ju wf hk hm hmk i v hi h1 h2) q_no_st q_no_at (cwV 2 hts gL_setWind_X3_setWind rfl rfl rfl (by decide +kernel) ⟨Nat.le_of_ble_eq_true rfl, Nat.le_of_ble_eq_true rfl⟩) (va_recv hK hP (ci := 4) (q0 := 0) rfl rfl) hK hP hD hS hA (q_tmask [true, true, true, true, true, true, false] [q_xc x wa fl tf tb, q_fc fl al u, q_ac al md ar n, q_wc wa len wi ja, q_ia T wi 10 wf, q_ia T ja k ju, q_la T out of] (q_tl (T 1) n ar ad F)) rfl hl.1 rfl (Nat.le_of_ble_eq_true rfl) dL_setWind_5 ⟨(Nat.le_of_ble_eq_true rfl), (Nat.le_of_ble_eq_true rfl)⟩ (fun v9 C9 H locs hp hP hD hS => ?_)
  obtain ⟨rfl, rfl⟩ := hp
  have hP : va_P D vwCl ([q_xc x wa fl tf tb, q_fc fl al u, q_ac al md ar n, q_wc wa len wi ja, q_ia T wi 10 (upd wf (i % 10) v), q_ia T ja k ju, q_la T out of] ++ q_tl (T 1) n ar ad F) H := q_P_perm (q_tback [true, true, true, true, true, true, false] [q_xc x wa fl tf tb, q_fc fl al u, q_ac al md ar n, q_wc wa len wi ja, q_ia T wi 10 (upd wf (i % 10) v), q_ia T ja k ju] [q_la T out of] (q_tl (T 1) n ar ad F)) hP
  have hD : va_D A ([q_xc x wa fl tf tb, q_fc fl al u, q_ac al md ar n, q_wc wa len wi ja, q_ia T wi 10 (upd wf (i % 10) v), q_ia T ja k ju, q_la T out of] ++ q_tl (T 1) n ar ad F) := q_D_perm (q_tback [true, true, true, true, true, true, false] [q_xc x wa fl tf tb, q_fc fl al u, q_ac al md ar n, q_wc wa len wi ja, q_ia T wi 10 (upd wf (i % 10) v), q_ia T ja k ju] [q_la T out of] (q_tl (T 1) n ar ad F)) hD
  refine lv_i2l hx hb dL_setWind_8 rfl ?_
  refine va_last (D := D) hx hb hK hP hD hS 6 3 rfl rfl (by unfold vp_in; decide) dL_setWind_9 (fun H locs hP hD hS => ?_)
  rw [show (0 : Int32).toNatClampNeg = 0 from by decide] at hP hD
  have hP : va_P D vwCl ([q_xc x wa fl tf tb, q_fc fl al u, q_ac al md ar n, q_wc wa len wi ja, q_ia T wi 10 (upd wf (i % 10) v), q_ia T ja k ju, q_la T out (vp_updL of 0 (((wf (i % 10))).toInt64))] ++ q_tl (T 1) n ar ad F) H := hP
  have hD : va_D A ([q_xc x wa fl tf tb, q_fc fl al u, q_ac al md ar n, q_wc wa len wi ja, q_ia T wi 10 (upd wf (i % 10) v), q_ia T ja k ju, q_la T out (vp_updL of 0 (((wf (i % 10))).toInt64))] ++ q_tl (T 1) n ar ad F) := hD
  refine lv_goto (tgt := 21) hx hb dL_setWind_10 (by decide) ?_
  refine lv_iconst (v := 0) hx hb dL_setWind_21 (by decide) ?_
  exact vx_ret (q_iret hx hb hr hlocks hP hK hD hS (Nat.le_of_ble_eq_true rfl) (Nat.le_of_ble_eq_true rfl) dL_setWind_22 ⟨rfl, rfl⟩)
set_option maxHeartbeats 1000000 in
set_option maxRecDepth 100000 in
theorem c_L_setWind_f1 (l : Launch) (hst : l.stackTraces = false) (D : va_G) (T : Nat → ClassId) (e0 out : Nat) (of : Nat → Int64) (x wa fl tf tb : Nat) (y v : Int32) (h : y < 0 ∨ ¬ y < 10) : q_N l D (q_ty T) yL_setWind wsL_setWind rmL_setWind [.ref x, .int y, .int v, .ref out] [q_xc x wa fl tf tb, q_la T out of] (q_gL e0) (q_is (some (.int 1)) [q_xc x wa fl tf tb, q_la T out of]) := by
  refine q_startH (cc := cL_setWind) (maxL := 5) (ret := (some .int)) (hh := [(0, 10, 13, 21), (0, 10, 17, 13)]) (by decide) rfl (Nat.le_of_ble_eq_true rfl) ?_
  intro p e s m args below meth c A H locs hx hb hr hts hown hlocks hml hnm ht hP hK hD hS hA hG ls hl
  have hown : s.vm.findClass RL = some m.cls := hown
  have hC : CallFix p m c cL_setWind 5 s args wsL_setWind RL := ⟨hx, hb, hml, hown, hts⟩
  have hl : lv_has ls 5 [(0, .ref x), (1, .int y), (2, .int v), (3, .ref out)] := hl
  refine lv_aload_n hx hb dL_setWind_0 rfl (lv_at hl 3 rfl) ?_
  refine lv_iconst (v := 0) hx hb dL_setWind_1 (by decide) ?_
  refine lv_aload_n hx hb dL_setWind_2 rfl (lv_at hl 0 rfl) ?_
  refine lv_iload_n hx hb dL_setWind_3 rfl (lv_at hl 1 rfl) ?_
  refine lv_iload_n hx hb dL_setWind_4 rfl (lv_at hl 2 rfl) ?_
  refine q_catV (As := [.int y, .int v]) (rs := [.int 0, .ref out]) hC (t_X3_setWind_f1 l hst D T x wa fl tf tb y v h) hG.1 (cwV 2 hts gL_setWind_X3_setWind rfl rfl rfl (by decide +kernel) ⟨Nat.le_of_ble_eq_true rfl, Nat.le_of_ble_eq_true rfl⟩) (va_recv hK hP (ci := 4) (q0 := 0) rfl rfl) hK hP hD hS hA (q_mask [true, false] _) rfl hl.1 rfl (Nat.le_of_ble_eq_true rfl) dL_setWind_5 ⟨(Nat.le_of_ble_eq_true rfl), (Nat.le_of_ble_eq_true rfl)⟩ hown [] ⟨0, 10, 13, 21⟩ [⟨0, 10, 17, 13⟩] (ht.trans rfl) (fun z hz => absurd hz List.not_mem_nil) (by decide) (by decide) (hts (.classLink RL 21 "java/lang/IndexOutOfBoundsException") (by decide +kernel)) q_cs53 (fun q9 H locs hP hD hS => ?_)
  have hP : va_P D vwCl [q_xc x wa fl tf tb, q_la T out of] H := q_P_perm (q_mrg_perm [true, false] _ _) hP
  have hD : va_D A [q_xc x wa fl tf tb, q_la T out of] := q_D_perm (q_mrg_perm [true, false] _ _) hD
  refine lv_astore (lv' := [(4, .ref q9), (0, .ref x), (1, .int y), (2, .int v), (3, .ref out)]) hx hb dL_setWind_13 hl (by decide) rfl (fun ls hl => ?_)
  refine lv_iconst (v := 1) hx hb dL_setWind_15 (by decide) ?_
  exact vx_ret (q_iret hx hb hr hlocks hP hK hD hS (Nat.le_of_ble_eq_true rfl) (Nat.le_of_ble_eq_true rfl) dL_setWind_16 ⟨rfl, rfl⟩)
set_option maxHeartbeats 1000000 in
set_option maxRecDepth 100000 in
theorem c_L_setWind_f2 (l : Launch) (hst : l.stackTraces = false) (D : va_G) (T : Nat → ClassId) (e0 out : Nat) (of : Nat → Int64) (x wa fl tf tb : Nat) (y v : Int32) (h1 : ¬ y < 0) (h2 : y < 10) (h : v < 0 ∨ ¬ v ≤ 9) : q_N l D (q_ty T) yL_setWind wsL_setWind rmL_setWind [.ref x, .int y, .int v, .ref out] [q_xc x wa fl tf tb, q_la T out of] (q_gL e0) (q_is (some (.int 2)) [q_xc x wa fl tf tb, q_la T out of]) := by
  refine q_startH (cc := cL_setWind) (maxL := 5) (ret := (some .int)) (hh := [(0, 10, 13, 21), (0, 10, 17, 13)]) (by decide) rfl (Nat.le_of_ble_eq_true rfl) ?_
  intro p e s m args below meth c A H locs hx hb hr hts hown hlocks hml hnm ht hP hK hD hS hA hG ls hl
  have hown : s.vm.findClass RL = some m.cls := hown
  have hC : CallFix p m c cL_setWind 5 s args wsL_setWind RL := ⟨hx, hb, hml, hown, hts⟩
  have hl : lv_has ls 5 [(0, .ref x), (1, .int y), (2, .int v), (3, .ref out)] := hl
  refine lv_aload_n hx hb dL_setWind_0 rfl (lv_at hl 3 rfl) ?_
  refine lv_iconst (v := 0) hx hb dL_setWind_1 (by decide) ?_
  refine lv_aload_n hx hb dL_setWind_2 rfl (lv_at hl 0 rfl) ?_
  refine lv_iload_n hx hb dL_setWind_3 rfl (lv_at hl 1 rfl) ?_
  refine lv_iload_n hx hb dL_setWind_4 rfl (lv_at hl 2 rfl) ?_
  refine q_catV (As := [.int y, .int v]) (rs := [.int 0, .ref out]) hC (t_X3_setWind_f2 l hst D T x wa fl tf tb y v h1 h2 h) hG.1 (cwV 2 hts gL_setWind_X3_setWind rfl rfl rfl (by decide +kernel) ⟨Nat.le_of_ble_eq_true rfl, Nat.le_of_ble_eq_true rfl⟩) (va_recv hK hP (ci := 4) (q0 := 0) rfl rfl) hK hP hD hS hA (q_mask [true, false] _) rfl hl.1 rfl (Nat.le_of_ble_eq_true rfl) dL_setWind_5 ⟨(Nat.le_of_ble_eq_true rfl), (Nat.le_of_ble_eq_true rfl)⟩ hown [⟨0, 10, 13, 21⟩] ⟨0, 10, 17, 13⟩ [] (ht.trans rfl) (List.forall_mem_cons.mpr ⟨Or.inr ⟨by decide, q_E53, (hts (.classLink RL 21 "java/lang/IndexOutOfBoundsException") (by decide +kernel)), hG.2.2.2.2⟩, (fun z hz => absurd hz List.not_mem_nil)⟩) (by decide) (by decide) (hts (.classLink RL 13 "java/lang/IllegalArgumentException") (by decide +kernel)) q_cs39 (fun q9 H locs hP hD hS => ?_)
  have hP : va_P D vwCl [q_xc x wa fl tf tb, q_la T out of] H := q_P_perm (q_mrg_perm [true, false] _ _) hP
  have hD : va_D A [q_xc x wa fl tf tb, q_la T out of] := q_D_perm (q_mrg_perm [true, false] _ _) hD
  refine lv_astore (lv' := [(4, .ref q9), (0, .ref x), (1, .int y), (2, .int v), (3, .ref out)]) hx hb dL_setWind_17 hl (by decide) rfl (fun ls hl => ?_)
  refine lv_iconst (v := 2) hx hb dL_setWind_19 (by decide) ?_
  exact vx_ret (q_iret hx hb hr hlocks hP hK hD hS (Nat.le_of_ble_eq_true rfl) (Nat.le_of_ble_eq_true rfl) dL_setWind_20 ⟨rfl, rfl⟩)
abbrev rmL_build : Room := { frames := 8, cells := 4, slots := 42, locals := 133 }
set_option maxHeartbeats 1000000 in
set_option maxRecDepth 100000 in
theorem c_L_build_f1 (l : Launch) (hst : l.stackTraces = false) (D : va_G) (T : Nat → ClassId) (e0 out : Nat) (of : Nat → Int64) (x wa fl tf tb : Nat) (hull rig : Int32) (h : rig < 0 ∨ ¬ rig ≤ 2) : q_N l D (q_ty T) yL_build wsL_build rmL_build [.ref x, .int hull, .int rig, .ref out] [q_xc x wa fl tf tb, q_la T out of] (q_gL e0) (q_is (some (.int 1)) [q_xc x wa fl tf tb, q_la T out of]) := by
  refine q_startH (cc := cL_build) (maxL := 5) (ret := (some .int)) (hh := [(0, 10, 13, 21), (0, 10, 17, 13), (0, 10, 21, 15)]) (by decide) rfl (Nat.le_of_ble_eq_true rfl) ?_
  intro p e s m args below meth c A H locs hx hb hr hts hown hlocks hml hnm ht hP hK hD hS hA hG ls hl
  have hown : s.vm.findClass RL = some m.cls := hown
  have hC : CallFix p m c cL_build 5 s args wsL_build RL := ⟨hx, hb, hml, hown, hts⟩
  have hl : lv_has ls 5 [(0, .ref x), (1, .int hull), (2, .int rig), (3, .ref out)] := hl
  refine lv_aload_n hx hb dL_build_0 rfl (lv_at hl 3 rfl) ?_
  refine lv_iconst (v := 0) hx hb dL_build_1 (by decide) ?_
  refine lv_aload_n hx hb dL_build_2 rfl (lv_at hl 0 rfl) ?_
  refine lv_iload_n hx hb dL_build_3 rfl (lv_at hl 1 rfl) ?_
  refine lv_iload_n hx hb dL_build_4 rfl (lv_at hl 2 rfl) ?_
  refine q_catV (As := [.int hull, .int rig]) (rs := [.int 0, .ref out]) hC (t_X3_build_f1 l hst D T x wa fl tf tb hull rig h) hG.1 (cwV 2 hts gL_build_X3_build rfl rfl rfl (by decide +kernel) ⟨Nat.le_of_ble_eq_true rfl, Nat.le_of_ble_eq_true rfl⟩) (va_recv hK hP (ci := 4) (q0 := 0) rfl rfl) hK hP hD hS hA (q_mask [true, false] _) rfl hl.1 rfl (Nat.le_of_ble_eq_true rfl) dL_build_5 ⟨(Nat.le_of_ble_eq_true rfl), (Nat.le_of_ble_eq_true rfl)⟩ hown [] ⟨0, 10, 13, 21⟩ [⟨0, 10, 17, 13⟩, ⟨0, 10, 21, 15⟩] (ht.trans rfl) (fun z hz => absurd hz List.not_mem_nil) (by decide) (by decide) (hts (.classLink RL 21 "java/lang/IndexOutOfBoundsException") (by decide +kernel)) q_cs53 (fun q9 H locs hP hD hS => ?_)
  have hP : va_P D vwCl [q_xc x wa fl tf tb, q_la T out of] H := q_P_perm (q_mrg_perm [true, false] _ _) hP
  have hD : va_D A [q_xc x wa fl tf tb, q_la T out of] := q_D_perm (q_mrg_perm [true, false] _ _) hD
  refine lv_astore (lv' := [(4, .ref q9), (0, .ref x), (1, .int hull), (2, .int rig), (3, .ref out)]) hx hb dL_build_13 hl (by decide) rfl (fun ls hl => ?_)
  refine lv_iconst (v := 1) hx hb dL_build_15 (by decide) ?_
  exact vx_ret (q_iret hx hb hr hlocks hP hK hD hS (Nat.le_of_ble_eq_true rfl) (Nat.le_of_ble_eq_true rfl) dL_build_16 ⟨rfl, rfl⟩)
set_option maxHeartbeats 1000000 in
set_option maxRecDepth 100000 in
theorem c_L_build_f2 (l : Launch) (hst : l.stackTraces = false) (D : va_G) (T : Nat → ClassId) (e0 out : Nat) (of : Nat → Int64) (x wa fl tf tb : Nat) (hull rig : Int32) (h1 : ¬ rig < 0) (h2 : rig ≤ 2) (h : hull < 1 ∨ ¬ hull ≤ 9) : q_N l D (q_ty T) yL_build wsL_build rmL_build [.ref x, .int hull, .int rig, .ref out] [q_xc x wa fl tf tb, q_la T out of] (q_gL e0) (q_is (some (.int 2)) [q_xc x wa fl tf tb, q_la T out of]) := by
  refine q_startH (cc := cL_build) (maxL := 5) (ret := (some .int)) (hh := [(0, 10, 13, 21), (0, 10, 17, 13), (0, 10, 21, 15)]) (by decide) rfl (Nat.le_of_ble_eq_true rfl) ?_
  intro p e s m args below meth c A H locs hx hb hr hts hown hlocks hml hnm ht hP hK hD hS hA hG ls hl
  have hown : s.vm.findClass RL = some m.cls := hown
  have hC : CallFix p m c cL_build 5 s args wsL_build RL := ⟨hx, hb, hml, hown, hts⟩
  have hl : lv_has ls 5 [(0, .ref x), (1, .int hull), (2, .int rig), (3, .ref out)] := hl
  refine lv_aload_n hx hb dL_build_0 rfl (lv_at hl 3 rfl) ?_
  refine lv_iconst (v := 0) hx hb dL_build_1 (by decide) ?_
  refine lv_aload_n hx hb dL_build_2 rfl (lv_at hl 0 rfl) ?_
  refine lv_iload_n hx hb dL_build_3 rfl (lv_at hl 1 rfl) ?_
  refine lv_iload_n hx hb dL_build_4 rfl (lv_at hl 2 rfl) ?_
  refine q_catV (As := [.int hull, .int rig]) (rs := [.int 0, .ref out]) hC (t_X3_build_f2 l hst D T x wa fl tf tb hull rig h1 h2 h) hG.1 (cwV 2 hts gL_build_X3_build rfl rfl rfl (by decide +kernel) ⟨Nat.le_of_ble_eq_true rfl, Nat.le_of_ble_eq_true rfl⟩) (va_recv hK hP (ci := 4) (q0 := 0) rfl rfl) hK hP hD hS hA (q_mask [true, false] _) rfl hl.1 rfl (Nat.le_of_ble_eq_true rfl) dL_build_5 ⟨(Nat.le_of_ble_eq_true rfl), (Nat.le_of_ble_eq_true rfl)⟩ hown [⟨0, 10, 13, 21⟩] ⟨0, 10, 17, 13⟩ [⟨0, 10, 21, 15⟩] (ht.trans rfl) (List.forall_mem_cons.mpr ⟨Or.inr ⟨by decide, q_E53, (hts (.classLink RL 21 "java/lang/IndexOutOfBoundsException") (by decide +kernel)), hG.2.2.2.2⟩, (fun z hz => absurd hz List.not_mem_nil)⟩) (by decide) (by decide) (hts (.classLink RL 13 "java/lang/IllegalArgumentException") (by decide +kernel)) q_cs39 (fun q9 H locs hP hD hS => ?_)
  have hP : va_P D vwCl [q_xc x wa fl tf tb, q_la T out of] H := q_P_perm (q_mrg_perm [true, false] _ _) hP
  have hD : va_D A [q_xc x wa fl tf tb, q_la T out of] := q_D_perm (q_mrg_perm [true, false] _ _) hD
  refine lv_astore (lv' := [(4, .ref q9), (0, .ref x), (1, .int hull), (2, .int rig), (3, .ref out)]) hx hb dL_build_17 hl (by decide) rfl (fun ls hl => ?_)
  refine lv_iconst (v := 2) hx hb dL_build_19 (by decide) ?_
  exact vx_ret (q_iret hx hb hr hlocks hP hK hD hS (Nat.le_of_ble_eq_true rfl) (Nat.le_of_ble_eq_true rfl) dL_build_20 ⟨rfl, rfl⟩)
set_option maxHeartbeats 1000000 in
set_option maxRecDepth 100000 in
theorem c_L_build_f3 (l : Launch) (hst : l.stackTraces = false) (D : va_G) (T : Nat → ClassId) (e0 out : Nat) (of : Nat → Int64) (x wa fl tf tb al ar n : Nat) (md : Int32) (u : Nat → Int32) (hull rig : Int32) (h1 : ¬ rig < 0) (h2 : rig ≤ 2) (h3 : ¬ hull < 1) (h4 : hull ≤ 9) (hn : n ≤ 8) (h8 : 8 ≤ n) : q_N l D (q_ty T) yL_build wsL_build rmL_build [.ref x, .int hull, .int rig, .ref out] [q_xc x wa fl tf tb, q_fc fl al u, q_ac al md ar n, q_la T out of] (q_gL e0) (q_is (some (.int 3)) [q_xc x wa fl tf tb, q_fc fl al u, q_ac al md ar n, q_la T out of]) := by
  refine q_startH (cc := cL_build) (maxL := 5) (ret := (some .int)) (hh := [(0, 10, 13, 21), (0, 10, 17, 13), (0, 10, 21, 15)]) (by decide) rfl (Nat.le_of_ble_eq_true rfl) ?_
  intro p e s m args below meth c A H locs hx hb hr hts hown hlocks hml hnm ht hP hK hD hS hA hG ls hl
  have hown : s.vm.findClass RL = some m.cls := hown
  have hC : CallFix p m c cL_build 5 s args wsL_build RL := ⟨hx, hb, hml, hown, hts⟩
  have hl : lv_has ls 5 [(0, .ref x), (1, .int hull), (2, .int rig), (3, .ref out)] := hl
  refine lv_aload_n hx hb dL_build_0 rfl (lv_at hl 3 rfl) ?_
  refine lv_iconst (v := 0) hx hb dL_build_1 (by decide) ?_
  refine lv_aload_n hx hb dL_build_2 rfl (lv_at hl 0 rfl) ?_
  refine lv_iload_n hx hb dL_build_3 rfl (lv_at hl 1 rfl) ?_
  refine lv_iload_n hx hb dL_build_4 rfl (lv_at hl 2 rfl) ?_
  refine q_catV (As := [.int hull, .int rig]) (rs := [.int 0, .ref out]) hC (t_X3_build_f3 l hst D T x wa fl tf tb al ar n md u hull rig h1 h2 h3 h4 hn h8) hG.1 (cwV 2 hts gL_build_X3_build rfl rfl rfl (by decide +kernel) ⟨Nat.le_of_ble_eq_true rfl, Nat.le_of_ble_eq_true rfl⟩) (va_recv hK hP (ci := 4) (q0 := 0) rfl rfl) hK hP hD hS hA (q_mask [true, true, true, false] _) rfl hl.1 rfl (Nat.le_of_ble_eq_true rfl) dL_build_5 ⟨(Nat.le_of_ble_eq_true rfl), (Nat.le_of_ble_eq_true rfl)⟩ hown [⟨0, 10, 13, 21⟩, ⟨0, 10, 17, 13⟩] ⟨0, 10, 21, 15⟩ [] (ht.trans rfl) (List.forall_mem_cons.mpr ⟨Or.inr ⟨by decide, q_E53, (hts (.classLink RL 21 "java/lang/IndexOutOfBoundsException") (by decide +kernel)), hG.2.2.2.1⟩, (List.forall_mem_cons.mpr ⟨Or.inr ⟨by decide, q_E39, (hts (.classLink RL 13 "java/lang/IllegalArgumentException") (by decide +kernel)), hG.2.2.1⟩, (fun z hz => absurd hz List.not_mem_nil)⟩)⟩) (by decide) (by decide) (hts (.classLink RL 15 "java/lang/IllegalStateException") (by decide +kernel)) q_cs80 (fun q9 H locs hP hD hS => ?_)
  have hP : va_P D vwCl [q_xc x wa fl tf tb, q_fc fl al u, q_ac al md ar n, q_la T out of] H := q_P_perm (q_mrg_perm [true, true, true, false] _ _) hP
  have hD : va_D A [q_xc x wa fl tf tb, q_fc fl al u, q_ac al md ar n, q_la T out of] := q_D_perm (q_mrg_perm [true, true, true, false] _ _) hD
  refine lv_astore (lv' := [(4, .ref q9), (0, .ref x), (1, .int hull), (2, .int rig), (3, .ref out)]) hx hb dL_build_21 hl (by decide) rfl (fun ls hl => ?_)
  refine lv_iconst (v := 3) hx hb dL_build_23 (by decide) ?_
  exact vx_ret (q_iret hx hb hr hlocks hP hK hD hS (Nat.le_of_ble_eq_true rfl) (Nat.le_of_ble_eq_true rfl) dL_build_24 ⟨rfl, rfl⟩)
set_option maxHeartbeats 1000000 in
set_option maxRecDepth 100000 in
theorem c_L_build_f4 (l : Launch) (hst : l.stackTraces = false) (D : va_G) (T : Nat → ClassId) (e0 out : Nat) (of : Nat → Int64) (x wa fl tf tb al ar n : Nat) (md : Int32) (u : Nat → Int32) (hull rig : Int32) (h1 : ¬ rig < 0) (h2 : rig ≤ 2) (h3 : ¬ hull < 1) (h4 : hull ≤ 9) (hn : n < 8) (h9 : ¬ u 2 = 0) : q_N l D (q_ty T) yL_build wsL_build rmL_build [.ref x, .int hull, .int rig, .ref out] [q_xc x wa fl tf tb, q_fc fl al u, q_ac al md ar n, q_la T out of] (q_gL e0) (q_is (some (.int 3)) [q_xc x wa fl tf tb, q_fc fl al u, q_ac al md ar n, q_la T out of]) := by
  refine q_startH (cc := cL_build) (maxL := 5) (ret := (some .int)) (hh := [(0, 10, 13, 21), (0, 10, 17, 13), (0, 10, 21, 15)]) (by decide) rfl (Nat.le_of_ble_eq_true rfl) ?_
  intro p e s m args below meth c A H locs hx hb hr hts hown hlocks hml hnm ht hP hK hD hS hA hG ls hl
  have hown : s.vm.findClass RL = some m.cls := hown
  have hC : CallFix p m c cL_build 5 s args wsL_build RL := ⟨hx, hb, hml, hown, hts⟩
  have hl : lv_has ls 5 [(0, .ref x), (1, .int hull), (2, .int rig), (3, .ref out)] := hl
  refine lv_aload_n hx hb dL_build_0 rfl (lv_at hl 3 rfl) ?_
  refine lv_iconst (v := 0) hx hb dL_build_1 (by decide) ?_
  refine lv_aload_n hx hb dL_build_2 rfl (lv_at hl 0 rfl) ?_
  refine lv_iload_n hx hb dL_build_3 rfl (lv_at hl 1 rfl) ?_
  refine lv_iload_n hx hb dL_build_4 rfl (lv_at hl 2 rfl) ?_
  refine q_catV (As := [.int hull, .int rig]) (rs := [.int 0, .ref out]) hC (t_X3_build_f4 l hst D T x wa fl tf tb al ar n md u hull rig h1 h2 h3 h4 hn h9) hG.1 (cwV 2 hts gL_build_X3_build rfl rfl rfl (by decide +kernel) ⟨Nat.le_of_ble_eq_true rfl, Nat.le_of_ble_eq_true rfl⟩) (va_recv hK hP (ci := 4) (q0 := 0) rfl rfl) hK hP hD hS hA (q_mask [true, true, true, false] _) rfl hl.1 rfl (Nat.le_of_ble_eq_true rfl) dL_build_5 ⟨(Nat.le_of_ble_eq_true rfl), (Nat.le_of_ble_eq_true rfl)⟩ hown [⟨0, 10, 13, 21⟩, ⟨0, 10, 17, 13⟩] ⟨0, 10, 21, 15⟩ [] (ht.trans rfl) (List.forall_mem_cons.mpr ⟨Or.inr ⟨by decide, q_E53, (hts (.classLink RL 21 "java/lang/IndexOutOfBoundsException") (by decide +kernel)), hG.2.2.2.1⟩, (List.forall_mem_cons.mpr ⟨Or.inr ⟨by decide, q_E39, (hts (.classLink RL 13 "java/lang/IllegalArgumentException") (by decide +kernel)), hG.2.2.1⟩, (fun z hz => absurd hz List.not_mem_nil)⟩)⟩) (by decide) (by decide) (hts (.classLink RL 15 "java/lang/IllegalStateException") (by decide +kernel)) q_cs80 (fun q9 H locs hP hD hS => ?_)
  have hP : va_P D vwCl [q_xc x wa fl tf tb, q_fc fl al u, q_ac al md ar n, q_la T out of] H := q_P_perm (q_mrg_perm [true, true, true, false] _ _) hP
  have hD : va_D A [q_xc x wa fl tf tb, q_fc fl al u, q_ac al md ar n, q_la T out of] := q_D_perm (q_mrg_perm [true, true, true, false] _ _) hD
  refine lv_astore (lv' := [(4, .ref q9), (0, .ref x), (1, .int hull), (2, .int rig), (3, .ref out)]) hx hb dL_build_21 hl (by decide) rfl (fun ls hl => ?_)
  refine lv_iconst (v := 3) hx hb dL_build_23 (by decide) ?_
  exact vx_ret (q_iret hx hb hr hlocks hP hK hD hS (Nat.le_of_ble_eq_true rfl) (Nat.le_of_ble_eq_true rfl) dL_build_24 ⟨rfl, rfl⟩)
abbrev rmL_ballast : Room := { frames := 9, cells := 1, slots := 6, locals := 156 }
set_option maxHeartbeats 1000000 in
set_option maxRecDepth 100000 in
theorem c_L_ballast_ok (l : Launch) (D : va_G) (T : Nat → ClassId) (e0 out : Nat) (of : Nat → Int64) (x tf tb fl al ar n : Nat) (md : Int32) (u : Nat → Int32) (ad : Nat → Nat) (F : Nat → Nat → Int32) (hn : n ≤ 8) (wa wi ja k mk : Nat) (len : Int32) (ju wf : Nat → Int32) (hk : k ≤ 3) (hm : u 0 = nI mk) (hmk : mk < 2 ^ 31) (i : Nat) (v : Int32) (hi : i < n) (h1 : ¬ v < 0) (h2 : v ≤ 9) (h3 : u 2 = 0) : q_N l D (q_ty T) yL_ballast wsL_ballast rmL_ballast [.ref x, .int (nI i), .int v, .ref out] ([q_xc x wa fl tf tb, q_fc fl al u, q_ac al md ar n, q_wc wa len wi ja, q_ia T wi 10 wf, q_ia T ja k ju, q_la T out of] ++ q_tl (T 1) n ar ad F) (q_gL e0) (q_is (some (.int 0)) ([q_xc x wa fl tf tb, q_fc fl al u, q_ac al md ar n, q_wc wa len wi ja, q_ia T wi 10 wf, q_ia T ja k ju, q_la T out (vp_updL of 0 ((F i 2)).toInt64)] ++ q_tl (T 1) n ar ad (va_up F i (upd (F i) 2 v)))) := by
  refine q_startH (cc := cL_ballast) (maxL := 5) (ret := (some .int)) (hh := [(0, 10, 13, 21), (0, 10, 17, 13), (0, 10, 21, 15)]) (by decide) rfl (Nat.le_of_ble_eq_true rfl) ?_
  intro p e s m args below meth c A H locs hx hb hr hts hown hlocks hml hnm ht hP hK hD hS hA hG ls hl
  have hown : s.vm.findClass RL = some m.cls := hown
  have hC : CallFix p m c cL_ballast 5 s args wsL_ballast RL := ⟨hx, hb, hml, hown, hts⟩
  have hl : lv_has ls 5 [(0, .ref x), (1, .int (nI i)), (2, .int v), (3, .ref out)] := hl
  refine lv_aload_n hx hb dL_ballast_0 rfl (lv_at hl 3 rfl) ?_
  refine lv_iconst (v := 0) hx hb dL_ballast_1 (by decide) ?_
  refine lv_aload_n hx hb dL_ballast_2 rfl (lv_at hl 0 rfl) ?_
  refine lv_iload_n hx hb dL_ballast_3 rfl (lv_at hl 1 rfl) ?_
  refine lv_iload_n hx hb dL_ballast_4 rfl (lv_at hl 2 rfl) ?_
  refine q_callV (As := [.int (nI i), .int v]) (rs := [.int 0, .ref out]) hC (c_X3_ballast_ok l D T x tf tb fl al ar n md u ad F hn wa wi ja k mk len ju wf hk hm hmk i v hi h1 h2 h3) q_no_st q_no_at (cwV 2 hts gL_ballast_X3_ballast rfl rfl rfl (by decide +kernel) ⟨Nat.le_of_ble_eq_true rfl, Nat.le_of_ble_eq_true rfl⟩) (va_recv hK hP (ci := 4) (q0 := 0) rfl rfl) hK hP hD hS hA (q_tmask [true, true, true, true, true, true, false] [q_xc x wa fl tf tb, q_fc fl al u, q_ac al md ar n, q_wc wa len wi ja, q_ia T wi 10 wf, q_ia T ja k ju, q_la T out of] (q_tl (T 1) n ar ad F)) rfl hl.1 rfl (Nat.le_of_ble_eq_true rfl) dL_ballast_5 ⟨(Nat.le_of_ble_eq_true rfl), (Nat.le_of_ble_eq_true rfl)⟩ (fun v9 C9 H locs hp hP hD hS => ?_)
  obtain ⟨rfl, rfl⟩ := hp
  have hP : va_P D vwCl ([q_xc x wa fl tf tb, q_fc fl al u, q_ac al md ar n, q_wc wa len wi ja, q_ia T wi 10 wf, q_ia T ja k ju, q_la T out of] ++ q_tl (T 1) n ar ad (va_up F i (upd (F i) 2 v))) H := q_P_perm (q_tback [true, true, true, true, true, true, false] [q_xc x wa fl tf tb, q_fc fl al u, q_ac al md ar n, q_wc wa len wi ja, q_ia T wi 10 wf, q_ia T ja k ju] [q_la T out of] (q_tl (T 1) n ar ad (va_up F i (upd (F i) 2 v)))) hP
  have hD : va_D A ([q_xc x wa fl tf tb, q_fc fl al u, q_ac al md ar n, q_wc wa len wi ja, q_ia T wi 10 wf, q_ia T ja k ju, q_la T out of] ++ q_tl (T 1) n ar ad (va_up F i (upd (F i) 2 v))) := q_D_perm (q_tback [true, true, true, true, true, true, false] [q_xc x wa fl tf tb, q_fc fl al u, q_ac al md ar n, q_wc wa len wi ja, q_ia T wi 10 wf, q_ia T ja k ju] [q_la T out of] (q_tl (T 1) n ar ad (va_up F i (upd (F i) 2 v)))) hD
  refine lv_i2l hx hb dL_ballast_8 rfl ?_
  refine va_last (D := D) hx hb hK hP hD hS 6 3 rfl rfl (by unfold vp_in; decide) dL_ballast_9 (fun H locs hP hD hS => ?_)
  rw [show (0 : Int32).toNatClampNeg = 0 from by decide] at hP hD
  have hP : va_P D vwCl ([q_xc x wa fl tf tb, q_fc fl al u, q_ac al md ar n, q_wc wa len wi ja, q_ia T wi 10 wf, q_ia T ja k ju, q_la T out (vp_updL of 0 (((F i 2)).toInt64))] ++ q_tl (T 1) n ar ad (va_up F i (upd (F i) 2 v))) H := hP
  have hD : va_D A ([q_xc x wa fl tf tb, q_fc fl al u, q_ac al md ar n, q_wc wa len wi ja, q_ia T wi 10 wf, q_ia T ja k ju, q_la T out (vp_updL of 0 (((F i 2)).toInt64))] ++ q_tl (T 1) n ar ad (va_up F i (upd (F i) 2 v))) := hD
  refine lv_goto (tgt := 25) hx hb dL_ballast_10 (by decide) ?_
  refine lv_iconst (v := 0) hx hb dL_ballast_25 (by decide) ?_
  exact vx_ret (q_iret hx hb hr hlocks hP hK hD hS (Nat.le_of_ble_eq_true rfl) (Nat.le_of_ble_eq_true rfl) dL_ballast_26 ⟨rfl, rfl⟩)
set_option maxHeartbeats 1000000 in
set_option maxRecDepth 100000 in
theorem c_L_ballast_f1 (l : Launch) (hst : l.stackTraces = false) (D : va_G) (T : Nat → ClassId) (e0 out : Nat) (of : Nat → Int64) (x wa fl tf tb al ar n : Nat) (md : Int32) (u : Nat → Int32) (v y : Int32) (h : v < 0 ∨ ¬ v < nI n) : q_N l D (q_ty T) yL_ballast wsL_ballast rmL_ballast [.ref x, .int v, .int y, .ref out] [q_xc x wa fl tf tb, q_fc fl al u, q_ac al md ar n, q_la T out of] (q_gL e0) (q_is (some (.int 1)) [q_xc x wa fl tf tb, q_fc fl al u, q_ac al md ar n, q_la T out of]) := by
  refine q_startH (cc := cL_ballast) (maxL := 5) (ret := (some .int)) (hh := [(0, 10, 13, 21), (0, 10, 17, 13), (0, 10, 21, 15)]) (by decide) rfl (Nat.le_of_ble_eq_true rfl) ?_
  intro p e s m args below meth c A H locs hx hb hr hts hown hlocks hml hnm ht hP hK hD hS hA hG ls hl
  have hown : s.vm.findClass RL = some m.cls := hown
  have hC : CallFix p m c cL_ballast 5 s args wsL_ballast RL := ⟨hx, hb, hml, hown, hts⟩
  have hl : lv_has ls 5 [(0, .ref x), (1, .int v), (2, .int y), (3, .ref out)] := hl
  refine lv_aload_n hx hb dL_ballast_0 rfl (lv_at hl 3 rfl) ?_
  refine lv_iconst (v := 0) hx hb dL_ballast_1 (by decide) ?_
  refine lv_aload_n hx hb dL_ballast_2 rfl (lv_at hl 0 rfl) ?_
  refine lv_iload_n hx hb dL_ballast_3 rfl (lv_at hl 1 rfl) ?_
  refine lv_iload_n hx hb dL_ballast_4 rfl (lv_at hl 2 rfl) ?_
  refine q_catV (As := [.int v, .int y]) (rs := [.int 0, .ref out]) hC (t_X3_ballast_f1 l hst D T x wa fl tf tb al ar n md u v y h) hG.1 (cwV 2 hts gL_ballast_X3_ballast rfl rfl rfl (by decide +kernel) ⟨Nat.le_of_ble_eq_true rfl, Nat.le_of_ble_eq_true rfl⟩) (va_recv hK hP (ci := 4) (q0 := 0) rfl rfl) hK hP hD hS hA (q_mask [true, true, true, false] _) rfl hl.1 rfl (Nat.le_of_ble_eq_true rfl) dL_ballast_5 ⟨(Nat.le_of_ble_eq_true rfl), (Nat.le_of_ble_eq_true rfl)⟩ hown [] ⟨0, 10, 13, 21⟩ [⟨0, 10, 17, 13⟩, ⟨0, 10, 21, 15⟩] (ht.trans rfl) (fun z hz => absurd hz List.not_mem_nil) (by decide) (by decide) (hts (.classLink RL 21 "java/lang/IndexOutOfBoundsException") (by decide +kernel)) q_cs53 (fun q9 H locs hP hD hS => ?_)
  have hP : va_P D vwCl [q_xc x wa fl tf tb, q_fc fl al u, q_ac al md ar n, q_la T out of] H := q_P_perm (q_mrg_perm [true, true, true, false] _ _) hP
  have hD : va_D A [q_xc x wa fl tf tb, q_fc fl al u, q_ac al md ar n, q_la T out of] := q_D_perm (q_mrg_perm [true, true, true, false] _ _) hD
  refine lv_astore (lv' := [(4, .ref q9), (0, .ref x), (1, .int v), (2, .int y), (3, .ref out)]) hx hb dL_ballast_13 hl (by decide) rfl (fun ls hl => ?_)
  refine lv_iconst (v := 1) hx hb dL_ballast_15 (by decide) ?_
  exact vx_ret (q_iret hx hb hr hlocks hP hK hD hS (Nat.le_of_ble_eq_true rfl) (Nat.le_of_ble_eq_true rfl) dL_ballast_16 ⟨rfl, rfl⟩)
set_option maxHeartbeats 1000000 in
set_option maxRecDepth 100000 in
theorem c_L_ballast_f2 (l : Launch) (hst : l.stackTraces = false) (D : va_G) (T : Nat → ClassId) (e0 out : Nat) (of : Nat → Int64) (x wa fl tf tb al ar n : Nat) (md : Int32) (u : Nat → Int32) (ad : Nat → Nat) (F : Nat → Nat → Int32) (hn : n ≤ 8) (i : Nat) (hi : i < n) (y : Int32) (h : y < 0 ∨ ¬ y ≤ 9) : q_N l D (q_ty T) yL_ballast wsL_ballast rmL_ballast [.ref x, .int (nI i), .int y, .ref out] ([q_xc x wa fl tf tb, q_fc fl al u, q_ac al md ar n, q_la T out of] ++ q_tl (T 1) n ar ad F) (q_gL e0) (q_is (some (.int 2)) ([q_xc x wa fl tf tb, q_fc fl al u, q_ac al md ar n, q_la T out of] ++ q_tl (T 1) n ar ad F)) := by
  refine q_startH (cc := cL_ballast) (maxL := 5) (ret := (some .int)) (hh := [(0, 10, 13, 21), (0, 10, 17, 13), (0, 10, 21, 15)]) (by decide) rfl (Nat.le_of_ble_eq_true rfl) ?_
  intro p e s m args below meth c A H locs hx hb hr hts hown hlocks hml hnm ht hP hK hD hS hA hG ls hl
  have hown : s.vm.findClass RL = some m.cls := hown
  have hC : CallFix p m c cL_ballast 5 s args wsL_ballast RL := ⟨hx, hb, hml, hown, hts⟩
  have hl : lv_has ls 5 [(0, .ref x), (1, .int (nI i)), (2, .int y), (3, .ref out)] := hl
  refine lv_aload_n hx hb dL_ballast_0 rfl (lv_at hl 3 rfl) ?_
  refine lv_iconst (v := 0) hx hb dL_ballast_1 (by decide) ?_
  refine lv_aload_n hx hb dL_ballast_2 rfl (lv_at hl 0 rfl) ?_
  refine lv_iload_n hx hb dL_ballast_3 rfl (lv_at hl 1 rfl) ?_
  refine lv_iload_n hx hb dL_ballast_4 rfl (lv_at hl 2 rfl) ?_
  refine q_catV (As := [.int (nI i), .int y]) (rs := [.int 0, .ref out]) hC (t_X3_ballast_f2 l hst D T x wa fl tf tb al ar n md u ad F hn i hi y h) hG.1 (cwV 2 hts gL_ballast_X3_ballast rfl rfl rfl (by decide +kernel) ⟨Nat.le_of_ble_eq_true rfl, Nat.le_of_ble_eq_true rfl⟩) (va_recv hK hP (ci := 4) (q0 := 0) rfl rfl) hK hP hD hS hA (q_tmask [true, true, true, false] [q_xc x wa fl tf tb, q_fc fl al u, q_ac al md ar n, q_la T out of] (q_tl (T 1) n ar ad F)) rfl hl.1 rfl (Nat.le_of_ble_eq_true rfl) dL_ballast_5 ⟨(Nat.le_of_ble_eq_true rfl), (Nat.le_of_ble_eq_true rfl)⟩ hown [⟨0, 10, 13, 21⟩] ⟨0, 10, 17, 13⟩ [⟨0, 10, 21, 15⟩] (ht.trans rfl) (List.forall_mem_cons.mpr ⟨Or.inr ⟨by decide, q_E53, (hts (.classLink RL 21 "java/lang/IndexOutOfBoundsException") (by decide +kernel)), hG.2.2.2.2⟩, (fun z hz => absurd hz List.not_mem_nil)⟩) (by decide) (by decide) (hts (.classLink RL 13 "java/lang/IllegalArgumentException") (by decide +kernel)) q_cs39 (fun q9 H locs hP hD hS => ?_)
  have hP : va_P D vwCl ([q_xc x wa fl tf tb, q_fc fl al u, q_ac al md ar n, q_la T out of] ++ q_tl (T 1) n ar ad F) H := q_P_perm (q_tback [true, true, true, false] [q_xc x wa fl tf tb, q_fc fl al u, q_ac al md ar n] [q_la T out of] (q_tl (T 1) n ar ad F)) hP
  have hD : va_D A ([q_xc x wa fl tf tb, q_fc fl al u, q_ac al md ar n, q_la T out of] ++ q_tl (T 1) n ar ad F) := q_D_perm (q_tback [true, true, true, false] [q_xc x wa fl tf tb, q_fc fl al u, q_ac al md ar n] [q_la T out of] (q_tl (T 1) n ar ad F)) hD
  refine lv_astore (lv' := [(4, .ref q9), (0, .ref x), (1, .int (nI i)), (2, .int y), (3, .ref out)]) hx hb dL_ballast_17 hl (by decide) rfl (fun ls hl => ?_)
  refine lv_iconst (v := 2) hx hb dL_ballast_19 (by decide) ?_
  exact vx_ret (q_iret hx hb hr hlocks hP hK hD hS (Nat.le_of_ble_eq_true rfl) (Nat.le_of_ble_eq_true rfl) dL_ballast_20 ⟨rfl, rfl⟩)
set_option maxHeartbeats 1000000 in
set_option maxRecDepth 100000 in
theorem c_L_ballast_f3 (l : Launch) (hst : l.stackTraces = false) (D : va_G) (T : Nat → ClassId) (e0 out : Nat) (of : Nat → Int64) (x wa fl tf tb al ar n : Nat) (md : Int32) (u : Nat → Int32) (ad : Nat → Nat) (F : Nat → Nat → Int32) (hn : n ≤ 8) (i : Nat) (hi : i < n) (y : Int32) (h1 : ¬ y < 0) (h2 : y ≤ 9) (h9 : ¬ u 2 = 0) : q_N l D (q_ty T) yL_ballast wsL_ballast rmL_ballast [.ref x, .int (nI i), .int y, .ref out] ([q_xc x wa fl tf tb, q_fc fl al u, q_ac al md ar n, q_la T out of] ++ q_tl (T 1) n ar ad F) (q_gL e0) (q_is (some (.int 3)) ([q_xc x wa fl tf tb, q_fc fl al u, q_ac al md ar n, q_la T out of] ++ q_tl (T 1) n ar ad F)) := by
  refine q_startH (cc := cL_ballast) (maxL := 5) (ret := (some .int)) (hh := [(0, 10, 13, 21), (0, 10, 17, 13), (0, 10, 21, 15)]) (by decide) rfl (Nat.le_of_ble_eq_true rfl) ?_
  intro p e s m args below meth c A H locs hx hb hr hts hown hlocks hml hnm ht hP hK hD hS hA hG ls hl
  have hown : s.vm.findClass RL = some m.cls := hown
  have hC : CallFix p m c cL_ballast 5 s args wsL_ballast RL := ⟨hx, hb, hml, hown, hts⟩
  have hl : lv_has ls 5 [(0, .ref x), (1, .int (nI i)), (2, .int y), (3, .ref out)] := hl
  refine lv_aload_n hx hb dL_ballast_0 rfl (lv_at hl 3 rfl) ?_
  refine lv_iconst (v := 0) hx hb dL_ballast_1 (by decide) ?_
  refine lv_aload_n hx hb dL_ballast_2 rfl (lv_at hl 0 rfl) ?_
  refine lv_iload_n hx hb dL_ballast_3 rfl (lv_at hl 1 rfl) ?_
  refine lv_iload_n hx hb dL_ballast_4 rfl (lv_at hl 2 rfl) ?_
  refine q_catV (As := [.int (nI i), .int y]) (rs := [.int 0, .ref out]) hC (t_X3_ballast_f3 l hst D T x wa fl tf tb al ar n md u ad F hn i hi y h1 h2 h9) hG.1 (cwV 2 hts gL_ballast_X3_ballast rfl rfl rfl (by decide +kernel) ⟨Nat.le_of_ble_eq_true rfl, Nat.le_of_ble_eq_true rfl⟩) (va_recv hK hP (ci := 4) (q0 := 0) rfl rfl) hK hP hD hS hA (q_tmask [true, true, true, false] [q_xc x wa fl tf tb, q_fc fl al u, q_ac al md ar n, q_la T out of] (q_tl (T 1) n ar ad F)) rfl hl.1 rfl (Nat.le_of_ble_eq_true rfl) dL_ballast_5 ⟨(Nat.le_of_ble_eq_true rfl), (Nat.le_of_ble_eq_true rfl)⟩ hown [⟨0, 10, 13, 21⟩, ⟨0, 10, 17, 13⟩] ⟨0, 10, 21, 15⟩ [] (ht.trans rfl) (List.forall_mem_cons.mpr ⟨Or.inr ⟨by decide, q_E53, (hts (.classLink RL 21 "java/lang/IndexOutOfBoundsException") (by decide +kernel)), hG.2.2.2.1⟩, (List.forall_mem_cons.mpr ⟨Or.inr ⟨by decide, q_E39, (hts (.classLink RL 13 "java/lang/IllegalArgumentException") (by decide +kernel)), hG.2.2.1⟩, (fun z hz => absurd hz List.not_mem_nil)⟩)⟩) (by decide) (by decide) (hts (.classLink RL 15 "java/lang/IllegalStateException") (by decide +kernel)) q_cs80 (fun q9 H locs hP hD hS => ?_)
  have hP : va_P D vwCl ([q_xc x wa fl tf tb, q_fc fl al u, q_ac al md ar n, q_la T out of] ++ q_tl (T 1) n ar ad F) H := q_P_perm (q_tback [true, true, true, false] [q_xc x wa fl tf tb, q_fc fl al u, q_ac al md ar n] [q_la T out of] (q_tl (T 1) n ar ad F)) hP
  have hD : va_D A ([q_xc x wa fl tf tb, q_fc fl al u, q_ac al md ar n, q_la T out of] ++ q_tl (T 1) n ar ad F) := q_D_perm (q_tback [true, true, true, false] [q_xc x wa fl tf tb, q_fc fl al u, q_ac al md ar n] [q_la T out of] (q_tl (T 1) n ar ad F)) hD
  refine lv_astore (lv' := [(4, .ref q9), (0, .ref x), (1, .int (nI i)), (2, .int y), (3, .ref out)]) hx hb dL_ballast_21 hl (by decide) rfl (fun ls hl => ?_)
  refine lv_iconst (v := 3) hx hb dL_ballast_23 (by decide) ?_
  exact vx_ret (q_iret hx hb hr hlocks hP hK hD hS (Nat.le_of_ble_eq_true rfl) (Nat.le_of_ble_eq_true rfl) dL_ballast_24 ⟨rfl, rfl⟩)
abbrev rmL_judge : Room := { frames := 7, cells := 1, slots := 6, locals := 111 }
set_option maxHeartbeats 1000000 in
set_option maxRecDepth 100000 in
theorem c_L_judge_ok (l : Launch) (D : va_G) (T : Nat → ClassId) (e0 out : Nat) (of : Nat → Int64) (x tf tb fl al ar n : Nat) (md : Int32) (u : Nat → Int32) (ad : Nat → Nat) (F : Nat → Nat → Int32) (hn : n ≤ 8) (wa wi ja k mk : Nat) (len : Int32) (ju wf : Nat → Int32) (hk : k ≤ 3) (hm : u 0 = nI mk) (hmk : mk < 2 ^ 31) (v : Int32) (hk3 : k < 3) (h1 : ¬ v < 0) (h2 : v ≤ 199) : q_N l D (q_ty T) yL_judge wsL_judge rmL_judge [.ref x, .int v, .ref out] ([q_xc x wa fl tf tb, q_fc fl al u, q_ac al md ar n, q_wc wa len wi ja, q_ia T wi 10 wf, q_ia T ja k ju, q_la T out of] ++ q_tl (T 1) n ar ad F) (q_gL e0) (fun v9 w9 => ∃ q, v9 = some (.int 0) ∧ w9 = ([q_wc wa len wi q, q_ia T ja k ju, q_ia T q (k + 1) (q_jAdd ju k v), q_xc x wa fl tf tb, q_fc fl al u, q_ac al md ar n, q_ia T wi 10 wf, q_la T out (vp_updL of 0 ((nI (k + 1)).toInt64))] ++ q_tl (T 1) n ar ad F)) := by
  refine q_startH (cc := cL_judge) (maxL := 4) (ret := (some .int)) (hh := [(0, 9, 12, 13), (0, 9, 15, 15)]) (by decide) rfl (Nat.le_of_ble_eq_true rfl) ?_
  intro p e s m args below meth c A H locs hx hb hr hts hown hlocks hml hnm ht hP hK hD hS hA hG ls hl
  have hown : s.vm.findClass RL = some m.cls := hown
  have hC : CallFix p m c cL_judge 4 s args wsL_judge RL := ⟨hx, hb, hml, hown, hts⟩
  have hl : lv_has ls 4 [(0, .ref x), (1, .int v), (2, .ref out)] := hl
  refine lv_aload_n hx hb dL_judge_0 rfl (lv_at hl 2 rfl) ?_
  refine lv_iconst (v := 0) hx hb dL_judge_1 (by decide) ?_
  refine lv_aload_n hx hb dL_judge_2 rfl (lv_at hl 0 rfl) ?_
  refine lv_iload_n hx hb dL_judge_3 rfl (lv_at hl 1 rfl) ?_
  refine q_callV (As := [.int v]) (rs := [.int 0, .ref out]) hC (c_X3_judge_ok l D T x tf tb fl al ar n md u ad F hn wa wi ja k mk len ju wf hk hm hmk v hk3 h1 h2) q_no_st q_no_at (cwV 1 hts gL_judge_X3_judge rfl rfl rfl (by decide +kernel) ⟨Nat.le_of_ble_eq_true rfl, Nat.le_of_ble_eq_true rfl⟩) (va_recv hK hP (ci := 4) (q0 := 0) rfl rfl) hK hP hD hS hA (q_tmask [true, true, true, true, true, true, false] [q_xc x wa fl tf tb, q_fc fl al u, q_ac al md ar n, q_wc wa len wi ja, q_ia T wi 10 wf, q_ia T ja k ju, q_la T out of] (q_tl (T 1) n ar ad F)) rfl hl.1 rfl (Nat.le_of_ble_eq_true rfl) dL_judge_4 ⟨(Nat.le_of_ble_eq_true rfl), (Nat.le_of_ble_eq_true rfl)⟩ (fun v9 C9 H locs hp hP hD hS => ?_)
  obtain ⟨q, rfl, rfl⟩ := hp
  have hP : va_P D vwCl ([q_wc wa len wi q, q_ia T ja k ju, q_ia T q (k + 1) (q_jAdd ju k v), q_xc x wa fl tf tb, q_fc fl al u, q_ac al md ar n, q_ia T wi 10 wf, q_la T out of] ++ q_tl (T 1) n ar ad F) H := q_P_perm (q_tback [true, true, true, true, true, true, true, false] [q_wc wa len wi q, q_ia T ja k ju, q_ia T q (k + 1) (q_jAdd ju k v), q_xc x wa fl tf tb, q_fc fl al u, q_ac al md ar n, q_ia T wi 10 wf] [q_la T out of] (q_tl (T 1) n ar ad F)) hP
  have hD : va_D A ([q_wc wa len wi q, q_ia T ja k ju, q_ia T q (k + 1) (q_jAdd ju k v), q_xc x wa fl tf tb, q_fc fl al u, q_ac al md ar n, q_ia T wi 10 wf, q_la T out of] ++ q_tl (T 1) n ar ad F) := q_D_perm (q_tback [true, true, true, true, true, true, true, false] [q_wc wa len wi q, q_ia T ja k ju, q_ia T q (k + 1) (q_jAdd ju k v), q_xc x wa fl tf tb, q_fc fl al u, q_ac al md ar n, q_ia T wi 10 wf] [q_la T out of] (q_tl (T 1) n ar ad F)) hD
  refine lv_i2l hx hb dL_judge_7 rfl ?_
  refine va_last (D := D) hx hb hK hP hD hS 7 3 rfl rfl (by unfold vp_in; decide) dL_judge_8 (fun H locs hP hD hS => ?_)
  rw [show (0 : Int32).toNatClampNeg = 0 from by decide] at hP hD
  have hP : va_P D vwCl ([q_wc wa len wi q, q_ia T ja k ju, q_ia T q (k + 1) (q_jAdd ju k v), q_xc x wa fl tf tb, q_fc fl al u, q_ac al md ar n, q_ia T wi 10 wf, q_la T out (vp_updL of 0 (((nI (k + 1))).toInt64))] ++ q_tl (T 1) n ar ad F) H := hP
  have hD : va_D A ([q_wc wa len wi q, q_ia T ja k ju, q_ia T q (k + 1) (q_jAdd ju k v), q_xc x wa fl tf tb, q_fc fl al u, q_ac al md ar n, q_ia T wi 10 wf, q_la T out (vp_updL of 0 (((nI (k + 1))).toInt64))] ++ q_tl (T 1) n ar ad F) := hD
  refine lv_goto (tgt := 18) hx hb dL_judge_9 (by decide) ?_
  refine lv_iconst (v := 0) hx hb dL_judge_18 (by decide) ?_
  exact vx_ret (q_iret hx hb hr hlocks hP hK hD hS (Nat.le_of_ble_eq_true rfl) (Nat.le_of_ble_eq_true rfl) dL_judge_19 ⟨q, rfl, rfl⟩)
set_option maxHeartbeats 1000000 in
set_option maxRecDepth 100000 in
theorem c_L_judge_f1 (l : Launch) (hst : l.stackTraces = false) (D : va_G) (T : Nat → ClassId) (e0 out : Nat) (of : Nat → Int64) (x wa fl tf tb : Nat) (v : Int32) (h : v < 0 ∨ ¬ v ≤ 199) : q_N l D (q_ty T) yL_judge wsL_judge rmL_judge [.ref x, .int v, .ref out] [q_xc x wa fl tf tb, q_la T out of] (q_gL e0) (q_is (some (.int 1)) [q_xc x wa fl tf tb, q_la T out of]) := by
  refine q_startH (cc := cL_judge) (maxL := 4) (ret := (some .int)) (hh := [(0, 9, 12, 13), (0, 9, 15, 15)]) (by decide) rfl (Nat.le_of_ble_eq_true rfl) ?_
  intro p e s m args below meth c A H locs hx hb hr hts hown hlocks hml hnm ht hP hK hD hS hA hG ls hl
  have hown : s.vm.findClass RL = some m.cls := hown
  have hC : CallFix p m c cL_judge 4 s args wsL_judge RL := ⟨hx, hb, hml, hown, hts⟩
  have hl : lv_has ls 4 [(0, .ref x), (1, .int v), (2, .ref out)] := hl
  refine lv_aload_n hx hb dL_judge_0 rfl (lv_at hl 2 rfl) ?_
  refine lv_iconst (v := 0) hx hb dL_judge_1 (by decide) ?_
  refine lv_aload_n hx hb dL_judge_2 rfl (lv_at hl 0 rfl) ?_
  refine lv_iload_n hx hb dL_judge_3 rfl (lv_at hl 1 rfl) ?_
  refine q_catV (As := [.int v]) (rs := [.int 0, .ref out]) hC (t_X3_judge_f1 l hst D T x wa fl tf tb v h) hG.1 (cwV 1 hts gL_judge_X3_judge rfl rfl rfl (by decide +kernel) ⟨Nat.le_of_ble_eq_true rfl, Nat.le_of_ble_eq_true rfl⟩) (va_recv hK hP (ci := 4) (q0 := 0) rfl rfl) hK hP hD hS hA (q_mask [true, false] _) rfl hl.1 rfl (Nat.le_of_ble_eq_true rfl) dL_judge_4 ⟨(Nat.le_of_ble_eq_true rfl), (Nat.le_of_ble_eq_true rfl)⟩ hown [] ⟨0, 9, 12, 13⟩ [⟨0, 9, 15, 15⟩] (ht.trans rfl) (fun z hz => absurd hz List.not_mem_nil) (by decide) (by decide) (hts (.classLink RL 13 "java/lang/IllegalArgumentException") (by decide +kernel)) q_cs39 (fun q9 H locs hP hD hS => ?_)
  have hP : va_P D vwCl [q_xc x wa fl tf tb, q_la T out of] H := q_P_perm (q_mrg_perm [true, false] _ _) hP
  have hD : va_D A [q_xc x wa fl tf tb, q_la T out of] := q_D_perm (q_mrg_perm [true, false] _ _) hD
  refine lv_astore_n (lv' := [(3, .ref q9), (0, .ref x), (1, .int v), (2, .ref out)]) hx hb dL_judge_12 rfl hl (by decide) rfl (fun ls hl => ?_)
  refine lv_iconst (v := 1) hx hb dL_judge_13 (by decide) ?_
  exact vx_ret (q_iret hx hb hr hlocks hP hK hD hS (Nat.le_of_ble_eq_true rfl) (Nat.le_of_ble_eq_true rfl) dL_judge_14 ⟨rfl, rfl⟩)
set_option maxHeartbeats 1000000 in
set_option maxRecDepth 100000 in
theorem c_L_judge_f2 (l : Launch) (hst : l.stackTraces = false) (D : va_G) (T : Nat → ClassId) (e0 out : Nat) (of : Nat → Int64) (x wa fl tf tb wi ja k : Nat) (len : Int32) (ju : Nat → Int32) (v : Int32) (h1 : ¬ v < 0) (h2 : v ≤ 199) (hk : k < 1000) (h3 : 3 ≤ k) : q_N l D (q_ty T) yL_judge wsL_judge rmL_judge [.ref x, .int v, .ref out] [q_xc x wa fl tf tb, q_wc wa len wi ja, q_ia T ja k ju, q_la T out of] (q_gL e0) (q_is (some (.int 2)) [q_xc x wa fl tf tb, q_wc wa len wi ja, q_ia T ja k ju, q_la T out of]) := by
  refine q_startH (cc := cL_judge) (maxL := 4) (ret := (some .int)) (hh := [(0, 9, 12, 13), (0, 9, 15, 15)]) (by decide) rfl (Nat.le_of_ble_eq_true rfl) ?_
  intro p e s m args below meth c A H locs hx hb hr hts hown hlocks hml hnm ht hP hK hD hS hA hG ls hl
  have hown : s.vm.findClass RL = some m.cls := hown
  have hC : CallFix p m c cL_judge 4 s args wsL_judge RL := ⟨hx, hb, hml, hown, hts⟩
  have hl : lv_has ls 4 [(0, .ref x), (1, .int v), (2, .ref out)] := hl
  refine lv_aload_n hx hb dL_judge_0 rfl (lv_at hl 2 rfl) ?_
  refine lv_iconst (v := 0) hx hb dL_judge_1 (by decide) ?_
  refine lv_aload_n hx hb dL_judge_2 rfl (lv_at hl 0 rfl) ?_
  refine lv_iload_n hx hb dL_judge_3 rfl (lv_at hl 1 rfl) ?_
  refine q_catV (As := [.int v]) (rs := [.int 0, .ref out]) hC (t_X3_judge_f2 l hst D T x wa fl tf tb wi ja k len ju v h1 h2 hk h3) hG.1 (cwV 1 hts gL_judge_X3_judge rfl rfl rfl (by decide +kernel) ⟨Nat.le_of_ble_eq_true rfl, Nat.le_of_ble_eq_true rfl⟩) (va_recv hK hP (ci := 4) (q0 := 0) rfl rfl) hK hP hD hS hA (q_mask [true, true, true, false] _) rfl hl.1 rfl (Nat.le_of_ble_eq_true rfl) dL_judge_4 ⟨(Nat.le_of_ble_eq_true rfl), (Nat.le_of_ble_eq_true rfl)⟩ hown [⟨0, 9, 12, 13⟩] ⟨0, 9, 15, 15⟩ [] (ht.trans rfl) (List.forall_mem_cons.mpr ⟨Or.inr ⟨by decide, q_E39, (hts (.classLink RL 13 "java/lang/IllegalArgumentException") (by decide +kernel)), hG.2.2.1⟩, (fun z hz => absurd hz List.not_mem_nil)⟩) (by decide) (by decide) (hts (.classLink RL 15 "java/lang/IllegalStateException") (by decide +kernel)) q_cs80 (fun q9 H locs hP hD hS => ?_)
  have hP : va_P D vwCl [q_xc x wa fl tf tb, q_wc wa len wi ja, q_ia T ja k ju, q_la T out of] H := q_P_perm (q_mrg_perm [true, true, true, false] _ _) hP
  have hD : va_D A [q_xc x wa fl tf tb, q_wc wa len wi ja, q_ia T ja k ju, q_la T out of] := q_D_perm (q_mrg_perm [true, true, true, false] _ _) hD
  refine lv_astore_n (lv' := [(3, .ref q9), (0, .ref x), (1, .int v), (2, .ref out)]) hx hb dL_judge_15 rfl hl (by decide) rfl (fun ls hl => ?_)
  refine lv_iconst (v := 2) hx hb dL_judge_16 (by decide) ?_
  exact vx_ret (q_iret hx hb hr hlocks hP hK hD hS (Nat.le_of_ble_eq_true rfl) (Nat.le_of_ble_eq_true rfl) dL_judge_17 ⟨rfl, rfl⟩)
abbrev rmL_start : Room := { frames := 8, cells := 1, slots := 6, locals := 130 }
set_option maxHeartbeats 1000000 in
set_option maxRecDepth 100000 in
theorem c_L_start_ok (l : Launch) (D : va_G) (T : Nat → ClassId) (e0 out : Nat) (of : Nat → Int64) (x tf tb fl al ar n : Nat) (md : Int32) (u : Nat → Int32) (ad : Nat → Nat) (F : Nat → Nat → Int32) (hn : n ≤ 8) (wa wi ja k mk : Nat) (len : Int32) (ju wf : Nat → Int32) (hk : k ≤ 3) (hm : u 0 = nI mk) (hmk : mk < 2 ^ 31) (h3 : u 2 = 0) (h4 : ¬ q_sum (dCan F) n = 0) : q_N l D (q_ty T) yL_start wsL_start rmL_start [.ref x, .ref out] ([q_xc x wa fl tf tb, q_fc fl al u, q_ac al md ar n, q_wc wa len wi ja, q_ia T wi 10 wf, q_ia T ja k ju, q_la T out of] ++ q_tl (T 1) n ar ad F) (q_gL e0) (q_is (some (.int 0)) ([q_xc x wa fl tf tb, q_fc fl al (dBegU u), q_ac al md ar n, q_wc wa len wi ja, q_ia T wi 10 wf, q_ia T ja k ju, q_la T out (vp_updL of 0 ((q_sum (dSt (dEnter F) 1) n)).toInt64)] ++ q_tl (T 1) n ar ad (dEnter F))) := by
  refine q_startH (cc := cL_start) (maxL := 3) (ret := (some .int)) (hh := [(0, 8, 11, 15)]) (by decide) rfl (Nat.le_of_ble_eq_true rfl) ?_
  intro p e s m args below meth c A H locs hx hb hr hts hown hlocks hml hnm ht hP hK hD hS hA hG ls hl
  have hown : s.vm.findClass RL = some m.cls := hown
  have hC : CallFix p m c cL_start 3 s args wsL_start RL := ⟨hx, hb, hml, hown, hts⟩
  have hl : lv_has ls 3 [(0, .ref x), (1, .ref out)] := hl
  refine lv_aload_n hx hb dL_start_0 rfl (lv_at hl 1 rfl) ?_
  refine lv_iconst (v := 0) hx hb dL_start_1 (by decide) ?_
  refine lv_aload_n hx hb dL_start_2 rfl (lv_at hl 0 rfl) ?_
  refine q_callV (As := []) (rs := [.int 0, .ref out]) hC (c_X3_start_ok l D T x tf tb fl al ar n md u ad F hn wa wi ja k mk len ju wf hk hm hmk h3 h4) q_no_st q_no_at (cwV 0 hts gL_start_X3_start rfl rfl rfl (by decide +kernel) ⟨Nat.le_of_ble_eq_true rfl, Nat.le_of_ble_eq_true rfl⟩) (va_recv hK hP (ci := 4) (q0 := 0) rfl rfl) hK hP hD hS hA (q_tmask [true, true, true, true, true, true, false] [q_xc x wa fl tf tb, q_fc fl al u, q_ac al md ar n, q_wc wa len wi ja, q_ia T wi 10 wf, q_ia T ja k ju, q_la T out of] (q_tl (T 1) n ar ad F)) rfl hl.1 rfl (Nat.le_of_ble_eq_true rfl) dL_start_3 ⟨(Nat.le_of_ble_eq_true rfl), (Nat.le_of_ble_eq_true rfl)⟩ (fun v9 C9 H locs hp hP hD hS => ?_)
  obtain ⟨rfl, rfl⟩ := hp
  have hP : va_P D vwCl ([q_xc x wa fl tf tb, q_fc fl al (dBegU u), q_ac al md ar n, q_wc wa len wi ja, q_ia T wi 10 wf, q_ia T ja k ju, q_la T out of] ++ q_tl (T 1) n ar ad (dEnter F)) H := q_P_perm (q_tback [true, true, true, true, true, true, false] [q_xc x wa fl tf tb, q_fc fl al (dBegU u), q_ac al md ar n, q_wc wa len wi ja, q_ia T wi 10 wf, q_ia T ja k ju] [q_la T out of] (q_tl (T 1) n ar ad (dEnter F))) hP
  have hD : va_D A ([q_xc x wa fl tf tb, q_fc fl al (dBegU u), q_ac al md ar n, q_wc wa len wi ja, q_ia T wi 10 wf, q_ia T ja k ju, q_la T out of] ++ q_tl (T 1) n ar ad (dEnter F)) := q_D_perm (q_tback [true, true, true, true, true, true, false] [q_xc x wa fl tf tb, q_fc fl al (dBegU u), q_ac al md ar n, q_wc wa len wi ja, q_ia T wi 10 wf, q_ia T ja k ju] [q_la T out of] (q_tl (T 1) n ar ad (dEnter F))) hD
  refine lv_i2l hx hb dL_start_6 rfl ?_
  refine va_last (D := D) hx hb hK hP hD hS 6 3 rfl rfl (by unfold vp_in; decide) dL_start_7 (fun H locs hP hD hS => ?_)
  rw [show (0 : Int32).toNatClampNeg = 0 from by decide] at hP hD
  have hP : va_P D vwCl ([q_xc x wa fl tf tb, q_fc fl al (dBegU u), q_ac al md ar n, q_wc wa len wi ja, q_ia T wi 10 wf, q_ia T ja k ju, q_la T out (vp_updL of 0 (((q_sum (dSt (dEnter F) 1) n)).toInt64))] ++ q_tl (T 1) n ar ad (dEnter F)) H := hP
  have hD : va_D A ([q_xc x wa fl tf tb, q_fc fl al (dBegU u), q_ac al md ar n, q_wc wa len wi ja, q_ia T wi 10 wf, q_ia T ja k ju, q_la T out (vp_updL of 0 (((q_sum (dSt (dEnter F) 1) n)).toInt64))] ++ q_tl (T 1) n ar ad (dEnter F)) := hD
  refine lv_goto (tgt := 14) hx hb dL_start_8 (by decide) ?_
  refine lv_iconst (v := 0) hx hb dL_start_14 (by decide) ?_
  exact vx_ret (q_iret hx hb hr hlocks hP hK hD hS (Nat.le_of_ble_eq_true rfl) (Nat.le_of_ble_eq_true rfl) dL_start_15 ⟨rfl, rfl⟩)
set_option maxHeartbeats 1000000 in
set_option maxRecDepth 100000 in
theorem c_L_start_f1 (l : Launch) (hst : l.stackTraces = false) (D : va_G) (T : Nat → ClassId) (e0 out : Nat) (of : Nat → Int64) (x wa fl tf tb al : Nat) (u : Nat → Int32) (h9 : ¬ u 2 = 0) : q_N l D (q_ty T) yL_start wsL_start rmL_start [.ref x, .ref out] [q_xc x wa fl tf tb, q_fc fl al u, q_la T out of] (q_gL e0) (q_is (some (.int 1)) [q_xc x wa fl tf tb, q_fc fl al u, q_la T out of]) := by
  refine q_startH (cc := cL_start) (maxL := 3) (ret := (some .int)) (hh := [(0, 8, 11, 15)]) (by decide) rfl (Nat.le_of_ble_eq_true rfl) ?_
  intro p e s m args below meth c A H locs hx hb hr hts hown hlocks hml hnm ht hP hK hD hS hA hG ls hl
  have hown : s.vm.findClass RL = some m.cls := hown
  have hC : CallFix p m c cL_start 3 s args wsL_start RL := ⟨hx, hb, hml, hown, hts⟩
  have hl : lv_has ls 3 [(0, .ref x), (1, .ref out)] := hl
  refine lv_aload_n hx hb dL_start_0 rfl (lv_at hl 1 rfl) ?_
  refine lv_iconst (v := 0) hx hb dL_start_1 (by decide) ?_
  refine lv_aload_n hx hb dL_start_2 rfl (lv_at hl 0 rfl) ?_
  refine q_catV (As := []) (rs := [.int 0, .ref out]) hC (t_X3_start_f1 l hst D T x wa fl tf tb al u h9) hG.1 (cwV 0 hts gL_start_X3_start rfl rfl rfl (by decide +kernel) ⟨Nat.le_of_ble_eq_true rfl, Nat.le_of_ble_eq_true rfl⟩) (va_recv hK hP (ci := 4) (q0 := 0) rfl rfl) hK hP hD hS hA (q_mask [true, true, false] _) rfl hl.1 rfl (Nat.le_of_ble_eq_true rfl) dL_start_3 ⟨(Nat.le_of_ble_eq_true rfl), (Nat.le_of_ble_eq_true rfl)⟩ hown [] ⟨0, 8, 11, 15⟩ [] (ht.trans rfl) (fun z hz => absurd hz List.not_mem_nil) (by decide) (by decide) (hts (.classLink RL 15 "java/lang/IllegalStateException") (by decide +kernel)) q_cs80 (fun q9 H locs hP hD hS => ?_)
  have hP : va_P D vwCl [q_xc x wa fl tf tb, q_fc fl al u, q_la T out of] H := q_P_perm (q_mrg_perm [true, true, false] _ _) hP
  have hD : va_D A [q_xc x wa fl tf tb, q_fc fl al u, q_la T out of] := q_D_perm (q_mrg_perm [true, true, false] _ _) hD
  refine lv_astore_n (lv' := [(2, .ref q9), (0, .ref x), (1, .ref out)]) hx hb dL_start_11 rfl hl (by decide) rfl (fun ls hl => ?_)
  refine lv_iconst (v := 1) hx hb dL_start_12 (by decide) ?_
  exact vx_ret (q_iret hx hb hr hlocks hP hK hD hS (Nat.le_of_ble_eq_true rfl) (Nat.le_of_ble_eq_true rfl) dL_start_13 ⟨rfl, rfl⟩)
set_option maxHeartbeats 1000000 in
set_option maxRecDepth 100000 in
theorem c_L_start_f2 (l : Launch) (hst : l.stackTraces = false) (D : va_G) (T : Nat → ClassId) (e0 out : Nat) (of : Nat → Int64) (x wa fl tf tb al ar n : Nat) (md : Int32) (u : Nat → Int32) (ad : Nat → Nat) (F : Nat → Nat → Int32) (hn : n ≤ 8) (h3 : u 2 = 0) (h4 : q_sum (dCan F) n = 0) : q_N l D (q_ty T) yL_start wsL_start rmL_start [.ref x, .ref out] ([q_xc x wa fl tf tb, q_fc fl al u, q_ac al md ar n, q_la T out of] ++ q_tl (T 1) n ar ad F) (q_gL e0) (q_is (some (.int 1)) ([q_xc x wa fl tf tb, q_fc fl al u, q_ac al md ar n, q_la T out of] ++ q_tl (T 1) n ar ad F)) := by
  refine q_startH (cc := cL_start) (maxL := 3) (ret := (some .int)) (hh := [(0, 8, 11, 15)]) (by decide) rfl (Nat.le_of_ble_eq_true rfl) ?_
  intro p e s m args below meth c A H locs hx hb hr hts hown hlocks hml hnm ht hP hK hD hS hA hG ls hl
  have hown : s.vm.findClass RL = some m.cls := hown
  have hC : CallFix p m c cL_start 3 s args wsL_start RL := ⟨hx, hb, hml, hown, hts⟩
  have hl : lv_has ls 3 [(0, .ref x), (1, .ref out)] := hl
  refine lv_aload_n hx hb dL_start_0 rfl (lv_at hl 1 rfl) ?_
  refine lv_iconst (v := 0) hx hb dL_start_1 (by decide) ?_
  refine lv_aload_n hx hb dL_start_2 rfl (lv_at hl 0 rfl) ?_
  refine q_catV (As := []) (rs := [.int 0, .ref out]) hC (t_X3_start_f2 l hst D T x wa fl tf tb al ar n md u ad F hn h3 h4) hG.1 (cwV 0 hts gL_start_X3_start rfl rfl rfl (by decide +kernel) ⟨Nat.le_of_ble_eq_true rfl, Nat.le_of_ble_eq_true rfl⟩) (va_recv hK hP (ci := 4) (q0 := 0) rfl rfl) hK hP hD hS hA (q_tmask [true, true, true, false] [q_xc x wa fl tf tb, q_fc fl al u, q_ac al md ar n, q_la T out of] (q_tl (T 1) n ar ad F)) rfl hl.1 rfl (Nat.le_of_ble_eq_true rfl) dL_start_3 ⟨(Nat.le_of_ble_eq_true rfl), (Nat.le_of_ble_eq_true rfl)⟩ hown [] ⟨0, 8, 11, 15⟩ [] (ht.trans rfl) (fun z hz => absurd hz List.not_mem_nil) (by decide) (by decide) (hts (.classLink RL 15 "java/lang/IllegalStateException") (by decide +kernel)) q_cs80 (fun q9 H locs hP hD hS => ?_)
  have hP : va_P D vwCl ([q_xc x wa fl tf tb, q_fc fl al u, q_ac al md ar n, q_la T out of] ++ q_tl (T 1) n ar ad F) H := q_P_perm (q_tback [true, true, true, false] [q_xc x wa fl tf tb, q_fc fl al u, q_ac al md ar n] [q_la T out of] (q_tl (T 1) n ar ad F)) hP
  have hD : va_D A ([q_xc x wa fl tf tb, q_fc fl al u, q_ac al md ar n, q_la T out of] ++ q_tl (T 1) n ar ad F) := q_D_perm (q_tback [true, true, true, false] [q_xc x wa fl tf tb, q_fc fl al u, q_ac al md ar n] [q_la T out of] (q_tl (T 1) n ar ad F)) hD
  refine lv_astore_n (lv' := [(2, .ref q9), (0, .ref x), (1, .ref out)]) hx hb dL_start_11 rfl hl (by decide) rfl (fun ls hl => ?_)
  refine lv_iconst (v := 1) hx hb dL_start_12 (by decide) ?_
  exact vx_ret (q_iret hx hb hr hlocks hP hK hD hS (Nat.le_of_ble_eq_true rfl) (Nat.le_of_ble_eq_true rfl) dL_start_13 ⟨rfl, rfl⟩)
abbrev rmL_pass : Room := { frames := 7, cells := 1, slots := 6, locals := 157 }
set_option maxHeartbeats 1000000 in
set_option maxRecDepth 100000 in
theorem c_L_pass_ok (l : Launch) (D : va_G) (T : Nat → ClassId) (e0 out : Nat) (of : Nat → Int64) (x tf tb fl al ar n : Nat) (md : Int32) (u : Nat → Int32) (ad : Nat → Nat) (F : Nat → Nat → Int32) (hn : n ≤ 8) (wa wi ja k mk : Nat) (len : Int32) (ju wf : Nat → Int32) (hk : k ≤ 3) (hm : u 0 = nI mk) (hmk : mk < 2 ^ 31) (hmk2 : mk < 2 ^ 30) (q : Nat) (hz : mHz F n) (h1 : 1 ≤ q) (h2 : q ≤ 90) : q_N l D (q_ty T) yL_pass wsL_pass rmL_pass [.ref x, .int (nI q), .ref out] ([q_xc x wa fl tf tb, q_fc fl al u, q_ac al md ar n, q_wc wa len wi ja, q_ia T wi 10 wf, q_ia T ja k ju, q_la T out of] ++ q_tl (T 1) n ar ad F) (q_gL e0) (q_is (some (.int 0)) ([q_xc x wa fl tf tb, q_fc fl al ((mIt wf ju k len n (F, u) q).2), q_ac al md ar n, q_wc wa len wi ja, q_ia T wi 10 wf, q_ia T ja k ju, q_la T out (vp_updL of 0 ((q_sum (mAr wf ju k len n (F, u)) q)).toInt64)] ++ q_tl (T 1) n ar ad ((mIt wf ju k len n (F, u) q).1))) := by
  refine q_startH (cc := cL_pass) (maxL := 4) (ret := (some .int)) (hh := [(0, 9, 12, 13)]) (by decide) rfl (Nat.le_of_ble_eq_true rfl) ?_
  intro p e s m args below meth c A H locs hx hb hr hts hown hlocks hml hnm ht hP hK hD hS hA hG ls hl
  have hown : s.vm.findClass RL = some m.cls := hown
  have hC : CallFix p m c cL_pass 4 s args wsL_pass RL := ⟨hx, hb, hml, hown, hts⟩
  have hl : lv_has ls 4 [(0, .ref x), (1, .int (nI q)), (2, .ref out)] := hl
  refine lv_aload_n hx hb dL_pass_0 rfl (lv_at hl 2 rfl) ?_
  refine lv_iconst (v := 0) hx hb dL_pass_1 (by decide) ?_
  refine lv_aload_n hx hb dL_pass_2 rfl (lv_at hl 0 rfl) ?_
  refine lv_iload_n hx hb dL_pass_3 rfl (lv_at hl 1 rfl) ?_
  refine q_callV (As := [.int (nI q)]) (rs := [.int 0, .ref out]) hC (c_X3_pass_ok l D T x tf tb fl al ar n md u ad F hn wa wi ja k mk len ju wf hk hm hmk hmk2 q hz h1 h2) q_no_st q_no_at (cwV 1 hts gL_pass_X3_pass rfl rfl rfl (by decide +kernel) ⟨Nat.le_of_ble_eq_true rfl, Nat.le_of_ble_eq_true rfl⟩) (va_recv hK hP (ci := 4) (q0 := 0) rfl rfl) hK hP hD hS hA (q_tmask [true, true, true, true, true, true, false] [q_xc x wa fl tf tb, q_fc fl al u, q_ac al md ar n, q_wc wa len wi ja, q_ia T wi 10 wf, q_ia T ja k ju, q_la T out of] (q_tl (T 1) n ar ad F)) rfl hl.1 rfl (Nat.le_of_ble_eq_true rfl) dL_pass_4 ⟨(Nat.le_of_ble_eq_true rfl), (Nat.le_of_ble_eq_true rfl)⟩ (fun v9 C9 H locs hp hP hD hS => ?_)
  obtain ⟨rfl, rfl⟩ := hp
  have hP : va_P D vwCl ([q_xc x wa fl tf tb, q_fc fl al ((mIt wf ju k len n (F, u) q).2), q_ac al md ar n, q_wc wa len wi ja, q_ia T wi 10 wf, q_ia T ja k ju, q_la T out of] ++ q_tl (T 1) n ar ad ((mIt wf ju k len n (F, u) q).1)) H := q_P_perm (q_tback [true, true, true, true, true, true, false] [q_xc x wa fl tf tb, q_fc fl al ((mIt wf ju k len n (F, u) q).2), q_ac al md ar n, q_wc wa len wi ja, q_ia T wi 10 wf, q_ia T ja k ju] [q_la T out of] (q_tl (T 1) n ar ad ((mIt wf ju k len n (F, u) q).1))) hP
  have hD : va_D A ([q_xc x wa fl tf tb, q_fc fl al ((mIt wf ju k len n (F, u) q).2), q_ac al md ar n, q_wc wa len wi ja, q_ia T wi 10 wf, q_ia T ja k ju, q_la T out of] ++ q_tl (T 1) n ar ad ((mIt wf ju k len n (F, u) q).1)) := q_D_perm (q_tback [true, true, true, true, true, true, false] [q_xc x wa fl tf tb, q_fc fl al ((mIt wf ju k len n (F, u) q).2), q_ac al md ar n, q_wc wa len wi ja, q_ia T wi 10 wf, q_ia T ja k ju] [q_la T out of] (q_tl (T 1) n ar ad ((mIt wf ju k len n (F, u) q).1))) hD
  refine lv_i2l hx hb dL_pass_7 rfl ?_
  refine va_last (D := D) hx hb hK hP hD hS 6 3 rfl rfl (by unfold vp_in; decide) dL_pass_8 (fun H locs hP hD hS => ?_)
  rw [show (0 : Int32).toNatClampNeg = 0 from by decide] at hP hD
  have hP : va_P D vwCl ([q_xc x wa fl tf tb, q_fc fl al ((mIt wf ju k len n (F, u) q).2), q_ac al md ar n, q_wc wa len wi ja, q_ia T wi 10 wf, q_ia T ja k ju, q_la T out (vp_updL of 0 (((q_sum (mAr wf ju k len n (F, u)) q)).toInt64))] ++ q_tl (T 1) n ar ad ((mIt wf ju k len n (F, u) q).1)) H := hP
  have hD : va_D A ([q_xc x wa fl tf tb, q_fc fl al ((mIt wf ju k len n (F, u) q).2), q_ac al md ar n, q_wc wa len wi ja, q_ia T wi 10 wf, q_ia T ja k ju, q_la T out (vp_updL of 0 (((q_sum (mAr wf ju k len n (F, u)) q)).toInt64))] ++ q_tl (T 1) n ar ad ((mIt wf ju k len n (F, u) q).1)) := hD
  refine lv_goto (tgt := 15) hx hb dL_pass_9 (by decide) ?_
  refine lv_iconst (v := 0) hx hb dL_pass_15 (by decide) ?_
  exact vx_ret (q_iret hx hb hr hlocks hP hK hD hS (Nat.le_of_ble_eq_true rfl) (Nat.le_of_ble_eq_true rfl) dL_pass_16 ⟨rfl, rfl⟩)
set_option maxHeartbeats 1000000 in
set_option maxRecDepth 100000 in
theorem c_L_pass_f1 (l : Launch) (hst : l.stackTraces = false) (D : va_G) (T : Nat → ClassId) (e0 out : Nat) (of : Nat → Int64) (x wa fl tf tb : Nat) (v : Int32) (h : v < 1 ∨ ¬ v ≤ 90) : q_N l D (q_ty T) yL_pass wsL_pass rmL_pass [.ref x, .int v, .ref out] [q_xc x wa fl tf tb, q_la T out of] (q_gL e0) (q_is (some (.int 1)) [q_xc x wa fl tf tb, q_la T out of]) := by
  refine q_startH (cc := cL_pass) (maxL := 4) (ret := (some .int)) (hh := [(0, 9, 12, 13)]) (by decide) rfl (Nat.le_of_ble_eq_true rfl) ?_
  intro p e s m args below meth c A H locs hx hb hr hts hown hlocks hml hnm ht hP hK hD hS hA hG ls hl
  have hown : s.vm.findClass RL = some m.cls := hown
  have hC : CallFix p m c cL_pass 4 s args wsL_pass RL := ⟨hx, hb, hml, hown, hts⟩
  have hl : lv_has ls 4 [(0, .ref x), (1, .int v), (2, .ref out)] := hl
  refine lv_aload_n hx hb dL_pass_0 rfl (lv_at hl 2 rfl) ?_
  refine lv_iconst (v := 0) hx hb dL_pass_1 (by decide) ?_
  refine lv_aload_n hx hb dL_pass_2 rfl (lv_at hl 0 rfl) ?_
  refine lv_iload_n hx hb dL_pass_3 rfl (lv_at hl 1 rfl) ?_
  refine q_catV (As := [.int v]) (rs := [.int 0, .ref out]) hC (t_X3_pass_f1 l hst D T x wa fl tf tb v h) hG.1 (cwV 1 hts gL_pass_X3_pass rfl rfl rfl (by decide +kernel) ⟨Nat.le_of_ble_eq_true rfl, Nat.le_of_ble_eq_true rfl⟩) (va_recv hK hP (ci := 4) (q0 := 0) rfl rfl) hK hP hD hS hA (q_mask [true, false] _) rfl hl.1 rfl (Nat.le_of_ble_eq_true rfl) dL_pass_4 ⟨(Nat.le_of_ble_eq_true rfl), (Nat.le_of_ble_eq_true rfl)⟩ hown [] ⟨0, 9, 12, 13⟩ [] (ht.trans rfl) (fun z hz => absurd hz List.not_mem_nil) (by decide) (by decide) (hts (.classLink RL 13 "java/lang/IllegalArgumentException") (by decide +kernel)) q_cs39 (fun q9 H locs hP hD hS => ?_)
  have hP : va_P D vwCl [q_xc x wa fl tf tb, q_la T out of] H := q_P_perm (q_mrg_perm [true, false] _ _) hP
  have hD : va_D A [q_xc x wa fl tf tb, q_la T out of] := q_D_perm (q_mrg_perm [true, false] _ _) hD
  refine lv_astore_n (lv' := [(3, .ref q9), (0, .ref x), (1, .int v), (2, .ref out)]) hx hb dL_pass_12 rfl hl (by decide) rfl (fun ls hl => ?_)
  refine lv_iconst (v := 1) hx hb dL_pass_13 (by decide) ?_
  exact vx_ret (q_iret hx hb hr hlocks hP hK hD hS (Nat.le_of_ble_eq_true rfl) (Nat.le_of_ble_eq_true rfl) dL_pass_14 ⟨rfl, rfl⟩)
abbrev rmL_told : Room := { frames := 9, cells := 1, slots := 6, locals := 155 }
set_option maxHeartbeats 1000000 in
set_option maxRecDepth 100000 in
theorem c_L_told_ok (l : Launch) (D : va_G) (T : Nat → ClassId) (e0 out : Nat) (of : Nat → Int64) (x tf tb fl al ar n : Nat) (md : Int32) (u : Nat → Int32) (ad : Nat → Nat) (F : Nat → Nat → Int32) (hn : n ≤ 8) (wa wi ja k mk : Nat) (len : Int32) (ju wf : Nat → Int32) (hk : k ≤ 3) (hm : u 0 = nI mk) (hmk : mk < 2 ^ 31) (i q : Nat) (hi : i < n) (ho : q < 7) (hz : 0 < 2 + F i 0 + F i 2 / 2) : q_N l D (q_ty T) yL_told wsL_told rmL_told [.ref x, .int (nI i), .int (nI q), .ref out] ([q_xc x wa fl tf tb, q_fc fl al u, q_ac al md ar n, q_wc wa len wi ja, q_ia T wi 10 wf, q_ia T ja k ju, q_la T out of] ++ q_tl (T 1) n ar ad F) (q_gL e0) (q_is (some (.int 0)) ([q_xc x wa fl tf tb, q_fc fl al u, q_ac al md ar n, q_wc wa len wi ja, q_ia T wi 10 wf, q_ia T ja k ju, q_la T out (vp_updL of 0 ((qTold F i q (wf (mk % 10)))).toInt64)] ++ q_tl (T 1) n ar ad F)) := by
  refine q_startH (cc := cL_told) (maxL := 5) (ret := (some .int)) (hh := [(0, 10, 13, 21)]) (by decide) rfl (Nat.le_of_ble_eq_true rfl) ?_
  intro p e s m args below meth c A H locs hx hb hr hts hown hlocks hml hnm ht hP hK hD hS hA hG ls hl
  have hown : s.vm.findClass RL = some m.cls := hown
  have hC : CallFix p m c cL_told 5 s args wsL_told RL := ⟨hx, hb, hml, hown, hts⟩
  have hl : lv_has ls 5 [(0, .ref x), (1, .int (nI i)), (2, .int (nI q)), (3, .ref out)] := hl
  refine lv_aload_n hx hb dL_told_0 rfl (lv_at hl 3 rfl) ?_
  refine lv_iconst (v := 0) hx hb dL_told_1 (by decide) ?_
  refine lv_aload_n hx hb dL_told_2 rfl (lv_at hl 0 rfl) ?_
  refine lv_iload_n hx hb dL_told_3 rfl (lv_at hl 1 rfl) ?_
  refine lv_iload_n hx hb dL_told_4 rfl (lv_at hl 2 rfl) ?_
  refine q_callV (As := [.int (nI i), .int (nI q)]) (rs := [.int 0, .ref out]) hC (c_X3_told_ok l D T x tf tb fl al ar n md u ad F hn wa wi ja k mk len ju wf hk hm hmk i q hi ho hz) q_no_st q_no_at (cwV 2 hts gL_told_X3_told rfl rfl rfl (by decide +kernel) ⟨Nat.le_of_ble_eq_true rfl, Nat.le_of_ble_eq_true rfl⟩) (va_recv hK hP (ci := 4) (q0 := 0) rfl rfl) hK hP hD hS hA (q_tmask [true, true, true, true, true, true, false] [q_xc x wa fl tf tb, q_fc fl al u, q_ac al md ar n, q_wc wa len wi ja, q_ia T wi 10 wf, q_ia T ja k ju, q_la T out of] (q_tl (T 1) n ar ad F)) rfl hl.1 rfl (Nat.le_of_ble_eq_true rfl) dL_told_5 ⟨(Nat.le_of_ble_eq_true rfl), (Nat.le_of_ble_eq_true rfl)⟩ (fun v9 C9 H locs hp hP hD hS => ?_)
  obtain ⟨rfl, rfl⟩ := hp
  have hP : va_P D vwCl ([q_xc x wa fl tf tb, q_fc fl al u, q_ac al md ar n, q_wc wa len wi ja, q_ia T wi 10 wf, q_ia T ja k ju, q_la T out of] ++ q_tl (T 1) n ar ad F) H := q_P_perm (q_tback [true, true, true, true, true, true, false] [q_xc x wa fl tf tb, q_fc fl al u, q_ac al md ar n, q_wc wa len wi ja, q_ia T wi 10 wf, q_ia T ja k ju] [q_la T out of] (q_tl (T 1) n ar ad F)) hP
  have hD : va_D A ([q_xc x wa fl tf tb, q_fc fl al u, q_ac al md ar n, q_wc wa len wi ja, q_ia T wi 10 wf, q_ia T ja k ju, q_la T out of] ++ q_tl (T 1) n ar ad F) := q_D_perm (q_tback [true, true, true, true, true, true, false] [q_xc x wa fl tf tb, q_fc fl al u, q_ac al md ar n, q_wc wa len wi ja, q_ia T wi 10 wf, q_ia T ja k ju] [q_la T out of] (q_tl (T 1) n ar ad F)) hD
  refine lv_i2l hx hb dL_told_8 rfl ?_
  refine va_last (D := D) hx hb hK hP hD hS 6 3 rfl rfl (by unfold vp_in; decide) dL_told_9 (fun H locs hP hD hS => ?_)
  rw [show (0 : Int32).toNatClampNeg = 0 from by decide] at hP hD
  have hP : va_P D vwCl ([q_xc x wa fl tf tb, q_fc fl al u, q_ac al md ar n, q_wc wa len wi ja, q_ia T wi 10 wf, q_ia T ja k ju, q_la T out (vp_updL of 0 (((qTold F i q (wf (mk % 10)))).toInt64))] ++ q_tl (T 1) n ar ad F) H := hP
  have hD : va_D A ([q_xc x wa fl tf tb, q_fc fl al u, q_ac al md ar n, q_wc wa len wi ja, q_ia T wi 10 wf, q_ia T ja k ju, q_la T out (vp_updL of 0 (((qTold F i q (wf (mk % 10)))).toInt64))] ++ q_tl (T 1) n ar ad F) := hD
  refine lv_goto (tgt := 17) hx hb dL_told_10 (by decide) ?_
  refine lv_iconst (v := 0) hx hb dL_told_17 (by decide) ?_
  exact vx_ret (q_iret hx hb hr hlocks hP hK hD hS (Nat.le_of_ble_eq_true rfl) (Nat.le_of_ble_eq_true rfl) dL_told_18 ⟨rfl, rfl⟩)
abbrev rmL_about : Room := { frames := 9, cells := 1, slots := 6, locals := 155 }
set_option maxHeartbeats 1000000 in
set_option maxRecDepth 100000 in
theorem c_L_about_ok (l : Launch) (D : va_G) (T : Nat → ClassId) (e0 out : Nat) (of : Nat → Int64) (x tf tb fl al ar n : Nat) (md : Int32) (u : Nat → Int32) (ad : Nat → Nat) (F : Nat → Nat → Int32) (hn : n ≤ 8) (wa wi ja k mk : Nat) (len : Int32) (ju wf : Nat → Int32) (hk : k ≤ 3) (hm : u 0 = nI mk) (hmk : mk < 2 ^ 31) (i q : Nat) (hi : i < n) (ho : q < 5) : q_N l D (q_ty T) yL_about wsL_about rmL_about [.ref x, .int (nI i), .int (nI q), .ref out] ([q_xc x wa fl tf tb, q_fc fl al u, q_ac al md ar n, q_wc wa len wi ja, q_ia T wi 10 wf, q_ia T ja k ju, q_la T out of] ++ q_tl (T 1) n ar ad F) (q_gL e0) (q_is (some (.int 0)) ([q_xc x wa fl tf tb, q_fc fl al u, q_ac al md ar n, q_wc wa len wi ja, q_ia T wi 10 wf, q_ia T ja k ju, q_la T out (vp_updL of 0 ((dAbt F u i q)).toInt64)] ++ q_tl (T 1) n ar ad F)) := by
  refine q_startH (cc := cL_about) (maxL := 5) (ret := (some .int)) (hh := [(0, 10, 13, 21)]) (by decide) rfl (Nat.le_of_ble_eq_true rfl) ?_
  intro p e s m args below meth c A H locs hx hb hr hts hown hlocks hml hnm ht hP hK hD hS hA hG ls hl
  have hown : s.vm.findClass RL = some m.cls := hown
  have hC : CallFix p m c cL_about 5 s args wsL_about RL := ⟨hx, hb, hml, hown, hts⟩
  have hl : lv_has ls 5 [(0, .ref x), (1, .int (nI i)), (2, .int (nI q)), (3, .ref out)] := hl
  refine lv_aload_n hx hb dL_about_0 rfl (lv_at hl 3 rfl) ?_
  refine lv_iconst (v := 0) hx hb dL_about_1 (by decide) ?_
  refine lv_aload_n hx hb dL_about_2 rfl (lv_at hl 0 rfl) ?_
  refine lv_iload_n hx hb dL_about_3 rfl (lv_at hl 1 rfl) ?_
  refine lv_iload_n hx hb dL_about_4 rfl (lv_at hl 2 rfl) ?_
  refine q_callV (As := [.int (nI i), .int (nI q)]) (rs := [.int 0, .ref out]) hC (c_X3_about_ok l D T x tf tb fl al ar n md u ad F hn wa wi ja k mk len ju wf hk hm hmk i q hi ho) q_no_st q_no_at (cwV 2 hts gL_about_X3_about rfl rfl rfl (by decide +kernel) ⟨Nat.le_of_ble_eq_true rfl, Nat.le_of_ble_eq_true rfl⟩) (va_recv hK hP (ci := 4) (q0 := 0) rfl rfl) hK hP hD hS hA (q_tmask [true, true, true, true, true, true, false] [q_xc x wa fl tf tb, q_fc fl al u, q_ac al md ar n, q_wc wa len wi ja, q_ia T wi 10 wf, q_ia T ja k ju, q_la T out of] (q_tl (T 1) n ar ad F)) rfl hl.1 rfl (Nat.le_of_ble_eq_true rfl) dL_about_5 ⟨(Nat.le_of_ble_eq_true rfl), (Nat.le_of_ble_eq_true rfl)⟩ (fun v9 C9 H locs hp hP hD hS => ?_)
  obtain ⟨rfl, rfl⟩ := hp
  have hP : va_P D vwCl ([q_xc x wa fl tf tb, q_fc fl al u, q_ac al md ar n, q_wc wa len wi ja, q_ia T wi 10 wf, q_ia T ja k ju, q_la T out of] ++ q_tl (T 1) n ar ad F) H := q_P_perm (q_tback [true, true, true, true, true, true, false] [q_xc x wa fl tf tb, q_fc fl al u, q_ac al md ar n, q_wc wa len wi ja, q_ia T wi 10 wf, q_ia T ja k ju] [q_la T out of] (q_tl (T 1) n ar ad F)) hP
  have hD : va_D A ([q_xc x wa fl tf tb, q_fc fl al u, q_ac al md ar n, q_wc wa len wi ja, q_ia T wi 10 wf, q_ia T ja k ju, q_la T out of] ++ q_tl (T 1) n ar ad F) := q_D_perm (q_tback [true, true, true, true, true, true, false] [q_xc x wa fl tf tb, q_fc fl al u, q_ac al md ar n, q_wc wa len wi ja, q_ia T wi 10 wf, q_ia T ja k ju] [q_la T out of] (q_tl (T 1) n ar ad F)) hD
  refine lv_i2l hx hb dL_about_8 rfl ?_
  refine va_last (D := D) hx hb hK hP hD hS 6 3 rfl rfl (by unfold vp_in; decide) dL_about_9 (fun H locs hP hD hS => ?_)
  rw [show (0 : Int32).toNatClampNeg = 0 from by decide] at hP hD
  have hP : va_P D vwCl ([q_xc x wa fl tf tb, q_fc fl al u, q_ac al md ar n, q_wc wa len wi ja, q_ia T wi 10 wf, q_ia T ja k ju, q_la T out (vp_updL of 0 (((dAbt F u i q)).toInt64))] ++ q_tl (T 1) n ar ad F) H := hP
  have hD : va_D A ([q_xc x wa fl tf tb, q_fc fl al u, q_ac al md ar n, q_wc wa len wi ja, q_ia T wi 10 wf, q_ia T ja k ju, q_la T out (vp_updL of 0 (((dAbt F u i q)).toInt64))] ++ q_tl (T 1) n ar ad F) := hD
  refine lv_goto (tgt := 17) hx hb dL_about_10 (by decide) ?_
  refine lv_iconst (v := 0) hx hb dL_about_17 (by decide) ?_
  exact vx_ret (q_iret hx hb hr hlocks hP hK hD hS (Nat.le_of_ble_eq_true rfl) (Nat.le_of_ble_eq_true rfl) dL_about_18 ⟨rfl, rfl⟩)
set_option maxHeartbeats 1000000 in
set_option maxRecDepth 100000 in
theorem c_L_told_f1 (l : Launch) (hst : l.stackTraces = false) (D : va_G) (T : Nat → ClassId) (e0 out : Nat) (of : Nat → Int64) (x wa fl tf tb al ar n : Nat) (md : Int32) (u : Nat → Int32) (v y : Int32) (h : v < 0 ∨ ¬ v < nI n) : q_N l D (q_ty T) yL_told wsL_told rmL_told [.ref x, .int v, .int y, .ref out] [q_xc x wa fl tf tb, q_fc fl al u, q_ac al md ar n, q_la T out of] (q_gL e0) (q_is (some (.int 1)) [q_xc x wa fl tf tb, q_fc fl al u, q_ac al md ar n, q_la T out of]) := by
  refine q_startH (cc := cL_told) (maxL := 5) (ret := (some .int)) (hh := [(0, 10, 13, 21)]) (by decide) rfl (Nat.le_of_ble_eq_true rfl) ?_
  intro p e s m args below meth c A H locs hx hb hr hts hown hlocks hml hnm ht hP hK hD hS hA hG ls hl
  have hown : s.vm.findClass RL = some m.cls := hown
  have hC : CallFix p m c cL_told 5 s args wsL_told RL := ⟨hx, hb, hml, hown, hts⟩
  have hl : lv_has ls 5 [(0, .ref x), (1, .int v), (2, .int y), (3, .ref out)] := hl
  refine lv_aload_n hx hb dL_told_0 rfl (lv_at hl 3 rfl) ?_
  refine lv_iconst (v := 0) hx hb dL_told_1 (by decide) ?_
  refine lv_aload_n hx hb dL_told_2 rfl (lv_at hl 0 rfl) ?_
  refine lv_iload_n hx hb dL_told_3 rfl (lv_at hl 1 rfl) ?_
  refine lv_iload_n hx hb dL_told_4 rfl (lv_at hl 2 rfl) ?_
  refine q_catV (As := [.int v, .int y]) (rs := [.int 0, .ref out]) hC (t_X3_told_f1 l hst D T x wa fl tf tb al ar n md u v y h) hG.1 (cwV 2 hts gL_told_X3_told rfl rfl rfl (by decide +kernel) ⟨Nat.le_of_ble_eq_true rfl, Nat.le_of_ble_eq_true rfl⟩) (va_recv hK hP (ci := 4) (q0 := 0) rfl rfl) hK hP hD hS hA (q_mask [true, true, true, false] _) rfl hl.1 rfl (Nat.le_of_ble_eq_true rfl) dL_told_5 ⟨(Nat.le_of_ble_eq_true rfl), (Nat.le_of_ble_eq_true rfl)⟩ hown [] ⟨0, 10, 13, 21⟩ [] (ht.trans rfl) (fun z hz => absurd hz List.not_mem_nil) (by decide) (by decide) (hts (.classLink RL 21 "java/lang/IndexOutOfBoundsException") (by decide +kernel)) q_cs53 (fun q9 H locs hP hD hS => ?_)
  have hP : va_P D vwCl [q_xc x wa fl tf tb, q_fc fl al u, q_ac al md ar n, q_la T out of] H := q_P_perm (q_mrg_perm [true, true, true, false] _ _) hP
  have hD : va_D A [q_xc x wa fl tf tb, q_fc fl al u, q_ac al md ar n, q_la T out of] := q_D_perm (q_mrg_perm [true, true, true, false] _ _) hD
  refine lv_astore (lv' := [(4, .ref q9), (0, .ref x), (1, .int v), (2, .int y), (3, .ref out)]) hx hb dL_told_13 hl (by decide) rfl (fun ls hl => ?_)
  refine lv_iconst (v := 1) hx hb dL_told_15 (by decide) ?_
  exact vx_ret (q_iret hx hb hr hlocks hP hK hD hS (Nat.le_of_ble_eq_true rfl) (Nat.le_of_ble_eq_true rfl) dL_told_16 ⟨rfl, rfl⟩)
set_option maxHeartbeats 1000000 in
set_option maxRecDepth 100000 in
theorem c_L_told_f2 (l : Launch) (hst : l.stackTraces = false) (D : va_G) (T : Nat → ClassId) (e0 out : Nat) (of : Nat → Int64) (x wa fl tf tb al ar n : Nat) (md : Int32) (u : Nat → Int32) (ad : Nat → Nat) (F : Nat → Nat → Int32) (hn : n ≤ 8) (i : Nat) (hi : i < n) (y : Int32) (h : y < 0 ∨ ¬ y < 7) : q_N l D (q_ty T) yL_told wsL_told rmL_told [.ref x, .int (nI i), .int y, .ref out] ([q_xc x wa fl tf tb, q_fc fl al u, q_ac al md ar n, q_la T out of] ++ q_tl (T 1) n ar ad F) (q_gL e0) (q_is (some (.int 1)) ([q_xc x wa fl tf tb, q_fc fl al u, q_ac al md ar n, q_la T out of] ++ q_tl (T 1) n ar ad F)) := by
  refine q_startH (cc := cL_told) (maxL := 5) (ret := (some .int)) (hh := [(0, 10, 13, 21)]) (by decide) rfl (Nat.le_of_ble_eq_true rfl) ?_
  intro p e s m args below meth c A H locs hx hb hr hts hown hlocks hml hnm ht hP hK hD hS hA hG ls hl
  have hown : s.vm.findClass RL = some m.cls := hown
  have hC : CallFix p m c cL_told 5 s args wsL_told RL := ⟨hx, hb, hml, hown, hts⟩
  have hl : lv_has ls 5 [(0, .ref x), (1, .int (nI i)), (2, .int y), (3, .ref out)] := hl
  refine lv_aload_n hx hb dL_told_0 rfl (lv_at hl 3 rfl) ?_
  refine lv_iconst (v := 0) hx hb dL_told_1 (by decide) ?_
  refine lv_aload_n hx hb dL_told_2 rfl (lv_at hl 0 rfl) ?_
  refine lv_iload_n hx hb dL_told_3 rfl (lv_at hl 1 rfl) ?_
  refine lv_iload_n hx hb dL_told_4 rfl (lv_at hl 2 rfl) ?_
  refine q_catV (As := [.int (nI i), .int y]) (rs := [.int 0, .ref out]) hC (t_X3_told_f2 l hst D T x wa fl tf tb al ar n md u ad F hn i hi y h) hG.1 (cwV 2 hts gL_told_X3_told rfl rfl rfl (by decide +kernel) ⟨Nat.le_of_ble_eq_true rfl, Nat.le_of_ble_eq_true rfl⟩) (va_recv hK hP (ci := 4) (q0 := 0) rfl rfl) hK hP hD hS hA (q_tmask [true, true, true, false] [q_xc x wa fl tf tb, q_fc fl al u, q_ac al md ar n, q_la T out of] (q_tl (T 1) n ar ad F)) rfl hl.1 rfl (Nat.le_of_ble_eq_true rfl) dL_told_5 ⟨(Nat.le_of_ble_eq_true rfl), (Nat.le_of_ble_eq_true rfl)⟩ hown [] ⟨0, 10, 13, 21⟩ [] (ht.trans rfl) (fun z hz => absurd hz List.not_mem_nil) (by decide) (by decide) (hts (.classLink RL 21 "java/lang/IndexOutOfBoundsException") (by decide +kernel)) q_cs53 (fun q9 H locs hP hD hS => ?_)
  have hP : va_P D vwCl ([q_xc x wa fl tf tb, q_fc fl al u, q_ac al md ar n, q_la T out of] ++ q_tl (T 1) n ar ad F) H := q_P_perm (q_tback [true, true, true, false] [q_xc x wa fl tf tb, q_fc fl al u, q_ac al md ar n] [q_la T out of] (q_tl (T 1) n ar ad F)) hP
  have hD : va_D A ([q_xc x wa fl tf tb, q_fc fl al u, q_ac al md ar n, q_la T out of] ++ q_tl (T 1) n ar ad F) := q_D_perm (q_tback [true, true, true, false] [q_xc x wa fl tf tb, q_fc fl al u, q_ac al md ar n] [q_la T out of] (q_tl (T 1) n ar ad F)) hD
  refine lv_astore (lv' := [(4, .ref q9), (0, .ref x), (1, .int (nI i)), (2, .int y), (3, .ref out)]) hx hb dL_told_13 hl (by decide) rfl (fun ls hl => ?_)
  refine lv_iconst (v := 1) hx hb dL_told_15 (by decide) ?_
  exact vx_ret (q_iret hx hb hr hlocks hP hK hD hS (Nat.le_of_ble_eq_true rfl) (Nat.le_of_ble_eq_true rfl) dL_told_16 ⟨rfl, rfl⟩)
set_option maxHeartbeats 1000000 in
set_option maxRecDepth 100000 in
theorem c_L_about_f1 (l : Launch) (hst : l.stackTraces = false) (D : va_G) (T : Nat → ClassId) (e0 out : Nat) (of : Nat → Int64) (x wa fl tf tb al ar n : Nat) (md : Int32) (u : Nat → Int32) (v y : Int32) (h : v < 0 ∨ ¬ v < nI n) : q_N l D (q_ty T) yL_about wsL_about rmL_about [.ref x, .int v, .int y, .ref out] [q_xc x wa fl tf tb, q_fc fl al u, q_ac al md ar n, q_la T out of] (q_gL e0) (q_is (some (.int 1)) [q_xc x wa fl tf tb, q_fc fl al u, q_ac al md ar n, q_la T out of]) := by
  refine q_startH (cc := cL_about) (maxL := 5) (ret := (some .int)) (hh := [(0, 10, 13, 21)]) (by decide) rfl (Nat.le_of_ble_eq_true rfl) ?_
  intro p e s m args below meth c A H locs hx hb hr hts hown hlocks hml hnm ht hP hK hD hS hA hG ls hl
  have hown : s.vm.findClass RL = some m.cls := hown
  have hC : CallFix p m c cL_about 5 s args wsL_about RL := ⟨hx, hb, hml, hown, hts⟩
  have hl : lv_has ls 5 [(0, .ref x), (1, .int v), (2, .int y), (3, .ref out)] := hl
  refine lv_aload_n hx hb dL_about_0 rfl (lv_at hl 3 rfl) ?_
  refine lv_iconst (v := 0) hx hb dL_about_1 (by decide) ?_
  refine lv_aload_n hx hb dL_about_2 rfl (lv_at hl 0 rfl) ?_
  refine lv_iload_n hx hb dL_about_3 rfl (lv_at hl 1 rfl) ?_
  refine lv_iload_n hx hb dL_about_4 rfl (lv_at hl 2 rfl) ?_
  refine q_catV (As := [.int v, .int y]) (rs := [.int 0, .ref out]) hC (t_X3_about_f1 l hst D T x wa fl tf tb al ar n md u v y h) hG.1 (cwV 2 hts gL_about_X3_about rfl rfl rfl (by decide +kernel) ⟨Nat.le_of_ble_eq_true rfl, Nat.le_of_ble_eq_true rfl⟩) (va_recv hK hP (ci := 4) (q0 := 0) rfl rfl) hK hP hD hS hA (q_mask [true, true, true, false] _) rfl hl.1 rfl (Nat.le_of_ble_eq_true rfl) dL_about_5 ⟨(Nat.le_of_ble_eq_true rfl), (Nat.le_of_ble_eq_true rfl)⟩ hown [] ⟨0, 10, 13, 21⟩ [] (ht.trans rfl) (fun z hz => absurd hz List.not_mem_nil) (by decide) (by decide) (hts (.classLink RL 21 "java/lang/IndexOutOfBoundsException") (by decide +kernel)) q_cs53 (fun q9 H locs hP hD hS => ?_)
  have hP : va_P D vwCl [q_xc x wa fl tf tb, q_fc fl al u, q_ac al md ar n, q_la T out of] H := q_P_perm (q_mrg_perm [true, true, true, false] _ _) hP
  have hD : va_D A [q_xc x wa fl tf tb, q_fc fl al u, q_ac al md ar n, q_la T out of] := q_D_perm (q_mrg_perm [true, true, true, false] _ _) hD
  refine lv_astore (lv' := [(4, .ref q9), (0, .ref x), (1, .int v), (2, .int y), (3, .ref out)]) hx hb dL_about_13 hl (by decide) rfl (fun ls hl => ?_)
  refine lv_iconst (v := 1) hx hb dL_about_15 (by decide) ?_
  exact vx_ret (q_iret hx hb hr hlocks hP hK hD hS (Nat.le_of_ble_eq_true rfl) (Nat.le_of_ble_eq_true rfl) dL_about_16 ⟨rfl, rfl⟩)
set_option maxHeartbeats 1000000 in
set_option maxRecDepth 100000 in
theorem c_L_about_f2 (l : Launch) (hst : l.stackTraces = false) (D : va_G) (T : Nat → ClassId) (e0 out : Nat) (of : Nat → Int64) (x wa fl tf tb al ar n : Nat) (md : Int32) (u : Nat → Int32) (ad : Nat → Nat) (F : Nat → Nat → Int32) (hn : n ≤ 8) (i : Nat) (hi : i < n) (y : Int32) (h : y < 0 ∨ ¬ y < 5) : q_N l D (q_ty T) yL_about wsL_about rmL_about [.ref x, .int (nI i), .int y, .ref out] ([q_xc x wa fl tf tb, q_fc fl al u, q_ac al md ar n, q_la T out of] ++ q_tl (T 1) n ar ad F) (q_gL e0) (q_is (some (.int 1)) ([q_xc x wa fl tf tb, q_fc fl al u, q_ac al md ar n, q_la T out of] ++ q_tl (T 1) n ar ad F)) := by
  refine q_startH (cc := cL_about) (maxL := 5) (ret := (some .int)) (hh := [(0, 10, 13, 21)]) (by decide) rfl (Nat.le_of_ble_eq_true rfl) ?_
  intro p e s m args below meth c A H locs hx hb hr hts hown hlocks hml hnm ht hP hK hD hS hA hG ls hl
  have hown : s.vm.findClass RL = some m.cls := hown
  have hC : CallFix p m c cL_about 5 s args wsL_about RL := ⟨hx, hb, hml, hown, hts⟩
  have hl : lv_has ls 5 [(0, .ref x), (1, .int (nI i)), (2, .int y), (3, .ref out)] := hl
  refine lv_aload_n hx hb dL_about_0 rfl (lv_at hl 3 rfl) ?_
  refine lv_iconst (v := 0) hx hb dL_about_1 (by decide) ?_
  refine lv_aload_n hx hb dL_about_2 rfl (lv_at hl 0 rfl) ?_
  refine lv_iload_n hx hb dL_about_3 rfl (lv_at hl 1 rfl) ?_
  refine lv_iload_n hx hb dL_about_4 rfl (lv_at hl 2 rfl) ?_
  refine q_catV (As := [.int (nI i), .int y]) (rs := [.int 0, .ref out]) hC (t_X3_about_f2 l hst D T x wa fl tf tb al ar n md u ad F hn i hi y h) hG.1 (cwV 2 hts gL_about_X3_about rfl rfl rfl (by decide +kernel) ⟨Nat.le_of_ble_eq_true rfl, Nat.le_of_ble_eq_true rfl⟩) (va_recv hK hP (ci := 4) (q0 := 0) rfl rfl) hK hP hD hS hA (q_tmask [true, true, true, false] [q_xc x wa fl tf tb, q_fc fl al u, q_ac al md ar n, q_la T out of] (q_tl (T 1) n ar ad F)) rfl hl.1 rfl (Nat.le_of_ble_eq_true rfl) dL_about_5 ⟨(Nat.le_of_ble_eq_true rfl), (Nat.le_of_ble_eq_true rfl)⟩ hown [] ⟨0, 10, 13, 21⟩ [] (ht.trans rfl) (fun z hz => absurd hz List.not_mem_nil) (by decide) (by decide) (hts (.classLink RL 21 "java/lang/IndexOutOfBoundsException") (by decide +kernel)) q_cs53 (fun q9 H locs hP hD hS => ?_)
  have hP : va_P D vwCl ([q_xc x wa fl tf tb, q_fc fl al u, q_ac al md ar n, q_la T out of] ++ q_tl (T 1) n ar ad F) H := q_P_perm (q_tback [true, true, true, false] [q_xc x wa fl tf tb, q_fc fl al u, q_ac al md ar n] [q_la T out of] (q_tl (T 1) n ar ad F)) hP
  have hD : va_D A ([q_xc x wa fl tf tb, q_fc fl al u, q_ac al md ar n, q_la T out of] ++ q_tl (T 1) n ar ad F) := q_D_perm (q_tback [true, true, true, false] [q_xc x wa fl tf tb, q_fc fl al u, q_ac al md ar n] [q_la T out of] (q_tl (T 1) n ar ad F)) hD
  refine lv_astore (lv' := [(4, .ref q9), (0, .ref x), (1, .int (nI i)), (2, .int y), (3, .ref out)]) hx hb dL_about_13 hl (by decide) rfl (fun ls hl => ?_)
  refine lv_iconst (v := 1) hx hb dL_about_15 (by decide) ?_
  exact vx_ret (q_iret hx hb hr hlocks hP hK hD hS (Nat.le_of_ble_eq_true rfl) (Nat.le_of_ble_eq_true rfl) dL_about_16 ⟨rfl, rfl⟩)
abbrev rmL_count : Room := { frames := 8, cells := 1, slots := 6, locals := 133 }
set_option maxHeartbeats 1000000 in
set_option maxRecDepth 100000 in
theorem c_L_count_ok (l : Launch) (D : va_G) (T : Nat → ClassId) (e0 out : Nat) (of : Nat → Int64) (x tf tb fl al ar n : Nat) (md : Int32) (u : Nat → Int32) (ad : Nat → Nat) (F : Nat → Nat → Int32) (hn : n ≤ 8) (wa wi ja k mk : Nat) (len : Int32) (ju wf : Nat → Int32) (hk : k ≤ 3) (hm : u 0 = nI mk) (hmk : mk < 2 ^ 31) (q : Nat) (ho : q < 9) : q_N l D (q_ty T) yL_count wsL_count rmL_count [.ref x, .int (nI q), .ref out] ([q_xc x wa fl tf tb, q_fc fl al u, q_ac al md ar n, q_wc wa len wi ja, q_ia T wi 10 wf, q_ia T ja k ju, q_la T out of] ++ q_tl (T 1) n ar ad F) (q_gL e0) (q_is (some (.int 0)) ([q_xc x wa fl tf tb, q_fc fl al u, q_ac al md ar n, q_wc wa len wi ja, q_ia T wi 10 wf, q_ia T ja k ju, q_la T out (vp_updL of 0 (((qCnt (u 0) (wf (mk % 10)) (nI n) (nI k) (u 1) (if u 2 = 0 then 0 else 1) (if u 2 = 0 then 0 else q_sum (dSt F 1) n) (q_sum (dCol F 3) n) (q_sum (dCol F 4) n)) q)).toInt64)] ++ q_tl (T 1) n ar ad F)) := by
  refine q_startH (cc := cL_count) (maxL := 4) (ret := (some .int)) (hh := [(0, 9, 12, 21)]) (by decide) rfl (Nat.le_of_ble_eq_true rfl) ?_
  intro p e s m args below meth c A H locs hx hb hr hts hown hlocks hml hnm ht hP hK hD hS hA hG ls hl
  have hown : s.vm.findClass RL = some m.cls := hown
  have hC : CallFix p m c cL_count 4 s args wsL_count RL := ⟨hx, hb, hml, hown, hts⟩
  have hl : lv_has ls 4 [(0, .ref x), (1, .int (nI q)), (2, .ref out)] := hl
  refine lv_aload_n hx hb dL_count_0 rfl (lv_at hl 2 rfl) ?_
  refine lv_iconst (v := 0) hx hb dL_count_1 (by decide) ?_
  refine lv_aload_n hx hb dL_count_2 rfl (lv_at hl 0 rfl) ?_
  refine lv_iload_n hx hb dL_count_3 rfl (lv_at hl 1 rfl) ?_
  refine q_callV (As := [.int (nI q)]) (rs := [.int 0, .ref out]) hC (c_X3_count_ok l D T x tf tb fl al ar n md u ad F hn wa wi ja k mk len ju wf hk hm hmk q ho) q_no_st q_no_at (cwV 1 hts gL_count_X3_count rfl rfl rfl (by decide +kernel) ⟨Nat.le_of_ble_eq_true rfl, Nat.le_of_ble_eq_true rfl⟩) (va_recv hK hP (ci := 4) (q0 := 0) rfl rfl) hK hP hD hS hA (q_tmask [true, true, true, true, true, true, false] [q_xc x wa fl tf tb, q_fc fl al u, q_ac al md ar n, q_wc wa len wi ja, q_ia T wi 10 wf, q_ia T ja k ju, q_la T out of] (q_tl (T 1) n ar ad F)) rfl hl.1 rfl (Nat.le_of_ble_eq_true rfl) dL_count_4 ⟨(Nat.le_of_ble_eq_true rfl), (Nat.le_of_ble_eq_true rfl)⟩ (fun v9 C9 H locs hp hP hD hS => ?_)
  obtain ⟨rfl, rfl⟩ := hp
  have hP : va_P D vwCl ([q_xc x wa fl tf tb, q_fc fl al u, q_ac al md ar n, q_wc wa len wi ja, q_ia T wi 10 wf, q_ia T ja k ju, q_la T out of] ++ q_tl (T 1) n ar ad F) H := q_P_perm (q_tback [true, true, true, true, true, true, false] [q_xc x wa fl tf tb, q_fc fl al u, q_ac al md ar n, q_wc wa len wi ja, q_ia T wi 10 wf, q_ia T ja k ju] [q_la T out of] (q_tl (T 1) n ar ad F)) hP
  have hD : va_D A ([q_xc x wa fl tf tb, q_fc fl al u, q_ac al md ar n, q_wc wa len wi ja, q_ia T wi 10 wf, q_ia T ja k ju, q_la T out of] ++ q_tl (T 1) n ar ad F) := q_D_perm (q_tback [true, true, true, true, true, true, false] [q_xc x wa fl tf tb, q_fc fl al u, q_ac al md ar n, q_wc wa len wi ja, q_ia T wi 10 wf, q_ia T ja k ju] [q_la T out of] (q_tl (T 1) n ar ad F)) hD
  refine lv_i2l hx hb dL_count_7 rfl ?_
  refine va_last (D := D) hx hb hK hP hD hS 6 3 rfl rfl (by unfold vp_in; decide) dL_count_8 (fun H locs hP hD hS => ?_)
  rw [show (0 : Int32).toNatClampNeg = 0 from by decide] at hP hD
  have hP : va_P D vwCl ([q_xc x wa fl tf tb, q_fc fl al u, q_ac al md ar n, q_wc wa len wi ja, q_ia T wi 10 wf, q_ia T ja k ju, q_la T out (vp_updL of 0 ((((qCnt (u 0) (wf (mk % 10)) (nI n) (nI k) (u 1) (if u 2 = 0 then 0 else 1) (if u 2 = 0 then 0 else q_sum (dSt F 1) n) (q_sum (dCol F 3) n) (q_sum (dCol F 4) n)) q)).toInt64))] ++ q_tl (T 1) n ar ad F) H := hP
  have hD : va_D A ([q_xc x wa fl tf tb, q_fc fl al u, q_ac al md ar n, q_wc wa len wi ja, q_ia T wi 10 wf, q_ia T ja k ju, q_la T out (vp_updL of 0 ((((qCnt (u 0) (wf (mk % 10)) (nI n) (nI k) (u 1) (if u 2 = 0 then 0 else 1) (if u 2 = 0 then 0 else q_sum (dSt F 1) n) (q_sum (dCol F 3) n) (q_sum (dCol F 4) n)) q)).toInt64))] ++ q_tl (T 1) n ar ad F) := hD
  refine lv_goto (tgt := 15) hx hb dL_count_9 (by decide) ?_
  refine lv_iconst (v := 0) hx hb dL_count_15 (by decide) ?_
  exact vx_ret (q_iret hx hb hr hlocks hP hK hD hS (Nat.le_of_ble_eq_true rfl) (Nat.le_of_ble_eq_true rfl) dL_count_16 ⟨rfl, rfl⟩)
set_option maxHeartbeats 1000000 in
set_option maxRecDepth 100000 in
theorem c_L_count_f1 (l : Launch) (hst : l.stackTraces = false) (D : va_G) (T : Nat → ClassId) (e0 out : Nat) (of : Nat → Int64) (x wa fl tf tb : Nat) (v : Int32) (h : v < 0 ∨ ¬ v < 9) : q_N l D (q_ty T) yL_count wsL_count rmL_count [.ref x, .int v, .ref out] [q_xc x wa fl tf tb, q_la T out of] (q_gL e0) (q_is (some (.int 1)) [q_xc x wa fl tf tb, q_la T out of]) := by
  refine q_startH (cc := cL_count) (maxL := 4) (ret := (some .int)) (hh := [(0, 9, 12, 21)]) (by decide) rfl (Nat.le_of_ble_eq_true rfl) ?_
  intro p e s m args below meth c A H locs hx hb hr hts hown hlocks hml hnm ht hP hK hD hS hA hG ls hl
  have hown : s.vm.findClass RL = some m.cls := hown
  have hC : CallFix p m c cL_count 4 s args wsL_count RL := ⟨hx, hb, hml, hown, hts⟩
  have hl : lv_has ls 4 [(0, .ref x), (1, .int v), (2, .ref out)] := hl
  refine lv_aload_n hx hb dL_count_0 rfl (lv_at hl 2 rfl) ?_
  refine lv_iconst (v := 0) hx hb dL_count_1 (by decide) ?_
  refine lv_aload_n hx hb dL_count_2 rfl (lv_at hl 0 rfl) ?_
  refine lv_iload_n hx hb dL_count_3 rfl (lv_at hl 1 rfl) ?_
  refine q_catV (As := [.int v]) (rs := [.int 0, .ref out]) hC (t_X3_count_f1 l hst D T x wa fl tf tb v h) hG.1 (cwV 1 hts gL_count_X3_count rfl rfl rfl (by decide +kernel) ⟨Nat.le_of_ble_eq_true rfl, Nat.le_of_ble_eq_true rfl⟩) (va_recv hK hP (ci := 4) (q0 := 0) rfl rfl) hK hP hD hS hA (q_mask [true, false] _) rfl hl.1 rfl (Nat.le_of_ble_eq_true rfl) dL_count_4 ⟨(Nat.le_of_ble_eq_true rfl), (Nat.le_of_ble_eq_true rfl)⟩ hown [] ⟨0, 9, 12, 21⟩ [] (ht.trans rfl) (fun z hz => absurd hz List.not_mem_nil) (by decide) (by decide) (hts (.classLink RL 21 "java/lang/IndexOutOfBoundsException") (by decide +kernel)) q_cs53 (fun q9 H locs hP hD hS => ?_)
  have hP : va_P D vwCl [q_xc x wa fl tf tb, q_la T out of] H := q_P_perm (q_mrg_perm [true, false] _ _) hP
  have hD : va_D A [q_xc x wa fl tf tb, q_la T out of] := q_D_perm (q_mrg_perm [true, false] _ _) hD
  refine lv_astore_n (lv' := [(3, .ref q9), (0, .ref x), (1, .int v), (2, .ref out)]) hx hb dL_count_12 rfl hl (by decide) rfl (fun ls hl => ?_)
  refine lv_iconst (v := 1) hx hb dL_count_13 (by decide) ?_
  exact vx_ret (q_iret hx hb hr hlocks hP hK hD hS (Nat.le_of_ble_eq_true rfl) (Nat.le_of_ble_eq_true rfl) dL_count_14 ⟨rfl, rfl⟩)
abbrev rmL_falls : Room := { frames := 9, cells := 1, slots := 6, locals := 155 }
set_option maxHeartbeats 1000000 in
set_option maxRecDepth 100000 in
theorem c_L_falls_ok (l : Launch) (D : va_G) (T : Nat → ClassId) (e0 out : Nat) (of : Nat → Int64) (x tf tb fl al ar n : Nat) (md : Int32) (u : Nat → Int32) (ad : Nat → Nat) (F : Nat → Nat → Int32) (hn : n ≤ 8) (wa wi ja k mk : Nat) (len : Int32) (ju wf : Nat → Int32) (hk : k ≤ 3) (hm : u 0 = nI mk) (hmk : mk < 2 ^ 31) (i : Nat) (v : Int32) (hi : i < n) (h1 : ¬ v < 0) (h2 : v ≤ 9) : q_N l D (q_ty T) yL_falls wsL_falls rmL_falls [.ref x, .int (nI i), .int v, .ref out] ([q_xc x wa fl tf tb, q_fc fl al u, q_ac al md ar n, q_wc wa len wi ja, q_ia T wi 10 wf, q_ia T ja k ju, q_la T out of] ++ q_tl (T 1) n ar ad F) (q_gL e0) (q_is (some (.int 0)) ([q_xc x wa fl tf tb, q_fc fl al u, q_ac al md ar n, q_wc wa len wi ja, q_ia T wi 10 wf, q_ia T ja k ju, q_la T out (vp_updL of 0 (if bHeel (F i) v ≤ 30 then 0 else 1))] ++ q_tl (T 1) n ar ad F)) := by
  refine q_startH (cc := cL_falls) (maxL := 5) (ret := (some .int)) (hh := [(0, 17, 20, 21), (0, 17, 24, 13)]) (by decide) rfl (Nat.le_of_ble_eq_true rfl) ?_
  intro p e s m args below meth c A H locs hx hb hr hts hown hlocks hml hnm ht hP hK hD hS hA hG ls hl
  have hown : s.vm.findClass RL = some m.cls := hown
  have hC : CallFix p m c cL_falls 5 s args wsL_falls RL := ⟨hx, hb, hml, hown, hts⟩
  have hl : lv_has ls 5 [(0, .ref x), (1, .int (nI i)), (2, .int v), (3, .ref out)] := hl
  refine lv_aload_n hx hb dL_falls_0 rfl (lv_at hl 3 rfl) ?_
  refine lv_iconst (v := 0) hx hb dL_falls_1 (by decide) ?_
  refine lv_aload_n hx hb dL_falls_2 rfl (lv_at hl 0 rfl) ?_
  refine lv_iload_n hx hb dL_falls_3 rfl (lv_at hl 1 rfl) ?_
  refine lv_iload_n hx hb dL_falls_4 rfl (lv_at hl 2 rfl) ?_
  refine q_callV (As := [.int (nI i), .int v]) (rs := [.int 0, .ref out]) hC (c_X3_falls_ok l D T x tf tb fl al ar n md u ad F hn wa wi ja k mk len ju wf hk hm hmk i v hi h1 h2) q_no_st q_no_at (cwV 2 hts gL_falls_X3_falls rfl rfl rfl (by decide +kernel) ⟨Nat.le_of_ble_eq_true rfl, Nat.le_of_ble_eq_true rfl⟩) (va_recv hK hP (ci := 4) (q0 := 0) rfl rfl) hK hP hD hS hA (q_tmask [true, true, true, true, true, true, false] [q_xc x wa fl tf tb, q_fc fl al u, q_ac al md ar n, q_wc wa len wi ja, q_ia T wi 10 wf, q_ia T ja k ju, q_la T out of] (q_tl (T 1) n ar ad F)) rfl hl.1 rfl (Nat.le_of_ble_eq_true rfl) dL_falls_5 ⟨(Nat.le_of_ble_eq_true rfl), (Nat.le_of_ble_eq_true rfl)⟩ (fun v9 C9 H locs hp hP hD hS => ?_)
  obtain ⟨rfl, rfl⟩ := hp
  have hP : va_P D vwCl ([q_xc x wa fl tf tb, q_fc fl al u, q_ac al md ar n, q_wc wa len wi ja, q_ia T wi 10 wf, q_ia T ja k ju, q_la T out of] ++ q_tl (T 1) n ar ad F) H := q_P_perm (q_tback [true, true, true, true, true, true, false] [q_xc x wa fl tf tb, q_fc fl al u, q_ac al md ar n, q_wc wa len wi ja, q_ia T wi 10 wf, q_ia T ja k ju] [q_la T out of] (q_tl (T 1) n ar ad F)) hP
  have hD : va_D A ([q_xc x wa fl tf tb, q_fc fl al u, q_ac al md ar n, q_wc wa len wi ja, q_ia T wi 10 wf, q_ia T ja k ju, q_la T out of] ++ q_tl (T 1) n ar ad F) := q_D_perm (q_tback [true, true, true, true, true, true, false] [q_xc x wa fl tf tb, q_fc fl al u, q_ac al md ar n, q_wc wa len wi ja, q_ia T wi 10 wf, q_ia T ja k ju] [q_la T out of] (q_tl (T 1) n ar ad F)) hD
  by_cases c9 : bHeel (F i) v ≤ 30
  · refine W.eq (g2 := F0 m 8 ls [.int 0, .int 0, .ref out]) (by rw [if_pos c9] <;> rfl) ?_
    refine lv_if_eq (tgt := 15) hx hb dL_falls_8 (by decide) (fun _ => ?_) (fun c_8 => absurd c_8 (by decide))
    refine lv_lconst (v := 0) hx hb dL_falls_15 (by decide) ?_
    refine va_last (D := D) hx hb hK hP hD hS 6 3 rfl rfl (by unfold vp_in; decide) dL_falls_16 (fun H locs hP hD hS => ?_)
    rw [show (0 : Int32).toNatClampNeg = 0 from by decide] at hP hD
    have hP : va_P D vwCl ([q_xc x wa fl tf tb, q_fc fl al u, q_ac al md ar n, q_wc wa len wi ja, q_ia T wi 10 wf, q_ia T ja k ju, q_la T out (vp_updL of 0 0)] ++ q_tl (T 1) n ar ad F) H := hP
    have hD : va_D A ([q_xc x wa fl tf tb, q_fc fl al u, q_ac al md ar n, q_wc wa len wi ja, q_ia T wi 10 wf, q_ia T ja k ju, q_la T out (vp_updL of 0 0)] ++ q_tl (T 1) n ar ad F) := hD
    refine lv_goto (tgt := 28) hx hb dL_falls_17 (by decide) ?_
    refine lv_iconst (v := 0) hx hb dL_falls_28 (by decide) ?_
    exact vx_ret (q_iret hx hb hr hlocks hP hK hD hS (Nat.le_of_ble_eq_true rfl) (Nat.le_of_ble_eq_true rfl) dL_falls_29 ⟨rfl, by first | rw [if_pos c9] | rw [if_neg c9]⟩)
  · refine W.eq (g2 := F0 m 8 ls [.int 1, .int 0, .ref out]) (by rw [if_neg c9] <;> rfl) ?_
    refine lv_if_eq (tgt := 15) hx hb dL_falls_8 (by decide) (fun c_8 => absurd c_8 (by decide)) (fun _ => ?_)
    refine lv_lconst (v := 1) hx hb dL_falls_11 (by decide) ?_
    refine lv_goto (tgt := 16) hx hb dL_falls_12 (by decide) ?_
    refine va_last (D := D) hx hb hK hP hD hS 6 3 rfl rfl (by unfold vp_in; decide) dL_falls_16 (fun H locs hP hD hS => ?_)
    rw [show (0 : Int32).toNatClampNeg = 0 from by decide] at hP hD
    have hP : va_P D vwCl ([q_xc x wa fl tf tb, q_fc fl al u, q_ac al md ar n, q_wc wa len wi ja, q_ia T wi 10 wf, q_ia T ja k ju, q_la T out (vp_updL of 0 1)] ++ q_tl (T 1) n ar ad F) H := hP
    have hD : va_D A ([q_xc x wa fl tf tb, q_fc fl al u, q_ac al md ar n, q_wc wa len wi ja, q_ia T wi 10 wf, q_ia T ja k ju, q_la T out (vp_updL of 0 1)] ++ q_tl (T 1) n ar ad F) := hD
    refine lv_goto (tgt := 28) hx hb dL_falls_17 (by decide) ?_
    refine lv_iconst (v := 0) hx hb dL_falls_28 (by decide) ?_
    exact vx_ret (q_iret hx hb hr hlocks hP hK hD hS (Nat.le_of_ble_eq_true rfl) (Nat.le_of_ble_eq_true rfl) dL_falls_29 ⟨rfl, by first | rw [if_pos c9] | rw [if_neg c9]⟩)
set_option maxHeartbeats 1000000 in
set_option maxRecDepth 100000 in
theorem c_L_falls_f1 (l : Launch) (hst : l.stackTraces = false) (D : va_G) (T : Nat → ClassId) (e0 out : Nat) (of : Nat → Int64) (x wa fl tf tb al ar n : Nat) (md : Int32) (u : Nat → Int32) (v y : Int32) (h : v < 0 ∨ ¬ v < nI n) : q_N l D (q_ty T) yL_falls wsL_falls rmL_falls [.ref x, .int v, .int y, .ref out] [q_xc x wa fl tf tb, q_fc fl al u, q_ac al md ar n, q_la T out of] (q_gL e0) (q_is (some (.int 1)) [q_xc x wa fl tf tb, q_fc fl al u, q_ac al md ar n, q_la T out of]) := by
  refine q_startH (cc := cL_falls) (maxL := 5) (ret := (some .int)) (hh := [(0, 17, 20, 21), (0, 17, 24, 13)]) (by decide) rfl (Nat.le_of_ble_eq_true rfl) ?_
  intro p e s m args below meth c A H locs hx hb hr hts hown hlocks hml hnm ht hP hK hD hS hA hG ls hl
  have hown : s.vm.findClass RL = some m.cls := hown
  have hC : CallFix p m c cL_falls 5 s args wsL_falls RL := ⟨hx, hb, hml, hown, hts⟩
  have hl : lv_has ls 5 [(0, .ref x), (1, .int v), (2, .int y), (3, .ref out)] := hl
  refine lv_aload_n hx hb dL_falls_0 rfl (lv_at hl 3 rfl) ?_
  refine lv_iconst (v := 0) hx hb dL_falls_1 (by decide) ?_
  refine lv_aload_n hx hb dL_falls_2 rfl (lv_at hl 0 rfl) ?_
  refine lv_iload_n hx hb dL_falls_3 rfl (lv_at hl 1 rfl) ?_
  refine lv_iload_n hx hb dL_falls_4 rfl (lv_at hl 2 rfl) ?_
  refine q_catV (As := [.int v, .int y]) (rs := [.int 0, .ref out]) hC (t_X3_falls_f1 l hst D T x wa fl tf tb al ar n md u v y h) hG.1 (cwV 2 hts gL_falls_X3_falls rfl rfl rfl (by decide +kernel) ⟨Nat.le_of_ble_eq_true rfl, Nat.le_of_ble_eq_true rfl⟩) (va_recv hK hP (ci := 4) (q0 := 0) rfl rfl) hK hP hD hS hA (q_mask [true, true, true, false] _) rfl hl.1 rfl (Nat.le_of_ble_eq_true rfl) dL_falls_5 ⟨(Nat.le_of_ble_eq_true rfl), (Nat.le_of_ble_eq_true rfl)⟩ hown [] ⟨0, 17, 20, 21⟩ [⟨0, 17, 24, 13⟩] (ht.trans rfl) (fun z hz => absurd hz List.not_mem_nil) (by decide) (by decide) (hts (.classLink RL 21 "java/lang/IndexOutOfBoundsException") (by decide +kernel)) q_cs53 (fun q9 H locs hP hD hS => ?_)
  have hP : va_P D vwCl [q_xc x wa fl tf tb, q_fc fl al u, q_ac al md ar n, q_la T out of] H := q_P_perm (q_mrg_perm [true, true, true, false] _ _) hP
  have hD : va_D A [q_xc x wa fl tf tb, q_fc fl al u, q_ac al md ar n, q_la T out of] := q_D_perm (q_mrg_perm [true, true, true, false] _ _) hD
  refine lv_astore (lv' := [(4, .ref q9), (0, .ref x), (1, .int v), (2, .int y), (3, .ref out)]) hx hb dL_falls_20 hl (by decide) rfl (fun ls hl => ?_)
  refine lv_iconst (v := 1) hx hb dL_falls_22 (by decide) ?_
  exact vx_ret (q_iret hx hb hr hlocks hP hK hD hS (Nat.le_of_ble_eq_true rfl) (Nat.le_of_ble_eq_true rfl) dL_falls_23 ⟨rfl, rfl⟩)
set_option maxHeartbeats 1000000 in
set_option maxRecDepth 100000 in
theorem c_L_falls_f2 (l : Launch) (hst : l.stackTraces = false) (D : va_G) (T : Nat → ClassId) (e0 out : Nat) (of : Nat → Int64) (x wa fl tf tb al ar n : Nat) (md : Int32) (u : Nat → Int32) (ad : Nat → Nat) (F : Nat → Nat → Int32) (hn : n ≤ 8) (i : Nat) (hi : i < n) (y : Int32) (h : y < 0 ∨ ¬ y ≤ 9) : q_N l D (q_ty T) yL_falls wsL_falls rmL_falls [.ref x, .int (nI i), .int y, .ref out] ([q_xc x wa fl tf tb, q_fc fl al u, q_ac al md ar n, q_la T out of] ++ q_tl (T 1) n ar ad F) (q_gL e0) (q_is (some (.int 2)) ([q_xc x wa fl tf tb, q_fc fl al u, q_ac al md ar n, q_la T out of] ++ q_tl (T 1) n ar ad F)) := by
  refine q_startH (cc := cL_falls) (maxL := 5) (ret := (some .int)) (hh := [(0, 17, 20, 21), (0, 17, 24, 13)]) (by decide) rfl (Nat.le_of_ble_eq_true rfl) ?_
  intro p e s m args below meth c A H locs hx hb hr hts hown hlocks hml hnm ht hP hK hD hS hA hG ls hl
  have hown : s.vm.findClass RL = some m.cls := hown
  have hC : CallFix p m c cL_falls 5 s args wsL_falls RL := ⟨hx, hb, hml, hown, hts⟩
  have hl : lv_has ls 5 [(0, .ref x), (1, .int (nI i)), (2, .int y), (3, .ref out)] := hl
  refine lv_aload_n hx hb dL_falls_0 rfl (lv_at hl 3 rfl) ?_
  refine lv_iconst (v := 0) hx hb dL_falls_1 (by decide) ?_
  refine lv_aload_n hx hb dL_falls_2 rfl (lv_at hl 0 rfl) ?_
  refine lv_iload_n hx hb dL_falls_3 rfl (lv_at hl 1 rfl) ?_
  refine lv_iload_n hx hb dL_falls_4 rfl (lv_at hl 2 rfl) ?_
  refine q_catV (As := [.int (nI i), .int y]) (rs := [.int 0, .ref out]) hC (t_X3_falls_f2 l hst D T x wa fl tf tb al ar n md u ad F hn i hi y h) hG.1 (cwV 2 hts gL_falls_X3_falls rfl rfl rfl (by decide +kernel) ⟨Nat.le_of_ble_eq_true rfl, Nat.le_of_ble_eq_true rfl⟩) (va_recv hK hP (ci := 4) (q0 := 0) rfl rfl) hK hP hD hS hA (q_tmask [true, true, true, false] [q_xc x wa fl tf tb, q_fc fl al u, q_ac al md ar n, q_la T out of] (q_tl (T 1) n ar ad F)) rfl hl.1 rfl (Nat.le_of_ble_eq_true rfl) dL_falls_5 ⟨(Nat.le_of_ble_eq_true rfl), (Nat.le_of_ble_eq_true rfl)⟩ hown [⟨0, 17, 20, 21⟩] ⟨0, 17, 24, 13⟩ [] (ht.trans rfl) (List.forall_mem_cons.mpr ⟨Or.inr ⟨by decide, q_E53, (hts (.classLink RL 21 "java/lang/IndexOutOfBoundsException") (by decide +kernel)), hG.2.2.2.2⟩, (fun z hz => absurd hz List.not_mem_nil)⟩) (by decide) (by decide) (hts (.classLink RL 13 "java/lang/IllegalArgumentException") (by decide +kernel)) q_cs39 (fun q9 H locs hP hD hS => ?_)
  have hP : va_P D vwCl ([q_xc x wa fl tf tb, q_fc fl al u, q_ac al md ar n, q_la T out of] ++ q_tl (T 1) n ar ad F) H := q_P_perm (q_tback [true, true, true, false] [q_xc x wa fl tf tb, q_fc fl al u, q_ac al md ar n] [q_la T out of] (q_tl (T 1) n ar ad F)) hP
  have hD : va_D A ([q_xc x wa fl tf tb, q_fc fl al u, q_ac al md ar n, q_la T out of] ++ q_tl (T 1) n ar ad F) := q_D_perm (q_tback [true, true, true, false] [q_xc x wa fl tf tb, q_fc fl al u, q_ac al md ar n] [q_la T out of] (q_tl (T 1) n ar ad F)) hD
  refine lv_astore (lv' := [(4, .ref q9), (0, .ref x), (1, .int (nI i)), (2, .int y), (3, .ref out)]) hx hb dL_falls_24 hl (by decide) rfl (fun ls hl => ?_)
  refine lv_iconst (v := 2) hx hb dL_falls_26 (by decide) ?_
  exact vx_ret (q_iret hx hb hr hlocks hP hK hD hS (Nat.le_of_ble_eq_true rfl) (Nat.le_of_ble_eq_true rfl) dL_falls_27 ⟨rfl, rfl⟩)
abbrev rmL_when : Room := { frames := 8, cells := 1, slots := 6, locals := 177 }
set_option maxHeartbeats 1000000 in
set_option maxRecDepth 100000 in
theorem c_L_when_no (l : Launch) (D : va_G) (T : Nat → ClassId) (e0 out : Nat) (of : Nat → Int64) (x tf tb fl al ar n ta br : Nat) (md me : Int32) (u v : Nat → Int32) (ad bd : Nat → Nat) (F K : Nat → Nat → Int32) (hn : n ≤ 8) (wa wi ja k mk : Nat) (len : Int32) (ju wf : Nat → Int32) (hk : k ≤ 3) (hm : u 0 = nI mk) (hmk : mk < 2 ^ 30) (i : Nat) (hi : i < n) (h3 : u 2 = 0) : q_N l D (q_ty T) yL_when wsL_when rmL_when [.ref x, .int (nI i), .ref out] ([q_xc x wa fl tf tb, q_fc tf ta v, q_ac ta me br n, q_fc fl al u, q_ac al md ar n, q_wc wa len wi ja, q_ia T wi 10 wf, q_ia T ja k ju, q_la T out of] ++ (q_tl (T 1) n br bd K ++ q_tl (T 1) n ar ad F)) (q_gL e0) (q_is (some (.int 0)) ([q_xc x wa fl tf tb, q_fc tf ta v, q_ac ta me br n, q_fc fl al u, q_ac al md ar n, q_wc wa len wi ja, q_ia T wi 10 wf, q_ia T ja k ju, q_la T out (vp_updL of 0 ((-1)).toInt64)] ++ (q_tl (T 1) n br bd K ++ q_tl (T 1) n ar ad F))) := by
  refine q_startH (cc := cL_when) (maxL := 4) (ret := (some .int)) (hh := [(0, 9, 12, 21)]) (by decide) rfl (Nat.le_of_ble_eq_true rfl) ?_
  intro p e s m args below meth c A H locs hx hb hr hts hown hlocks hml hnm ht hP hK hD hS hA hG ls hl
  have hown : s.vm.findClass RL = some m.cls := hown
  have hC : CallFix p m c cL_when 4 s args wsL_when RL := ⟨hx, hb, hml, hown, hts⟩
  have hl : lv_has ls 4 [(0, .ref x), (1, .int (nI i)), (2, .ref out)] := hl
  refine lv_aload_n hx hb dL_when_0 rfl (lv_at hl 2 rfl) ?_
  refine lv_iconst (v := 0) hx hb dL_when_1 (by decide) ?_
  refine lv_aload_n hx hb dL_when_2 rfl (lv_at hl 0 rfl) ?_
  refine lv_iload_n hx hb dL_when_3 rfl (lv_at hl 1 rfl) ?_
  refine q_callV (As := [.int (nI i)]) (rs := [.int 0, .ref out]) hC (c_X3_when_no l D T x tf tb fl al ar n ta br md me u v ad bd F K hn wa wi ja k mk len ju wf hk hm hmk i hi h3) q_no_st q_no_at (cwV 1 hts gL_when_X3_when rfl rfl rfl (by decide +kernel) ⟨Nat.le_of_ble_eq_true rfl, Nat.le_of_ble_eq_true rfl⟩) (va_recv hK hP (ci := 4) (q0 := 0) rfl rfl) hK hP hD hS hA (q_tmask [true, true, true, true, true, true, true, true, false] [q_xc x wa fl tf tb, q_fc tf ta v, q_ac ta me br n, q_fc fl al u, q_ac al md ar n, q_wc wa len wi ja, q_ia T wi 10 wf, q_ia T ja k ju, q_la T out of] ((q_tl (T 1) n br bd K ++ q_tl (T 1) n ar ad F))) rfl hl.1 rfl (Nat.le_of_ble_eq_true rfl) dL_when_4 ⟨(Nat.le_of_ble_eq_true rfl), (Nat.le_of_ble_eq_true rfl)⟩ (fun v9 C9 H locs hp hP hD hS => ?_)
  obtain ⟨rfl, rfl⟩ := hp
  have hP : va_P D vwCl ([q_xc x wa fl tf tb, q_fc tf ta v, q_ac ta me br n, q_fc fl al u, q_ac al md ar n, q_wc wa len wi ja, q_ia T wi 10 wf, q_ia T ja k ju, q_la T out of] ++ (q_tl (T 1) n br bd K ++ q_tl (T 1) n ar ad F)) H := q_P_perm (q_tback [true, true, true, true, true, true, true, true, false] [q_xc x wa fl tf tb, q_fc tf ta v, q_ac ta me br n, q_fc fl al u, q_ac al md ar n, q_wc wa len wi ja, q_ia T wi 10 wf, q_ia T ja k ju] [q_la T out of] ((q_tl (T 1) n br bd K ++ q_tl (T 1) n ar ad F))) hP
  have hD : va_D A ([q_xc x wa fl tf tb, q_fc tf ta v, q_ac ta me br n, q_fc fl al u, q_ac al md ar n, q_wc wa len wi ja, q_ia T wi 10 wf, q_ia T ja k ju, q_la T out of] ++ (q_tl (T 1) n br bd K ++ q_tl (T 1) n ar ad F)) := q_D_perm (q_tback [true, true, true, true, true, true, true, true, false] [q_xc x wa fl tf tb, q_fc tf ta v, q_ac ta me br n, q_fc fl al u, q_ac al md ar n, q_wc wa len wi ja, q_ia T wi 10 wf, q_ia T ja k ju] [q_la T out of] ((q_tl (T 1) n br bd K ++ q_tl (T 1) n ar ad F))) hD
  refine lv_i2l hx hb dL_when_7 rfl ?_
  refine va_last (D := D) hx hb hK hP hD hS 8 3 rfl rfl (by unfold vp_in; decide) dL_when_8 (fun H locs hP hD hS => ?_)
  rw [show (0 : Int32).toNatClampNeg = 0 from by decide] at hP hD
  have hP : va_P D vwCl ([q_xc x wa fl tf tb, q_fc tf ta v, q_ac ta me br n, q_fc fl al u, q_ac al md ar n, q_wc wa len wi ja, q_ia T wi 10 wf, q_ia T ja k ju, q_la T out (vp_updL of 0 (((-1)).toInt64))] ++ (q_tl (T 1) n br bd K ++ q_tl (T 1) n ar ad F)) H := hP
  have hD : va_D A ([q_xc x wa fl tf tb, q_fc tf ta v, q_ac ta me br n, q_fc fl al u, q_ac al md ar n, q_wc wa len wi ja, q_ia T wi 10 wf, q_ia T ja k ju, q_la T out (vp_updL of 0 (((-1)).toInt64))] ++ (q_tl (T 1) n br bd K ++ q_tl (T 1) n ar ad F)) := hD
  refine lv_goto (tgt := 15) hx hb dL_when_9 (by decide) ?_
  refine lv_iconst (v := 0) hx hb dL_when_15 (by decide) ?_
  exact vx_ret (q_iret hx hb hr hlocks hP hK hD hS (Nat.le_of_ble_eq_true rfl) (Nat.le_of_ble_eq_true rfl) dL_when_16 ⟨rfl, rfl⟩)
set_option maxHeartbeats 1000000 in
set_option maxRecDepth 100000 in
theorem c_L_when_ok (l : Launch) (D : va_G) (T : Nat → ClassId) (e0 out : Nat) (of : Nat → Int64) (x tf tb fl al ar n ta br : Nat) (md me : Int32) (u v : Nat → Int32) (ad bd : Nat → Nat) (F K : Nat → Nat → Int32) (hn : n ≤ 8) (wa wi ja k mk : Nat) (len : Int32) (ju wf : Nat → Int32) (hk : k ≤ 3) (hm : u 0 = nI mk) (hmk : mk < 2 ^ 30) (i : Nat) (hi : i < n) (hz : mHz F n) (h3 : ¬ u 2 = 0) (hF10 : ∀ b, b < n → F b 10 = 0 ∨ F b 10 = 1) (hu2 : u 2 = 0 ∨ u 2 = 1) : q_N l D (q_ty T) yL_when wsL_when rmL_when [.ref x, .int (nI i), .ref out] ([q_xc x wa fl tf tb, q_fc tf ta v, q_ac ta me br n, q_fc fl al u, q_ac al md ar n, q_wc wa len wi ja, q_ia T wi 10 wf, q_ia T ja k ju, q_la T out of] ++ (q_tl (T 1) n br bd K ++ q_tl (T 1) n ar ad F)) (q_gL e0) (q_is (some (.int 0)) ([q_xc x wa fl tf tb, q_fc tf ta ((mRun wf ju k len n 60 (F, u)).2), q_ac ta me br n, q_fc fl al u, q_ac al md ar n, q_wc wa len wi ja, q_ia T wi 10 wf, q_ia T ja k ju, q_la T out (vp_updL of 0 (((mRun wf ju k len n 60 (F, u)).1 i 6)).toInt64)] ++ (q_tl (T 1) n br bd ((mRun wf ju k len n 60 (F, u)).1) ++ q_tl (T 1) n ar ad F))) := by
  refine q_startH (cc := cL_when) (maxL := 4) (ret := (some .int)) (hh := [(0, 9, 12, 21)]) (by decide) rfl (Nat.le_of_ble_eq_true rfl) ?_
  intro p e s m args below meth c A H locs hx hb hr hts hown hlocks hml hnm ht hP hK hD hS hA hG ls hl
  have hown : s.vm.findClass RL = some m.cls := hown
  have hC : CallFix p m c cL_when 4 s args wsL_when RL := ⟨hx, hb, hml, hown, hts⟩
  have hl : lv_has ls 4 [(0, .ref x), (1, .int (nI i)), (2, .ref out)] := hl
  refine lv_aload_n hx hb dL_when_0 rfl (lv_at hl 2 rfl) ?_
  refine lv_iconst (v := 0) hx hb dL_when_1 (by decide) ?_
  refine lv_aload_n hx hb dL_when_2 rfl (lv_at hl 0 rfl) ?_
  refine lv_iload_n hx hb dL_when_3 rfl (lv_at hl 1 rfl) ?_
  refine q_callV (As := [.int (nI i)]) (rs := [.int 0, .ref out]) hC (c_X3_when_ok l D T x tf tb fl al ar n ta br md me u v ad bd F K hn wa wi ja k mk len ju wf hk hm hmk i hi hz h3 hF10 hu2) q_no_st q_no_at (cwV 1 hts gL_when_X3_when rfl rfl rfl (by decide +kernel) ⟨Nat.le_of_ble_eq_true rfl, Nat.le_of_ble_eq_true rfl⟩) (va_recv hK hP (ci := 4) (q0 := 0) rfl rfl) hK hP hD hS hA (q_tmask [true, true, true, true, true, true, true, true, false] [q_xc x wa fl tf tb, q_fc tf ta v, q_ac ta me br n, q_fc fl al u, q_ac al md ar n, q_wc wa len wi ja, q_ia T wi 10 wf, q_ia T ja k ju, q_la T out of] ((q_tl (T 1) n br bd K ++ q_tl (T 1) n ar ad F))) rfl hl.1 rfl (Nat.le_of_ble_eq_true rfl) dL_when_4 ⟨(Nat.le_of_ble_eq_true rfl), (Nat.le_of_ble_eq_true rfl)⟩ (fun v9 C9 H locs hp hP hD hS => ?_)
  obtain ⟨rfl, rfl⟩ := hp
  have hP : va_P D vwCl ([q_xc x wa fl tf tb, q_fc tf ta ((mRun wf ju k len n 60 (F, u)).2), q_ac ta me br n, q_fc fl al u, q_ac al md ar n, q_wc wa len wi ja, q_ia T wi 10 wf, q_ia T ja k ju, q_la T out of] ++ (q_tl (T 1) n br bd ((mRun wf ju k len n 60 (F, u)).1) ++ q_tl (T 1) n ar ad F)) H := q_P_perm (q_tback [true, true, true, true, true, true, true, true, false] [q_xc x wa fl tf tb, q_fc tf ta ((mRun wf ju k len n 60 (F, u)).2), q_ac ta me br n, q_fc fl al u, q_ac al md ar n, q_wc wa len wi ja, q_ia T wi 10 wf, q_ia T ja k ju] [q_la T out of] ((q_tl (T 1) n br bd ((mRun wf ju k len n 60 (F, u)).1) ++ q_tl (T 1) n ar ad F))) hP
  have hD : va_D A ([q_xc x wa fl tf tb, q_fc tf ta ((mRun wf ju k len n 60 (F, u)).2), q_ac ta me br n, q_fc fl al u, q_ac al md ar n, q_wc wa len wi ja, q_ia T wi 10 wf, q_ia T ja k ju, q_la T out of] ++ (q_tl (T 1) n br bd ((mRun wf ju k len n 60 (F, u)).1) ++ q_tl (T 1) n ar ad F)) := q_D_perm (q_tback [true, true, true, true, true, true, true, true, false] [q_xc x wa fl tf tb, q_fc tf ta ((mRun wf ju k len n 60 (F, u)).2), q_ac ta me br n, q_fc fl al u, q_ac al md ar n, q_wc wa len wi ja, q_ia T wi 10 wf, q_ia T ja k ju] [q_la T out of] ((q_tl (T 1) n br bd ((mRun wf ju k len n 60 (F, u)).1) ++ q_tl (T 1) n ar ad F))) hD
  refine lv_i2l hx hb dL_when_7 rfl ?_
  refine va_last (D := D) hx hb hK hP hD hS 8 3 rfl rfl (by unfold vp_in; decide) dL_when_8 (fun H locs hP hD hS => ?_)
  rw [show (0 : Int32).toNatClampNeg = 0 from by decide] at hP hD
  have hP : va_P D vwCl ([q_xc x wa fl tf tb, q_fc tf ta ((mRun wf ju k len n 60 (F, u)).2), q_ac ta me br n, q_fc fl al u, q_ac al md ar n, q_wc wa len wi ja, q_ia T wi 10 wf, q_ia T ja k ju, q_la T out (vp_updL of 0 ((((mRun wf ju k len n 60 (F, u)).1 i 6)).toInt64))] ++ (q_tl (T 1) n br bd ((mRun wf ju k len n 60 (F, u)).1) ++ q_tl (T 1) n ar ad F)) H := hP
  have hD : va_D A ([q_xc x wa fl tf tb, q_fc tf ta ((mRun wf ju k len n 60 (F, u)).2), q_ac ta me br n, q_fc fl al u, q_ac al md ar n, q_wc wa len wi ja, q_ia T wi 10 wf, q_ia T ja k ju, q_la T out (vp_updL of 0 ((((mRun wf ju k len n 60 (F, u)).1 i 6)).toInt64))] ++ (q_tl (T 1) n br bd ((mRun wf ju k len n 60 (F, u)).1) ++ q_tl (T 1) n ar ad F)) := hD
  refine lv_goto (tgt := 15) hx hb dL_when_9 (by decide) ?_
  refine lv_iconst (v := 0) hx hb dL_when_15 (by decide) ?_
  exact vx_ret (q_iret hx hb hr hlocks hP hK hD hS (Nat.le_of_ble_eq_true rfl) (Nat.le_of_ble_eq_true rfl) dL_when_16 ⟨rfl, rfl⟩)
set_option maxHeartbeats 1000000 in
set_option maxRecDepth 100000 in
theorem c_L_when_f1 (l : Launch) (hst : l.stackTraces = false) (D : va_G) (T : Nat → ClassId) (e0 out : Nat) (of : Nat → Int64) (x wa fl tf tb al ar n : Nat) (md : Int32) (u : Nat → Int32) (v : Int32) (h : v < 0 ∨ ¬ v < nI n) : q_N l D (q_ty T) yL_when wsL_when rmL_when [.ref x, .int v, .ref out] [q_xc x wa fl tf tb, q_fc fl al u, q_ac al md ar n, q_la T out of] (q_gL e0) (q_is (some (.int 1)) [q_xc x wa fl tf tb, q_fc fl al u, q_ac al md ar n, q_la T out of]) := by
  refine q_startH (cc := cL_when) (maxL := 4) (ret := (some .int)) (hh := [(0, 9, 12, 21)]) (by decide) rfl (Nat.le_of_ble_eq_true rfl) ?_
  intro p e s m args below meth c A H locs hx hb hr hts hown hlocks hml hnm ht hP hK hD hS hA hG ls hl
  have hown : s.vm.findClass RL = some m.cls := hown
  have hC : CallFix p m c cL_when 4 s args wsL_when RL := ⟨hx, hb, hml, hown, hts⟩
  have hl : lv_has ls 4 [(0, .ref x), (1, .int v), (2, .ref out)] := hl
  refine lv_aload_n hx hb dL_when_0 rfl (lv_at hl 2 rfl) ?_
  refine lv_iconst (v := 0) hx hb dL_when_1 (by decide) ?_
  refine lv_aload_n hx hb dL_when_2 rfl (lv_at hl 0 rfl) ?_
  refine lv_iload_n hx hb dL_when_3 rfl (lv_at hl 1 rfl) ?_
  refine q_catV (As := [.int v]) (rs := [.int 0, .ref out]) hC (t_X3_when_f1 l hst D T x wa fl tf tb al ar n md u v h) hG.1 (cwV 1 hts gL_when_X3_when rfl rfl rfl (by decide +kernel) ⟨Nat.le_of_ble_eq_true rfl, Nat.le_of_ble_eq_true rfl⟩) (va_recv hK hP (ci := 4) (q0 := 0) rfl rfl) hK hP hD hS hA (q_mask [true, true, true, false] _) rfl hl.1 rfl (Nat.le_of_ble_eq_true rfl) dL_when_4 ⟨(Nat.le_of_ble_eq_true rfl), (Nat.le_of_ble_eq_true rfl)⟩ hown [] ⟨0, 9, 12, 21⟩ [] (ht.trans rfl) (fun z hz => absurd hz List.not_mem_nil) (by decide) (by decide) (hts (.classLink RL 21 "java/lang/IndexOutOfBoundsException") (by decide +kernel)) q_cs53 (fun q9 H locs hP hD hS => ?_)
  have hP : va_P D vwCl [q_xc x wa fl tf tb, q_fc fl al u, q_ac al md ar n, q_la T out of] H := q_P_perm (q_mrg_perm [true, true, true, false] _ _) hP
  have hD : va_D A [q_xc x wa fl tf tb, q_fc fl al u, q_ac al md ar n, q_la T out of] := q_D_perm (q_mrg_perm [true, true, true, false] _ _) hD
  refine lv_astore_n (lv' := [(3, .ref q9), (0, .ref x), (1, .int v), (2, .ref out)]) hx hb dL_when_12 rfl hl (by decide) rfl (fun ls hl => ?_)
  refine lv_iconst (v := 1) hx hb dL_when_13 (by decide) ?_
  exact vx_ret (q_iret hx hb hr hlocks hP hK hD hS (Nat.le_of_ble_eq_true rfl) (Nat.le_of_ble_eq_true rfl) dL_when_14 ⟨rfl, rfl⟩)
abbrev rmL_advise : Room := { frames := 9, cells := 1, slots := 6, locals := 158 }

theorem c_X3_advise_g2 (l : Launch) (D : va_G) (T : Nat → ClassId) (x tf tb fl al ar n : Nat) (md : Int32) (u : Nat → Int32) (ad : Nat → Nat) (F : Nat → Nat → Int32) (hn : n ≤ 8) (wa wi ja mk : Nat) (len : Int32) (wf rt : Nat → Int32) (hm : u 0 = nI mk) (hmk : mk < 2 ^ 30) (i : Nat) (hi : i < n) (hzl : ∀ z, z ≤ 9 → 0 < 2 + F i 0 + nI z / 2) (h10 : F i 10 = 0 ∨ F i 10 = 1) (tv : Int32) (r2 : Nat → Int32) (h8 : (dAdv (dAT (F i) wf mk len) 10).1 = tv) (h9 : dATb rt (F i) wf mk len 10 = r2) : q_M l D (q_ty T) yX3_advise wsX3_advise rmX3_advise [.ref x, .int (nI i)] ([q_xc x wa fl tf tb, q_fc fl al u, q_ac al md ar n, q_wc wa len wi ja, q_ia T wi 10 wf, q_bc tb rt] ++ q_tl (T 1) n ar ad F) q_no (q_is (some (.int tv)) ([q_xc x wa fl tf tb, q_fc fl al u, q_ac al md ar n, q_wc wa len wi ja, q_ia T wi 10 wf, q_bc tb r2] ++ q_tl (T 1) n ar ad F)) := by
  subst h8
  subst h9
  exact c_X3_advise_ok l D T x tf tb fl al ar n md u ad F hn wa wi ja mk len wf rt hm hmk i hi hzl h10

set_option maxHeartbeats 1000000 in
set_option maxRecDepth 100000 in
theorem c_L_advise_ok (l : Launch) (D : va_G) (T : Nat → ClassId) (e0 out : Nat) (of : Nat → Int64) (x tf tb fl al ar n : Nat) (md : Int32) (u : Nat → Int32) (ad : Nat → Nat) (F : Nat → Nat → Int32) (hn : n ≤ 8) (wa wi ja mk : Nat) (len : Int32) (wf rt : Nat → Int32) (hm : u 0 = nI mk) (hmk : mk < 2 ^ 30) (i : Nat) (hi : i < n) (hzl : ∀ z, z ≤ 9 → 0 < 2 + F i 0 + nI z / 2) (h10 : F i 10 = 0 ∨ F i 10 = 1) (tv : Int32) (r2 : Nat → Int32) (h8 : (dAdv (dAT (F i) wf mk len) 10).1 = tv) (h9 : dATb rt (F i) wf mk len 10 = r2) : q_N l D (q_ty T) yL_advise wsL_advise rmL_advise [.ref x, .int (nI i), .ref out] ([q_xc x wa fl tf tb, q_fc fl al u, q_ac al md ar n, q_wc wa len wi ja, q_ia T wi 10 wf, q_bc tb rt, q_la T out of] ++ q_tl (T 1) n ar ad F) (q_gL e0) (q_is (some (.int 0)) ([q_xc x wa fl tf tb, q_fc fl al u, q_ac al md ar n, q_wc wa len wi ja, q_ia T wi 10 wf, q_bc tb r2, q_la T out (vp_updL of 0 tv.toInt64)] ++ q_tl (T 1) n ar ad F)) := by
  refine q_startH (cc := cL_advise) (maxL := 4) (ret := (some .int)) (hh := [(0, 9, 12, 21)]) (by decide) rfl (Nat.le_of_ble_eq_true rfl) ?_
  intro p e s m args below meth c A H locs hx hb hr hts hown hlocks hml hnm ht hP hK hD hS hA hG ls hl
  have hown : s.vm.findClass RL = some m.cls := hown
  have hC : CallFix p m c cL_advise 4 s args wsL_advise RL := ⟨hx, hb, hml, hown, hts⟩
  have hl : lv_has ls 4 [(0, .ref x), (1, .int (nI i)), (2, .ref out)] := hl
  refine lv_aload_n hx hb dL_advise_0 rfl (lv_at hl 2 rfl) ?_
  refine lv_iconst (v := 0) hx hb dL_advise_1 (by decide) ?_
  refine lv_aload_n hx hb dL_advise_2 rfl (lv_at hl 0 rfl) ?_
  refine lv_iload_n hx hb dL_advise_3 rfl (lv_at hl 1 rfl) ?_
  refine q_callV (As := [.int (nI i)]) (rs := [.int 0, .ref out]) hC (c_X3_advise_g2 l D T x tf tb fl al ar n md u ad F hn wa wi ja mk len wf rt hm hmk i hi hzl h10 tv r2 h8 h9) q_no_st q_no_at (cwV 1 hts gL_advise_X3_advise rfl rfl rfl (by decide +kernel) ⟨Nat.le_of_ble_eq_true rfl, Nat.le_of_ble_eq_true rfl⟩) (va_recv hK hP (ci := 4) (q0 := 0) rfl rfl) hK hP hD hS hA (q_tmask [true, true, true, true, true, true, false] [q_xc x wa fl tf tb, q_fc fl al u, q_ac al md ar n, q_wc wa len wi ja, q_ia T wi 10 wf, q_bc tb rt, q_la T out of] (q_tl (T 1) n ar ad F)) rfl hl.1 rfl (Nat.le_of_ble_eq_true rfl) dL_advise_4 ⟨(Nat.le_of_ble_eq_true rfl), (Nat.le_of_ble_eq_true rfl)⟩ (fun v9 C9 H locs hp hP hD hS => ?_)
  obtain ⟨rfl, rfl⟩ := hp
  have hP : va_P D vwCl ([q_xc x wa fl tf tb, q_fc fl al u, q_ac al md ar n, q_wc wa len wi ja, q_ia T wi 10 wf, q_bc tb r2, q_la T out of] ++ q_tl (T 1) n ar ad F) H := q_P_perm (q_tback [true, true, true, true, true, true, false] [q_xc x wa fl tf tb, q_fc fl al u, q_ac al md ar n, q_wc wa len wi ja, q_ia T wi 10 wf, q_bc tb r2] [q_la T out of] (q_tl (T 1) n ar ad F)) hP
  have hD : va_D A ([q_xc x wa fl tf tb, q_fc fl al u, q_ac al md ar n, q_wc wa len wi ja, q_ia T wi 10 wf, q_bc tb r2, q_la T out of] ++ q_tl (T 1) n ar ad F) := q_D_perm (q_tback [true, true, true, true, true, true, false] [q_xc x wa fl tf tb, q_fc fl al u, q_ac al md ar n, q_wc wa len wi ja, q_ia T wi 10 wf, q_bc tb r2] [q_la T out of] (q_tl (T 1) n ar ad F)) hD
  refine lv_i2l hx hb dL_advise_7 rfl ?_
  refine va_last (D := D) hx hb hK hP hD hS 6 3 rfl rfl (by unfold vp_in; decide) dL_advise_8 (fun H locs hP hD hS => ?_)
  rw [show (0 : Int32).toNatClampNeg = 0 from by decide] at hP hD
  have hP : va_P D vwCl ([q_xc x wa fl tf tb, q_fc fl al u, q_ac al md ar n, q_wc wa len wi ja, q_ia T wi 10 wf, q_bc tb r2, q_la T out (vp_updL of 0 ((tv).toInt64))] ++ q_tl (T 1) n ar ad F) H := hP
  have hD : va_D A ([q_xc x wa fl tf tb, q_fc fl al u, q_ac al md ar n, q_wc wa len wi ja, q_ia T wi 10 wf, q_bc tb r2, q_la T out (vp_updL of 0 ((tv).toInt64))] ++ q_tl (T 1) n ar ad F) := hD
  refine lv_goto (tgt := 15) hx hb dL_advise_9 (by decide) ?_
  refine lv_iconst (v := 0) hx hb dL_advise_15 (by decide) ?_
  exact vx_ret (q_iret hx hb hr hlocks hP hK hD hS (Nat.le_of_ble_eq_true rfl) (Nat.le_of_ble_eq_true rfl) dL_advise_16 ⟨rfl, rfl⟩)
set_option maxHeartbeats 1000000 in
set_option maxRecDepth 100000 in
theorem c_L_advise_f1 (l : Launch) (hst : l.stackTraces = false) (D : va_G) (T : Nat → ClassId) (e0 out : Nat) (of : Nat → Int64) (x wa fl tf tb al ar n : Nat) (md : Int32) (u : Nat → Int32) (v : Int32) (h : v < 0 ∨ ¬ v < nI n) : q_N l D (q_ty T) yL_advise wsL_advise rmL_advise [.ref x, .int v, .ref out] [q_xc x wa fl tf tb, q_fc fl al u, q_ac al md ar n, q_la T out of] (q_gL e0) (q_is (some (.int 1)) [q_xc x wa fl tf tb, q_fc fl al u, q_ac al md ar n, q_la T out of]) := by
  refine q_startH (cc := cL_advise) (maxL := 4) (ret := (some .int)) (hh := [(0, 9, 12, 21)]) (by decide) rfl (Nat.le_of_ble_eq_true rfl) ?_
  intro p e s m args below meth c A H locs hx hb hr hts hown hlocks hml hnm ht hP hK hD hS hA hG ls hl
  have hown : s.vm.findClass RL = some m.cls := hown
  have hC : CallFix p m c cL_advise 4 s args wsL_advise RL := ⟨hx, hb, hml, hown, hts⟩
  have hl : lv_has ls 4 [(0, .ref x), (1, .int v), (2, .ref out)] := hl
  refine lv_aload_n hx hb dL_advise_0 rfl (lv_at hl 2 rfl) ?_
  refine lv_iconst (v := 0) hx hb dL_advise_1 (by decide) ?_
  refine lv_aload_n hx hb dL_advise_2 rfl (lv_at hl 0 rfl) ?_
  refine lv_iload_n hx hb dL_advise_3 rfl (lv_at hl 1 rfl) ?_
  refine q_catV (As := [.int v]) (rs := [.int 0, .ref out]) hC (t_X3_advise_f1 l hst D T x wa fl tf tb al ar n md u v h) hG.1 (cwV 1 hts gL_advise_X3_advise rfl rfl rfl (by decide +kernel) ⟨Nat.le_of_ble_eq_true rfl, Nat.le_of_ble_eq_true rfl⟩) (va_recv hK hP (ci := 4) (q0 := 0) rfl rfl) hK hP hD hS hA (q_mask [true, true, true, false] _) rfl hl.1 rfl (Nat.le_of_ble_eq_true rfl) dL_advise_4 ⟨(Nat.le_of_ble_eq_true rfl), (Nat.le_of_ble_eq_true rfl)⟩ hown [] ⟨0, 9, 12, 21⟩ [] (ht.trans rfl) (fun z hz => absurd hz List.not_mem_nil) (by decide) (by decide) (hts (.classLink RL 21 "java/lang/IndexOutOfBoundsException") (by decide +kernel)) q_cs53 (fun q9 H locs hP hD hS => ?_)
  have hP : va_P D vwCl [q_xc x wa fl tf tb, q_fc fl al u, q_ac al md ar n, q_la T out of] H := q_P_perm (q_mrg_perm [true, true, true, false] _ _) hP
  have hD : va_D A [q_xc x wa fl tf tb, q_fc fl al u, q_ac al md ar n, q_la T out of] := q_D_perm (q_mrg_perm [true, true, true, false] _ _) hD
  refine lv_astore_n (lv' := [(3, .ref q9), (0, .ref x), (1, .int v), (2, .ref out)]) hx hb dL_advise_12 rfl hl (by decide) rfl (fun ls hl => ?_)
  refine lv_iconst (v := 1) hx hb dL_advise_13 (by decide) ?_
  exact vx_ret (q_iret hx hb hr hlocks hP hK hD hS (Nat.le_of_ble_eq_true rfl) (Nat.le_of_ble_eq_true rfl) dL_advise_14 ⟨rfl, rfl⟩)
set_option maxHeartbeats 1000000 in
set_option maxRecDepth 100000 in
theorem c_L_build_n (l : Launch) (D : va_G) (T : Nat → ClassId) (e0 out : Nat) (of : Nat → Int64) (x tf tb fl al ar n ta br : Nat) (md me : Int32) (u v : Nat → Int32) (ad bd : Nat → Nat) (F K : Nat → Nat → Int32) (hn : n < 8) (wa : Nat) (hull rig : Int32) (h1 : ¬ rig < 0) (h2 : rig ≤ 2) (h3 : ¬ hull < 1) (h4 : hull ≤ 9) (h5 : u 2 = 0) (h0 : 0 < n) : q_N l D (q_ty T) yL_build wsL_build rmL_build [.ref x, .int hull, .int rig, .ref out] ([q_xc x wa fl tf tb, q_fc fl al u, q_ac al md ar n, q_fc tf ta v, q_ac ta me br n, q_la T out of] ++ (q_tl (T 1) n ar ad F ++ q_tl (T 1) n br bd K)) (q_gL e0) (fun v9 w9 => ∃ b1 b2, v9 = some (.int 0) ∧ w9 = ([q_xc x wa fl tf tb, q_fc fl al u, q_ac al (md + 1) ar (n + 1), q_fc tf ta v, q_ac ta (me + 1) br (n + 1), q_la T out (vp_updL of 0 (nI n).toInt64)] ++ (q_tl (T 1) (n + 1) ar (va_up ad n b1) (va_up F n (bNew hull rig)) ++ q_tl (T 1) (n + 1) br (va_up bd n b2) (va_up K n (bNew hull rig))))) := by
  refine q_startH (cc := cL_build) (maxL := 5) (ret := (some .int)) (hh := [(0, 10, 13, 21), (0, 10, 17, 13), (0, 10, 21, 15)]) (by decide) rfl (Nat.le_of_ble_eq_true rfl) ?_
  intro p e s m args below meth c A H locs hx hb hr hts hown hlocks hml hnm ht hP hK hD hS hA hG ls hl
  have hown : s.vm.findClass RL = some m.cls := hown
  have hC : CallFix p m c cL_build 5 s args wsL_build RL := ⟨hx, hb, hml, hown, hts⟩
  have hl : lv_has ls 5 [(0, .ref x), (1, .int hull), (2, .int rig), (3, .ref out)] := hl
  refine lv_aload_n hx hb dL_build_0 rfl (lv_at hl 3 rfl) ?_
  refine lv_iconst (v := 0) hx hb dL_build_1 (by decide) ?_
  refine lv_aload_n hx hb dL_build_2 rfl (lv_at hl 0 rfl) ?_
  refine lv_iload_n hx hb dL_build_3 rfl (lv_at hl 1 rfl) ?_
  refine lv_iload_n hx hb dL_build_4 rfl (lv_at hl 2 rfl) ?_
  refine q_callV (As := [.int hull, .int rig]) (rs := [.int 0, .ref out]) hC (c_X3_build_n l D T x tf tb fl al ar n ta br e0 md me u v ad bd F K hn wa hull rig h1 h2 h3 h4 h5 h0) (q_gE_st e0) (q_gE_at hG.2.1 hD hS hA (q_tmask [true, true, true, true, true, false] [q_xc x wa fl tf tb, q_fc fl al u, q_ac al md ar n, q_fc tf ta v, q_ac ta me br n, q_la T out of] ((q_tl (T 1) n ar ad F ++ q_tl (T 1) n br bd K)))) (cwV 2 hts gL_build_X3_build rfl rfl rfl (by decide +kernel) ⟨Nat.le_of_ble_eq_true rfl, Nat.le_of_ble_eq_true rfl⟩) (va_recv hK hP (ci := 4) (q0 := 0) rfl rfl) hK hP hD hS hA (q_tmask [true, true, true, true, true, false] [q_xc x wa fl tf tb, q_fc fl al u, q_ac al md ar n, q_fc tf ta v, q_ac ta me br n, q_la T out of] ((q_tl (T 1) n ar ad F ++ q_tl (T 1) n br bd K))) rfl hl.1 rfl (Nat.le_of_ble_eq_true rfl) dL_build_5 ⟨(Nat.le_of_ble_eq_true rfl), (Nat.le_of_ble_eq_true rfl)⟩ (fun v9 C9 H locs hp hP hD hS => ?_)
  obtain ⟨b1, b2, rfl, h9⟩ := hp
  have hP : va_P D vwCl ([q_xc x wa fl tf tb, q_fc fl al u, q_ac al (md + 1) ar (n + 1), q_fc tf ta v, q_ac ta (me + 1) br (n + 1), q_la T out of] ++ (q_tl (T 1) (n + 1) ar (va_up ad n b1) (va_up F n (bNew hull rig)) ++ q_tl (T 1) (n + 1) br (va_up bd n b2) (va_up K n (bNew hull rig)))) H := q_P_perm ((h9.append_right _).trans (q_newt [q_xc x wa fl tf tb, q_fc fl al u, q_ac al (md + 1) ar (n + 1), q_fc tf ta v, q_ac ta (me + 1) br (n + 1)] ((q_tl (T 1) (n + 1) ar (va_up ad n b1) (va_up F n (bNew hull rig)) ++ q_tl (T 1) (n + 1) br (va_up bd n b2) (va_up K n (bNew hull rig)))) (q_la T out of))) hP
  have hD : va_D A ([q_xc x wa fl tf tb, q_fc fl al u, q_ac al (md + 1) ar (n + 1), q_fc tf ta v, q_ac ta (me + 1) br (n + 1), q_la T out of] ++ (q_tl (T 1) (n + 1) ar (va_up ad n b1) (va_up F n (bNew hull rig)) ++ q_tl (T 1) (n + 1) br (va_up bd n b2) (va_up K n (bNew hull rig)))) := q_D_perm ((h9.append_right _).trans (q_newt [q_xc x wa fl tf tb, q_fc fl al u, q_ac al (md + 1) ar (n + 1), q_fc tf ta v, q_ac ta (me + 1) br (n + 1)] ((q_tl (T 1) (n + 1) ar (va_up ad n b1) (va_up F n (bNew hull rig)) ++ q_tl (T 1) (n + 1) br (va_up bd n b2) (va_up K n (bNew hull rig)))) (q_la T out of))) hD
  refine lv_i2l hx hb dL_build_8 rfl ?_
  refine va_last (D := D) hx hb hK hP hD hS 5 3 rfl rfl (by unfold vp_in; decide) dL_build_9 (fun H locs hP hD hS => ?_)
  rw [show (0 : Int32).toNatClampNeg = 0 from by decide] at hP hD
  have hP : va_P D vwCl ([q_xc x wa fl tf tb, q_fc fl al u, q_ac al (md + 1) ar (n + 1), q_fc tf ta v, q_ac ta (me + 1) br (n + 1), q_la T out (vp_updL of 0 (((nI n)).toInt64))] ++ (q_tl (T 1) (n + 1) ar (va_up ad n b1) (va_up F n (bNew hull rig)) ++ q_tl (T 1) (n + 1) br (va_up bd n b2) (va_up K n (bNew hull rig)))) H := hP
  have hD : va_D A ([q_xc x wa fl tf tb, q_fc fl al u, q_ac al (md + 1) ar (n + 1), q_fc tf ta v, q_ac ta (me + 1) br (n + 1), q_la T out (vp_updL of 0 (((nI n)).toInt64))] ++ (q_tl (T 1) (n + 1) ar (va_up ad n b1) (va_up F n (bNew hull rig)) ++ q_tl (T 1) (n + 1) br (va_up bd n b2) (va_up K n (bNew hull rig)))) := hD
  refine lv_goto (tgt := 25) hx hb dL_build_10 (by decide) ?_
  refine lv_iconst (v := 0) hx hb dL_build_25 (by decide) ?_
  exact vx_ret (q_iret hx hb hr hlocks hP hK hD hS (Nat.le_of_ble_eq_true rfl) (Nat.le_of_ble_eq_true rfl) dL_build_26 ⟨b1, b2, rfl, rfl⟩)
set_option maxHeartbeats 1000000 in
set_option maxRecDepth 100000 in
theorem c_L_build_0 (l : Launch) (D : va_G) (T : Nat → ClassId) (e0 out : Nat) (of : Nat → Int64) (x tf tb fl al al0 n ta br0 : Nat) (md me : Int32) (u v : Nat → Int32) (ad bd : Nat → Nat) (F K : Nat → Nat → Int32) (hn : n < 8) (wa : Nat) (hull rig : Int32) (h1 : ¬ rig < 0) (h2 : rig ≤ 2) (h3 : ¬ hull < 1) (h4 : hull ≤ 9) (h5 : u 2 = 0) : q_N l D (q_ty T) yL_build wsL_build rmL_build [.ref x, .int hull, .int rig, .ref out] [q_xc x wa fl tf tb, q_fc fl al u, q_ac al md e0 0, q_fc tf ta v, q_ac ta me e0 0, q_la T out of] (q_gL e0) (fun v9 w9 => ∃ ar br b1 b2, v9 = some (.int 0) ∧ w9 = ([q_xc x wa fl tf tb, q_fc fl al u, q_ac al (md + 1) ar 1, q_fc tf ta v, q_ac ta (me + 1) br 1, q_la T out (vp_updL of 0 (0).toInt64)] ++ (q_tl (T 1) 1 ar (va_up ad 0 b1) (va_up F 0 (bNew hull rig)) ++ q_tl (T 1) 1 br (va_up bd 0 b2) (va_up K 0 (bNew hull rig))))) := by
  refine q_startH (cc := cL_build) (maxL := 5) (ret := (some .int)) (hh := [(0, 10, 13, 21), (0, 10, 17, 13), (0, 10, 21, 15)]) (by decide) rfl (Nat.le_of_ble_eq_true rfl) ?_
  intro p e s m args below meth c A H locs hx hb hr hts hown hlocks hml hnm ht hP hK hD hS hA hG ls hl
  have hown : s.vm.findClass RL = some m.cls := hown
  have hC : CallFix p m c cL_build 5 s args wsL_build RL := ⟨hx, hb, hml, hown, hts⟩
  have hl : lv_has ls 5 [(0, .ref x), (1, .int hull), (2, .int rig), (3, .ref out)] := hl
  refine lv_aload_n hx hb dL_build_0 rfl (lv_at hl 3 rfl) ?_
  refine lv_iconst (v := 0) hx hb dL_build_1 (by decide) ?_
  refine lv_aload_n hx hb dL_build_2 rfl (lv_at hl 0 rfl) ?_
  refine lv_iload_n hx hb dL_build_3 rfl (lv_at hl 1 rfl) ?_
  refine lv_iload_n hx hb dL_build_4 rfl (lv_at hl 2 rfl) ?_
  refine q_callV (As := [.int hull, .int rig]) (rs := [.int 0, .ref out]) hC (c_X3_build_0 l D T x tf tb fl al al0 n ta br0 e0 md me u v ad bd F K hn wa hull rig h1 h2 h3 h4 h5) (q_gE_st e0) (q_gE_at hG.2.1 hD hS hA (q_mask [true, true, true, true, true, false] _)) (cwV 2 hts gL_build_X3_build rfl rfl rfl (by decide +kernel) ⟨Nat.le_of_ble_eq_true rfl, Nat.le_of_ble_eq_true rfl⟩) (va_recv hK hP (ci := 4) (q0 := 0) rfl rfl) hK hP hD hS hA (q_mask [true, true, true, true, true, false] _) rfl hl.1 rfl (Nat.le_of_ble_eq_true rfl) dL_build_5 ⟨(Nat.le_of_ble_eq_true rfl), (Nat.le_of_ble_eq_true rfl)⟩ (fun v9 C9 H locs hp hP hD hS => ?_)
  obtain ⟨ar, br, b1, b2, rfl, h9⟩ := hp
  have hP : va_P D vwCl ([q_xc x wa fl tf tb, q_fc fl al u, q_ac al (md + 1) ar 1, q_fc tf ta v, q_ac ta (me + 1) br 1, q_la T out of] ++ (q_tl (T 1) 1 ar (va_up ad 0 b1) (va_up F 0 (bNew hull rig)) ++ q_tl (T 1) 1 br (va_up bd 0 b2) (va_up K 0 (bNew hull rig)))) H := q_P_perm ((h9.append_right _).trans (q_newt [q_xc x wa fl tf tb, q_fc fl al u, q_ac al (md + 1) ar 1, q_fc tf ta v, q_ac ta (me + 1) br 1] ((q_tl (T 1) 1 ar (va_up ad 0 b1) (va_up F 0 (bNew hull rig)) ++ q_tl (T 1) 1 br (va_up bd 0 b2) (va_up K 0 (bNew hull rig)))) (q_la T out of))) hP
  have hD : va_D A ([q_xc x wa fl tf tb, q_fc fl al u, q_ac al (md + 1) ar 1, q_fc tf ta v, q_ac ta (me + 1) br 1, q_la T out of] ++ (q_tl (T 1) 1 ar (va_up ad 0 b1) (va_up F 0 (bNew hull rig)) ++ q_tl (T 1) 1 br (va_up bd 0 b2) (va_up K 0 (bNew hull rig)))) := q_D_perm ((h9.append_right _).trans (q_newt [q_xc x wa fl tf tb, q_fc fl al u, q_ac al (md + 1) ar 1, q_fc tf ta v, q_ac ta (me + 1) br 1] ((q_tl (T 1) 1 ar (va_up ad 0 b1) (va_up F 0 (bNew hull rig)) ++ q_tl (T 1) 1 br (va_up bd 0 b2) (va_up K 0 (bNew hull rig)))) (q_la T out of))) hD
  refine lv_i2l hx hb dL_build_8 rfl ?_
  refine va_last (D := D) hx hb hK hP hD hS 5 3 rfl rfl (by unfold vp_in; decide) dL_build_9 (fun H locs hP hD hS => ?_)
  rw [show (0 : Int32).toNatClampNeg = 0 from by decide] at hP hD
  have hP : va_P D vwCl ([q_xc x wa fl tf tb, q_fc fl al u, q_ac al (md + 1) ar 1, q_fc tf ta v, q_ac ta (me + 1) br 1, q_la T out (vp_updL of 0 ((0).toInt64))] ++ (q_tl (T 1) 1 ar (va_up ad 0 b1) (va_up F 0 (bNew hull rig)) ++ q_tl (T 1) 1 br (va_up bd 0 b2) (va_up K 0 (bNew hull rig)))) H := hP
  have hD : va_D A ([q_xc x wa fl tf tb, q_fc fl al u, q_ac al (md + 1) ar 1, q_fc tf ta v, q_ac ta (me + 1) br 1, q_la T out (vp_updL of 0 ((0).toInt64))] ++ (q_tl (T 1) 1 ar (va_up ad 0 b1) (va_up F 0 (bNew hull rig)) ++ q_tl (T 1) 1 br (va_up bd 0 b2) (va_up K 0 (bNew hull rig)))) := hD
  refine lv_goto (tgt := 25) hx hb dL_build_10 (by decide) ?_
  refine lv_iconst (v := 0) hx hb dL_build_25 (by decide) ?_
  exact vx_ret (q_iret hx hb hr hlocks hP hK hD hS (Nat.le_of_ble_eq_true rfl) (Nat.le_of_ble_eq_true rfl) dL_build_26 ⟨ar, br, b1, b2, rfl, rfl⟩)
