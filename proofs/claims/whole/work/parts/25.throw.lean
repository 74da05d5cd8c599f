def q_bw : List Cond := ((vx_atS RX3 80 "java/lang/IllegalStateException" ["java/lang/RuntimeException", "java/lang/Exception"]) ++ (vx_atS RX3 39 "java/lang/IllegalArgumentException" ["java/lang/RuntimeException", "java/lang/Exception"]) ++ (vx_atS RX3 53 "java/lang/IndexOutOfBoundsException" ["java/lang/RuntimeException", "java/lang/Exception"])).filter (fun w => !goodWord w)
def q_isdc (w : Cond) : Bool := match w with
  | .declares _ => true
  | .castable _ _ => true
  | _ => false
theorem q_bw_dc : q_bw.all q_isdc = true := by decide +kernel
def q_strs : List (Nat × String) := [(100, "there are 3 judges"), (108, "no boat can be in a race"), (117, "minutes are 1 to 90"), (224, "there is a race"), (226, "a wind is 0 to 9"), (228, "nothing is told of this"), (230, "there is no such boat"), (37, "a pond's length is 20 to 200"), (51, "a minute of the table is 0 to 9"), (62, "a rig is 0 to 2"), (64, "a hull is 1 to 9"), (78, "there are 8 boats"), (89, "lead is 0 to 9"), (94, "a judge's place is 0 to 199")]
/-- what a throw asks of the state outside the world -/
def q_gX : (Nat → Prop) → State → Prop := fun A U => vx_Zq Bundle.tN "UNASSIGNED_STACK" Bundle.steD A U U.heap ∧ vx_Zq Bundle.tN "SUPPRESSED_SENTINEL" Bundle.listD A U U.heap ∧ (∀ w ∈ q_bw, w.before #[] U = true) ∧ ∀ q ∈ q_strs, ∃ sa : Nat, vk_R RX3 q.1 q.2 sa U
/-- .. asked again where heap and tables are the same -/
def q_st0 (G : (Nat → Prop) → State → Prop) : Prop := ∀ (A : Nat → Prop) (U V : State), V.heap = U.heap → V.vm = U.vm → G A U → G A V
theorem q_dc_moved {w : Cond} (hw : q_isdc w = true) {U V : State} (hvm : U.vm.Alike V.vm) (h : w.before #[] U = true) : w.before #[] V = true := by
  unfold q_isdc at hw
  split at hw
  · have h1 := h
    rw [← Cond.declares_setVm hvm] at h1
    exact va_tabs rfl (rfl : (U.setVm V.vm).vm = V.vm) h1
  · have h1 := h
    rw [← Cond.castable_setVm hvm] at h1
    exact va_tabs rfl (rfl : (U.setVm V.vm).vm = V.vm) h1
  · exact absurd hw (by decide)
theorem q_bw_moved {U V : State} (hvm : U.vm.Alike V.vm) (h : ∀ w ∈ q_bw, w.before #[] U = true) : ∀ w ∈ q_bw, w.before #[] V = true :=
  fun w hw => q_dc_moved (List.all_eq_true.mp q_bw_dc w hw) hvm (h w hw)
theorem q_bw_args {s : State} {args : Array Value} (h : ∀ w ∈ q_bw, w.before #[] s = true) : ∀ w ∈ q_bw, w.before args s = true := fun w hw => by
  have h1 := List.all_eq_true.mp q_bw_dc w hw
  have h2 := h w hw
  unfold q_isdc at h1
  split at h1
  · exact va_tabs rfl rfl h2
  · exact va_tabs rfl rfl h2
  · exact absurd h1 (by decide)
theorem q_gX_st : q_st0 q_gX := by
  intro A U V hh hvm h
  refine ⟨?_, ?_, q_bw_moved (by rw [hvm]; exact Vm.Alike.refl _) h.2.2.1, fun q hq => ?_⟩
  · rw [hh]; exact h.1.moved (by rw [hvm]; exact Vm.Alike.refl _)
  · rw [hh]; exact h.2.1.moved (by rw [hvm]; exact Vm.Alike.refl _)
  · obtain ⟨sa, h1⟩ := h.2.2.2 q hq
    exact ⟨sa, h1.same hvm⟩
theorem q_gX_at {A : Nat → Prop} {s : State} {H : Heap} {locs : List Loc} {w C R1 : va_W} (hG : q_gX A s) (hD : va_D A w) (hS : va_S A s.heap H locs) (hA : ∀ q, s.heap.size ≤ q → A q) (hperm : w.Perm (C ++ R1)) : ∀ U : State, U.heap = H → s.WarmedH U.vm → q_gX (va_A C H.size) U := by
  intro U hU hW
  have hF := q_free hD hS hA hperm
  refine ⟨?_, ?_, q_bw_moved hW.alike hG.2.2.1, fun q hq => ?_⟩
  · rw [hU]; exact ((hG.1.kept (H1 := H) hS.2.1).narrow hF).moved hW.alike
  · rw [hU]; exact ((hG.2.1.kept (H1 := H) hS.2.1).narrow hF).moved hW.alike
  · obtain ⟨sa, h1⟩ := hG.2.2.2 q hq
    exact ⟨sa, h1.warm hW⟩
/-- where a method of the world C has thrown an E -/
def q_XC (D : va_G) (tys : List (ClassId × FieldType)) (C : va_W) (E : String) (A : Nat → Prop) : String → State → State → Prop := fun E' st t => E' = E ∧ va_P D vwCl C t.heap ∧ va_K D vwCl tys t ∧ va_D A C ∧ va_F A st t
/-- THE CONTRACT OF A THROW: from the cells C, method y throws an E, and the cells are as they were -/
def q_X (l : Launch) (D : va_G) (tys : List (ClassId × FieldType)) (y : MethodName) (ws : List Cond) (rm : Room) (av : List Value) (C : va_W) (E : String) : Prop :=
  ∀ sz : Nat, vx_Met l y ws rm (q_P0 D tys av C q_gX sz) (fun _ _ _ _ => False) (q_XC D tys C E (va_A C sz)) rm.cells rm.slots (va_A C sz)
def q_EX (below : List Frame) (D : va_G) (tys : List (ClassId × FieldType)) (C : va_W) (E : String) (A : Nat → Prop) (args : Array Value) (s : State) (rm : Room) : State → Prop := vx_MQ below (fun _ _ _ _ => False) (q_XC D tys C E A) args s rm.cells rm.slots A
theorem q_startX {l : Launch} {D : va_G} {tys : List (ClassId × FieldType)} {y : MethodName} {ws ws' : List Cond} {rm : Room} {av : List Value} {C : va_W} {E : String} {cc : ByteArray} {maxL : Nat} {ret : Option FieldType}
    (hy : plainName y.cls = true) (hw : ws = Cond.code y cc maxL ret :: ws') (hav : (lg_sl av).length ≤ maxL)
    (body : ∀ {p : Program} {e : Env} {s : State} {m : MethodId} {args : Array Value} {below : List Frame} {meth : Method} {c : Code} (A : Nat → Prop) (H : Heap) (locs : List Loc),
      p.tables.exec = Jvm.exec → c.code = cc → meth.sig.returnType = ret → (∀ w ∈ ws, w.before args s = true) → s.vm.findClass y.cls = some m.cls → meth.locks = false → c.maxLocals = maxL → meth.name = y.name → (∀ x ∈ c.exceptionTable.toList, False) →
      va_P D vwCl C H → va_K D vwCl tys s → va_D A C → va_S A s.heap H locs → (∀ q, s.heap.size ≤ q → A q) → q_gX A s → ∀ ls : Array Slot, lv_has ls maxL (lv_args 0 av) →
      W p l e rm s m args below meth c H locs 0 0 (q_EX below D tys C E A args s rm) (F0 m 0 ls [])) : q_X l D tys y ws rm av C E := by
  intro sz
  refine vx_ofW (cc := cc) (maxL := maxL) (ret := ret) hy hw ?_
  intro p e s m args below meth c s₁ B hml ht hv
  obtain ⟨rfl, hsz, hP, hK, hD0, hG⟩ := hv
  subst hsz
  have hl := lv_entry av (n := maxL) hav
  rw [lg_entry_eq]
  generalize (lg_sl av ++ List.replicate (maxL - (lg_sl av).length) Slot.unset).toArray = ls at hl ⊢
  exact body (va_A C s.heap.size) s.heap [] B.exec B.bytes B.returns (atoms_spec (ws := ws) B.pre) (findClass_of_methodNamed B.named) B.notSynchronized hml (name_of_methodNamed B.named B.method).1 ht hP hK hD0.self va_S.rf (fun q h => Or.inr h) hG ls hl
section QX
variable {p : Program} {l : Launch} {e : Env} {R : Room} {s : State} {m : MethodId} {args : Array Value} {below : List Frame} {meth : Method} {c : Code} {H : Heap} {locs : List Loc} {cells slots : Nat} {Q : State → Prop}
variable {y : MethodName} {bytes cc : ByteArray} {maxL nL n index pc : Nat} {ret : Option FieldType} {wsy Ts : List Cond} {rmy rm : Room} {own Cy E : String} {b : Addr} {As rs st0 : List Value} {ls : Array Slot}
variable {D : va_G} {tys : List (ClassId × FieldType)} {C w R1 : va_W} {A : Nat → Prop} {H0 : Heap} {mc ms : Nat}
/-- 'throw new cls(text)' -/
theorem q_thr (hl : l.stackTraces = false) (hx : p.tables.exec = Jvm.exec) (hb : c.code = cc) {cls text : String} {ik is ic : Nat} (hown : s.vm.findClass RX3 = some m.cls) (hcls : Bundle.fit cls = true) (hin : (is, text) ∈ q_strs)
    (hk : (Cond.classLink RX3 ik cls).before args s = true) (hini : (Cond.initialized cls).before args s = true)
    (hgo : ∀ w ∈ (vx_atS RX3 ic cls ["java/lang/RuntimeException", "java/lang/Exception"]).filter goodWord, w.before args s = true) (hbd : ∀ w ∈ (vx_atS RX3 ic cls ["java/lang/RuntimeException", "java/lang/Exception"]).filter (fun w => !goodWord w), w ∈ q_bw)
    (hgood : (Cond.classLink RX3 ik cls :: Cond.initialized cls :: vx_atS RX3 ic cls ["java/lang/RuntimeException", "java/lang/Exception"]).all vx_ot = true)
    (hG : q_gX A s) (ht : ∀ x ∈ c.exceptionTable.toList, False) (hlocks : meth.locks = false) (hsz : ls.size = c.maxLocals)
    (hP : va_P D vwCl C H) (hK : va_K D vwCl tys s) (hD : va_D A C) (hS : va_S A s.heap H locs)
    (d0 : decode cc pc = .ok (.new ik, 3)) (d3 : decode cc (pc + 3) = .ok (.dup, 1)) (d4 : decode cc (pc + 4) = .ok (.ldc is, 2)) (d6 : decode cc (pc + 6) = .ok (.invokespecial ic, 3)) (d9 : decode cc (pc + 9) = .ok (.athrow, 1))
    (hf : 5 < rm.frames) (hlo : (rs.map fun v => v.category).sum + 82 ≤ rm.locals) (hc : cells + 1 ≤ rm.cells) (hs : slots + 6 ≤ rm.slots) :
    W p l e rm s m args below meth c H locs cells slots (q_EX below D tys C cls A args s rm) (F0 m pc ls rs) := by
  obtain ⟨sa, hstr⟩ := hG.2.2.2 _ hin
  refine vx_throwS (A := A) (names := ["java/lang/RuntimeException", "java/lang/Exception"]) hx hb hl hown hcls (by decide +kernel) hk hini hstr (vx_hat hgo hbd (q_bw_args hG.2.2.1)) (fun w hw => List.all_eq_true.mp hgood w hw) hG.1 hG.2.1 hS hsz d0 d3 d4 d6 d9 (fun x hx => (ht x hx).elim) hf hlo hc hs hlocks ?_ hS.2.2 hc hs
  intro t hal hz hkk
  refine ⟨rfl, hP.kept (fun k x hx => ?_), va_K.moved hal hK, hD, ⟨Nat.le_trans hS.1 hz, fun q h1 h2 => ?_⟩⟩
  · exact hkk _ (hP k x hx).lt
  · rw [hkk q (Nat.lt_of_lt_of_le h1 hS.1)]; exact hS.2.1 q h1 h2
theorem q_P0_blindX {av : List Value} {sz : Nat} : FrameBlind (q_P0 D tys av C q_gX sz) := fun a U g mk q => by
  obtain ⟨q0, q1, qP, qK, qD, qG⟩ := q
  exact ⟨q0, q1, qP, va_K.moved (u := U) (U := U.calling g mk a) (Vm.Alike.refl U.vm) qK, qD, q_gX_st _ U _ rfl rfl qG⟩
theorem q_goX {Qa : State → Outcome → State → Prop} (hQa : ∀ st o t, Qa st o t → False) (hr : vx_Run p l e R s m args below meth c H locs cells slots mc ms (F0 m pc ls st0) rs Qa (q_XC D tys C E (va_A C H.size)) (va_A C H.size)) (hP : va_P D vwCl w H) (hD : va_D A w) (hS : va_S A H0 H locs) (hA : ∀ q, H0.size ≤ q → A q) (hperm : w.Perm (C ++ R1))
    (kk : ∀ (q9 : Addr) (ce : Cell) (H1 : Heap) (locs1 : List Loc), va_P D vwCl (C ++ R1) H1 → va_D A (C ++ R1) → va_S A H0 H1 locs1 → H1[q9]? = some ce → ce.vm = .none → s.vm.findClass E = some ce.cls → vx_W p l e R s m args below meth c H1 locs1 (cells + mc) (slots + ms) Q (F0 m pc ls rs) q9) : W p l e R s m args below meth c H locs cells slots Q (F0 m pc ls st0) := by
  have hP' := q_P_perm hperm hP
  have hD' := q_D_perm hperm hD
  have hF : ∀ q, va_A C H.size q → A q := by
    intro q h
    rcases h with ⟨k, e, h⟩ | h
    · exact (q_D_iff.mp (q_D_left hD')).2 _ (List.mem_of_getElem? h)
    · exact hA q (Nat.le_trans hS.1 h)
  intro T hT X
  rcases hr T hT X with ⟨v, st₀, t, T', L, h0, X', hL, e1, e2, hq, st⟩ | ⟨q, st₀, t, T', L, E', ce, h0, X', hL, e1, e2, ⟨hE, hP1, hK1, hD1, hz, hk⟩, hce, hcv, hcl, st⟩
  · exact (hQa _ _ _ hq).elim
  · subst hE
    rw [h0] at hz hk
    rw [← e1] at hz hk hP1 hce
    obtain ⟨hP2, hD2⟩ := q_join hP' hD' hk hF hP1 hD1
    obtain ⟨t2, a1, b1⟩ := kk q ce T'.heap (locs ++ L) hP2 hD2
      ⟨Nat.le_trans hS.1 hz, fun q h1 h2 => by rw [hk q (Nat.lt_of_lt_of_le h1 hS.1) (fun z => h2 (hF q z))]; exact hS.2.1 q h1 h2, fun q hq => by
        rcases List.mem_append.mp hq with h | h
        · exact hS.2.2 q h
        · exact hF _ (hL q h)⟩ hce hcv hcl T' rfl X'
    exact ⟨t2, st.trans a1, b1⟩
/-- a call of a method that throws, where nobody catches: it goes on to the caller -/
theorem q_propV (S : CallFix p m c cc nL s args Ts own) (hM : q_X l D tys y wsy rmy (.ref b :: As) C E) (hG : q_gX A s) (cw : CallW R s args own Cy index y bytes maxL ret wsy rmy rmy.cells rmy.slots n) (hrecv : ∃ cell : Cell, H[b]? = some cell ∧ cell.vm.isStatics = false ∧ s.vm.findClass Cy = some cell.cls)
    (hK : va_K D vwCl tys s) (hP : va_P D vwCl w H) (hD : va_D A w) (hS : va_S A s.heap H locs) (hA : ∀ q, s.heap.size ≤ q → A q) (hperm : w.Perm (C ++ R1)) (hn : As.length = n) (hsize : ls.size = nL) (hst : st0 = As.reverse ++ .ref b :: rs) (hW : (rs.map fun v => v.category).sum ≤ 8) (hdg : decode cc pc = .ok (.invokevirtual index, 3)) (hf : cells + rmy.cells ≤ R.cells ∧ slots + rmy.slots ≤ R.slots)
    (ht : ∀ x ∈ c.exceptionTable.toList, False) (hlocks : meth.locks = false) {w0 : va_W} (hp0 : (C ++ R1).Perm w0) : W p l e R s m args below meth c H locs cells slots (q_EX below D tys w0 E A args s R) (F0 m pc ls st0) := by
  have hP' := q_P_left (q_P_perm hperm hP)
  have hD' := q_D_left (q_D_perm hperm hD)
  refine q_goX (fun _ _ _ h => h) (vx_runV (As := As) (rest := rs) S (hM H.size) cw ⟨q_P0_blindX, hrecv, fun U hU hW => ⟨rfl, by rw [hU], by rw [hU]; exact hP', va_K.moved hW.alike hK, hD'.weaken (fun _ _ _ _ => trivial), q_gX_at hG hD hS hA hperm U hU hW⟩⟩ rfl hn hsize hst (lv_room hW) hdg hf) hP hD hS hA hperm ?_
  intro q9 ce H1 locs1 hP1 hD1 hS1 hce hcv hcl
  refine vx_out (fun x hx => (ht x hx).elim) hlocks hce hcv hcl (fun t ht2 hal => ⟨rfl, by rw [ht2]; exact q_P_perm hp0 hP1, va_K.moved hal hK, q_D_perm hp0 hD1, hS1.F ht2⟩) hS1.2.2 hf.1 hf.2
end QX

theorem q_bd80 : ∀ w ∈ (vx_atS RX3 80 "java/lang/IllegalStateException" ["java/lang/RuntimeException", "java/lang/Exception"]).filter (fun w => !goodWord w), w ∈ q_bw := by
  intro w hw
  obtain ⟨h, hg⟩ := List.mem_filter.mp hw
  exact List.mem_filter.mpr ⟨(List.mem_append_left _ (List.mem_append_left _ h)), hg⟩
theorem q_ok80 : (Cond.classLink RX3 76 "java/lang/IllegalStateException" :: Cond.initialized "java/lang/IllegalStateException" :: vx_atS RX3 80 "java/lang/IllegalStateException" ["java/lang/RuntimeException", "java/lang/Exception"]).all vx_ot = true := by decide +kernel
abbrev q_E80 : String := "java/lang/IllegalStateException"
theorem q_bd39 : ∀ w ∈ (vx_atS RX3 39 "java/lang/IllegalArgumentException" ["java/lang/RuntimeException", "java/lang/Exception"]).filter (fun w => !goodWord w), w ∈ q_bw := by
  intro w hw
  obtain ⟨h, hg⟩ := List.mem_filter.mp hw
  exact List.mem_filter.mpr ⟨(List.mem_append_left _ (List.mem_append_right _ h)), hg⟩
theorem q_ok39 : (Cond.classLink RX3 35 "java/lang/IllegalArgumentException" :: Cond.initialized "java/lang/IllegalArgumentException" :: vx_atS RX3 39 "java/lang/IllegalArgumentException" ["java/lang/RuntimeException", "java/lang/Exception"]).all vx_ot = true := by decide +kernel
abbrev q_E39 : String := "java/lang/IllegalArgumentException"
theorem q_bd53 : ∀ w ∈ (vx_atS RX3 53 "java/lang/IndexOutOfBoundsException" ["java/lang/RuntimeException", "java/lang/Exception"]).filter (fun w => !goodWord w), w ∈ q_bw := by
  intro w hw
  obtain ⟨h, hg⟩ := List.mem_filter.mp hw
  exact List.mem_filter.mpr ⟨(List.mem_append_right _ h), hg⟩
theorem q_ok53 : (Cond.classLink RX3 49 "java/lang/IndexOutOfBoundsException" :: Cond.initialized "java/lang/IndexOutOfBoundsException" :: vx_atS RX3 53 "java/lang/IndexOutOfBoundsException" ["java/lang/RuntimeException", "java/lang/Exception"]).all vx_ot = true := by decide +kernel
abbrev q_E53 : String := "java/lang/IndexOutOfBoundsException"
abbrev rtX3_requireNoRace : Room := { frames := 6, cells := 1, slots := 6, locals := 90 }
set_option maxHeartbeats 1000000 in
set_option maxRecDepth 100000 in
theorem t_X3_requireNoRace_x (l : Launch) (hst : l.stackTraces = false) (D : va_G) (T : Nat → ClassId) (x wa fl tf tb al : Nat) (u : Nat → Int32) (h : ¬ u 2 = 0) : q_X l D (q_ty T) yX3_requireNoRace wsX3_requireNoRace rtX3_requireNoRace [.ref x] [q_xc x wa fl tf tb, q_fc fl al u] q_E80 := by
  refine q_startX (cc := cX3_requireNoRace) (maxL := 1) (ret := none) (by decide) rfl (Nat.le_of_ble_eq_true rfl) ?_
  intro p e s m args below meth c A H locs hx hb hr hts hown hlocks hml hnm ht hP hK hD hS hA hG ls hl
  have hown : s.vm.findClass RX3 = some m.cls := hown
  have hC : CallFix p m c cX3_requireNoRace 1 s args wsX3_requireNoRace RX3 := ⟨hx, hb, hml, hown, hts⟩
  have iX3 : ∀ w ∈ wsX30, w ∈ wsX3_requireNoRace := by decide +kernel
  have iX1 : ∀ w ∈ wsX10, w ∈ wsX3_requireNoRace := by decide +kernel
  have hl : lv_has ls 1 [(0, .ref x)] := hl
  refine lv_aload_n hx hb dX3_requireNoRace_0 rfl (lv_at hl 0 rfl) ?_
  refine va_get (D := D) (ci := 4) (v := .ref fl) (C := RX3) (T := TX3) (N := 4) hx hb hts iX3 hown hK hP 0 rfl rfl 1 (by decide) (hts (.fieldLink RX3 19 "ToyRegatta" "fleet" "LToyRegatta$Fleet;") (by decide +kernel)) (fun _ h9 => h9) rfl dX3_requireNoRace_1 ?_
  refine va_get (D := D) (ci := 2) (v := .int (u 2)) (C := RX1) (T := TX1) (N := 5) hx hb hts iX1 hown hK hP 1 rfl rfl 3 (by decide) (hts (.fieldLink RX3 168 "ToyRegatta$Fleet" "racing" "Z") (by decide +kernel)) (fun _ h9 => h9) rfl dX3_requireNoRace_4 ?_
  refine lv_if_eq (tgt := 20) hx hb dX3_requireNoRace_7 (by decide) (fun c_7 => absurd c_7 h) (fun c_7 => ?_)
  exact q_thr (C := [q_xc x wa fl tf tb, q_fc fl al u]) (rs := []) (text := "there is a race") hst hx hb hown (by decide +kernel) (by decide +kernel) (hts (.classLink RX3 76 "java/lang/IllegalStateException") (by decide +kernel)) (hts (.initialized "java/lang/IllegalStateException") (by decide +kernel)) (fun w9 h9 => hts w9 (List.mem_cons_of_mem _ (List.mem_append_right _ h9))) q_bd80 q_ok80 hG ht hlocks (hl.1.trans hml.symm) hP hK hD hS dX3_requireNoRace_10 dX3_requireNoRace_13 dX3_requireNoRace_14 dX3_requireNoRace_16 dX3_requireNoRace_19 (by decide) (by decide) (Nat.le_of_ble_eq_true rfl) (Nat.le_of_ble_eq_true rfl)
abbrev rtX3_requireWind : Room := { frames := 6, cells := 1, slots := 6, locals := 90 }
set_option maxHeartbeats 1000000 in
set_option maxRecDepth 100000 in
theorem t_X3_requireWind_x (l : Launch) (hst : l.stackTraces = false) (D : va_G) (T : Nat → ClassId) (x wa fl tf tb : Nat) (v : Int32) (h : v < 0 ∨ ¬ v ≤ 9) : q_X l D (q_ty T) yX3_requireWind wsX3_requireWind rtX3_requireWind [.ref x, .int v] [q_xc x wa fl tf tb] q_E39 := by
  refine q_startX (cc := cX3_requireWind) (maxL := 2) (ret := none) (by decide) rfl (Nat.le_of_ble_eq_true rfl) ?_
  intro p e s m args below meth c A H locs hx hb hr hts hown hlocks hml hnm ht hP hK hD hS hA hG ls hl
  have hown : s.vm.findClass RX3 = some m.cls := hown
  have hC : CallFix p m c cX3_requireWind 2 s args wsX3_requireWind RX3 := ⟨hx, hb, hml, hown, hts⟩
  have hl : lv_has ls 2 [(0, .ref x), (1, .int v)] := hl
  refine lv_iload_n hx hb dX3_requireWind_0 rfl (lv_at hl 1 rfl) ?_
  refine lv_if_lt (tgt := 10) hx hb dX3_requireWind_1 (by decide) (fun c_1 => ?_) (fun c_1 => ?_)
  · exact q_thr (C := [q_xc x wa fl tf tb]) (rs := []) (text := "a wind is 0 to 9") hst hx hb hown (by decide +kernel) (by decide +kernel) (hts (.classLink RX3 35 "java/lang/IllegalArgumentException") (by decide +kernel)) (hts (.initialized "java/lang/IllegalArgumentException") (by decide +kernel)) (fun w9 h9 => hts w9 (List.mem_cons_of_mem _ (List.mem_append_right _ h9))) q_bd39 q_ok39 hG ht hlocks (hl.1.trans hml.symm) hP hK hD hS dX3_requireWind_10 dX3_requireWind_13 dX3_requireWind_14 dX3_requireWind_16 dX3_requireWind_19 (by decide) (by decide) (Nat.le_of_ble_eq_true rfl) (Nat.le_of_ble_eq_true rfl)
  · refine lv_iload_n hx hb dX3_requireWind_4 rfl (lv_at hl 1 rfl) ?_
    refine lv_bipush (v := 9) hx hb dX3_requireWind_5 (by decide) ?_
    refine lv_icmp_le (tgt := 20) hx hb dX3_requireWind_7 (by decide) (fun c_7 => absurd c_7 (h.resolve_left c_1)) (fun c_7 => ?_)
    exact q_thr (C := [q_xc x wa fl tf tb]) (rs := []) (text := "a wind is 0 to 9") hst hx hb hown (by decide +kernel) (by decide +kernel) (hts (.classLink RX3 35 "java/lang/IllegalArgumentException") (by decide +kernel)) (hts (.initialized "java/lang/IllegalArgumentException") (by decide +kernel)) (fun w9 h9 => hts w9 (List.mem_cons_of_mem _ (List.mem_append_right _ h9))) q_bd39 q_ok39 hG ht hlocks (hl.1.trans hml.symm) hP hK hD hS dX3_requireWind_10 dX3_requireWind_13 dX3_requireWind_14 dX3_requireWind_16 dX3_requireWind_19 (by decide) (by decide) (Nat.le_of_ble_eq_true rfl) (Nat.le_of_ble_eq_true rfl)
abbrev rtX3_requireKind : Room := { frames := 6, cells := 1, slots := 6, locals := 90 }
set_option maxHeartbeats 1000000 in
set_option maxRecDepth 100000 in
theorem t_X3_requireKind_x (l : Launch) (hst : l.stackTraces = false) (D : va_G) (T : Nat → ClassId) (x wa fl tf tb : Nat) (v y : Int32) (h : v < 0 ∨ ¬ v < y) : q_X l D (q_ty T) yX3_requireKind wsX3_requireKind rtX3_requireKind [.ref x, .int v, .int y] [q_xc x wa fl tf tb] q_E53 := by
  refine q_startX (cc := cX3_requireKind) (maxL := 3) (ret := none) (by decide) rfl (Nat.le_of_ble_eq_true rfl) ?_
  intro p e s m args below meth c A H locs hx hb hr hts hown hlocks hml hnm ht hP hK hD hS hA hG ls hl
  have hown : s.vm.findClass RX3 = some m.cls := hown
  have hC : CallFix p m c cX3_requireKind 3 s args wsX3_requireKind RX3 := ⟨hx, hb, hml, hown, hts⟩
  have hl : lv_has ls 3 [(0, .ref x), (1, .int v), (2, .int y)] := hl
  refine lv_iload_n hx hb dX3_requireKind_0 rfl (lv_at hl 1 rfl) ?_
  refine lv_if_lt (tgt := 9) hx hb dX3_requireKind_1 (by decide) (fun c_1 => ?_) (fun c_1 => ?_)
  · exact q_thr (C := [q_xc x wa fl tf tb]) (rs := []) (text := "nothing is told of this") hst hx hb hown (by decide +kernel) (by decide +kernel) (hts (.classLink RX3 49 "java/lang/IndexOutOfBoundsException") (by decide +kernel)) (hts (.initialized "java/lang/IndexOutOfBoundsException") (by decide +kernel)) (fun w9 h9 => hts w9 (List.mem_cons_of_mem _ (List.mem_append_right _ h9))) q_bd53 q_ok53 hG ht hlocks (hl.1.trans hml.symm) hP hK hD hS dX3_requireKind_9 dX3_requireKind_12 dX3_requireKind_13 dX3_requireKind_15 dX3_requireKind_18 (by decide) (by decide) (Nat.le_of_ble_eq_true rfl) (Nat.le_of_ble_eq_true rfl)
  · refine lv_iload_n hx hb dX3_requireKind_4 rfl (lv_at hl 1 rfl) ?_
    refine lv_iload_n hx hb dX3_requireKind_5 rfl (lv_at hl 2 rfl) ?_
    refine lv_icmp_lt (tgt := 19) hx hb dX3_requireKind_6 (by decide) (fun c_6 => absurd c_6 (h.resolve_left c_1)) (fun c_6 => ?_)
    exact q_thr (C := [q_xc x wa fl tf tb]) (rs := []) (text := "nothing is told of this") hst hx hb hown (by decide +kernel) (by decide +kernel) (hts (.classLink RX3 49 "java/lang/IndexOutOfBoundsException") (by decide +kernel)) (hts (.initialized "java/lang/IndexOutOfBoundsException") (by decide +kernel)) (fun w9 h9 => hts w9 (List.mem_cons_of_mem _ (List.mem_append_right _ h9))) q_bd53 q_ok53 hG ht hlocks (hl.1.trans hml.symm) hP hK hD hS dX3_requireKind_9 dX3_requireKind_12 dX3_requireKind_13 dX3_requireKind_15 dX3_requireKind_18 (by decide) (by decide) (Nat.le_of_ble_eq_true rfl) (Nat.le_of_ble_eq_true rfl)
abbrev rtX3_requireBoat : Room := { frames := 6, cells := 1, slots := 6, locals := 90 }
set_option maxHeartbeats 1000000 in
set_option maxRecDepth 100000 in
theorem t_X3_requireBoat_x (l : Launch) (hst : l.stackTraces = false) (D : va_G) (T : Nat → ClassId) (x wa fl tf tb al ar n : Nat) (md : Int32) (u : Nat → Int32) (v : Int32) (h : v < 0 ∨ ¬ v < nI n) : q_X l D (q_ty T) yX3_requireBoat wsX3_requireBoat rtX3_requireBoat [.ref x, .int v] [q_xc x wa fl tf tb, q_fc fl al u, q_ac al md ar n] q_E53 := by
  refine q_startX (cc := cX3_requireBoat) (maxL := 2) (ret := none) (by decide) rfl (Nat.le_of_ble_eq_true rfl) ?_
  intro p e s m args below meth c A H locs hx hb hr hts hown hlocks hml hnm ht hP hK hD hS hA hG ls hl
  have hown : s.vm.findClass RX3 = some m.cls := hown
  have hC : CallFix p m c cX3_requireBoat 2 s args wsX3_requireBoat RX3 := ⟨hx, hb, hml, hown, hts⟩
  have iX3 : ∀ w ∈ wsX30, w ∈ wsX3_requireBoat := by decide +kernel
  have iX1 : ∀ w ∈ wsX10, w ∈ wsX3_requireBoat := by decide +kernel
  have hl : lv_has ls 2 [(0, .ref x), (1, .int v)] := hl
  refine lv_iload_n hx hb dX3_requireBoat_0 rfl (lv_at hl 1 rfl) ?_
  refine lv_if_lt (tgt := 18) hx hb dX3_requireBoat_1 (by decide) (fun c_1 => ?_) (fun c_1 => ?_)
  · exact q_thr (C := [q_xc x wa fl tf tb, q_fc fl al u, q_ac al md ar n]) (rs := []) (text := "there is no such boat") hst hx hb hown (by decide +kernel) (by decide +kernel) (hts (.classLink RX3 49 "java/lang/IndexOutOfBoundsException") (by decide +kernel)) (hts (.initialized "java/lang/IndexOutOfBoundsException") (by decide +kernel)) (fun w9 h9 => hts w9 (List.mem_cons_of_mem _ (List.mem_append_right _ h9))) q_bd53 q_ok53 hG ht hlocks (hl.1.trans hml.symm) hP hK hD hS dX3_requireBoat_18 dX3_requireBoat_21 dX3_requireBoat_22 dX3_requireBoat_24 dX3_requireBoat_27 (by decide) (by decide) (Nat.le_of_ble_eq_true rfl) (Nat.le_of_ble_eq_true rfl)
  · refine lv_iload_n hx hb dX3_requireBoat_4 rfl (lv_at hl 1 rfl) ?_
    refine lv_aload_n hx hb dX3_requireBoat_5 rfl (lv_at hl 0 rfl) ?_
    refine va_get (D := D) (ci := 4) (v := .ref fl) (C := RX3) (T := TX3) (N := 4) hx hb hts iX3 hown hK hP 0 rfl rfl 1 (by decide) (hts (.fieldLink RX3 19 "ToyRegatta" "fleet" "LToyRegatta$Fleet;") (by decide +kernel)) (fun _ h9 => h9) rfl dX3_requireBoat_6 ?_
    refine va_get (D := D) (ci := 2) (v := .ref al) (C := RX1) (T := TX1) (N := 5) hx hb hts iX1 hown hK hP 1 rfl rfl 0 (by decide) (hts (.fieldLink RX3 66 "ToyRegatta$Fleet" "boats" "Ljava/util/ArrayList;") (by decide +kernel)) (fun _ h9 => h9) rfl dX3_requireBoat_9 ?_
    refine q_callV (As := []) (rs := [.int v]) hC (c_AL_size l D T al ar n md) q_no_st q_no_at (cwV 0 hts gX3_requireBoat_Jx4a65c_size_8abf5 rfl rfl rfl (by decide +kernel) ⟨Nat.le_of_ble_eq_true rfl, Nat.le_of_ble_eq_true rfl⟩) (va_recv hK hP (ci := 0) (q0 := 2) rfl rfl) hK hP hD hS hA (q_mask [false, false, true] _) rfl hl.1 rfl (Nat.le_of_ble_eq_true rfl) dX3_requireBoat_12 ⟨(Nat.le_of_ble_eq_true rfl), (Nat.le_of_ble_eq_true rfl)⟩ (fun v9 C9 H locs hp hP hD hS => ?_)
    obtain ⟨rfl, rfl⟩ := hp
    have hP : va_P D vwCl [q_xc x wa fl tf tb, q_fc fl al u, q_ac al md ar n] H := q_P_perm (q_mrg_perm [false, false, true] _ _) hP
    have hD : va_D A [q_xc x wa fl tf tb, q_fc fl al u, q_ac al md ar n] := q_D_perm (q_mrg_perm [false, false, true] _ _) hD
    refine lv_icmp_lt (tgt := 28) hx hb dX3_requireBoat_15 (by decide) (fun c_15 => absurd c_15 (h.resolve_left c_1)) (fun c_15 => ?_)
    exact q_thr (C := [q_xc x wa fl tf tb, q_fc fl al u, q_ac al md ar n]) (rs := []) (text := "there is no such boat") hst hx hb hown (by decide +kernel) (by decide +kernel) (hts (.classLink RX3 49 "java/lang/IndexOutOfBoundsException") (by decide +kernel)) (hts (.initialized "java/lang/IndexOutOfBoundsException") (by decide +kernel)) (fun w9 h9 => hts w9 (List.mem_cons_of_mem _ (List.mem_append_right _ h9))) q_bd53 q_ok53 hG ht hlocks (hl.1.trans hml.symm) hP hK hD hS dX3_requireBoat_18 dX3_requireBoat_21 dX3_requireBoat_22 dX3_requireBoat_24 dX3_requireBoat_27 (by decide) (by decide) (Nat.le_of_ble_eq_true rfl) (Nat.le_of_ble_eq_true rfl)
abbrev rtX3_boatAt : Room := { frames := 7, cells := 1, slots := 6, locals := 111 }
set_option maxHeartbeats 1000000 in
set_option maxRecDepth 100000 in
theorem t_X3_boatAt_x (l : Launch) (hst : l.stackTraces = false) (D : va_G) (T : Nat → ClassId) (x wa fl tf tb al ar n : Nat) (md : Int32) (u : Nat → Int32) (v : Int32) (h : v < 0 ∨ ¬ v < nI n) : q_X l D (q_ty T) yX3_boatAt wsX3_boatAt rtX3_boatAt [.ref x, .int v] [q_xc x wa fl tf tb, q_fc fl al u, q_ac al md ar n] q_E53 := by
  refine q_startX (cc := cX3_boatAt) (maxL := 2) (ret := (some (.object "ToyRegatta$Boat"))) (by decide) rfl (Nat.le_of_ble_eq_true rfl) ?_
  intro p e s m args below meth c A H locs hx hb hr hts hown hlocks hml hnm ht hP hK hD hS hA hG ls hl
  have hown : s.vm.findClass RX3 = some m.cls := hown
  have hC : CallFix p m c cX3_boatAt 2 s args wsX3_boatAt RX3 := ⟨hx, hb, hml, hown, hts⟩
  have hl : lv_has ls 2 [(0, .ref x), (1, .int v)] := hl
  refine lv_aload_n hx hb dX3_boatAt_0 rfl (lv_at hl 0 rfl) ?_
  refine lv_iload_n hx hb dX3_boatAt_1 rfl (lv_at hl 1 rfl) ?_
  exact q_propV (As := [.int v]) (rs := []) hC (t_X3_requireBoat_x l hst D T x wa fl tf tb al ar n md u v h) hG (cwV 1 hts gX3_boatAt_X3_requireBoat rfl rfl rfl (by decide +kernel) ⟨Nat.le_of_ble_eq_true rfl, Nat.le_of_ble_eq_true rfl⟩) (va_recv hK hP (ci := 4) (q0 := 0) rfl rfl) hK hP hD hS hA (q_mask [true, true, true] _) rfl hl.1 rfl (Nat.le_of_ble_eq_true rfl) dX3_boatAt_2 ⟨(Nat.le_of_ble_eq_true rfl), (Nat.le_of_ble_eq_true rfl)⟩ ht hlocks (q_mrg_perm [true, true, true] _ _)
abbrev rtX3_pond : Room := { frames := 7, cells := 1, slots := 6, locals := 110 }
set_option maxHeartbeats 1000000 in
set_option maxRecDepth 100000 in
theorem t_X3_pond_f1 (l : Launch) (hst : l.stackTraces = false) (D : va_G) (T : Nat → ClassId) (x wa fl tf tb : Nat) (v : Int32) (h : v < 20 ∨ ¬ v ≤ 200) : q_X l D (q_ty T) yX3_pond wsX3_pond rtX3_pond [.ref x, .int v] [q_xc x wa fl tf tb] q_E39 := by
  refine q_startX (cc := cX3_pond) (maxL := 3) (ret := (some .int)) (by decide) rfl (Nat.le_of_ble_eq_true rfl) ?_
  intro p e s m args below meth c A H locs hx hb hr hts hown hlocks hml hnm ht hP hK hD hS hA hG ls hl
  have hown : s.vm.findClass RX3 = some m.cls := hown
  have hC : CallFix p m c cX3_pond 3 s args wsX3_pond RX3 := ⟨hx, hb, hml, hown, hts⟩
  have hl : lv_has ls 3 [(0, .ref x), (1, .int v)] := hl
  refine lv_iload_n hx hb dX3_pond_0 rfl (lv_at hl 1 rfl) ?_
  refine lv_bipush (v := 20) hx hb dX3_pond_1 (by decide) ?_
  refine lv_icmp_lt (tgt := 13) hx hb dX3_pond_3 (by decide) (fun c_3 => ?_) (fun c_3 => ?_)
  · exact q_thr (C := [q_xc x wa fl tf tb]) (rs := []) (text := "a pond's length is 20 to 200") hst hx hb hown (by decide +kernel) (by decide +kernel) (hts (.classLink RX3 35 "java/lang/IllegalArgumentException") (by decide +kernel)) (hts (.initialized "java/lang/IllegalArgumentException") (by decide +kernel)) (fun w9 h9 => hts w9 (List.mem_cons_of_mem _ (List.mem_append_left _ (List.mem_append_right _ h9)))) q_bd39 q_ok39 hG ht hlocks (hl.1.trans hml.symm) hP hK hD hS dX3_pond_13 dX3_pond_16 dX3_pond_17 dX3_pond_19 dX3_pond_22 (by decide) (by decide) (Nat.le_of_ble_eq_true rfl) (Nat.le_of_ble_eq_true rfl)
  · refine lv_iload_n hx hb dX3_pond_6 rfl (lv_at hl 1 rfl) ?_
    refine lv_sipush (v := 200) hx hb dX3_pond_7 (by decide) ?_
    refine lv_icmp_le (tgt := 23) hx hb dX3_pond_10 (by decide) (fun c_10 => absurd c_10 (h.resolve_left c_3)) (fun c_10 => ?_)
    exact q_thr (C := [q_xc x wa fl tf tb]) (rs := []) (text := "a pond's length is 20 to 200") hst hx hb hown (by decide +kernel) (by decide +kernel) (hts (.classLink RX3 35 "java/lang/IllegalArgumentException") (by decide +kernel)) (hts (.initialized "java/lang/IllegalArgumentException") (by decide +kernel)) (fun w9 h9 => hts w9 (List.mem_cons_of_mem _ (List.mem_append_left _ (List.mem_append_right _ h9)))) q_bd39 q_ok39 hG ht hlocks (hl.1.trans hml.symm) hP hK hD hS dX3_pond_13 dX3_pond_16 dX3_pond_17 dX3_pond_19 dX3_pond_22 (by decide) (by decide) (Nat.le_of_ble_eq_true rfl) (Nat.le_of_ble_eq_true rfl)
set_option maxHeartbeats 1000000 in
set_option maxRecDepth 100000 in
theorem t_X3_pond_f2 (l : Launch) (hst : l.stackTraces = false) (D : va_G) (T : Nat → ClassId) (x wa fl tf tb al : Nat) (u : Nat → Int32) (v : Int32) (h1 : ¬ v < 20) (h2 : v ≤ 200) (h9 : ¬ u 2 = 0) : q_X l D (q_ty T) yX3_pond wsX3_pond rtX3_pond [.ref x, .int v] [q_xc x wa fl tf tb, q_fc fl al u] q_E80 := by
  refine q_startX (cc := cX3_pond) (maxL := 3) (ret := (some .int)) (by decide) rfl (Nat.le_of_ble_eq_true rfl) ?_
  intro p e s m args below meth c A H locs hx hb hr hts hown hlocks hml hnm ht hP hK hD hS hA hG ls hl
  have hown : s.vm.findClass RX3 = some m.cls := hown
  have hC : CallFix p m c cX3_pond 3 s args wsX3_pond RX3 := ⟨hx, hb, hml, hown, hts⟩
  have hl : lv_has ls 3 [(0, .ref x), (1, .int v)] := hl
  refine lv_iload_n hx hb dX3_pond_0 rfl (lv_at hl 1 rfl) ?_
  refine lv_bipush (v := 20) hx hb dX3_pond_1 (by decide) ?_
  refine lv_icmp_lt (tgt := 13) hx hb dX3_pond_3 (by decide) (fun c_3 => absurd c_3 h1) (fun c_3 => ?_)
  refine lv_iload_n hx hb dX3_pond_6 rfl (lv_at hl 1 rfl) ?_
  refine lv_sipush (v := 200) hx hb dX3_pond_7 (by decide) ?_
  refine lv_icmp_le (tgt := 23) hx hb dX3_pond_10 (by decide) (fun c_10 => ?_) (fun c_10 => absurd h2 c_10)
  refine lv_aload_n hx hb dX3_pond_23 rfl (lv_at hl 0 rfl) ?_
  exact q_propV (As := []) (rs := []) hC (t_X3_requireNoRace_x l hst D T x wa fl tf tb al u h9) hG (cwV 0 hts gX3_pond_X3_requireNoRace rfl rfl rfl (by decide +kernel) ⟨Nat.le_of_ble_eq_true rfl, Nat.le_of_ble_eq_true rfl⟩) (va_recv hK hP (ci := 4) (q0 := 0) rfl rfl) hK hP hD hS hA (q_mask [true, true] _) rfl hl.1 rfl (Nat.le_of_ble_eq_true rfl) dX3_pond_24 ⟨(Nat.le_of_ble_eq_true rfl), (Nat.le_of_ble_eq_true rfl)⟩ ht hlocks (q_mrg_perm [true, true] _ _)
abbrev rtX3_setWind : Room := { frames := 7, cells := 1, slots := 6, locals := 111 }
set_option maxHeartbeats 1000000 in
set_option maxRecDepth 100000 in
theorem t_X3_setWind_f1 (l : Launch) (hst : l.stackTraces = false) (D : va_G) (T : Nat → ClassId) (x wa fl tf tb : Nat) (y v : Int32) (h : y < 0 ∨ ¬ y < 10) : q_X l D (q_ty T) yX3_setWind wsX3_setWind rtX3_setWind [.ref x, .int y, .int v] [q_xc x wa fl tf tb] q_E53 := by
  refine q_startX (cc := cX3_setWind) (maxL := 3) (ret := (some .int)) (by decide) rfl (Nat.le_of_ble_eq_true rfl) ?_
  intro p e s m args below meth c A H locs hx hb hr hts hown hlocks hml hnm ht hP hK hD hS hA hG ls hl
  have hown : s.vm.findClass RX3 = some m.cls := hown
  have hC : CallFix p m c cX3_setWind 3 s args wsX3_setWind RX3 := ⟨hx, hb, hml, hown, hts⟩
  have hl : lv_has ls 3 [(0, .ref x), (1, .int y), (2, .int v)] := hl
  refine lv_iload_n hx hb dX3_setWind_0 rfl (lv_at hl 1 rfl) ?_
  refine lv_if_lt (tgt := 10) hx hb dX3_setWind_1 (by decide) (fun c_1 => ?_) (fun c_1 => ?_)
  · exact q_thr (C := [q_xc x wa fl tf tb]) (rs := []) (text := "a minute of the table is 0 to 9") hst hx hb hown (by decide +kernel) (by decide +kernel) (hts (.classLink RX3 49 "java/lang/IndexOutOfBoundsException") (by decide +kernel)) (hts (.initialized "java/lang/IndexOutOfBoundsException") (by decide +kernel)) (fun w9 h9 => hts w9 (List.mem_cons_of_mem _ (List.mem_append_left _ (List.mem_append_right _ h9)))) q_bd53 q_ok53 hG ht hlocks (hl.1.trans hml.symm) hP hK hD hS dX3_setWind_10 dX3_setWind_13 dX3_setWind_14 dX3_setWind_16 dX3_setWind_19 (by decide) (by decide) (Nat.le_of_ble_eq_true rfl) (Nat.le_of_ble_eq_true rfl)
  · refine lv_iload_n hx hb dX3_setWind_4 rfl (lv_at hl 1 rfl) ?_
    refine lv_bipush (v := 10) hx hb dX3_setWind_5 (by decide) ?_
    refine lv_icmp_lt (tgt := 20) hx hb dX3_setWind_7 (by decide) (fun c_7 => absurd c_7 (h.resolve_left c_1)) (fun c_7 => ?_)
    exact q_thr (C := [q_xc x wa fl tf tb]) (rs := []) (text := "a minute of the table is 0 to 9") hst hx hb hown (by decide +kernel) (by decide +kernel) (hts (.classLink RX3 49 "java/lang/IndexOutOfBoundsException") (by decide +kernel)) (hts (.initialized "java/lang/IndexOutOfBoundsException") (by decide +kernel)) (fun w9 h9 => hts w9 (List.mem_cons_of_mem _ (List.mem_append_left _ (List.mem_append_right _ h9)))) q_bd53 q_ok53 hG ht hlocks (hl.1.trans hml.symm) hP hK hD hS dX3_setWind_10 dX3_setWind_13 dX3_setWind_14 dX3_setWind_16 dX3_setWind_19 (by decide) (by decide) (Nat.le_of_ble_eq_true rfl) (Nat.le_of_ble_eq_true rfl)
set_option maxHeartbeats 1000000 in
set_option maxRecDepth 100000 in
theorem t_X3_setWind_f2 (l : Launch) (hst : l.stackTraces = false) (D : va_G) (T : Nat → ClassId) (x wa fl tf tb : Nat) (y v : Int32) (h1 : ¬ y < 0) (h2 : y < 10) (h : v < 0 ∨ ¬ v ≤ 9) : q_X l D (q_ty T) yX3_setWind wsX3_setWind rtX3_setWind [.ref x, .int y, .int v] [q_xc x wa fl tf tb] q_E39 := by
  refine q_startX (cc := cX3_setWind) (maxL := 3) (ret := (some .int)) (by decide) rfl (Nat.le_of_ble_eq_true rfl) ?_
  intro p e s m args below meth c A H locs hx hb hr hts hown hlocks hml hnm ht hP hK hD hS hA hG ls hl
  have hown : s.vm.findClass RX3 = some m.cls := hown
  have hC : CallFix p m c cX3_setWind 3 s args wsX3_setWind RX3 := ⟨hx, hb, hml, hown, hts⟩
  have hl : lv_has ls 3 [(0, .ref x), (1, .int y), (2, .int v)] := hl
  refine lv_iload_n hx hb dX3_setWind_0 rfl (lv_at hl 1 rfl) ?_
  refine lv_if_lt (tgt := 10) hx hb dX3_setWind_1 (by decide) (fun c_1 => absurd c_1 h1) (fun c_1 => ?_)
  refine lv_iload_n hx hb dX3_setWind_4 rfl (lv_at hl 1 rfl) ?_
  refine lv_bipush (v := 10) hx hb dX3_setWind_5 (by decide) ?_
  refine lv_icmp_lt (tgt := 20) hx hb dX3_setWind_7 (by decide) (fun c_7 => ?_) (fun c_7 => absurd h2 c_7)
  refine lv_aload_n hx hb dX3_setWind_20 rfl (lv_at hl 0 rfl) ?_
  refine lv_iload_n hx hb dX3_setWind_21 rfl (lv_at hl 2 rfl) ?_
  exact q_propV (As := [.int v]) (rs := []) hC (t_X3_requireWind_x l hst D T x wa fl tf tb v h) hG (cwV 1 hts gX3_setWind_X3_requireWind rfl rfl rfl (by decide +kernel) ⟨Nat.le_of_ble_eq_true rfl, Nat.le_of_ble_eq_true rfl⟩) (va_recv hK hP (ci := 4) (q0 := 0) rfl rfl) hK hP hD hS hA (q_mask [true] _) rfl hl.1 rfl (Nat.le_of_ble_eq_true rfl) dX3_setWind_22 ⟨(Nat.le_of_ble_eq_true rfl), (Nat.le_of_ble_eq_true rfl)⟩ ht hlocks (q_mrg_perm [true] _ _)
abbrev rtX3_build : Room := { frames := 7, cells := 1, slots := 6, locals := 110 }
set_option maxHeartbeats 1000000 in
set_option maxRecDepth 100000 in
theorem t_X3_build_f1 (l : Launch) (hst : l.stackTraces = false) (D : va_G) (T : Nat → ClassId) (x wa fl tf tb : Nat) (hull rig : Int32) (h : rig < 0 ∨ ¬ rig ≤ 2) : q_X l D (q_ty T) yX3_build wsX3_build rtX3_build [.ref x, .int hull, .int rig] [q_xc x wa fl tf tb] q_E53 := by
  refine q_startX (cc := cX3_build) (maxL := 4) (ret := (some .int)) (by decide) rfl (Nat.le_of_ble_eq_true rfl) ?_
  intro p e s m args below meth c A H locs hx hb hr hts hown hlocks hml hnm ht hP hK hD hS hA hG ls hl
  have hown : s.vm.findClass RX3 = some m.cls := hown
  have hC : CallFix p m c cX3_build 4 s args wsX3_build RX3 := ⟨hx, hb, hml, hown, hts⟩
  have hl : lv_has ls 4 [(0, .ref x), (1, .int hull), (2, .int rig)] := hl
  refine lv_iload_n hx hb dX3_build_0 rfl (lv_at hl 2 rfl) ?_
  refine lv_if_lt (tgt := 9) hx hb dX3_build_1 (by decide) (fun c_1 => ?_) (fun c_1 => ?_)
  · exact q_thr (C := [q_xc x wa fl tf tb]) (rs := []) (text := "a rig is 0 to 2") hst hx hb hown (by decide +kernel) (by decide +kernel) (hts (.classLink RX3 49 "java/lang/IndexOutOfBoundsException") (by decide +kernel)) (hts (.initialized "java/lang/IndexOutOfBoundsException") (by decide +kernel)) (fun w9 h9 => hts w9 (List.mem_cons_of_mem _ (List.mem_append_left _ (List.mem_append_left _ (List.mem_append_right _ h9))))) q_bd53 q_ok53 hG ht hlocks (hl.1.trans hml.symm) hP hK hD hS dX3_build_9 dX3_build_12 dX3_build_13 dX3_build_15 dX3_build_18 (by decide) (by decide) (Nat.le_of_ble_eq_true rfl) (Nat.le_of_ble_eq_true rfl)
  · refine lv_iload_n hx hb dX3_build_4 rfl (lv_at hl 2 rfl) ?_
    refine lv_iconst (v := 2) hx hb dX3_build_5 (by decide) ?_
    refine lv_icmp_le (tgt := 19) hx hb dX3_build_6 (by decide) (fun c_6 => absurd c_6 (h.resolve_left c_1)) (fun c_6 => ?_)
    exact q_thr (C := [q_xc x wa fl tf tb]) (rs := []) (text := "a rig is 0 to 2") hst hx hb hown (by decide +kernel) (by decide +kernel) (hts (.classLink RX3 49 "java/lang/IndexOutOfBoundsException") (by decide +kernel)) (hts (.initialized "java/lang/IndexOutOfBoundsException") (by decide +kernel)) (fun w9 h9 => hts w9 (List.mem_cons_of_mem _ (List.mem_append_left _ (List.mem_append_left _ (List.mem_append_right _ h9))))) q_bd53 q_ok53 hG ht hlocks (hl.1.trans hml.symm) hP hK hD hS dX3_build_9 dX3_build_12 dX3_build_13 dX3_build_15 dX3_build_18 (by decide) (by decide) (Nat.le_of_ble_eq_true rfl) (Nat.le_of_ble_eq_true rfl)
set_option maxHeartbeats 1000000 in
set_option maxRecDepth 100000 in
theorem t_X3_build_f2 (l : Launch) (hst : l.stackTraces = false) (D : va_G) (T : Nat → ClassId) (x wa fl tf tb : Nat) (hull rig : Int32) (h1 : ¬ rig < 0) (h2 : rig ≤ 2) (h : hull < 1 ∨ ¬ hull ≤ 9) : q_X l D (q_ty T) yX3_build wsX3_build rtX3_build [.ref x, .int hull, .int rig] [q_xc x wa fl tf tb] q_E39 := by
  refine q_startX (cc := cX3_build) (maxL := 4) (ret := (some .int)) (by decide) rfl (Nat.le_of_ble_eq_true rfl) ?_
  intro p e s m args below meth c A H locs hx hb hr hts hown hlocks hml hnm ht hP hK hD hS hA hG ls hl
  have hown : s.vm.findClass RX3 = some m.cls := hown
  have hC : CallFix p m c cX3_build 4 s args wsX3_build RX3 := ⟨hx, hb, hml, hown, hts⟩
  have hl : lv_has ls 4 [(0, .ref x), (1, .int hull), (2, .int rig)] := hl
  refine lv_iload_n hx hb dX3_build_0 rfl (lv_at hl 2 rfl) ?_
  refine lv_if_lt (tgt := 9) hx hb dX3_build_1 (by decide) (fun c_1 => absurd c_1 h1) (fun c_1 => ?_)
  refine lv_iload_n hx hb dX3_build_4 rfl (lv_at hl 2 rfl) ?_
  refine lv_iconst (v := 2) hx hb dX3_build_5 (by decide) ?_
  refine lv_icmp_le (tgt := 19) hx hb dX3_build_6 (by decide) (fun c_6 => ?_) (fun c_6 => absurd h2 c_6)
  refine lv_iload_n hx hb dX3_build_19 rfl (lv_at hl 1 rfl) ?_
  refine lv_iconst (v := 1) hx hb dX3_build_20 (by decide) ?_
  refine lv_icmp_lt (tgt := 30) hx hb dX3_build_21 (by decide) (fun c_21 => ?_) (fun c_21 => ?_)
  · exact q_thr (C := [q_xc x wa fl tf tb]) (rs := []) (text := "a hull is 1 to 9") hst hx hb hown (by decide +kernel) (by decide +kernel) (hts (.classLink RX3 35 "java/lang/IllegalArgumentException") (by decide +kernel)) (hts (.initialized "java/lang/IllegalArgumentException") (by decide +kernel)) (fun w9 h9 => hts w9 (List.mem_cons_of_mem _ (List.mem_append_left _ (List.mem_append_right _ h9)))) q_bd39 q_ok39 hG ht hlocks (hl.1.trans hml.symm) hP hK hD hS dX3_build_30 dX3_build_33 dX3_build_34 dX3_build_36 dX3_build_39 (by decide) (by decide) (Nat.le_of_ble_eq_true rfl) (Nat.le_of_ble_eq_true rfl)
  · refine lv_iload_n hx hb dX3_build_24 rfl (lv_at hl 1 rfl) ?_
    refine lv_bipush (v := 9) hx hb dX3_build_25 (by decide) ?_
    refine lv_icmp_le (tgt := 40) hx hb dX3_build_27 (by decide) (fun c_27 => absurd c_27 (h.resolve_left c_21)) (fun c_27 => ?_)
    exact q_thr (C := [q_xc x wa fl tf tb]) (rs := []) (text := "a hull is 1 to 9") hst hx hb hown (by decide +kernel) (by decide +kernel) (hts (.classLink RX3 35 "java/lang/IllegalArgumentException") (by decide +kernel)) (hts (.initialized "java/lang/IllegalArgumentException") (by decide +kernel)) (fun w9 h9 => hts w9 (List.mem_cons_of_mem _ (List.mem_append_left _ (List.mem_append_right _ h9)))) q_bd39 q_ok39 hG ht hlocks (hl.1.trans hml.symm) hP hK hD hS dX3_build_30 dX3_build_33 dX3_build_34 dX3_build_36 dX3_build_39 (by decide) (by decide) (Nat.le_of_ble_eq_true rfl) (Nat.le_of_ble_eq_true rfl)
set_option maxHeartbeats 1000000 in
set_option maxRecDepth 100000 in
theorem t_X3_build_f3 (l : Launch) (hst : l.stackTraces = false) (D : va_G) (T : Nat → ClassId) (x wa fl tf tb al ar n : Nat) (md : Int32) (u : Nat → Int32) (hull rig : Int32) (h1 : ¬ rig < 0) (h2 : rig ≤ 2) (h3 : ¬ hull < 1) (h4 : hull ≤ 9) (hn : n ≤ 8) (h8 : 8 ≤ n) : q_X l D (q_ty T) yX3_build wsX3_build rtX3_build [.ref x, .int hull, .int rig] [q_xc x wa fl tf tb, q_fc fl al u, q_ac al md ar n] q_E80 := by
  refine q_startX (cc := cX3_build) (maxL := 4) (ret := (some .int)) (by decide) rfl (Nat.le_of_ble_eq_true rfl) ?_
  intro p e s m args below meth c A H locs hx hb hr hts hown hlocks hml hnm ht hP hK hD hS hA hG ls hl
  have hown : s.vm.findClass RX3 = some m.cls := hown
  have hC : CallFix p m c cX3_build 4 s args wsX3_build RX3 := ⟨hx, hb, hml, hown, hts⟩
  have iX3 : ∀ w ∈ wsX30, w ∈ wsX3_build := by decide +kernel
  have iX1 : ∀ w ∈ wsX10, w ∈ wsX3_build := by decide +kernel
  have hl : lv_has ls 4 [(0, .ref x), (1, .int hull), (2, .int rig)] := hl
  refine lv_iload_n hx hb dX3_build_0 rfl (lv_at hl 2 rfl) ?_
  refine lv_if_lt (tgt := 9) hx hb dX3_build_1 (by decide) (fun c_1 => absurd c_1 h1) (fun c_1 => ?_)
  refine lv_iload_n hx hb dX3_build_4 rfl (lv_at hl 2 rfl) ?_
  refine lv_iconst (v := 2) hx hb dX3_build_5 (by decide) ?_
  refine lv_icmp_le (tgt := 19) hx hb dX3_build_6 (by decide) (fun c_6 => ?_) (fun c_6 => absurd h2 c_6)
  refine lv_iload_n hx hb dX3_build_19 rfl (lv_at hl 1 rfl) ?_
  refine lv_iconst (v := 1) hx hb dX3_build_20 (by decide) ?_
  refine lv_icmp_lt (tgt := 30) hx hb dX3_build_21 (by decide) (fun c_21 => absurd c_21 h3) (fun c_21 => ?_)
  refine lv_iload_n hx hb dX3_build_24 rfl (lv_at hl 1 rfl) ?_
  refine lv_bipush (v := 9) hx hb dX3_build_25 (by decide) ?_
  refine lv_icmp_le (tgt := 40) hx hb dX3_build_27 (by decide) (fun c_27 => ?_) (fun c_27 => absurd h4 c_27)
  refine lv_aload_n hx hb dX3_build_40 rfl (lv_at hl 0 rfl) ?_
  refine va_get (D := D) (ci := 4) (v := .ref fl) (C := RX3) (T := TX3) (N := 4) hx hb hts iX3 hown hK hP 0 rfl rfl 1 (by decide) (hts (.fieldLink RX3 19 "ToyRegatta" "fleet" "LToyRegatta$Fleet;") (by decide +kernel)) (fun _ h9 => h9) rfl dX3_build_41 ?_
  refine va_get (D := D) (ci := 2) (v := .ref al) (C := RX1) (T := TX1) (N := 5) hx hb hts iX1 hown hK hP 1 rfl rfl 0 (by decide) (hts (.fieldLink RX3 66 "ToyRegatta$Fleet" "boats" "Ljava/util/ArrayList;") (by decide +kernel)) (fun _ h9 => h9) rfl dX3_build_44 ?_
  refine q_callV (As := []) (rs := []) hC (c_AL_size l D T al ar n md) q_no_st q_no_at (cwV 0 hts gX3_build_Jx4a65c_size_8abf5 rfl rfl rfl (by decide +kernel) ⟨Nat.le_of_ble_eq_true rfl, Nat.le_of_ble_eq_true rfl⟩) (va_recv hK hP (ci := 0) (q0 := 2) rfl rfl) hK hP hD hS hA (q_mask [false, false, true] _) rfl hl.1 rfl (Nat.le_of_ble_eq_true rfl) dX3_build_47 ⟨(Nat.le_of_ble_eq_true rfl), (Nat.le_of_ble_eq_true rfl)⟩ (fun v9 C9 H locs hp hP hD hS => ?_)
  obtain ⟨rfl, rfl⟩ := hp
  have hP : va_P D vwCl [q_xc x wa fl tf tb, q_fc fl al u, q_ac al md ar n] H := q_P_perm (q_mrg_perm [false, false, true] _ _) hP
  have hD : va_D A [q_xc x wa fl tf tb, q_fc fl al u, q_ac al md ar n] := q_D_perm (q_mrg_perm [false, false, true] _ _) hD
  refine lv_istore_n (lv' := [(3, .int (nI n)), (0, .ref x), (1, .int hull), (2, .int rig)]) hx hb dX3_build_50 rfl hl (by decide) rfl (fun ls hl => ?_)
  refine lv_iload_n hx hb dX3_build_51 rfl (lv_at hl 0 rfl) ?_
  refine lv_bipush (v := 8) hx hb dX3_build_52 (by decide) ?_
  refine lv_icmp_lt (tgt := 67) hx hb dX3_build_54 (by decide) (fun c_54 => absurd c_54 (nI_nlt (b := 8) h8 (by omega))) (fun c_54 => ?_)
  exact q_thr (C := [q_xc x wa fl tf tb, q_fc fl al u, q_ac al md ar n]) (rs := []) (text := "there are 8 boats") hst hx hb hown (by decide +kernel) (by decide +kernel) (hts (.classLink RX3 76 "java/lang/IllegalStateException") (by decide +kernel)) (hts (.initialized "java/lang/IllegalStateException") (by decide +kernel)) (fun w9 h9 => hts w9 (List.mem_cons_of_mem _ (List.mem_append_right _ h9))) q_bd80 q_ok80 hG ht hlocks (hl.1.trans hml.symm) hP hK hD hS dX3_build_57 dX3_build_60 dX3_build_61 dX3_build_63 dX3_build_66 (by decide) (by decide) (Nat.le_of_ble_eq_true rfl) (Nat.le_of_ble_eq_true rfl)
set_option maxHeartbeats 1000000 in
set_option maxRecDepth 100000 in
theorem t_X3_build_f4 (l : Launch) (hst : l.stackTraces = false) (D : va_G) (T : Nat → ClassId) (x wa fl tf tb al ar n : Nat) (md : Int32) (u : Nat → Int32) (hull rig : Int32) (h1 : ¬ rig < 0) (h2 : rig ≤ 2) (h3 : ¬ hull < 1) (h4 : hull ≤ 9) (hn : n < 8) (h9 : ¬ u 2 = 0) : q_X l D (q_ty T) yX3_build wsX3_build rtX3_build [.ref x, .int hull, .int rig] [q_xc x wa fl tf tb, q_fc fl al u, q_ac al md ar n] q_E80 := by
  refine q_startX (cc := cX3_build) (maxL := 4) (ret := (some .int)) (by decide) rfl (Nat.le_of_ble_eq_true rfl) ?_
  intro p e s m args below meth c A H locs hx hb hr hts hown hlocks hml hnm ht hP hK hD hS hA hG ls hl
  have hown : s.vm.findClass RX3 = some m.cls := hown
  have hC : CallFix p m c cX3_build 4 s args wsX3_build RX3 := ⟨hx, hb, hml, hown, hts⟩
  have iX3 : ∀ w ∈ wsX30, w ∈ wsX3_build := by decide +kernel
  have iX1 : ∀ w ∈ wsX10, w ∈ wsX3_build := by decide +kernel
  have hl : lv_has ls 4 [(0, .ref x), (1, .int hull), (2, .int rig)] := hl
  refine lv_iload_n hx hb dX3_build_0 rfl (lv_at hl 2 rfl) ?_
  refine lv_if_lt (tgt := 9) hx hb dX3_build_1 (by decide) (fun c_1 => absurd c_1 h1) (fun c_1 => ?_)
  refine lv_iload_n hx hb dX3_build_4 rfl (lv_at hl 2 rfl) ?_
  refine lv_iconst (v := 2) hx hb dX3_build_5 (by decide) ?_
  refine lv_icmp_le (tgt := 19) hx hb dX3_build_6 (by decide) (fun c_6 => ?_) (fun c_6 => absurd h2 c_6)
  refine lv_iload_n hx hb dX3_build_19 rfl (lv_at hl 1 rfl) ?_
  refine lv_iconst (v := 1) hx hb dX3_build_20 (by decide) ?_
  refine lv_icmp_lt (tgt := 30) hx hb dX3_build_21 (by decide) (fun c_21 => absurd c_21 h3) (fun c_21 => ?_)
  refine lv_iload_n hx hb dX3_build_24 rfl (lv_at hl 1 rfl) ?_
  refine lv_bipush (v := 9) hx hb dX3_build_25 (by decide) ?_
  refine lv_icmp_le (tgt := 40) hx hb dX3_build_27 (by decide) (fun c_27 => ?_) (fun c_27 => absurd h4 c_27)
  refine lv_aload_n hx hb dX3_build_40 rfl (lv_at hl 0 rfl) ?_
  refine va_get (D := D) (ci := 4) (v := .ref fl) (C := RX3) (T := TX3) (N := 4) hx hb hts iX3 hown hK hP 0 rfl rfl 1 (by decide) (hts (.fieldLink RX3 19 "ToyRegatta" "fleet" "LToyRegatta$Fleet;") (by decide +kernel)) (fun _ h9 => h9) rfl dX3_build_41 ?_
  refine va_get (D := D) (ci := 2) (v := .ref al) (C := RX1) (T := TX1) (N := 5) hx hb hts iX1 hown hK hP 1 rfl rfl 0 (by decide) (hts (.fieldLink RX3 66 "ToyRegatta$Fleet" "boats" "Ljava/util/ArrayList;") (by decide +kernel)) (fun _ h9 => h9) rfl dX3_build_44 ?_
  refine q_callV (As := []) (rs := []) hC (c_AL_size l D T al ar n md) q_no_st q_no_at (cwV 0 hts gX3_build_Jx4a65c_size_8abf5 rfl rfl rfl (by decide +kernel) ⟨Nat.le_of_ble_eq_true rfl, Nat.le_of_ble_eq_true rfl⟩) (va_recv hK hP (ci := 0) (q0 := 2) rfl rfl) hK hP hD hS hA (q_mask [false, false, true] _) rfl hl.1 rfl (Nat.le_of_ble_eq_true rfl) dX3_build_47 ⟨(Nat.le_of_ble_eq_true rfl), (Nat.le_of_ble_eq_true rfl)⟩ (fun v9 C9 H locs hp hP hD hS => ?_)
  obtain ⟨rfl, rfl⟩ := hp
  have hP : va_P D vwCl [q_xc x wa fl tf tb, q_fc fl al u, q_ac al md ar n] H := q_P_perm (q_mrg_perm [false, false, true] _ _) hP
  have hD : va_D A [q_xc x wa fl tf tb, q_fc fl al u, q_ac al md ar n] := q_D_perm (q_mrg_perm [false, false, true] _ _) hD
  refine lv_istore_n (lv' := [(3, .int (nI n)), (0, .ref x), (1, .int hull), (2, .int rig)]) hx hb dX3_build_50 rfl hl (by decide) rfl (fun ls hl => ?_)
  refine lv_iload_n hx hb dX3_build_51 rfl (lv_at hl 0 rfl) ?_
  refine lv_bipush (v := 8) hx hb dX3_build_52 (by decide) ?_
  refine lv_icmp_lt (tgt := 67) hx hb dX3_build_54 (by decide) (fun c_54 => ?_) (fun c_54 => absurd (nI_lt (b := 8) hn (by omega)) c_54)
  refine lv_aload_n hx hb dX3_build_67 rfl (lv_at hl 1 rfl) ?_
  exact q_propV (As := []) (rs := []) hC (t_X3_requireNoRace_x l hst D T x wa fl tf tb al u h9) hG (cwV 0 hts gX3_build_X3_requireNoRace rfl rfl rfl (by decide +kernel) ⟨Nat.le_of_ble_eq_true rfl, Nat.le_of_ble_eq_true rfl⟩) (va_recv hK hP (ci := 4) (q0 := 0) rfl rfl) hK hP hD hS hA (q_mask [true, true, false] _) rfl hl.1 rfl (Nat.le_of_ble_eq_true rfl) dX3_build_68 ⟨(Nat.le_of_ble_eq_true rfl), (Nat.le_of_ble_eq_true rfl)⟩ ht hlocks (q_mrg_perm [true, true, false] _ _)
abbrev rtX3_ballast : Room := { frames := 8, cells := 1, slots := 6, locals := 132 }
set_option maxHeartbeats 1000000 in
set_option maxRecDepth 100000 in
theorem t_X3_ballast_f1 (l : Launch) (hst : l.stackTraces = false) (D : va_G) (T : Nat → ClassId) (x wa fl tf tb al ar n : Nat) (md : Int32) (u : Nat → Int32) (v y : Int32) (h : v < 0 ∨ ¬ v < nI n) : q_X l D (q_ty T) yX3_ballast wsX3_ballast rtX3_ballast [.ref x, .int v, .int y] [q_xc x wa fl tf tb, q_fc fl al u, q_ac al md ar n] q_E53 := by
  refine q_startX (cc := cX3_ballast) (maxL := 5) (ret := (some .int)) (by decide) rfl (Nat.le_of_ble_eq_true rfl) ?_
  intro p e s m args below meth c A H locs hx hb hr hts hown hlocks hml hnm ht hP hK hD hS hA hG ls hl
  have hown : s.vm.findClass RX3 = some m.cls := hown
  have hC : CallFix p m c cX3_ballast 5 s args wsX3_ballast RX3 := ⟨hx, hb, hml, hown, hts⟩
  have hl : lv_has ls 5 [(0, .ref x), (1, .int v), (2, .int y)] := hl
  refine lv_aload_n hx hb dX3_ballast_0 rfl (lv_at hl 0 rfl) ?_
  refine lv_iload_n hx hb dX3_ballast_1 rfl (lv_at hl 1 rfl) ?_
  exact q_propV (As := [.int v]) (rs := []) hC (t_X3_boatAt_x l hst D T x wa fl tf tb al ar n md u v h) hG (cwV 1 hts gX3_ballast_X3_boatAt rfl rfl rfl (by decide +kernel) ⟨Nat.le_of_ble_eq_true rfl, Nat.le_of_ble_eq_true rfl⟩) (va_recv hK hP (ci := 4) (q0 := 0) rfl rfl) hK hP hD hS hA (q_mask [true, true, true] _) rfl hl.1 rfl (Nat.le_of_ble_eq_true rfl) dX3_ballast_2 ⟨(Nat.le_of_ble_eq_true rfl), (Nat.le_of_ble_eq_true rfl)⟩ ht hlocks (q_mrg_perm [true, true, true] _ _)
set_option maxHeartbeats 1000000 in
set_option maxRecDepth 100000 in
theorem t_X3_ballast_f2 (l : Launch) (hst : l.stackTraces = false) (D : va_G) (T : Nat → ClassId) (x wa fl tf tb al ar n : Nat) (md : Int32) (u : Nat → Int32) (ad : Nat → Nat) (F : Nat → Nat → Int32) (hn : n ≤ 8) (i : Nat) (hi : i < n) (y : Int32) (h : y < 0 ∨ ¬ y ≤ 9) : q_X l D (q_ty T) yX3_ballast wsX3_ballast rtX3_ballast [.ref x, .int (nI i), .int y] ([q_xc x wa fl tf tb, q_fc fl al u, q_ac al md ar n] ++ q_tl (T 1) n ar ad F) q_E39 := by
  refine q_startX (cc := cX3_ballast) (maxL := 5) (ret := (some .int)) (by decide) rfl (Nat.le_of_ble_eq_true rfl) ?_
  intro p e s m args below meth c A H locs hx hb hr hts hown hlocks hml hnm ht hP hK hD hS hA hG ls hl
  have hown : s.vm.findClass RX3 = some m.cls := hown
  have hC : CallFix p m c cX3_ballast 5 s args wsX3_ballast RX3 := ⟨hx, hb, hml, hown, hts⟩
  have hl : lv_has ls 5 [(0, .ref x), (1, .int (nI i)), (2, .int y)] := hl
  refine lv_aload_n hx hb dX3_ballast_0 rfl (lv_at hl 0 rfl) ?_
  refine lv_iload_n hx hb dX3_ballast_1 rfl (lv_at hl 1 rfl) ?_
  refine q_callV (As := [.int (nI i)]) (rs := []) hC (c_X3_boatAt_ok l D T x wa fl tf tb al ar n md u ad F hn i hi) q_no_st q_no_at (cwV 1 hts gX3_ballast_X3_boatAt rfl rfl rfl (by decide +kernel) ⟨Nat.le_of_ble_eq_true rfl, Nat.le_of_ble_eq_true rfl⟩) (va_recv hK hP (ci := 4) (q0 := 0) rfl rfl) hK hP hD hS hA (q_tmask [true, true, true] [q_xc x wa fl tf tb, q_fc fl al u, q_ac al md ar n] (q_tl (T 1) n ar ad F)) rfl hl.1 rfl (Nat.le_of_ble_eq_true rfl) dX3_ballast_2 ⟨(Nat.le_of_ble_eq_true rfl), (Nat.le_of_ble_eq_true rfl)⟩ (fun v9 C9 H locs hp hP hD hS => ?_)
  obtain ⟨rfl, rfl⟩ := hp
  have hP : va_P D vwCl ([q_xc x wa fl tf tb, q_fc fl al u, q_ac al md ar n] ++ q_tl (T 1) n ar ad F) H := q_P_perm (q_tback [true, true, true] [q_xc x wa fl tf tb, q_fc fl al u, q_ac al md ar n] [] (q_tl (T 1) n ar ad F)) hP
  have hD : va_D A ([q_xc x wa fl tf tb, q_fc fl al u, q_ac al md ar n] ++ q_tl (T 1) n ar ad F) := q_D_perm (q_tback [true, true, true] [q_xc x wa fl tf tb, q_fc fl al u, q_ac al md ar n] [] (q_tl (T 1) n ar ad F)) hD
  refine lv_astore_n (lv' := [(3, .ref (ad i)), (0, .ref x), (1, .int (nI i)), (2, .int y)]) hx hb dX3_ballast_5 rfl hl (by decide) rfl (fun ls hl => ?_)
  refine lv_iload_n hx hb dX3_ballast_6 rfl (lv_at hl 3 rfl) ?_
  refine lv_if_lt (tgt := 16) hx hb dX3_ballast_7 (by decide) (fun c_7 => ?_) (fun c_7 => ?_)
  · exact q_thr (C := ([q_xc x wa fl tf tb, q_fc fl al u, q_ac al md ar n] ++ q_tl (T 1) n ar ad F)) (rs := []) (text := "lead is 0 to 9") hst hx hb hown (by decide +kernel) (by decide +kernel) (hts (.classLink RX3 35 "java/lang/IllegalArgumentException") (by decide +kernel)) (hts (.initialized "java/lang/IllegalArgumentException") (by decide +kernel)) (fun w9 h9 => hts w9 (List.mem_cons_of_mem _ (List.mem_append_left _ (List.mem_append_left _ (List.mem_append_right _ h9))))) q_bd39 q_ok39 hG ht hlocks (hl.1.trans hml.symm) hP hK hD hS dX3_ballast_16 dX3_ballast_19 dX3_ballast_20 dX3_ballast_22 dX3_ballast_25 (by decide) (by decide) (Nat.le_of_ble_eq_true rfl) (Nat.le_of_ble_eq_true rfl)
  · refine lv_iload_n hx hb dX3_ballast_10 rfl (lv_at hl 3 rfl) ?_
    refine lv_bipush (v := 9) hx hb dX3_ballast_11 (by decide) ?_
    refine lv_icmp_le (tgt := 26) hx hb dX3_ballast_13 (by decide) (fun c_13 => absurd c_13 (h.resolve_left c_7)) (fun c_13 => ?_)
    exact q_thr (C := ([q_xc x wa fl tf tb, q_fc fl al u, q_ac al md ar n] ++ q_tl (T 1) n ar ad F)) (rs := []) (text := "lead is 0 to 9") hst hx hb hown (by decide +kernel) (by decide +kernel) (hts (.classLink RX3 35 "java/lang/IllegalArgumentException") (by decide +kernel)) (hts (.initialized "java/lang/IllegalArgumentException") (by decide +kernel)) (fun w9 h9 => hts w9 (List.mem_cons_of_mem _ (List.mem_append_left _ (List.mem_append_left _ (List.mem_append_right _ h9))))) q_bd39 q_ok39 hG ht hlocks (hl.1.trans hml.symm) hP hK hD hS dX3_ballast_16 dX3_ballast_19 dX3_ballast_20 dX3_ballast_22 dX3_ballast_25 (by decide) (by decide) (Nat.le_of_ble_eq_true rfl) (Nat.le_of_ble_eq_true rfl)
set_option maxHeartbeats 1000000 in
set_option maxRecDepth 100000 in
theorem t_X3_ballast_f3 (l : Launch) (hst : l.stackTraces = false) (D : va_G) (T : Nat → ClassId) (x wa fl tf tb al ar n : Nat) (md : Int32) (u : Nat → Int32) (ad : Nat → Nat) (F : Nat → Nat → Int32) (hn : n ≤ 8) (i : Nat) (hi : i < n) (y : Int32) (h1 : ¬ y < 0) (h2 : y ≤ 9) (h9 : ¬ u 2 = 0) : q_X l D (q_ty T) yX3_ballast wsX3_ballast rtX3_ballast [.ref x, .int (nI i), .int y] ([q_xc x wa fl tf tb, q_fc fl al u, q_ac al md ar n] ++ q_tl (T 1) n ar ad F) q_E80 := by
  refine q_startX (cc := cX3_ballast) (maxL := 5) (ret := (some .int)) (by decide) rfl (Nat.le_of_ble_eq_true rfl) ?_
  intro p e s m args below meth c A H locs hx hb hr hts hown hlocks hml hnm ht hP hK hD hS hA hG ls hl
  have hown : s.vm.findClass RX3 = some m.cls := hown
  have hC : CallFix p m c cX3_ballast 5 s args wsX3_ballast RX3 := ⟨hx, hb, hml, hown, hts⟩
  have hl : lv_has ls 5 [(0, .ref x), (1, .int (nI i)), (2, .int y)] := hl
  refine lv_aload_n hx hb dX3_ballast_0 rfl (lv_at hl 0 rfl) ?_
  refine lv_iload_n hx hb dX3_ballast_1 rfl (lv_at hl 1 rfl) ?_
  refine q_callV (As := [.int (nI i)]) (rs := []) hC (c_X3_boatAt_ok l D T x wa fl tf tb al ar n md u ad F hn i hi) q_no_st q_no_at (cwV 1 hts gX3_ballast_X3_boatAt rfl rfl rfl (by decide +kernel) ⟨Nat.le_of_ble_eq_true rfl, Nat.le_of_ble_eq_true rfl⟩) (va_recv hK hP (ci := 4) (q0 := 0) rfl rfl) hK hP hD hS hA (q_tmask [true, true, true] [q_xc x wa fl tf tb, q_fc fl al u, q_ac al md ar n] (q_tl (T 1) n ar ad F)) rfl hl.1 rfl (Nat.le_of_ble_eq_true rfl) dX3_ballast_2 ⟨(Nat.le_of_ble_eq_true rfl), (Nat.le_of_ble_eq_true rfl)⟩ (fun v9 C9 H locs hp hP hD hS => ?_)
  obtain ⟨rfl, rfl⟩ := hp
  have hP : va_P D vwCl ([q_xc x wa fl tf tb, q_fc fl al u, q_ac al md ar n] ++ q_tl (T 1) n ar ad F) H := q_P_perm (q_tback [true, true, true] [q_xc x wa fl tf tb, q_fc fl al u, q_ac al md ar n] [] (q_tl (T 1) n ar ad F)) hP
  have hD : va_D A ([q_xc x wa fl tf tb, q_fc fl al u, q_ac al md ar n] ++ q_tl (T 1) n ar ad F) := q_D_perm (q_tback [true, true, true] [q_xc x wa fl tf tb, q_fc fl al u, q_ac al md ar n] [] (q_tl (T 1) n ar ad F)) hD
  refine lv_astore_n (lv' := [(3, .ref (ad i)), (0, .ref x), (1, .int (nI i)), (2, .int y)]) hx hb dX3_ballast_5 rfl hl (by decide) rfl (fun ls hl => ?_)
  refine lv_iload_n hx hb dX3_ballast_6 rfl (lv_at hl 3 rfl) ?_
  refine lv_if_lt (tgt := 16) hx hb dX3_ballast_7 (by decide) (fun c_7 => absurd c_7 h1) (fun c_7 => ?_)
  refine lv_iload_n hx hb dX3_ballast_10 rfl (lv_at hl 3 rfl) ?_
  refine lv_bipush (v := 9) hx hb dX3_ballast_11 (by decide) ?_
  refine lv_icmp_le (tgt := 26) hx hb dX3_ballast_13 (by decide) (fun c_13 => ?_) (fun c_13 => absurd h2 c_13)
  refine lv_aload_n hx hb dX3_ballast_26 rfl (lv_at hl 1 rfl) ?_
  exact q_propV (As := []) (rs := []) hC (t_X3_requireNoRace_x l hst D T x wa fl tf tb al u h9) hG (cwV 0 hts gX3_ballast_X3_requireNoRace rfl rfl rfl (by decide +kernel) ⟨Nat.le_of_ble_eq_true rfl, Nat.le_of_ble_eq_true rfl⟩) (va_recv hK hP (ci := 4) (q0 := 0) rfl rfl) hK hP hD hS hA (q_mask [true, true, false] _) rfl hl.1 rfl (Nat.le_of_ble_eq_true rfl) dX3_ballast_27 ⟨(Nat.le_of_ble_eq_true rfl), (Nat.le_of_ble_eq_true rfl)⟩ ht hlocks (q_mrg_perm [true, true, false] _ _)
abbrev rtX3_judge : Room := { frames := 6, cells := 1, slots := 6, locals := 90 }
set_option maxHeartbeats 1000000 in
set_option maxRecDepth 100000 in
theorem t_X3_judge_f1 (l : Launch) (hst : l.stackTraces = false) (D : va_G) (T : Nat → ClassId) (x wa fl tf tb : Nat) (v : Int32) (h : v < 0 ∨ ¬ v ≤ 199) : q_X l D (q_ty T) yX3_judge wsX3_judge rtX3_judge [.ref x, .int v] [q_xc x wa fl tf tb] q_E39 := by
  refine q_startX (cc := cX3_judge) (maxL := 2) (ret := (some .int)) (by decide) rfl (Nat.le_of_ble_eq_true rfl) ?_
  intro p e s m args below meth c A H locs hx hb hr hts hown hlocks hml hnm ht hP hK hD hS hA hG ls hl
  have hown : s.vm.findClass RX3 = some m.cls := hown
  have hC : CallFix p m c cX3_judge 2 s args wsX3_judge RX3 := ⟨hx, hb, hml, hown, hts⟩
  have hl : lv_has ls 2 [(0, .ref x), (1, .int v)] := hl
  refine lv_iload_n hx hb dX3_judge_0 rfl (lv_at hl 1 rfl) ?_
  refine lv_if_lt (tgt := 11) hx hb dX3_judge_1 (by decide) (fun c_1 => ?_) (fun c_1 => ?_)
  · exact q_thr (C := [q_xc x wa fl tf tb]) (rs := []) (text := "a judge's place is 0 to 199") hst hx hb hown (by decide +kernel) (by decide +kernel) (hts (.classLink RX3 35 "java/lang/IllegalArgumentException") (by decide +kernel)) (hts (.initialized "java/lang/IllegalArgumentException") (by decide +kernel)) (fun w9 h9 => hts w9 (List.mem_cons_of_mem _ (List.mem_append_left _ (List.mem_append_right _ h9)))) q_bd39 q_ok39 hG ht hlocks (hl.1.trans hml.symm) hP hK hD hS dX3_judge_11 dX3_judge_14 dX3_judge_15 dX3_judge_17 dX3_judge_20 (by decide) (by decide) (Nat.le_of_ble_eq_true rfl) (Nat.le_of_ble_eq_true rfl)
  · refine lv_iload_n hx hb dX3_judge_4 rfl (lv_at hl 1 rfl) ?_
    refine lv_sipush (v := 199) hx hb dX3_judge_5 (by decide) ?_
    refine lv_icmp_le (tgt := 21) hx hb dX3_judge_8 (by decide) (fun c_8 => absurd c_8 (h.resolve_left c_1)) (fun c_8 => ?_)
    exact q_thr (C := [q_xc x wa fl tf tb]) (rs := []) (text := "a judge's place is 0 to 199") hst hx hb hown (by decide +kernel) (by decide +kernel) (hts (.classLink RX3 35 "java/lang/IllegalArgumentException") (by decide +kernel)) (hts (.initialized "java/lang/IllegalArgumentException") (by decide +kernel)) (fun w9 h9 => hts w9 (List.mem_cons_of_mem _ (List.mem_append_left _ (List.mem_append_right _ h9)))) q_bd39 q_ok39 hG ht hlocks (hl.1.trans hml.symm) hP hK hD hS dX3_judge_11 dX3_judge_14 dX3_judge_15 dX3_judge_17 dX3_judge_20 (by decide) (by decide) (Nat.le_of_ble_eq_true rfl) (Nat.le_of_ble_eq_true rfl)
set_option maxHeartbeats 1000000 in
set_option maxRecDepth 100000 in
theorem t_X3_judge_f2 (l : Launch) (hst : l.stackTraces = false) (D : va_G) (T : Nat → ClassId) (x wa fl tf tb wi ja k : Nat) (len : Int32) (ju : Nat → Int32) (v : Int32) (h1 : ¬ v < 0) (h2 : v ≤ 199) (hk : k < 1000) (h3 : 3 ≤ k) : q_X l D (q_ty T) yX3_judge wsX3_judge rtX3_judge [.ref x, .int v] [q_xc x wa fl tf tb, q_wc wa len wi ja, q_ia T ja k ju] q_E80 := by
  refine q_startX (cc := cX3_judge) (maxL := 2) (ret := (some .int)) (by decide) rfl (Nat.le_of_ble_eq_true rfl) ?_
  intro p e s m args below meth c A H locs hx hb hr hts hown hlocks hml hnm ht hP hK hD hS hA hG ls hl
  have hown : s.vm.findClass RX3 = some m.cls := hown
  have hC : CallFix p m c cX3_judge 2 s args wsX3_judge RX3 := ⟨hx, hb, hml, hown, hts⟩
  have iX3 : ∀ w ∈ wsX30, w ∈ wsX3_judge := by decide +kernel
  have iX2 : ∀ w ∈ wsX20, w ∈ wsX3_judge := by decide +kernel
  have hl : lv_has ls 2 [(0, .ref x), (1, .int v)] := hl
  refine lv_iload_n hx hb dX3_judge_0 rfl (lv_at hl 1 rfl) ?_
  refine lv_if_lt (tgt := 11) hx hb dX3_judge_1 (by decide) (fun c_1 => absurd c_1 h1) (fun c_1 => ?_)
  refine lv_iload_n hx hb dX3_judge_4 rfl (lv_at hl 1 rfl) ?_
  refine lv_sipush (v := 199) hx hb dX3_judge_5 (by decide) ?_
  refine lv_icmp_le (tgt := 21) hx hb dX3_judge_8 (by decide) (fun c_8 => ?_) (fun c_8 => absurd h2 c_8)
  refine lv_aload_n hx hb dX3_judge_21 rfl (lv_at hl 0 rfl) ?_
  refine va_get (D := D) (ci := 4) (v := .ref wa) (C := RX3) (T := TX3) (N := 4) hx hb hts iX3 hown hK hP 0 rfl rfl 0 (by decide) (hts (.fieldLink RX3 10 "ToyRegatta" "waters" "LToyRegatta$Waters;") (by decide +kernel)) (fun _ h9 => h9) rfl dX3_judge_22 ?_
  refine va_get (D := D) (ci := 3) (v := .ref ja) (C := RX2) (T := TX2) (N := 3) hx hb hts iX2 hown hK hP 1 rfl rfl 2 (by decide) (hts (.fieldLink RX3 96 "ToyRegatta$Waters" "judges" "[I") (by decide +kernel)) (fun _ h9 => h9) rfl dX3_judge_25 ?_
  refine va_alen (D := D) (v := nI k) hx hb hK hP 2 0 rfl rfl rfl dX3_judge_28 ?_
  refine lv_iconst (v := 3) hx hb dX3_judge_29 (by decide) ?_
  refine lv_icmp_lt (tgt := 43) hx hb dX3_judge_30 (by decide) (fun c_30 => absurd c_30 (nI_nlt (b := 3) h3 (by omega))) (fun c_30 => ?_)
  exact q_thr (C := [q_xc x wa fl tf tb, q_wc wa len wi ja, q_ia T ja k ju]) (rs := []) (text := "there are 3 judges") hst hx hb hown (by decide +kernel) (by decide +kernel) (hts (.classLink RX3 76 "java/lang/IllegalStateException") (by decide +kernel)) (hts (.initialized "java/lang/IllegalStateException") (by decide +kernel)) (fun w9 h9 => hts w9 (List.mem_cons_of_mem _ (List.mem_append_right _ h9))) q_bd80 q_ok80 hG ht hlocks (hl.1.trans hml.symm) hP hK hD hS dX3_judge_33 dX3_judge_36 dX3_judge_37 dX3_judge_39 dX3_judge_42 (by decide) (by decide) (Nat.le_of_ble_eq_true rfl) (Nat.le_of_ble_eq_true rfl)
abbrev rtX3_start : Room := { frames := 7, cells := 1, slots := 6, locals := 110 }
set_option maxHeartbeats 1000000 in
set_option maxRecDepth 100000 in
theorem t_X3_start_f1 (l : Launch) (hst : l.stackTraces = false) (D : va_G) (T : Nat → ClassId) (x wa fl tf tb al : Nat) (u : Nat → Int32) (h9 : ¬ u 2 = 0) : q_X l D (q_ty T) yX3_start wsX3_start rtX3_start [.ref x] [q_xc x wa fl tf tb, q_fc fl al u] q_E80 := by
  refine q_startX (cc := cX3_start) (maxL := 1) (ret := (some .int)) (by decide) rfl (Nat.le_of_ble_eq_true rfl) ?_
  intro p e s m args below meth c A H locs hx hb hr hts hown hlocks hml hnm ht hP hK hD hS hA hG ls hl
  have hown : s.vm.findClass RX3 = some m.cls := hown
  have hC : CallFix p m c cX3_start 1 s args wsX3_start RX3 := ⟨hx, hb, hml, hown, hts⟩
  have hl : lv_has ls 1 [(0, .ref x)] := hl
  refine lv_aload_n hx hb dX3_start_0 rfl (lv_at hl 0 rfl) ?_
  exact q_propV (As := []) (rs := []) hC (t_X3_requireNoRace_x l hst D T x wa fl tf tb al u h9) hG (cwV 0 hts gX3_start_X3_requireNoRace rfl rfl rfl (by decide +kernel) ⟨Nat.le_of_ble_eq_true rfl, Nat.le_of_ble_eq_true rfl⟩) (va_recv hK hP (ci := 4) (q0 := 0) rfl rfl) hK hP hD hS hA (q_mask [true, true] _) rfl hl.1 rfl (Nat.le_of_ble_eq_true rfl) dX3_start_1 ⟨(Nat.le_of_ble_eq_true rfl), (Nat.le_of_ble_eq_true rfl)⟩ ht hlocks (q_mrg_perm [true, true] _ _)
set_option maxHeartbeats 1000000 in
set_option maxRecDepth 100000 in
theorem t_X3_start_f2 (l : Launch) (hst : l.stackTraces = false) (D : va_G) (T : Nat → ClassId) (x wa fl tf tb al ar n : Nat) (md : Int32) (u : Nat → Int32) (ad : Nat → Nat) (F : Nat → Nat → Int32) (hn : n ≤ 8) (h3 : u 2 = 0) (h4 : q_sum (dCan F) n = 0) : q_X l D (q_ty T) yX3_start wsX3_start rtX3_start [.ref x] ([q_xc x wa fl tf tb, q_fc fl al u, q_ac al md ar n] ++ q_tl (T 1) n ar ad F) q_E80 := by
  refine q_startX (cc := cX3_start) (maxL := 1) (ret := (some .int)) (by decide) rfl (Nat.le_of_ble_eq_true rfl) ?_
  intro p e s m args below meth c A H locs hx hb hr hts hown hlocks hml hnm ht hP hK hD hS hA hG ls hl
  have hown : s.vm.findClass RX3 = some m.cls := hown
  have hC : CallFix p m c cX3_start 1 s args wsX3_start RX3 := ⟨hx, hb, hml, hown, hts⟩
  have iX3 : ∀ w ∈ wsX30, w ∈ wsX3_start := by decide +kernel
  have hl : lv_has ls 1 [(0, .ref x)] := hl
  refine lv_aload_n hx hb dX3_start_0 rfl (lv_at hl 0 rfl) ?_
  refine q_callV (As := []) (rs := []) hC (c_X3_requireNoRace_ok l D T x wa fl tf tb al u h3) q_no_st q_no_at (cwV 0 hts gX3_start_X3_requireNoRace rfl rfl rfl (by decide +kernel) ⟨Nat.le_of_ble_eq_true rfl, Nat.le_of_ble_eq_true rfl⟩) (va_recv hK hP (ci := 4) (q0 := 0) rfl rfl) hK hP hD hS hA (q_mask [true, true, false] _) rfl hl.1 rfl (Nat.le_of_ble_eq_true rfl) dX3_start_1 ⟨(Nat.le_of_ble_eq_true rfl), (Nat.le_of_ble_eq_true rfl)⟩ (fun v9 C9 H locs hp hP hD hS => ?_)
  obtain ⟨rfl, rfl⟩ := hp
  have hP : va_P D vwCl ([q_xc x wa fl tf tb, q_fc fl al u, q_ac al md ar n] ++ q_tl (T 1) n ar ad F) H := q_P_perm (q_mrg_perm [true, true, false] _ _) hP
  have hD : va_D A ([q_xc x wa fl tf tb, q_fc fl al u, q_ac al md ar n] ++ q_tl (T 1) n ar ad F) := q_D_perm (q_mrg_perm [true, true, false] _ _) hD
  refine lv_aload_n hx hb dX3_start_4 rfl (lv_at hl 0 rfl) ?_
  refine va_get (D := D) (ci := 4) (v := .ref fl) (C := RX3) (T := TX3) (N := 4) hx hb hts iX3 hown hK hP 0 rfl rfl 1 (by decide) (hts (.fieldLink RX3 19 "ToyRegatta" "fleet" "LToyRegatta$Fleet;") (by decide +kernel)) (fun _ h9 => h9) rfl dX3_start_5 ?_
  refine q_callV (As := []) (rs := []) hC (c_X1_starters l D T fl al ar n md u ad F hn ) q_no_st q_no_at (cwV 0 hts gX3_start_X1_starters rfl rfl rfl (by decide +kernel) ⟨Nat.le_of_ble_eq_true rfl, Nat.le_of_ble_eq_true rfl⟩) (va_recv hK hP (ci := 2) (q0 := 1) rfl rfl) hK hP hD hS hA (q_tmask [false, true, true] [q_xc x wa fl tf tb, q_fc fl al u, q_ac al md ar n] (q_tl (T 1) n ar ad F)) rfl hl.1 rfl (Nat.le_of_ble_eq_true rfl) dX3_start_8 ⟨(Nat.le_of_ble_eq_true rfl), (Nat.le_of_ble_eq_true rfl)⟩ (fun v9 C9 H locs hp hP hD hS => ?_)
  obtain ⟨rfl, rfl⟩ := hp
  have hP : va_P D vwCl ([q_xc x wa fl tf tb, q_fc fl al u, q_ac al md ar n] ++ q_tl (T 1) n ar ad F) H := q_P_perm (q_tback [false, true, true] [q_fc fl al u, q_ac al md ar n] [q_xc x wa fl tf tb] (q_tl (T 1) n ar ad F)) hP
  have hD : va_D A ([q_xc x wa fl tf tb, q_fc fl al u, q_ac al md ar n] ++ q_tl (T 1) n ar ad F) := q_D_perm (q_tback [false, true, true] [q_fc fl al u, q_ac al md ar n] [q_xc x wa fl tf tb] (q_tl (T 1) n ar ad F)) hD
  refine lv_if_ne (tgt := 24) hx hb dX3_start_11 (by decide) (fun c_11 => absurd h4 c_11) (fun c_11 => ?_)
  exact q_thr (C := ([q_xc x wa fl tf tb, q_fc fl al u, q_ac al md ar n] ++ q_tl (T 1) n ar ad F)) (rs := []) (text := "no boat can be in a race") hst hx hb hown (by decide +kernel) (by decide +kernel) (hts (.classLink RX3 76 "java/lang/IllegalStateException") (by decide +kernel)) (hts (.initialized "java/lang/IllegalStateException") (by decide +kernel)) (fun w9 h9 => hts w9 (List.mem_cons_of_mem _ (List.mem_append_right _ h9))) q_bd80 q_ok80 hG ht hlocks (hl.1.trans hml.symm) hP hK hD hS dX3_start_14 dX3_start_17 dX3_start_18 dX3_start_20 dX3_start_23 (by decide) (by decide) (Nat.le_of_ble_eq_true rfl) (Nat.le_of_ble_eq_true rfl)
abbrev rtX3_pass : Room := { frames := 6, cells := 1, slots := 6, locals := 90 }
set_option maxHeartbeats 1000000 in
set_option maxRecDepth 100000 in
theorem t_X3_pass_f1 (l : Launch) (hst : l.stackTraces = false) (D : va_G) (T : Nat → ClassId) (x wa fl tf tb : Nat) (v : Int32) (h : v < 1 ∨ ¬ v ≤ 90) : q_X l D (q_ty T) yX3_pass wsX3_pass rtX3_pass [.ref x, .int v] [q_xc x wa fl tf tb] q_E39 := by
  refine q_startX (cc := cX3_pass) (maxL := 4) (ret := (some .int)) (by decide) rfl (Nat.le_of_ble_eq_true rfl) ?_
  intro p e s m args below meth c A H locs hx hb hr hts hown hlocks hml hnm ht hP hK hD hS hA hG ls hl
  have hown : s.vm.findClass RX3 = some m.cls := hown
  have hC : CallFix p m c cX3_pass 4 s args wsX3_pass RX3 := ⟨hx, hb, hml, hown, hts⟩
  have hl : lv_has ls 4 [(0, .ref x), (1, .int v)] := hl
  refine lv_iload_n hx hb dX3_pass_0 rfl (lv_at hl 1 rfl) ?_
  refine lv_iconst (v := 1) hx hb dX3_pass_1 (by decide) ?_
  refine lv_icmp_lt (tgt := 11) hx hb dX3_pass_2 (by decide) (fun c_2 => ?_) (fun c_2 => ?_)
  · exact q_thr (C := [q_xc x wa fl tf tb]) (rs := []) (text := "minutes are 1 to 90") hst hx hb hown (by decide +kernel) (by decide +kernel) (hts (.classLink RX3 35 "java/lang/IllegalArgumentException") (by decide +kernel)) (hts (.initialized "java/lang/IllegalArgumentException") (by decide +kernel)) (fun w9 h9 => hts w9 (List.mem_cons_of_mem _ (List.mem_append_right _ h9))) q_bd39 q_ok39 hG ht hlocks (hl.1.trans hml.symm) hP hK hD hS dX3_pass_11 dX3_pass_14 dX3_pass_15 dX3_pass_17 dX3_pass_20 (by decide) (by decide) (Nat.le_of_ble_eq_true rfl) (Nat.le_of_ble_eq_true rfl)
  · refine lv_iload_n hx hb dX3_pass_5 rfl (lv_at hl 1 rfl) ?_
    refine lv_bipush (v := 90) hx hb dX3_pass_6 (by decide) ?_
    refine lv_icmp_le (tgt := 21) hx hb dX3_pass_8 (by decide) (fun c_8 => absurd c_8 (h.resolve_left c_2)) (fun c_8 => ?_)
    exact q_thr (C := [q_xc x wa fl tf tb]) (rs := []) (text := "minutes are 1 to 90") hst hx hb hown (by decide +kernel) (by decide +kernel) (hts (.classLink RX3 35 "java/lang/IllegalArgumentException") (by decide +kernel)) (hts (.initialized "java/lang/IllegalArgumentException") (by decide +kernel)) (fun w9 h9 => hts w9 (List.mem_cons_of_mem _ (List.mem_append_right _ h9))) q_bd39 q_ok39 hG ht hlocks (hl.1.trans hml.symm) hP hK hD hS dX3_pass_11 dX3_pass_14 dX3_pass_15 dX3_pass_17 dX3_pass_20 (by decide) (by decide) (Nat.le_of_ble_eq_true rfl) (Nat.le_of_ble_eq_true rfl)
abbrev rtX3_told : Room := { frames := 8, cells := 1, slots := 6, locals := 132 }
set_option maxHeartbeats 1000000 in
set_option maxRecDepth 100000 in
theorem t_X3_told_f1 (l : Launch) (hst : l.stackTraces = false) (D : va_G) (T : Nat → ClassId) (x wa fl tf tb al ar n : Nat) (md : Int32) (u : Nat → Int32) (v y : Int32) (h : v < 0 ∨ ¬ v < nI n) : q_X l D (q_ty T) yX3_told wsX3_told rtX3_told [.ref x, .int v, .int y] [q_xc x wa fl tf tb, q_fc fl al u, q_ac al md ar n] q_E53 := by
  refine q_startX (cc := cX3_told) (maxL := 4) (ret := (some .int)) (by decide) rfl (Nat.le_of_ble_eq_true rfl) ?_
  intro p e s m args below meth c A H locs hx hb hr hts hown hlocks hml hnm ht hP hK hD hS hA hG ls hl
  have hown : s.vm.findClass RX3 = some m.cls := hown
  have hC : CallFix p m c cX3_told 4 s args wsX3_told RX3 := ⟨hx, hb, hml, hown, hts⟩
  have hl : lv_has ls 4 [(0, .ref x), (1, .int v), (2, .int y)] := hl
  refine lv_aload_n hx hb dX3_told_0 rfl (lv_at hl 0 rfl) ?_
  refine lv_iload_n hx hb dX3_told_1 rfl (lv_at hl 1 rfl) ?_
  exact q_propV (As := [.int v]) (rs := []) hC (t_X3_boatAt_x l hst D T x wa fl tf tb al ar n md u v h) hG (cwV 1 hts gX3_told_X3_boatAt rfl rfl rfl (by decide +kernel) ⟨Nat.le_of_ble_eq_true rfl, Nat.le_of_ble_eq_true rfl⟩) (va_recv hK hP (ci := 4) (q0 := 0) rfl rfl) hK hP hD hS hA (q_mask [true, true, true] _) rfl hl.1 rfl (Nat.le_of_ble_eq_true rfl) dX3_told_2 ⟨(Nat.le_of_ble_eq_true rfl), (Nat.le_of_ble_eq_true rfl)⟩ ht hlocks (q_mrg_perm [true, true, true] _ _)
set_option maxHeartbeats 1000000 in
set_option maxRecDepth 100000 in
theorem t_X3_told_f2 (l : Launch) (hst : l.stackTraces = false) (D : va_G) (T : Nat → ClassId) (x wa fl tf tb al ar n : Nat) (md : Int32) (u : Nat → Int32) (ad : Nat → Nat) (F : Nat → Nat → Int32) (hn : n ≤ 8) (i : Nat) (hi : i < n) (y : Int32) (h : y < 0 ∨ ¬ y < 7) : q_X l D (q_ty T) yX3_told wsX3_told rtX3_told [.ref x, .int (nI i), .int y] ([q_xc x wa fl tf tb, q_fc fl al u, q_ac al md ar n] ++ q_tl (T 1) n ar ad F) q_E53 := by
  refine q_startX (cc := cX3_told) (maxL := 4) (ret := (some .int)) (by decide) rfl (Nat.le_of_ble_eq_true rfl) ?_
  intro p e s m args below meth c A H locs hx hb hr hts hown hlocks hml hnm ht hP hK hD hS hA hG ls hl
  have hown : s.vm.findClass RX3 = some m.cls := hown
  have hC : CallFix p m c cX3_told 4 s args wsX3_told RX3 := ⟨hx, hb, hml, hown, hts⟩
  have hl : lv_has ls 4 [(0, .ref x), (1, .int (nI i)), (2, .int y)] := hl
  refine lv_aload_n hx hb dX3_told_0 rfl (lv_at hl 0 rfl) ?_
  refine lv_iload_n hx hb dX3_told_1 rfl (lv_at hl 1 rfl) ?_
  refine q_callV (As := [.int (nI i)]) (rs := []) hC (c_X3_boatAt_ok l D T x wa fl tf tb al ar n md u ad F hn i hi) q_no_st q_no_at (cwV 1 hts gX3_told_X3_boatAt rfl rfl rfl (by decide +kernel) ⟨Nat.le_of_ble_eq_true rfl, Nat.le_of_ble_eq_true rfl⟩) (va_recv hK hP (ci := 4) (q0 := 0) rfl rfl) hK hP hD hS hA (q_tmask [true, true, true] [q_xc x wa fl tf tb, q_fc fl al u, q_ac al md ar n] (q_tl (T 1) n ar ad F)) rfl hl.1 rfl (Nat.le_of_ble_eq_true rfl) dX3_told_2 ⟨(Nat.le_of_ble_eq_true rfl), (Nat.le_of_ble_eq_true rfl)⟩ (fun v9 C9 H locs hp hP hD hS => ?_)
  obtain ⟨rfl, rfl⟩ := hp
  have hP : va_P D vwCl ([q_xc x wa fl tf tb, q_fc fl al u, q_ac al md ar n] ++ q_tl (T 1) n ar ad F) H := q_P_perm (q_tback [true, true, true] [q_xc x wa fl tf tb, q_fc fl al u, q_ac al md ar n] [] (q_tl (T 1) n ar ad F)) hP
  have hD : va_D A ([q_xc x wa fl tf tb, q_fc fl al u, q_ac al md ar n] ++ q_tl (T 1) n ar ad F) := q_D_perm (q_tback [true, true, true] [q_xc x wa fl tf tb, q_fc fl al u, q_ac al md ar n] [] (q_tl (T 1) n ar ad F)) hD
  refine lv_astore_n (lv' := [(3, .ref (ad i)), (0, .ref x), (1, .int (nI i)), (2, .int y)]) hx hb dX3_told_5 rfl hl (by decide) rfl (fun ls hl => ?_)
  refine lv_aload_n hx hb dX3_told_6 rfl (lv_at hl 1 rfl) ?_
  refine lv_iload_n hx hb dX3_told_7 rfl (lv_at hl 3 rfl) ?_
  refine lv_bipush (v := 7) hx hb dX3_told_8 (by decide) ?_
  exact q_propV (As := [.int y, .int 7]) (rs := []) hC (t_X3_requireKind_x l hst D T x wa fl tf tb y 7 h) hG (cwV 2 hts gX3_told_X3_requireKind rfl rfl rfl (by decide +kernel) ⟨Nat.le_of_ble_eq_true rfl, Nat.le_of_ble_eq_true rfl⟩) (va_recv hK hP (ci := 4) (q0 := 0) rfl rfl) hK hP hD hS hA (q_mask [true, false, false] _) rfl hl.1 rfl (Nat.le_of_ble_eq_true rfl) dX3_told_10 ⟨(Nat.le_of_ble_eq_true rfl), (Nat.le_of_ble_eq_true rfl)⟩ ht hlocks (q_mrg_perm [true, false, false] _ _)
abbrev rtX3_about : Room := { frames := 8, cells := 1, slots := 6, locals := 132 }
set_option maxHeartbeats 1000000 in
set_option maxRecDepth 100000 in
theorem t_X3_about_f1 (l : Launch) (hst : l.stackTraces = false) (D : va_G) (T : Nat → ClassId) (x wa fl tf tb al ar n : Nat) (md : Int32) (u : Nat → Int32) (v y : Int32) (h : v < 0 ∨ ¬ v < nI n) : q_X l D (q_ty T) yX3_about wsX3_about rtX3_about [.ref x, .int v, .int y] [q_xc x wa fl tf tb, q_fc fl al u, q_ac al md ar n] q_E53 := by
  refine q_startX (cc := cX3_about) (maxL := 4) (ret := (some .int)) (by decide) rfl (Nat.le_of_ble_eq_true rfl) ?_
  intro p e s m args below meth c A H locs hx hb hr hts hown hlocks hml hnm ht hP hK hD hS hA hG ls hl
  have hown : s.vm.findClass RX3 = some m.cls := hown
  have hC : CallFix p m c cX3_about 4 s args wsX3_about RX3 := ⟨hx, hb, hml, hown, hts⟩
  have hl : lv_has ls 4 [(0, .ref x), (1, .int v), (2, .int y)] := hl
  refine lv_aload_n hx hb dX3_about_0 rfl (lv_at hl 0 rfl) ?_
  refine lv_iload_n hx hb dX3_about_1 rfl (lv_at hl 1 rfl) ?_
  exact q_propV (As := [.int v]) (rs := []) hC (t_X3_boatAt_x l hst D T x wa fl tf tb al ar n md u v h) hG (cwV 1 hts gX3_about_X3_boatAt rfl rfl rfl (by decide +kernel) ⟨Nat.le_of_ble_eq_true rfl, Nat.le_of_ble_eq_true rfl⟩) (va_recv hK hP (ci := 4) (q0 := 0) rfl rfl) hK hP hD hS hA (q_mask [true, true, true] _) rfl hl.1 rfl (Nat.le_of_ble_eq_true rfl) dX3_about_2 ⟨(Nat.le_of_ble_eq_true rfl), (Nat.le_of_ble_eq_true rfl)⟩ ht hlocks (q_mrg_perm [true, true, true] _ _)
set_option maxHeartbeats 1000000 in
set_option maxRecDepth 100000 in
theorem t_X3_about_f2 (l : Launch) (hst : l.stackTraces = false) (D : va_G) (T : Nat → ClassId) (x wa fl tf tb al ar n : Nat) (md : Int32) (u : Nat → Int32) (ad : Nat → Nat) (F : Nat → Nat → Int32) (hn : n ≤ 8) (i : Nat) (hi : i < n) (y : Int32) (h : y < 0 ∨ ¬ y < 5) : q_X l D (q_ty T) yX3_about wsX3_about rtX3_about [.ref x, .int (nI i), .int y] ([q_xc x wa fl tf tb, q_fc fl al u, q_ac al md ar n] ++ q_tl (T 1) n ar ad F) q_E53 := by
  refine q_startX (cc := cX3_about) (maxL := 4) (ret := (some .int)) (by decide) rfl (Nat.le_of_ble_eq_true rfl) ?_
  intro p e s m args below meth c A H locs hx hb hr hts hown hlocks hml hnm ht hP hK hD hS hA hG ls hl
  have hown : s.vm.findClass RX3 = some m.cls := hown
  have hC : CallFix p m c cX3_about 4 s args wsX3_about RX3 := ⟨hx, hb, hml, hown, hts⟩
  have hl : lv_has ls 4 [(0, .ref x), (1, .int (nI i)), (2, .int y)] := hl
  refine lv_aload_n hx hb dX3_about_0 rfl (lv_at hl 0 rfl) ?_
  refine lv_iload_n hx hb dX3_about_1 rfl (lv_at hl 1 rfl) ?_
  refine q_callV (As := [.int (nI i)]) (rs := []) hC (c_X3_boatAt_ok l D T x wa fl tf tb al ar n md u ad F hn i hi) q_no_st q_no_at (cwV 1 hts gX3_about_X3_boatAt rfl rfl rfl (by decide +kernel) ⟨Nat.le_of_ble_eq_true rfl, Nat.le_of_ble_eq_true rfl⟩) (va_recv hK hP (ci := 4) (q0 := 0) rfl rfl) hK hP hD hS hA (q_tmask [true, true, true] [q_xc x wa fl tf tb, q_fc fl al u, q_ac al md ar n] (q_tl (T 1) n ar ad F)) rfl hl.1 rfl (Nat.le_of_ble_eq_true rfl) dX3_about_2 ⟨(Nat.le_of_ble_eq_true rfl), (Nat.le_of_ble_eq_true rfl)⟩ (fun v9 C9 H locs hp hP hD hS => ?_)
  obtain ⟨rfl, rfl⟩ := hp
  have hP : va_P D vwCl ([q_xc x wa fl tf tb, q_fc fl al u, q_ac al md ar n] ++ q_tl (T 1) n ar ad F) H := q_P_perm (q_tback [true, true, true] [q_xc x wa fl tf tb, q_fc fl al u, q_ac al md ar n] [] (q_tl (T 1) n ar ad F)) hP
  have hD : va_D A ([q_xc x wa fl tf tb, q_fc fl al u, q_ac al md ar n] ++ q_tl (T 1) n ar ad F) := q_D_perm (q_tback [true, true, true] [q_xc x wa fl tf tb, q_fc fl al u, q_ac al md ar n] [] (q_tl (T 1) n ar ad F)) hD
  refine lv_astore_n (lv' := [(3, .ref (ad i)), (0, .ref x), (1, .int (nI i)), (2, .int y)]) hx hb dX3_about_5 rfl hl (by decide) rfl (fun ls hl => ?_)
  refine lv_aload_n hx hb dX3_about_6 rfl (lv_at hl 1 rfl) ?_
  refine lv_iload_n hx hb dX3_about_7 rfl (lv_at hl 3 rfl) ?_
  refine lv_iconst (v := 5) hx hb dX3_about_8 (by decide) ?_
  exact q_propV (As := [.int y, .int 5]) (rs := []) hC (t_X3_requireKind_x l hst D T x wa fl tf tb y 5 h) hG (cwV 2 hts gX3_about_X3_requireKind rfl rfl rfl (by decide +kernel) ⟨Nat.le_of_ble_eq_true rfl, Nat.le_of_ble_eq_true rfl⟩) (va_recv hK hP (ci := 4) (q0 := 0) rfl rfl) hK hP hD hS hA (q_mask [true, false, false] _) rfl hl.1 rfl (Nat.le_of_ble_eq_true rfl) dX3_about_9 ⟨(Nat.le_of_ble_eq_true rfl), (Nat.le_of_ble_eq_true rfl)⟩ ht hlocks (q_mrg_perm [true, false, false] _ _)
abbrev rtX3_count : Room := { frames := 7, cells := 1, slots := 6, locals := 112 }
set_option maxHeartbeats 1000000 in
set_option maxRecDepth 100000 in
theorem t_X3_count_f1 (l : Launch) (hst : l.stackTraces = false) (D : va_G) (T : Nat → ClassId) (x wa fl tf tb : Nat) (v : Int32) (h : v < 0 ∨ ¬ v < 9) : q_X l D (q_ty T) yX3_count wsX3_count rtX3_count [.ref x, .int v] [q_xc x wa fl tf tb] q_E53 := by
  refine q_startX (cc := cX3_count) (maxL := 2) (ret := (some .int)) (by decide) rfl (Nat.le_of_ble_eq_true rfl) ?_
  intro p e s m args below meth c A H locs hx hb hr hts hown hlocks hml hnm ht hP hK hD hS hA hG ls hl
  have hown : s.vm.findClass RX3 = some m.cls := hown
  have hC : CallFix p m c cX3_count 2 s args wsX3_count RX3 := ⟨hx, hb, hml, hown, hts⟩
  have hl : lv_has ls 2 [(0, .ref x), (1, .int v)] := hl
  refine lv_aload_n hx hb dX3_count_0 rfl (lv_at hl 0 rfl) ?_
  refine lv_iload_n hx hb dX3_count_1 rfl (lv_at hl 1 rfl) ?_
  refine lv_bipush (v := 9) hx hb dX3_count_2 (by decide) ?_
  exact q_propV (As := [.int v, .int 9]) (rs := []) hC (t_X3_requireKind_x l hst D T x wa fl tf tb v 9 h) hG (cwV 2 hts gX3_count_X3_requireKind rfl rfl rfl (by decide +kernel) ⟨Nat.le_of_ble_eq_true rfl, Nat.le_of_ble_eq_true rfl⟩) (va_recv hK hP (ci := 4) (q0 := 0) rfl rfl) hK hP hD hS hA (q_mask [true] _) rfl hl.1 rfl (Nat.le_of_ble_eq_true rfl) dX3_count_4 ⟨(Nat.le_of_ble_eq_true rfl), (Nat.le_of_ble_eq_true rfl)⟩ ht hlocks (q_mrg_perm [true] _ _)
abbrev rtX3_falls : Room := { frames := 8, cells := 1, slots := 6, locals := 132 }
set_option maxHeartbeats 1000000 in
set_option maxRecDepth 100000 in
theorem t_X3_falls_f1 (l : Launch) (hst : l.stackTraces = false) (D : va_G) (T : Nat → ClassId) (x wa fl tf tb al ar n : Nat) (md : Int32) (u : Nat → Int32) (v y : Int32) (h : v < 0 ∨ ¬ v < nI n) : q_X l D (q_ty T) yX3_falls wsX3_falls rtX3_falls [.ref x, .int v, .int y] [q_xc x wa fl tf tb, q_fc fl al u, q_ac al md ar n] q_E53 := by
  refine q_startX (cc := cX3_falls) (maxL := 4) (ret := (some .boolean)) (by decide) rfl (Nat.le_of_ble_eq_true rfl) ?_
  intro p e s m args below meth c A H locs hx hb hr hts hown hlocks hml hnm ht hP hK hD hS hA hG ls hl
  have hown : s.vm.findClass RX3 = some m.cls := hown
  have hC : CallFix p m c cX3_falls 4 s args wsX3_falls RX3 := ⟨hx, hb, hml, hown, hts⟩
  have hl : lv_has ls 4 [(0, .ref x), (1, .int v), (2, .int y)] := hl
  refine lv_aload_n hx hb dX3_falls_0 rfl (lv_at hl 0 rfl) ?_
  refine lv_iload_n hx hb dX3_falls_1 rfl (lv_at hl 1 rfl) ?_
  exact q_propV (As := [.int v]) (rs := []) hC (t_X3_boatAt_x l hst D T x wa fl tf tb al ar n md u v h) hG (cwV 1 hts gX3_falls_X3_boatAt rfl rfl rfl (by decide +kernel) ⟨Nat.le_of_ble_eq_true rfl, Nat.le_of_ble_eq_true rfl⟩) (va_recv hK hP (ci := 4) (q0 := 0) rfl rfl) hK hP hD hS hA (q_mask [true, true, true] _) rfl hl.1 rfl (Nat.le_of_ble_eq_true rfl) dX3_falls_2 ⟨(Nat.le_of_ble_eq_true rfl), (Nat.le_of_ble_eq_true rfl)⟩ ht hlocks (q_mrg_perm [true, true, true] _ _)
set_option maxHeartbeats 1000000 in
set_option maxRecDepth 100000 in
theorem t_X3_falls_f2 (l : Launch) (hst : l.stackTraces = false) (D : va_G) (T : Nat → ClassId) (x wa fl tf tb al ar n : Nat) (md : Int32) (u : Nat → Int32) (ad : Nat → Nat) (F : Nat → Nat → Int32) (hn : n ≤ 8) (i : Nat) (hi : i < n) (y : Int32) (h : y < 0 ∨ ¬ y ≤ 9) : q_X l D (q_ty T) yX3_falls wsX3_falls rtX3_falls [.ref x, .int (nI i), .int y] ([q_xc x wa fl tf tb, q_fc fl al u, q_ac al md ar n] ++ q_tl (T 1) n ar ad F) q_E39 := by
  refine q_startX (cc := cX3_falls) (maxL := 4) (ret := (some .boolean)) (by decide) rfl (Nat.le_of_ble_eq_true rfl) ?_
  intro p e s m args below meth c A H locs hx hb hr hts hown hlocks hml hnm ht hP hK hD hS hA hG ls hl
  have hown : s.vm.findClass RX3 = some m.cls := hown
  have hC : CallFix p m c cX3_falls 4 s args wsX3_falls RX3 := ⟨hx, hb, hml, hown, hts⟩
  have hl : lv_has ls 4 [(0, .ref x), (1, .int (nI i)), (2, .int y)] := hl
  refine lv_aload_n hx hb dX3_falls_0 rfl (lv_at hl 0 rfl) ?_
  refine lv_iload_n hx hb dX3_falls_1 rfl (lv_at hl 1 rfl) ?_
  refine q_callV (As := [.int (nI i)]) (rs := []) hC (c_X3_boatAt_ok l D T x wa fl tf tb al ar n md u ad F hn i hi) q_no_st q_no_at (cwV 1 hts gX3_falls_X3_boatAt rfl rfl rfl (by decide +kernel) ⟨Nat.le_of_ble_eq_true rfl, Nat.le_of_ble_eq_true rfl⟩) (va_recv hK hP (ci := 4) (q0 := 0) rfl rfl) hK hP hD hS hA (q_tmask [true, true, true] [q_xc x wa fl tf tb, q_fc fl al u, q_ac al md ar n] (q_tl (T 1) n ar ad F)) rfl hl.1 rfl (Nat.le_of_ble_eq_true rfl) dX3_falls_2 ⟨(Nat.le_of_ble_eq_true rfl), (Nat.le_of_ble_eq_true rfl)⟩ (fun v9 C9 H locs hp hP hD hS => ?_)
  obtain ⟨rfl, rfl⟩ := hp
  have hP : va_P D vwCl ([q_xc x wa fl tf tb, q_fc fl al u, q_ac al md ar n] ++ q_tl (T 1) n ar ad F) H := q_P_perm (q_tback [true, true, true] [q_xc x wa fl tf tb, q_fc fl al u, q_ac al md ar n] [] (q_tl (T 1) n ar ad F)) hP
  have hD : va_D A ([q_xc x wa fl tf tb, q_fc fl al u, q_ac al md ar n] ++ q_tl (T 1) n ar ad F) := q_D_perm (q_tback [true, true, true] [q_xc x wa fl tf tb, q_fc fl al u, q_ac al md ar n] [] (q_tl (T 1) n ar ad F)) hD
  refine lv_astore_n (lv' := [(3, .ref (ad i)), (0, .ref x), (1, .int (nI i)), (2, .int y)]) hx hb dX3_falls_5 rfl hl (by decide) rfl (fun ls hl => ?_)
  refine lv_aload_n hx hb dX3_falls_6 rfl (lv_at hl 1 rfl) ?_
  refine lv_iload_n hx hb dX3_falls_7 rfl (lv_at hl 3 rfl) ?_
  exact q_propV (As := [.int y]) (rs := []) hC (t_X3_requireWind_x l hst D T x wa fl tf tb y h) hG (cwV 1 hts gX3_falls_X3_requireWind rfl rfl rfl (by decide +kernel) ⟨Nat.le_of_ble_eq_true rfl, Nat.le_of_ble_eq_true rfl⟩) (va_recv hK hP (ci := 4) (q0 := 0) rfl rfl) hK hP hD hS hA (q_mask [true, false, false] _) rfl hl.1 rfl (Nat.le_of_ble_eq_true rfl) dX3_falls_8 ⟨(Nat.le_of_ble_eq_true rfl), (Nat.le_of_ble_eq_true rfl)⟩ ht hlocks (q_mrg_perm [true, false, false] _ _)
abbrev rtX3_when : Room := { frames := 7, cells := 1, slots := 6, locals := 111 }
set_option maxHeartbeats 1000000 in
set_option maxRecDepth 100000 in
theorem t_X3_when_f1 (l : Launch) (hst : l.stackTraces = false) (D : va_G) (T : Nat → ClassId) (x wa fl tf tb al ar n : Nat) (md : Int32) (u : Nat → Int32) (v : Int32) (h : v < 0 ∨ ¬ v < nI n) : q_X l D (q_ty T) yX3_when wsX3_when rtX3_when [.ref x, .int v] [q_xc x wa fl tf tb, q_fc fl al u, q_ac al md ar n] q_E53 := by
  refine q_startX (cc := cX3_when) (maxL := 2) (ret := (some .int)) (by decide) rfl (Nat.le_of_ble_eq_true rfl) ?_
  intro p e s m args below meth c A H locs hx hb hr hts hown hlocks hml hnm ht hP hK hD hS hA hG ls hl
  have hown : s.vm.findClass RX3 = some m.cls := hown
  have hC : CallFix p m c cX3_when 2 s args wsX3_when RX3 := ⟨hx, hb, hml, hown, hts⟩
  have hl : lv_has ls 2 [(0, .ref x), (1, .int v)] := hl
  refine lv_aload_n hx hb dX3_when_0 rfl (lv_at hl 0 rfl) ?_
  refine lv_iload_n hx hb dX3_when_1 rfl (lv_at hl 1 rfl) ?_
  exact q_propV (As := [.int v]) (rs := []) hC (t_X3_requireBoat_x l hst D T x wa fl tf tb al ar n md u v h) hG (cwV 1 hts gX3_when_X3_requireBoat rfl rfl rfl (by decide +kernel) ⟨Nat.le_of_ble_eq_true rfl, Nat.le_of_ble_eq_true rfl⟩) (va_recv hK hP (ci := 4) (q0 := 0) rfl rfl) hK hP hD hS hA (q_mask [true, true, true] _) rfl hl.1 rfl (Nat.le_of_ble_eq_true rfl) dX3_when_2 ⟨(Nat.le_of_ble_eq_true rfl), (Nat.le_of_ble_eq_true rfl)⟩ ht hlocks (q_mrg_perm [true, true, true] _ _)
abbrev rtX3_advise : Room := { frames := 8, cells := 1, slots := 6, locals := 132 }
set_option maxHeartbeats 1000000 in
set_option maxRecDepth 100000 in
theorem t_X3_advise_f1 (l : Launch) (hst : l.stackTraces = false) (D : va_G) (T : Nat → ClassId) (x wa fl tf tb al ar n : Nat) (md : Int32) (u : Nat → Int32) (v : Int32) (h : v < 0 ∨ ¬ v < nI n) : q_X l D (q_ty T) yX3_advise wsX3_advise rtX3_advise [.ref x, .int v] [q_xc x wa fl tf tb, q_fc fl al u, q_ac al md ar n] q_E53 := by
  refine q_startX (cc := cX3_advise) (maxL := 7) (ret := (some .int)) (by decide) rfl (Nat.le_of_ble_eq_true rfl) ?_
  intro p e s m args below meth c A H locs hx hb hr hts hown hlocks hml hnm ht hP hK hD hS hA hG ls hl
  have hown : s.vm.findClass RX3 = some m.cls := hown
  have hC : CallFix p m c cX3_advise 7 s args wsX3_advise RX3 := ⟨hx, hb, hml, hown, hts⟩
  have hl : lv_has ls 7 [(0, .ref x), (1, .int v)] := hl
  refine lv_aload_n hx hb dX3_advise_0 rfl (lv_at hl 0 rfl) ?_
  refine lv_iload_n hx hb dX3_advise_1 rfl (lv_at hl 1 rfl) ?_
  exact q_propV (As := [.int v]) (rs := []) hC (t_X3_boatAt_x l hst D T x wa fl tf tb al ar n md u v h) hG (cwV 1 hts gX3_advise_X3_boatAt rfl rfl rfl (by decide +kernel) ⟨Nat.le_of_ble_eq_true rfl, Nat.le_of_ble_eq_true rfl⟩) (va_recv hK hP (ci := 4) (q0 := 0) rfl rfl) hK hP hD hS hA (q_mask [true, true, true] _) rfl hl.1 rfl (Nat.le_of_ble_eq_true rfl) dX3_advise_2 ⟨(Nat.le_of_ble_eq_true rfl), (Nat.le_of_ble_eq_true rfl)⟩ ht hlocks (q_mrg_perm [true, true, true] _ _)
