
/-- the JDK's own empty row of lists: where it lies, and that nobody writes it -/
def q_gE (e0 : Nat) : (Nat → Prop) → State → Prop := fun A U => va_Z "java/util/ArrayList" "DEFAULTCAPACITY_EMPTY_ELEMENTDATA" "[Ljava/lang/Object;" (.ref e0) A U U.heap ∧ va_T (.object "java/lang/Object") e0 0 (fun _ => .null) A U U.heap ∧ va_AO "java/lang/Object" U ∧ (Cond.castable RX0 "java/lang/Object").before #[] U = true
theorem q_gE_st (e0 : Nat) : q_st (q_gE e0) := by
  intro A U V hh hvm h
  refine ⟨?_, ?_, h.2.2.1.moved hvm, ?_⟩
  · rw [hh]; exact h.1.moved hvm
  · rw [hh]; exact h.2.1.moved hvm
  · have h1 : (Cond.castable RX0 "java/lang/Object").before #[] (U.setVm V.vm) = true := by rw [Cond.castable_setVm hvm]; exact h.2.2.2
    exact va_tabs rfl (rfl : (U.setVm V.vm).vm = V.vm) h1
theorem q_free {A : Nat → Prop} {H0 H : Heap} {locs : List Loc} {w C R1 : va_W} (hD : va_D A w) (hS : va_S A H0 H locs) (hA : ∀ q, H0.size ≤ q → A q) (hperm : w.Perm (C ++ R1)) : ∀ q, va_A C H.size q → A q := by
  intro q h
  rcases h with ⟨k, e, h⟩ | h
  · exact (q_D_iff.mp (q_D_left (q_D_perm hperm hD))).2 _ (List.mem_of_getElem? h)
  · exact hA q (Nat.le_trans hS.1 h)
theorem q_gE_at {e0 : Nat} {A : Nat → Prop} {s : State} {H : Heap} {locs : List Loc} {w C R1 : va_W} (hG : q_gE e0 A s) (hD : va_D A w) (hS : va_S A s.heap H locs) (hA : ∀ q, s.heap.size ≤ q → A q) (hperm : w.Perm (C ++ R1)) : ∀ U : State, U.heap = H → s.WarmedH U.vm → q_gE e0 (va_A C H.size) U := by
  intro U hU hW
  have hF := q_free hD hS hA hperm
  refine q_gE_st e0 _ ({ s with heap := H } : State) U hU hW.alike ⟨?_, ?_, hG.2.2.1, hG.2.2.2⟩
  · exact (hG.1.kept (H1 := H) hS.2.1).narrow hF
  · exact (hG.2.1.kept (H1 := H) hS.2.1).narrow hF
theorem q_g_push (n : Nat) (ad : Nat → Nat) (b : Nat) : va_up (q_g n ad) n (some b) = q_g (n + 1) (va_up ad n b) := by
  funext j
  unfold va_up q_g
  by_cases h : j = n
  · subst h; simp
  · by_cases h2 : j < n
    · simp [h, h2, Nat.lt_succ_of_lt h2]
    · rw [if_neg h, if_neg h2, if_neg (by omega)]
section QO
variable {p : Program} {l : Launch} {e : Env} {R : Room} {s : State} {m : MethodId} {args : Array Value} {below : List Frame} {meth : Method} {c : Code} {H : Heap} {locs : List Loc} {cells slots : Nat} {Q : State → Prop} {D : va_G} {T : Nat → ClassId} {A : Nat → Prop} {w : va_W} {cc : ByteArray} {pc : Nat} {ls : Array Slot} {rest : List Value} {H0 : Heap} {a : Nat}
theorem q_newO (hexec : p.tables.exec = Jvm.exec) (hb : c.code = cc) {own : String} {index : Nat} (hown : s.vm.findClass own = some m.cls) (hclink : (Cond.classLink own index "java/lang/Object").before args s = true) (hover : va_AO "java/lang/Object" s) (hK : va_K D vwCl (q_ty T) s) (hP : va_P D vwCl w H) (hD : va_D A w) (hS : va_S A H0 H locs) (hA : ∀ q, H0.size ≤ q → A q)
    {n : Int32} {N : Nat} (hn : ¬ n < 0) (hN : n.toNatClampNeg = N) (hbytes : N * 4 ≤ 536870912) (hcells : cells + 1 ≤ R.cells) (hslots : slots + N ≤ R.slots) (hdg : decode cc pc = .ok (.anewarray index, 3))
    (kk : ∀ (q : Nat) (H1 : Heap), va_P D vwCl (w ++ [(q, .inl (T 1, N, .inr (.inr (.inr (.inr (fun _ => none))))))]) H1 → va_D A (w ++ [(q, .inl (T 1, N, .inr (.inr (.inr (.inr (fun _ => none))))))]) → va_S A H0 H1 locs →
      W p l e R s m args below meth c H1 locs (cells + 1) (slots + N) Q (F0 m (pc + 3) ls (.ref q :: rest))) : W p l e R s m args below meth c H locs cells slots Q (F0 m pc ls (.int n :: rest)) := by
  refine va_newq (D := D) hexec hb hown hclink hover hK hP hD hS hA hn hN hbytes hcells hslots hdg (fun q cA H1 hK1 hP1 hD1 hS1 => ?_)
  obtain ⟨-, -, -, -, -, e1⟩ := (hK1.2 5 _ rfl).2
  obtain ⟨-, -, -, -, -, e2⟩ := (hK.2 1 _ rfl).2
  have e3 : cA = T 1 := Option.some.inj (e1.symm.trans e2)
  subst e3
  exact kk q H1 hP1 hD1 hS1
end QO
/-- a boat may stand in a row of objects -/
theorem q_anyB {e0 : Nat} {A : Nat → Prop} {D : va_G} {T : Nat → ClassId} {s : State} {H : Heap} {w : va_W} {q0 b : Nat} {r : Nat → Int32} (hG : q_gE e0 A s) (hK : va_K D vwCl (q_ty T) s) (hP : va_P D vwCl w H) (he : w[q0]? = some (q_bc b r)) : va_Any "java/lang/Object" s H b :=
  va_rAny hK hP he (r := (RX0, TX0, 11)) rfl (fun comp c0 h1 h2 => by
    obtain ⟨c, t, g1, g2, g3⟩ := Cond.castable_spec hG.2.2.2
    rw [show c0 = c from Option.some.inj (h2.symm.trans g1), show comp = t from Option.some.inj (h1.symm.trans g2)]
    exact g3)

abbrev rmX0_init : Room := { frames := 1, cells := 0, slots := 0, locals := 20 }
set_option maxHeartbeats 1000000 in
set_option maxRecDepth 100000 in
theorem c_X0_init (l : Launch) (D : va_G) (T : Nat → ClassId) (h : Nat) (hull rig : Int32) : q_M l D (q_ty T) yX0_init wsX0_init rmX0_init [.ref h, .int hull, .int rig] [q_bc h (fun _ => (0 : Int32))] q_no (q_is none [q_bc h (bNew hull rig)]) := by
  refine q_start (cc := cX0_init) (maxL := 3) (ret := none) (by decide) rfl (Nat.le_of_ble_eq_true rfl) ?_
  intro p e s m args below meth c A H locs hx hb hr hts hown hlocks hml hnm hP hK hD hS hA hG ls hl
  have hown : s.vm.findClass RX0 = some m.cls := hown
  have hC : CallFix p m c cX0_init 3 s args wsX0_init RX0 := ⟨hx, hb, hml, hown, hts⟩
  have iX0 : ∀ w ∈ wsX00, w ∈ wsX0_init := by decide +kernel
  have hl : lv_has ls 3 [(0, .ref h), (1, .int hull), (2, .int rig)] := hl
  refine lv_aload_n hx hb dX0_init_0 rfl (lv_at hl 0 rfl) ?_
  refine W.objInit hx hb hown (hts (.methodLink RX0 1 objectInit) (by decide +kernel)) (hts (.instanceMethod objectInit) (by decide +kernel)) (hts (.code objectInit ⟨#[0xb1]⟩ 1 none) (by decide +kernel)) rfl (hl.1.trans hml.symm) rfl dX0_init_1 (Nat.le_of_ble_eq_true rfl) (Nat.le_of_ble_eq_true rfl) ?_
  refine W.eq (g2 := F0 m 4 ls []) rfl ?_
  refine lv_aload_n hx hb dX0_init_4 rfl (lv_at hl 0 rfl) ?_
  refine lv_iload_n hx hb dX0_init_5 rfl (lv_at hl 1 rfl) ?_
  refine va_put (D := D) (ci := 1) (v := .int hull) (ty := .int) (C := RX0) (T := TX0) (N := 11) hx hb hts iX0 tyX0 tyX0_ok nmX0 hown hK hP hD hS 0 rfl rfl 0 (by decide) (hts (.fieldLink RX0 7 "ToyRegatta$Boat" "hull" "I") (by decide +kernel)) (fun _ h9 => h9) rfl (by decide +kernel) rfl rfl (Nat.le_of_ble_eq_true rfl) dX0_init_6 (fun H locs hP hD hS => ?_)
  have hP : va_P D vwCl [q_bc h (upd (fun _ => (0 : Int32)) 0 hull)] H := hP
  have hD : va_D A [q_bc h (upd (fun _ => (0 : Int32)) 0 hull)] := hD
  refine lv_aload_n hx hb dX0_init_9 rfl (lv_at hl 0 rfl) ?_
  refine lv_iload_n hx hb dX0_init_10 rfl (lv_at hl 2 rfl) ?_
  refine va_put (D := D) (ci := 1) (v := .int rig) (ty := .int) (C := RX0) (T := TX0) (N := 11) hx hb hts iX0 tyX0 tyX0_ok nmX0 hown hK hP hD hS 0 rfl rfl 1 (by decide) (hts (.fieldLink RX0 13 "ToyRegatta$Boat" "rig" "I") (by decide +kernel)) (fun _ h9 => h9) rfl (by decide +kernel) rfl rfl (Nat.le_of_ble_eq_true rfl) dX0_init_11 (fun H locs hP hD hS => ?_)
  have hP : va_P D vwCl [q_bc h (upd (upd (fun _ => (0 : Int32)) 0 hull) 1 rig)] H := hP
  have hD : va_D A [q_bc h (upd (upd (fun _ => (0 : Int32)) 0 hull) 1 rig)] := hD
  refine lv_aload_n hx hb dX0_init_14 rfl (lv_at hl 0 rfl) ?_
  refine lv_iconst (v := (-1)) hx hb dX0_init_15 (by decide) ?_
  refine va_put (D := D) (ci := 1) (v := .int (-1)) (ty := .int) (C := RX0) (T := TX0) (N := 11) hx hb hts iX0 tyX0 tyX0_ok nmX0 hown hK hP hD hS 0 rfl rfl 6 (by decide) (hts (.fieldLink RX0 16 "ToyRegatta$Boat" "time" "I") (by decide +kernel)) (fun _ h9 => h9) rfl (by decide +kernel) rfl rfl (Nat.le_of_ble_eq_true rfl) dX0_init_16 (fun H locs hP hD hS => ?_)
  have hP : va_P D vwCl [q_bc h (upd (upd (upd (fun _ => (0 : Int32)) 0 hull) 1 rig) 6 (-1))] H := hP
  have hD : va_D A [q_bc h (upd (upd (upd (fun _ => (0 : Int32)) 0 hull) 1 rig) 6 (-1))] := hD
  exact q_vret hx hb hr hlocks hP hK hD hS (Nat.le_of_ble_eq_true rfl) (Nat.le_of_ble_eq_true rfl) dX0_init_19 ⟨rfl, rfl⟩
abbrev rmJxa1e45_init_da8c8 : Room := { frames := 1, cells := 0, slots := 0, locals := 20 }
set_option maxHeartbeats 1000000 in
set_option maxRecDepth 100000 in
theorem c_ACinit (l : Launch) (D : va_G) (T : Nat → ClassId) (al : Nat) : q_M l D (q_ty T) yJxa1e45_init_da8c8 wsJxa1e45_init_da8c8 rmJxa1e45_init_da8c8 [.ref al] [(al, .inr (0, [.int 0, .null, .int 0]))] q_no (q_is none [(al, .inr (0, [.int 0, .null, .int 0]))]) := by
  refine q_start (cc := cJxa1e45_init_da8c8) (maxL := 1) (ret := none) (by decide) rfl (Nat.le_of_ble_eq_true rfl) ?_
  intro p e s m args below meth c A H locs hx hb hr hts hown hlocks hml hnm hP hK hD hS hA hG ls hl
  have hown : s.vm.findClass RJxa1e45 = some m.cls := hown
  have hC : CallFix p m c cJxa1e45_init_da8c8 1 s args wsJxa1e45_init_da8c8 RJxa1e45 := ⟨hx, hb, hml, hown, hts⟩
  have hl : lv_has ls 1 [(0, .ref al)] := hl
  refine lv_aload_n hx hb dJxa1e45_init_da8c8_0 rfl (lv_at hl 0 rfl) ?_
  refine W.objInit hx hb hown (hts (.methodLink RJxa1e45 1 objectInit) (by decide +kernel)) (hts (.instanceMethod objectInit) (by decide +kernel)) (hts (.code objectInit ⟨#[0xb1]⟩ 1 none) (by decide +kernel)) rfl (hl.1.trans hml.symm) rfl dJxa1e45_init_da8c8_1 (Nat.le_of_ble_eq_true rfl) (Nat.le_of_ble_eq_true rfl) ?_
  refine W.eq (g2 := F0 m 4 ls []) rfl ?_
  exact q_vret hx hb hr hlocks hP hK hD hS (Nat.le_of_ble_eq_true rfl) (Nat.le_of_ble_eq_true rfl) dJxa1e45_init_da8c8_4 ⟨rfl, rfl⟩
abbrev rmJxc12de_init_da8c8 : Room := { frames := 2, cells := 0, slots := 0, locals := 40 }
set_option maxHeartbeats 1000000 in
set_option maxRecDepth 100000 in
theorem c_ALsinit (l : Launch) (D : va_G) (T : Nat → ClassId) (al : Nat) : q_M l D (q_ty T) yJxc12de_init_da8c8 wsJxc12de_init_da8c8 rmJxc12de_init_da8c8 [.ref al] [(al, .inr (0, [.int 0, .null, .int 0]))] q_no (q_is none [(al, .inr (0, [.int 0, .null, .int 0]))]) := by
  refine q_start (cc := cJxc12de_init_da8c8) (maxL := 1) (ret := none) (by decide) rfl (Nat.le_of_ble_eq_true rfl) ?_
  intro p e s m args below meth c A H locs hx hb hr hts hown hlocks hml hnm hP hK hD hS hA hG ls hl
  have hown : s.vm.findClass RJxc12de = some m.cls := hown
  have hC : CallFix p m c cJxc12de_init_da8c8 1 s args wsJxc12de_init_da8c8 RJxc12de := ⟨hx, hb, hml, hown, hts⟩
  have iJx4a65c : ∀ w ∈ wsJx4a65c0, w ∈ wsJxc12de_init_da8c8 := by decide +kernel
  have hl : lv_has ls 1 [(0, .ref al)] := hl
  refine lv_aload_n hx hb dJxc12de_init_da8c8_0 rfl (lv_at hl 0 rfl) ?_
  refine q_callI (As := []) (rs := []) hC (c_ACinit l D T al) q_no_st q_no_at (cwI 0 hts gJxc12de_init_da8c8_Jxa1e45_init_da8c8 rfl rfl rfl (hts (.initialized RJxa1e45) (by decide +kernel)) (hts (.methodLink RJxc12de 1 yJxa1e45_init_da8c8) (by decide +kernel)) (hts (.instanceMethod yJxa1e45_init_da8c8) (by decide +kernel)) rfl (by decide +kernel) ⟨Nat.le_of_ble_eq_true rfl, Nat.le_of_ble_eq_true rfl⟩) hK hP hD hS hA (q_mask [true] _) rfl hl.1 rfl (Nat.le_of_ble_eq_true rfl) dJxc12de_init_da8c8_1 ⟨(Nat.le_of_ble_eq_true rfl), (Nat.le_of_ble_eq_true rfl)⟩ (fun v9 C9 H locs hp hP hD hS => ?_)
  obtain ⟨rfl, rfl⟩ := hp
  have hP : va_P D vwCl [(al, .inr (0, [.int 0, .null, .int 0]))] H := q_P_perm (q_mrg_perm [true] _ _) hP
  have hD : va_D A [(al, .inr (0, [.int 0, .null, .int 0]))] := q_D_perm (q_mrg_perm [true] _ _) hD
  refine lv_aload_n hx hb dJxc12de_init_da8c8_4 rfl (lv_at hl 0 rfl) ?_
  refine lv_iconst (v := 0) hx hb dJxc12de_init_da8c8_5 (by decide) ?_
  refine va_put (D := D) (ci := 0) (v := .int 0) (ty := .int) (C := RJx4a65c) (T := TJx4a65c) (N := 3) hx hb hts iJx4a65c tyJx4a65c tyJx4a65c_ok nmJx4a65c hown hK hP hD hS 0 rfl rfl 0 (by decide) (hts (.fieldLink RJxc12de 7 "java/util/AbstractList" "modCount" "I") (by decide +kernel)) (fun _ h9 => h9) rfl (by decide +kernel) rfl rfl (Nat.le_of_ble_eq_true rfl) dJxc12de_init_da8c8_6 (fun H locs hP hD hS => ?_)
  have hP : va_P D vwCl [(al, .inr (0, [.int 0, .null, .int 0]))] H := hP
  have hD : va_D A [(al, .inr (0, [.int 0, .null, .int 0]))] := hD
  exact q_vret hx hb hr hlocks hP hK hD hS (Nat.le_of_ble_eq_true rfl) (Nat.le_of_ble_eq_true rfl) dJxc12de_init_da8c8_9 ⟨rfl, rfl⟩
abbrev rmJx4a65c_init_da8c8 : Room := { frames := 3, cells := 0, slots := 0, locals := 60 }
set_option maxHeartbeats 1000000 in
set_option maxRecDepth 100000 in
theorem c_AL_init (l : Launch) (D : va_G) (T : Nat → ClassId) (al e0 : Nat) : q_M l D (q_ty T) yJx4a65c_init_da8c8 wsJx4a65c_init_da8c8 rmJx4a65c_init_da8c8 [.ref al] [(al, .inr (0, [.int 0, .null, .int 0]))] (q_gE e0) (q_is none [q_ac al 0 e0 0]) := by
  refine q_start (cc := cJx4a65c_init_da8c8) (maxL := 1) (ret := none) (by decide) rfl (Nat.le_of_ble_eq_true rfl) ?_
  intro p e s m args below meth c A H locs hx hb hr hts hown hlocks hml hnm hP hK hD hS hA hG ls hl
  have hown : s.vm.findClass RJx4a65c = some m.cls := hown
  have hC : CallFix p m c cJx4a65c_init_da8c8 1 s args wsJx4a65c_init_da8c8 RJx4a65c := ⟨hx, hb, hml, hown, hts⟩
  have iJx4a65c : ∀ w ∈ wsJx4a65c0, w ∈ wsJx4a65c_init_da8c8 := by decide +kernel
  have hl : lv_has ls 1 [(0, .ref al)] := hl
  refine lv_aload_n hx hb dJx4a65c_init_da8c8_0 rfl (lv_at hl 0 rfl) ?_
  refine q_callI (As := []) (rs := []) hC (c_ALsinit l D T al) q_no_st q_no_at (cwI 0 hts gJx4a65c_init_da8c8_Jxc12de_init_da8c8 rfl rfl rfl (hts (.initialized RJxc12de) (by decide +kernel)) (hts (.methodLink RJx4a65c 1 yJxc12de_init_da8c8) (by decide +kernel)) (hts (.instanceMethod yJxc12de_init_da8c8) (by decide +kernel)) rfl (by decide +kernel) ⟨Nat.le_of_ble_eq_true rfl, Nat.le_of_ble_eq_true rfl⟩) hK hP hD hS hA (q_mask [true] _) rfl hl.1 rfl (Nat.le_of_ble_eq_true rfl) dJx4a65c_init_da8c8_1 ⟨(Nat.le_of_ble_eq_true rfl), (Nat.le_of_ble_eq_true rfl)⟩ (fun v9 C9 H locs hp hP hD hS => ?_)
  obtain ⟨rfl, rfl⟩ := hp
  have hP : va_P D vwCl [(al, .inr (0, [.int 0, .null, .int 0]))] H := q_P_perm (q_mrg_perm [true] _ _) hP
  have hD : va_D A [(al, .inr (0, [.int 0, .null, .int 0]))] := q_D_perm (q_mrg_perm [true] _ _) hD
  refine lv_aload_n hx hb dJx4a65c_init_da8c8_4 rfl (lv_at hl 0 rfl) ?_
  refine va_gets hx hb hG.1 hS hown (hts (.fieldLink RJx4a65c 39 "java/util/ArrayList" "DEFAULTCAPACITY_EMPTY_ELEMENTDATA" "[Ljava/lang/Object;") (by decide +kernel)) (fun _ h9 => h9) dJx4a65c_init_da8c8_5 ?_
  refine va_put (D := D) (ci := 0) (v := .ref e0) (ty := (.array (.object "java/lang/Object"))) (C := RJx4a65c) (T := TJx4a65c) (N := 3) hx hb hts iJx4a65c tyJx4a65c tyJx4a65c_ok nmJx4a65c hown hK hP hD hS 0 rfl rfl 1 (by decide) (hts (.fieldLink RJx4a65c 9 "java/util/ArrayList" "elementData" "[Ljava/lang/Object;") (by decide +kernel)) (fun _ h9 => h9) rfl (by decide +kernel) rfl rfl (Nat.le_of_ble_eq_true rfl) dJx4a65c_init_da8c8_8 (fun H locs hP hD hS => ?_)
  have hP : va_P D vwCl [(al, .inr (0, [.int 0, .ref e0, .int 0]))] H := hP
  have hD : va_D A [(al, .inr (0, [.int 0, .ref e0, .int 0]))] := hD
  exact q_vret hx hb hr hlocks hP hK hD hS (Nat.le_of_ble_eq_true rfl) (Nat.le_of_ble_eq_true rfl) dJx4a65c_init_da8c8_11 ⟨rfl, rfl⟩
abbrev rmJx4a65c_grow_92f84 : Room := { frames := 1, cells := 1, slots := 10, locals := 21 }
set_option maxHeartbeats 1000000 in
set_option maxRecDepth 100000 in
theorem c_AL_grow2 (l : Launch) (D : va_G) (T : Nat → ClassId) (al e0 : Nat) (md : Int32) : q_M l D (q_ty T) yJx4a65c_grow_92f84 wsJx4a65c_grow_92f84 rmJx4a65c_grow_92f84 [.ref al, .int 1] [q_ac al md e0 0] (q_gE e0) (fun v w => ∃ q, v = some (.ref q) ∧ w = [(al, .inr (0, [.int md, .ref q, .int 0])), (q, .inl (T 1, 10, .inr (.inr (.inr (.inr (fun _ => none))))))]) := by
  refine q_start (cc := cJx4a65c_grow_92f84) (maxL := 4) (ret := (some (.array (.object "java/lang/Object")))) (by decide) rfl (Nat.le_of_ble_eq_true rfl) ?_
  intro p e s m args below meth c A H locs hx hb hr hts hown hlocks hml hnm hP hK hD hS hA hG ls hl
  have hown : s.vm.findClass RJx4a65c = some m.cls := hown
  have hC : CallFix p m c cJx4a65c_grow_92f84 4 s args wsJx4a65c_grow_92f84 RJx4a65c := ⟨hx, hb, hml, hown, hts⟩
  have iJx4a65c : ∀ w ∈ wsJx4a65c0, w ∈ wsJx4a65c_grow_92f84 := by decide +kernel
  have hl : lv_has ls 4 [(0, .ref al), (1, .int 1)] := hl
  refine lv_aload_n hx hb dJx4a65c_grow_92f84_0 rfl (lv_at hl 0 rfl) ?_
  refine va_get (D := D) (ci := 0) (v := .ref e0) (C := RJx4a65c) (T := TJx4a65c) (N := 3) hx hb hts iJx4a65c hown hK hP 0 rfl rfl 1 (by decide) (hts (.fieldLink RJx4a65c 9 "java/util/ArrayList" "elementData" "[Ljava/lang/Object;") (by decide +kernel)) (fun _ h9 => h9) rfl dJx4a65c_grow_92f84_1 ?_
  refine va_tlen hx hb hG.2.1 hS (v := 0) rfl dJx4a65c_grow_92f84_4 ?_
  refine lv_istore_n (lv' := [(2, .int 0), (0, .ref al), (1, .int 1)]) hx hb dJx4a65c_grow_92f84_5 rfl hl (by decide) rfl (fun ls hl => ?_)
  refine lv_iload_n hx hb dJx4a65c_grow_92f84_6 rfl (lv_at hl 0 rfl) ?_
  refine lv_if_gt (tgt := 20) hx hb dJx4a65c_grow_92f84_7 (by decide) (fun c_7 => absurd c_7 (by decide)) (fun _ => ?_)
  refine lv_aload_n hx hb dJx4a65c_grow_92f84_10 rfl (lv_at hl 1 rfl) ?_
  refine va_get (D := D) (ci := 0) (v := .ref e0) (C := RJx4a65c) (T := TJx4a65c) (N := 3) hx hb hts iJx4a65c hown hK hP 0 rfl rfl 1 (by decide) (hts (.fieldLink RJx4a65c 9 "java/util/ArrayList" "elementData" "[Ljava/lang/Object;") (by decide +kernel)) (fun _ h9 => h9) rfl dJx4a65c_grow_92f84_11 ?_
  refine va_gets hx hb hG.1 hS hown (hts (.fieldLink RJx4a65c 39 "java/util/ArrayList" "DEFAULTCAPACITY_EMPTY_ELEMENTDATA" "[Ljava/lang/Object;") (by decide +kernel)) (fun _ h9 => h9) dJx4a65c_grow_92f84_14 ?_
  refine lv_acmp_eq (rx := (some e0)) (ry := (some e0)) (tgt := 45) hx hb dJx4a65c_grow_92f84_17 (by decide) (fun c_17 => ?_) (fun c_17 => absurd rfl c_17)
  refine lv_aload_n hx hb dJx4a65c_grow_92f84_45 rfl (lv_at hl 1 rfl) ?_
  refine lv_bipush (v := 10) hx hb dJx4a65c_grow_92f84_46 (by decide) ?_
  refine lv_iload_n hx hb dJx4a65c_grow_92f84_48 rfl (lv_at hl 2 rfl) ?_
  refine va_mmax hx hb (hml.trans hl.1.symm) hown (hts (.methodLink RJx4a65c 79 Lib.Math.max.name) (by decide +kernel)) (hts (.static Lib.Math.max.name) (by decide +kernel)) (hts (.initialized "java/lang/Math") (by decide +kernel)) (hts (.code Lib.Math.max.name Lib.Math.max.code 2 (some .int)) (by decide +kernel)) (Nat.le_of_ble_eq_true rfl) (Nat.le_of_ble_eq_true rfl) (Nat.le_of_ble_eq_true rfl) (Nat.le_of_ble_eq_true rfl) dJx4a65c_grow_92f84_49 ?_
  refine q_newO (N := 10) hx hb hown (hts (.classLink RJx4a65c 7 "java/lang/Object") (by decide +kernel)) hG.2.2.1 hK hP hD hS hA (by decide) (by decide) (by omega) (Nat.le_of_ble_eq_true rfl) (Nat.le_of_ble_eq_true rfl) dJx4a65c_grow_92f84_52 (fun q H hP hD hS => ?_)
  have hP : va_P D vwCl [(al, .inr (0, [.int md, .ref e0, .int 0])), (q, .inl (T 1, 10, .inr (.inr (.inr (.inr (fun _ => none))))))] H := hP
  have hD : va_D A [(al, .inr (0, [.int md, .ref e0, .int 0])), (q, .inl (T 1, 10, .inr (.inr (.inr (.inr (fun _ => none))))))] := hD
  refine lv_dup_x1 hx hb dJx4a65c_grow_92f84_55 rfl rfl ?_
  refine va_put (D := D) (ci := 0) (v := .ref q) (ty := (.array (.object "java/lang/Object"))) (C := RJx4a65c) (T := TJx4a65c) (N := 3) hx hb hts iJx4a65c tyJx4a65c tyJx4a65c_ok nmJx4a65c hown hK hP hD hS 0 rfl rfl 1 (by decide) (hts (.fieldLink RJx4a65c 9 "java/util/ArrayList" "elementData" "[Ljava/lang/Object;") (by decide +kernel)) (fun _ h9 => h9) rfl (by decide +kernel) rfl rfl (Nat.le_of_ble_eq_true rfl) dJx4a65c_grow_92f84_56 (fun H locs hP hD hS => ?_)
  have hP : va_P D vwCl [(al, .inr (0, [.int md, .ref q, .int 0])), (q, .inl (T 1, 10, .inr (.inr (.inr (.inr (fun _ => none))))))] H := hP
  have hD : va_D A [(al, .inr (0, [.int md, .ref q, .int 0])), (q, .inl (T 1, 10, .inr (.inr (.inr (.inr (fun _ => none))))))] := hD
  exact q_aret hx hb hr (Or.inr ⟨_, rfl⟩) hlocks hP hK hD hS (Nat.le_of_ble_eq_true rfl) (Nat.le_of_ble_eq_true rfl) dJx4a65c_grow_92f84_59 ⟨q, rfl, rfl⟩
abbrev rmJx4a65c_grow_d5877 : Room := { frames := 2, cells := 1, slots := 10, locals := 44 }
set_option maxHeartbeats 1000000 in
set_option maxRecDepth 100000 in
theorem c_AL_grow1 (l : Launch) (D : va_G) (T : Nat → ClassId) (al e0 : Nat) (md : Int32) : q_M l D (q_ty T) yJx4a65c_grow_d5877 wsJx4a65c_grow_d5877 rmJx4a65c_grow_d5877 [.ref al] [q_ac al md e0 0] (q_gE e0) (fun v w => ∃ q, v = some (.ref q) ∧ w = [(al, .inr (0, [.int md, .ref q, .int 0])), (q, .inl (T 1, 10, .inr (.inr (.inr (.inr (fun _ => none))))))]) := by
  refine q_start (cc := cJx4a65c_grow_d5877) (maxL := 1) (ret := (some (.array (.object "java/lang/Object")))) (by decide) rfl (Nat.le_of_ble_eq_true rfl) ?_
  intro p e s m args below meth c A H locs hx hb hr hts hown hlocks hml hnm hP hK hD hS hA hG ls hl
  have hown : s.vm.findClass RJx4a65c = some m.cls := hown
  have hC : CallFix p m c cJx4a65c_grow_d5877 1 s args wsJx4a65c_grow_d5877 RJx4a65c := ⟨hx, hb, hml, hown, hts⟩
  have iJx4a65c : ∀ w ∈ wsJx4a65c0, w ∈ wsJx4a65c_grow_d5877 := by decide +kernel
  have hl : lv_has ls 1 [(0, .ref al)] := hl
  refine lv_aload_n hx hb dJx4a65c_grow_d5877_0 rfl (lv_at hl 0 rfl) ?_
  refine lv_aload_n hx hb dJx4a65c_grow_d5877_1 rfl (lv_at hl 0 rfl) ?_
  refine va_get (D := D) (ci := 0) (v := .int (nI 0)) (C := RJx4a65c) (T := TJx4a65c) (N := 3) hx hb hts iJx4a65c hown hK hP 0 rfl rfl 2 (by decide) (hts (.fieldLink RJx4a65c 48 "java/util/ArrayList" "size" "I") (by decide +kernel)) (fun _ h9 => h9) rfl dJx4a65c_grow_d5877_2 ?_
  refine lv_iconst (v := 1) hx hb dJx4a65c_grow_d5877_5 (by decide) ?_
  refine lv_iadd hx hb dJx4a65c_grow_d5877_6 ?_
  refine W.eq (g2 := F0 m 7 ls [.int 1, .ref al]) rfl ?_
  refine q_callV (As := [.int 1]) (rs := []) hC (c_AL_grow2 l D T al e0 md) (q_gE_st e0) (q_gE_at hG hD hS hA (q_mask [true] _)) (cwV 1 hts gJx4a65c_grow_d5877_Jx4a65c_grow_92f84 rfl rfl rfl (by decide +kernel) ⟨Nat.le_of_ble_eq_true rfl, Nat.le_of_ble_eq_true rfl⟩) (va_recv hK hP (ci := 0) (q0 := 0) rfl rfl) hK hP hD hS hA (q_mask [true] _) rfl hl.1 rfl (Nat.le_of_ble_eq_true rfl) dJx4a65c_grow_d5877_7 ⟨(Nat.le_of_ble_eq_true rfl), (Nat.le_of_ble_eq_true rfl)⟩ (fun v9 C9 H locs hp hP hD hS => ?_)
  obtain ⟨q, rfl, rfl⟩ := hp
  have hP : va_P D vwCl [(al, .inr (0, [.int md, .ref q, .int 0])), (q, .inl (T 1, 10, .inr (.inr (.inr (.inr (fun _ => none))))))] H := hP
  have hD : va_D A [(al, .inr (0, [.int md, .ref q, .int 0])), (q, .inl (T 1, 10, .inr (.inr (.inr (.inr (fun _ => none))))))] := hD
  exact q_aret hx hb hr (Or.inr ⟨_, rfl⟩) hlocks hP hK hD hS (Nat.le_of_ble_eq_true rfl) (Nat.le_of_ble_eq_true rfl) dJx4a65c_grow_d5877_10 ⟨q, rfl, rfl⟩
abbrev rmJx4a65c_add_72be8 : Room := { frames := 3, cells := 1, slots := 10, locals := 64 }
set_option maxHeartbeats 1000000 in
set_option maxRecDepth 100000 in
theorem c_AL_add3_0 (l : Launch) (D : va_G) (T : Nat → ClassId) (al e0 b : Nat) (ad : Nat → Nat) (md : Int32) (r : Nat → Int32) : q_M l D (q_ty T) yJx4a65c_add_72be8 wsJx4a65c_add_72be8 rmJx4a65c_add_72be8 [.ref al, .ref b, .ref e0, .int 0] [q_ac al md e0 0, q_bc b r] (q_gE e0) (fun v w => ∃ q, v = none ∧ w = [q_ac al md q 1, q_arc (T 1) 1 q (va_up ad 0 b), q_bc b r]) := by
  refine q_start (cc := cJx4a65c_add_72be8) (maxL := 4) (ret := none) (by decide) rfl (Nat.le_of_ble_eq_true rfl) ?_
  intro p e s m args below meth c A H locs hx hb hr hts hown hlocks hml hnm hP hK hD hS hA hG ls hl
  have hown : s.vm.findClass RJx4a65c = some m.cls := hown
  have hC : CallFix p m c cJx4a65c_add_72be8 4 s args wsJx4a65c_add_72be8 RJx4a65c := ⟨hx, hb, hml, hown, hts⟩
  have iJx4a65c : ∀ w ∈ wsJx4a65c0, w ∈ wsJx4a65c_add_72be8 := by decide +kernel
  have hl : lv_has ls 4 [(0, .ref al), (1, .ref b), (2, .ref e0), (3, .int 0)] := hl
  refine lv_iload_n hx hb dJx4a65c_add_72be8_0 rfl (lv_at hl 3 rfl) ?_
  refine lv_aload_n hx hb dJx4a65c_add_72be8_1 rfl (lv_at hl 2 rfl) ?_
  refine va_tlen hx hb hG.2.1 hS (v := 0) rfl dJx4a65c_add_72be8_2 ?_
  refine lv_icmp_ne (tgt := 11) hx hb dJx4a65c_add_72be8_3 (by decide) (fun c_3 => absurd rfl c_3) (fun c_3 => ?_)
  refine lv_aload_n hx hb dJx4a65c_add_72be8_6 rfl (lv_at hl 0 rfl) ?_
  refine q_callV (As := []) (rs := []) hC (c_AL_grow1 l D T al e0 md) (q_gE_st e0) (q_gE_at hG hD hS hA (q_mask [true, false] _)) (cwV 0 hts gJx4a65c_add_72be8_Jx4a65c_grow_d5877 rfl rfl rfl (by decide +kernel) ⟨Nat.le_of_ble_eq_true rfl, Nat.le_of_ble_eq_true rfl⟩) (va_recv hK hP (ci := 0) (q0 := 0) rfl rfl) hK hP hD hS hA (q_mask [true, false] _) rfl hl.1 rfl (Nat.le_of_ble_eq_true rfl) dJx4a65c_add_72be8_7 ⟨(Nat.le_of_ble_eq_true rfl), (Nat.le_of_ble_eq_true rfl)⟩ (fun v9 C9 H locs hp hP hD hS => ?_)
  obtain ⟨q, rfl, rfl⟩ := hp
  have hP : va_P D vwCl [(al, .inr (0, [.int md, .ref q, .int 0])), (q, .inl (T 1, 10, .inr (.inr (.inr (.inr (fun _ => none)))))), q_bc b r] H := hP
  have hD : va_D A [(al, .inr (0, [.int md, .ref q, .int 0])), (q, .inl (T 1, 10, .inr (.inr (.inr (.inr (fun _ => none)))))), q_bc b r] := hD
  refine lv_astore_n (lv' := [(2, .ref q), (0, .ref al), (1, .ref b), (3, .int 0)]) hx hb dJx4a65c_add_72be8_10 rfl hl (by decide) rfl (fun ls hl => ?_)
  refine lv_aload_n hx hb dJx4a65c_add_72be8_11 rfl (lv_at hl 0 rfl) ?_
  refine lv_iload_n hx hb dJx4a65c_add_72be8_12 rfl (lv_at hl 3 rfl) ?_
  refine lv_aload_n hx hb dJx4a65c_add_72be8_13 rfl (lv_at hl 2 rfl) ?_
  refine va_astqM (D := D) (i := 0) hx hb hK hP hD hS 1 1 rfl rfl (q_anyB hG hK hP (q0 := 2) rfl) (by unfold vp_in; decide) dJx4a65c_add_72be8_14 (fun H locs hP hD hS => ?_)
  rw [show (0 : Int32).toNatClampNeg = 0 from by decide] at hP hD
  rw [show va_up (fun _ => none) 0 (some b) = q_g 1 (va_up ad 0 b) from by rw [← q_g_push]; rfl] at hP hD
  have hP : va_P D vwCl [(al, .inr (0, [.int md, .ref q, .int 0])), q_arc (T 1) 1 q (va_up ad 0 b), q_bc b r] H := hP
  have hD : va_D A [(al, .inr (0, [.int md, .ref q, .int 0])), q_arc (T 1) 1 q (va_up ad 0 b), q_bc b r] := hD
  refine lv_aload_n hx hb dJx4a65c_add_72be8_15 rfl (lv_at hl 1 rfl) ?_
  refine lv_iload_n hx hb dJx4a65c_add_72be8_16 rfl (lv_at hl 3 rfl) ?_
  refine lv_iconst (v := 1) hx hb dJx4a65c_add_72be8_17 (by decide) ?_
  refine lv_iadd hx hb dJx4a65c_add_72be8_18 ?_
  refine W.eq (g2 := F0 m 19 ls [.int 1, .ref al]) rfl ?_
  refine va_put (D := D) (ci := 0) (v := .int 1) (ty := .int) (C := RJx4a65c) (T := TJx4a65c) (N := 3) hx hb hts iJx4a65c tyJx4a65c tyJx4a65c_ok nmJx4a65c hown hK hP hD hS 0 rfl rfl 2 (by decide) (hts (.fieldLink RJx4a65c 48 "java/util/ArrayList" "size" "I") (by decide +kernel)) (fun _ h9 => h9) rfl (by decide +kernel) rfl rfl (Nat.le_of_ble_eq_true rfl) dJx4a65c_add_72be8_19 (fun H locs hP hD hS => ?_)
  have hP : va_P D vwCl [q_ac al md q 1, q_arc (T 1) 1 q (va_up ad 0 b), q_bc b r] H := hP
  have hD : va_D A [q_ac al md q 1, q_arc (T 1) 1 q (va_up ad 0 b), q_bc b r] := hD
  exact q_vret hx hb hr hlocks hP hK hD hS (Nat.le_of_ble_eq_true rfl) (Nat.le_of_ble_eq_true rfl) dJx4a65c_add_72be8_22 ⟨q, rfl, rfl⟩
set_option maxHeartbeats 1000000 in
set_option maxRecDepth 100000 in
theorem c_AL_add3_n (l : Launch) (D : va_G) (T : Nat → ClassId) (al e0 ar b n : Nat) (ad : Nat → Nat) (md : Int32) (r : Nat → Int32) (h0 : 0 < n) (hn : n < 8) : q_M l D (q_ty T) yJx4a65c_add_72be8 wsJx4a65c_add_72be8 rmJx4a65c_add_72be8 [.ref al, .ref b, .ref ar, .int (nI n)] [q_ac al md ar n, q_arc (T 1) n ar ad, q_bc b r] (q_gE e0) (q_is none [q_ac al md ar (n + 1), q_arc (T 1) (n + 1) ar (va_up ad n b), q_bc b r]) := by
  refine q_start (cc := cJx4a65c_add_72be8) (maxL := 4) (ret := none) (by decide) rfl (Nat.le_of_ble_eq_true rfl) ?_
  intro p e s m args below meth c A H locs hx hb hr hts hown hlocks hml hnm hP hK hD hS hA hG ls hl
  have hown : s.vm.findClass RJx4a65c = some m.cls := hown
  have hC : CallFix p m c cJx4a65c_add_72be8 4 s args wsJx4a65c_add_72be8 RJx4a65c := ⟨hx, hb, hml, hown, hts⟩
  have iJx4a65c : ∀ w ∈ wsJx4a65c0, w ∈ wsJx4a65c_add_72be8 := by decide +kernel
  have hl : lv_has ls 4 [(0, .ref al), (1, .ref b), (2, .ref ar), (3, .int (nI n))] := hl
  refine lv_iload_n hx hb dJx4a65c_add_72be8_0 rfl (lv_at hl 3 rfl) ?_
  refine lv_aload_n hx hb dJx4a65c_add_72be8_1 rfl (lv_at hl 2 rfl) ?_
  refine va_alen (D := D) (v := 10) hx hb hK hP 1 1 rfl rfl rfl dJx4a65c_add_72be8_2 ?_
  refine lv_icmp_ne (tgt := 11) hx hb dJx4a65c_add_72be8_3 (by decide) (fun c_3 => ?_) (fun c_3 => absurd c_3 (fun q => absurd ((nI_eq (b := 10) (by omega) (by omega)).mp q) (by omega)))
  refine lv_aload_n hx hb dJx4a65c_add_72be8_11 rfl (lv_at hl 2 rfl) ?_
  refine lv_iload_n hx hb dJx4a65c_add_72be8_12 rfl (lv_at hl 3 rfl) ?_
  refine lv_aload_n hx hb dJx4a65c_add_72be8_13 rfl (lv_at hl 1 rfl) ?_
  refine va_astqM (D := D) (i := (nI n)) hx hb hK hP hD hS 1 1 rfl rfl (q_anyB hG hK hP (q0 := 2) rfl) (vp_in_nI (by omega) (by omega)) dJx4a65c_add_72be8_14 (fun H locs hP hD hS => ?_)
  rw [show ((nI n) : Int32).toNatClampNeg = n from nI_clamp (by omega)] at hP hD
  rw [q_g_push] at hP hD
  have hP : va_P D vwCl [q_ac al md ar n, q_arc (T 1) (n + 1) ar (va_up ad n b), q_bc b r] H := hP
  have hD : va_D A [q_ac al md ar n, q_arc (T 1) (n + 1) ar (va_up ad n b), q_bc b r] := hD
  refine lv_aload_n hx hb dJx4a65c_add_72be8_15 rfl (lv_at hl 0 rfl) ?_
  refine lv_iload_n hx hb dJx4a65c_add_72be8_16 rfl (lv_at hl 3 rfl) ?_
  refine lv_iconst (v := 1) hx hb dJx4a65c_add_72be8_17 (by decide) ?_
  refine lv_iadd hx hb dJx4a65c_add_72be8_18 ?_
  refine W.eq (g2 := F0 m 19 ls [.int (nI (n + 1)), .ref al]) (by rw [← nI_1] <;> rfl) ?_
  refine va_put (D := D) (ci := 0) (v := .int (nI (n + 1))) (ty := .int) (C := RJx4a65c) (T := TJx4a65c) (N := 3) hx hb hts iJx4a65c tyJx4a65c tyJx4a65c_ok nmJx4a65c hown hK hP hD hS 0 rfl rfl 2 (by decide) (hts (.fieldLink RJx4a65c 48 "java/util/ArrayList" "size" "I") (by decide +kernel)) (fun _ h9 => h9) rfl (by decide +kernel) rfl rfl (Nat.le_of_ble_eq_true rfl) dJx4a65c_add_72be8_19 (fun H locs hP hD hS => ?_)
  have hP : va_P D vwCl [q_ac al md ar (n + 1), q_arc (T 1) (n + 1) ar (va_up ad n b), q_bc b r] H := hP
  have hD : va_D A [q_ac al md ar (n + 1), q_arc (T 1) (n + 1) ar (va_up ad n b), q_bc b r] := hD
  exact q_vret hx hb hr hlocks hP hK hD hS (Nat.le_of_ble_eq_true rfl) (Nat.le_of_ble_eq_true rfl) dJx4a65c_add_72be8_22 ⟨rfl, rfl⟩
abbrev rmJx4a65c_add_9ea2d : Room := { frames := 4, cells := 1, slots := 10, locals := 87 }
set_option maxHeartbeats 1000000 in
set_option maxRecDepth 100000 in
theorem c_AL_add_0 (l : Launch) (D : va_G) (T : Nat → ClassId) (al e0 b : Nat) (ad : Nat → Nat) (md : Int32) (r : Nat → Int32) : q_M l D (q_ty T) yJx4a65c_add_9ea2d wsJx4a65c_add_9ea2d rmJx4a65c_add_9ea2d [.ref al, .ref b] [q_ac al md e0 0, q_bc b r] (q_gE e0) (fun v w => ∃ q, v = some (.int 1) ∧ w = [q_ac al (md + 1) q 1, q_arc (T 1) 1 q (va_up ad 0 b), q_bc b r]) := by
  refine q_start (cc := cJx4a65c_add_9ea2d) (maxL := 2) (ret := (some .boolean)) (by decide) rfl (Nat.le_of_ble_eq_true rfl) ?_
  intro p e s m args below meth c A H locs hx hb hr hts hown hlocks hml hnm hP hK hD hS hA hG ls hl
  have hown : s.vm.findClass RJx4a65c = some m.cls := hown
  have hC : CallFix p m c cJx4a65c_add_9ea2d 2 s args wsJx4a65c_add_9ea2d RJx4a65c := ⟨hx, hb, hml, hown, hts⟩
  have iJx4a65c : ∀ w ∈ wsJx4a65c0, w ∈ wsJx4a65c_add_9ea2d := by decide +kernel
  have hl : lv_has ls 2 [(0, .ref al), (1, .ref b)] := hl
  refine lv_aload_n hx hb dJx4a65c_add_9ea2d_0 rfl (lv_at hl 0 rfl) ?_
  refine lv_dup hx hb dJx4a65c_add_9ea2d_1 rfl ?_
  refine va_get (D := D) (ci := 0) (v := .int md) (C := RJx4a65c) (T := TJx4a65c) (N := 3) hx hb hts iJx4a65c hown hK hP 0 rfl rfl 0 (by decide) (hts (.fieldLink RJx4a65c 63 "java/util/ArrayList" "modCount" "I") (by decide +kernel)) (fun x9 h9 => u_same (hts (.sameField "java/util/ArrayList" "java/util/AbstractList" "modCount" "I") (by decide +kernel)) x9 h9) rfl dJx4a65c_add_9ea2d_2 ?_
  refine lv_iconst (v := 1) hx hb dJx4a65c_add_9ea2d_5 (by decide) ?_
  refine lv_iadd hx hb dJx4a65c_add_9ea2d_6 ?_
  refine va_put (D := D) (ci := 0) (v := .int (md + 1)) (ty := .int) (C := RJx4a65c) (T := TJx4a65c) (N := 3) hx hb hts iJx4a65c tyJx4a65c tyJx4a65c_ok nmJx4a65c hown hK hP hD hS 0 rfl rfl 0 (by decide) (hts (.fieldLink RJx4a65c 63 "java/util/ArrayList" "modCount" "I") (by decide +kernel)) (fun x9 h9 => u_same (hts (.sameField "java/util/ArrayList" "java/util/AbstractList" "modCount" "I") (by decide +kernel)) x9 h9) rfl (by decide +kernel) rfl rfl (Nat.le_of_ble_eq_true rfl) dJx4a65c_add_9ea2d_7 (fun H locs hP hD hS => ?_)
  have hP : va_P D vwCl [q_ac al (md + 1) e0 0, q_bc b r] H := hP
  have hD : va_D A [q_ac al (md + 1) e0 0, q_bc b r] := hD
  refine lv_aload_n hx hb dJx4a65c_add_9ea2d_10 rfl (lv_at hl 0 rfl) ?_
  refine lv_aload_n hx hb dJx4a65c_add_9ea2d_11 rfl (lv_at hl 1 rfl) ?_
  refine lv_aload_n hx hb dJx4a65c_add_9ea2d_12 rfl (lv_at hl 0 rfl) ?_
  refine va_get (D := D) (ci := 0) (v := .ref e0) (C := RJx4a65c) (T := TJx4a65c) (N := 3) hx hb hts iJx4a65c hown hK hP 0 rfl rfl 1 (by decide) (hts (.fieldLink RJx4a65c 9 "java/util/ArrayList" "elementData" "[Ljava/lang/Object;") (by decide +kernel)) (fun _ h9 => h9) rfl dJx4a65c_add_9ea2d_13 ?_
  refine lv_aload_n hx hb dJx4a65c_add_9ea2d_16 rfl (lv_at hl 0 rfl) ?_
  refine va_get (D := D) (ci := 0) (v := .int (nI 0)) (C := RJx4a65c) (T := TJx4a65c) (N := 3) hx hb hts iJx4a65c hown hK hP 0 rfl rfl 2 (by decide) (hts (.fieldLink RJx4a65c 48 "java/util/ArrayList" "size" "I") (by decide +kernel)) (fun _ h9 => h9) rfl dJx4a65c_add_9ea2d_17 ?_
  refine q_callV (As := [.ref b, .ref e0, .int 0]) (rs := []) hC (c_AL_add3_0 l D T al e0 b ad (md + 1) r) (q_gE_st e0) (q_gE_at hG hD hS hA (q_mask [true, true] _)) (cwV 3 hts gJx4a65c_add_9ea2d_Jx4a65c_add_72be8 rfl rfl rfl (by decide +kernel) ⟨Nat.le_of_ble_eq_true rfl, Nat.le_of_ble_eq_true rfl⟩) (va_recv hK hP (ci := 0) (q0 := 0) rfl rfl) hK hP hD hS hA (q_mask [true, true] _) rfl hl.1 rfl (Nat.le_of_ble_eq_true rfl) dJx4a65c_add_9ea2d_20 ⟨(Nat.le_of_ble_eq_true rfl), (Nat.le_of_ble_eq_true rfl)⟩ (fun v9 C9 H locs hp hP hD hS => ?_)
  obtain ⟨q, rfl, rfl⟩ := hp
  have hP : va_P D vwCl [q_ac al (md + 1) q 1, q_arc (T 1) 1 q (va_up ad 0 b), q_bc b r] H := hP
  have hD : va_D A [q_ac al (md + 1) q 1, q_arc (T 1) 1 q (va_up ad 0 b), q_bc b r] := hD
  refine lv_iconst (v := 1) hx hb dJx4a65c_add_9ea2d_23 (by decide) ?_
  exact q_zret hx hb hr hlocks hP hK hD hS rfl (Nat.le_of_ble_eq_true rfl) (Nat.le_of_ble_eq_true rfl) dJx4a65c_add_9ea2d_24 ⟨q, rfl, rfl⟩
set_option maxHeartbeats 1000000 in
set_option maxRecDepth 100000 in
theorem c_AL_add_n (l : Launch) (D : va_G) (T : Nat → ClassId) (al e0 ar b n : Nat) (ad : Nat → Nat) (md : Int32) (r : Nat → Int32) (h0 : 0 < n) (hn : n < 8) : q_M l D (q_ty T) yJx4a65c_add_9ea2d wsJx4a65c_add_9ea2d rmJx4a65c_add_9ea2d [.ref al, .ref b] [q_ac al md ar n, q_arc (T 1) n ar ad, q_bc b r] (q_gE e0) (q_is (some (.int 1)) [q_ac al (md + 1) ar (n + 1), q_arc (T 1) (n + 1) ar (va_up ad n b), q_bc b r]) := by
  refine q_start (cc := cJx4a65c_add_9ea2d) (maxL := 2) (ret := (some .boolean)) (by decide) rfl (Nat.le_of_ble_eq_true rfl) ?_
  intro p e s m args below meth c A H locs hx hb hr hts hown hlocks hml hnm hP hK hD hS hA hG ls hl
  have hown : s.vm.findClass RJx4a65c = some m.cls := hown
  have hC : CallFix p m c cJx4a65c_add_9ea2d 2 s args wsJx4a65c_add_9ea2d RJx4a65c := ⟨hx, hb, hml, hown, hts⟩
  have iJx4a65c : ∀ w ∈ wsJx4a65c0, w ∈ wsJx4a65c_add_9ea2d := by decide +kernel
  have hl : lv_has ls 2 [(0, .ref al), (1, .ref b)] := hl
  refine lv_aload_n hx hb dJx4a65c_add_9ea2d_0 rfl (lv_at hl 0 rfl) ?_
  refine lv_dup hx hb dJx4a65c_add_9ea2d_1 rfl ?_
  refine va_get (D := D) (ci := 0) (v := .int md) (C := RJx4a65c) (T := TJx4a65c) (N := 3) hx hb hts iJx4a65c hown hK hP 0 rfl rfl 0 (by decide) (hts (.fieldLink RJx4a65c 63 "java/util/ArrayList" "modCount" "I") (by decide +kernel)) (fun x9 h9 => u_same (hts (.sameField "java/util/ArrayList" "java/util/AbstractList" "modCount" "I") (by decide +kernel)) x9 h9) rfl dJx4a65c_add_9ea2d_2 ?_
  refine lv_iconst (v := 1) hx hb dJx4a65c_add_9ea2d_5 (by decide) ?_
  refine lv_iadd hx hb dJx4a65c_add_9ea2d_6 ?_
  refine va_put (D := D) (ci := 0) (v := .int (md + 1)) (ty := .int) (C := RJx4a65c) (T := TJx4a65c) (N := 3) hx hb hts iJx4a65c tyJx4a65c tyJx4a65c_ok nmJx4a65c hown hK hP hD hS 0 rfl rfl 0 (by decide) (hts (.fieldLink RJx4a65c 63 "java/util/ArrayList" "modCount" "I") (by decide +kernel)) (fun x9 h9 => u_same (hts (.sameField "java/util/ArrayList" "java/util/AbstractList" "modCount" "I") (by decide +kernel)) x9 h9) rfl (by decide +kernel) rfl rfl (Nat.le_of_ble_eq_true rfl) dJx4a65c_add_9ea2d_7 (fun H locs hP hD hS => ?_)
  have hP : va_P D vwCl [q_ac al (md + 1) ar n, q_arc (T 1) n ar ad, q_bc b r] H := hP
  have hD : va_D A [q_ac al (md + 1) ar n, q_arc (T 1) n ar ad, q_bc b r] := hD
  refine lv_aload_n hx hb dJx4a65c_add_9ea2d_10 rfl (lv_at hl 0 rfl) ?_
  refine lv_aload_n hx hb dJx4a65c_add_9ea2d_11 rfl (lv_at hl 1 rfl) ?_
  refine lv_aload_n hx hb dJx4a65c_add_9ea2d_12 rfl (lv_at hl 0 rfl) ?_
  refine va_get (D := D) (ci := 0) (v := .ref ar) (C := RJx4a65c) (T := TJx4a65c) (N := 3) hx hb hts iJx4a65c hown hK hP 0 rfl rfl 1 (by decide) (hts (.fieldLink RJx4a65c 9 "java/util/ArrayList" "elementData" "[Ljava/lang/Object;") (by decide +kernel)) (fun _ h9 => h9) rfl dJx4a65c_add_9ea2d_13 ?_
  refine lv_aload_n hx hb dJx4a65c_add_9ea2d_16 rfl (lv_at hl 0 rfl) ?_
  refine va_get (D := D) (ci := 0) (v := .int (nI n)) (C := RJx4a65c) (T := TJx4a65c) (N := 3) hx hb hts iJx4a65c hown hK hP 0 rfl rfl 2 (by decide) (hts (.fieldLink RJx4a65c 48 "java/util/ArrayList" "size" "I") (by decide +kernel)) (fun _ h9 => h9) rfl dJx4a65c_add_9ea2d_17 ?_
  refine q_callV (As := [.ref b, .ref ar, .int (nI n)]) (rs := []) hC (c_AL_add3_n l D T al e0 ar b n ad (md + 1) r h0 hn) (q_gE_st e0) (q_gE_at hG hD hS hA (q_mask [true, true, true] _)) (cwV 3 hts gJx4a65c_add_9ea2d_Jx4a65c_add_72be8 rfl rfl rfl (by decide +kernel) ⟨Nat.le_of_ble_eq_true rfl, Nat.le_of_ble_eq_true rfl⟩) (va_recv hK hP (ci := 0) (q0 := 0) rfl rfl) hK hP hD hS hA (q_mask [true, true, true] _) rfl hl.1 rfl (Nat.le_of_ble_eq_true rfl) dJx4a65c_add_9ea2d_20 ⟨(Nat.le_of_ble_eq_true rfl), (Nat.le_of_ble_eq_true rfl)⟩ (fun v9 C9 H locs hp hP hD hS => ?_)
  obtain ⟨rfl, rfl⟩ := hp
  have hP : va_P D vwCl [q_ac al (md + 1) ar (n + 1), q_arc (T 1) (n + 1) ar (va_up ad n b), q_bc b r] H := hP
  have hD : va_D A [q_ac al (md + 1) ar (n + 1), q_arc (T 1) (n + 1) ar (va_up ad n b), q_bc b r] := hD
  refine lv_iconst (v := 1) hx hb dJx4a65c_add_9ea2d_23 (by decide) ?_
  exact q_zret hx hb hr hlocks hP hK hD hS rfl (Nat.le_of_ble_eq_true rfl) (Nat.le_of_ble_eq_true rfl) dJx4a65c_add_9ea2d_24 ⟨rfl, rfl⟩
