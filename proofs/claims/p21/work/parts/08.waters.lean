
abbrev q_wc (a : Nat) (len : Int32) (wi ja : Nat) : Nat × va_E := (a, .inr (3, [.int len, .ref wi, .ref ja]))
abbrev q_ia (T : Nat → ClassId) (a n : Nat) (f : Nat → Int32) : Nat × va_E := (a, .inl (T 0, n, .inl f))
def bAbs (x : Int32) : Int32 := if 0 ≤ x then x else 0 - x
def bSee (ju : Nat → Int32) (k : Nat) (x : Int32) : Int32 := if q_any (fun j => decide (bAbs (x - ju j) ≤ 10)) k = true then 1 else 0
theorem q_exit {j n : Nat} (h : nI n ≤ nI j) (hj : j ≤ n) (hn : n < 2 ^ 31) : j = n := by
  rcases Nat.lt_or_ge j n with q | q
  · exact absurd h (nI_ge q hn)
  · omega
theorem q_goon {j n : Nat} (h : ¬ nI n ≤ nI j) (hj : j < 2 ^ 31) : j < n := by
  rcases Nat.lt_or_ge j n with q | q
  · exact q
  · exact absurd (nI_le q hj) h
section QN
variable {p : Program} {l : Launch} {e : Env} {R : Room} {s : State} {m : MethodId} {args : Array Value} {below : List Frame} {meth : Method} {c : Code} {H : Heap} {locs : List Loc} {cells slots : Nat} {Q : State → Prop} {D : va_G} {T : Nat → ClassId} {A : Nat → Prop} {w : va_W} {cc : ByteArray} {pc : Nat} {ls : Array Slot} {rest : List Value} {H0 : Heap}
theorem q_newaI (hexec : p.tables.exec = Jvm.exec) (hb : c.code = cc) (harr : (Cond.arrayClass .int).before args s = true) (hK : va_K D vwCl (q_ty T) s) (hP : va_P D vwCl w H) (hD : va_D A w) (hS : va_S A H0 H locs) (hA : ∀ q, H0.size ≤ q → A q)
    {n : Int32} {N : Nat} (hn : ¬ n < 0) (hN : n.toNatClampNeg = N) (hbig : N ≤ 1000) (hcells : cells + 1 ≤ R.cells) (hslots : slots + N ≤ R.slots) (hdg : decode cc pc = .ok (.newarray .int, 2))
    (kk : ∀ (q : Nat) (H1 : Heap), va_P D vwCl (w ++ [(q, .inl (T 0, N, .inl (fun _ => 0)))]) H1 → va_D A (w ++ [(q, .inl (T 0, N, .inl (fun _ => 0)))]) → va_S A H0 H1 locs → W p l e R s m args below meth c H1 locs (cells + 1) (slots + N) Q (F0 m (pc + 2) ls (.ref q :: rest))) : W p l e R s m args below meth c H locs cells slots Q (F0 m pc ls (.int n :: rest)) := by
  refine va_newa (D := D) (atype := .int) (ty := .int) (a0 := (N, .inl (fun _ => 0))) hexec hb harr rfl hK hP hD hS hA (fun _ => rfl) hn hN (by show N * 4 ≤ 536870912; omega) hcells hslots hdg (fun q cA H1 hK1 hP1 hD1 hS1 => ?_)
  have e1 : s.vm.findClass ("[" ++ FieldType.int.toString) = some cA := (hK1.2 5 _ rfl).2
  have e2 : s.vm.findClass ("[" ++ FieldType.int.toString) = some (T 0) := (hK.2 0 _ rfl).2
  have e3 : cA = T 0 := Option.some.inj (e1.symm.trans e2)
  subst e3
  exact kk q H1 hP1 hD1 hS1
theorem q_newaZ (hexec : p.tables.exec = Jvm.exec) (hb : c.code = cc) (harr : (Cond.arrayClass .boolean).before args s = true) (hK : va_K D vwCl (q_ty T) s) (hP : va_P D vwCl w H) (hD : va_D A w) (hS : va_S A H0 H locs) (hA : ∀ q, H0.size ≤ q → A q)
    {n : Int32} {N : Nat} (hn : ¬ n < 0) (hN : n.toNatClampNeg = N) (hbig : N ≤ 1000) (hcells : cells + 1 ≤ R.cells) (hslots : slots + N ≤ R.slots) (hdg : decode cc pc = .ok (.newarray .boolean, 2))
    (kk : ∀ (q : Nat) (H1 : Heap), va_P D vwCl (w ++ [(q, .inl (T 2, N, .inl (fun _ => 0)))]) H1 → va_D A (w ++ [(q, .inl (T 2, N, .inl (fun _ => 0)))]) → va_S A H0 H1 locs → W p l e R s m args below meth c H1 locs (cells + 1) (slots + N) Q (F0 m (pc + 2) ls (.ref q :: rest))) : W p l e R s m args below meth c H locs cells slots Q (F0 m pc ls (.int n :: rest)) := by
  refine va_newa (D := D) (atype := .boolean) (ty := .boolean) (a0 := (N, .inl (fun _ => 0))) hexec hb harr rfl hK hP hD hS hA (fun _ => rfl) hn hN (by show N * 1 ≤ 536870912; omega) hcells hslots hdg (fun q cA H1 hK1 hP1 hD1 hS1 => ?_)
  have e1 : s.vm.findClass ("[" ++ FieldType.boolean.toString) = some cA := (hK1.2 5 _ rfl).2
  have e2 : s.vm.findClass ("[" ++ FieldType.boolean.toString) = some (T 2) := (hK.2 2 _ rfl).2
  have e3 : cA = T 2 := Option.some.inj (e1.symm.trans e2)
  subst e3
  exact kk q H1 hP1 hD1 hS1
end QN

abbrev rmX2_windOf : Room := { frames := 1, cells := 0, slots := 0, locals := 22 }
set_option maxHeartbeats 4000000 in
set_option maxRecDepth 100000 in
theorem c_X2_windOf (l : Launch) (D : va_G) (T : Nat → ClassId) (wa wi ja k : Nat) (len : Int32) (wf : Nat → Int32) (hk : k < 2 ^ 31) : q_M l D (q_ty T) yX2_windOf wsX2_windOf rmX2_windOf [.ref wa, .int (nI k)] [(wa, .inr (3, [.int len, .ref wi, .ref ja])), (wi, .inl (T 0, 10, .inl wf))] q_no (q_is (some (.int (wf (k % 10)))) [q_wc wa len wi ja, q_ia T wi 10 wf]) := by
  refine q_start (cc := cX2_windOf) (maxL := 2) (ret := (some .int)) (by decide) rfl (Nat.le_of_ble_eq_true rfl) ?_
  intro p e s m args below meth c A H locs hx hb hr hts hown hlocks hml hnm hP hK hD hS hA hG ls hl
  have hown : s.vm.findClass RX2 = some m.cls := hown
  have hC : CallFix p m c cX2_windOf 2 s args wsX2_windOf RX2 := ⟨hx, hb, hml, hown, hts⟩
  have iX2 : ∀ w ∈ wsX20, w ∈ wsX2_windOf := by decide +kernel
  have hl : lv_has ls 2 [(0, .ref wa), (1, .int (nI k))] := hl
  refine lv_aload_n hx hb dX2_windOf_0 rfl (lv_at hl 0 rfl) ?_
  refine va_get (D := D) (ci := 3) (v := .ref wi) (C := RX2) (T := TX2) (N := 3) hx hb hts iX2 hown hK hP 0 rfl rfl 1 (by decide) (hts (.fieldLink RX2 13 "ToyRegatta$Waters" "winds" "[I") (by decide +kernel)) (fun _ h9 => h9) rfl dX2_windOf_1 ?_
  refine lv_iload_n hx hb dX2_windOf_4 rfl (lv_at hl 1 rfl) ?_
  refine lv_bipush (v := 10) hx hb dX2_windOf_5 (by decide) ?_
  refine q_callS (As := [.int (nI k), .int 10]) (rs := [.ref wi]) hC (c_floorMod10 l D T k hk) q_no_st q_no_at (va_cwS 2 hts gX2_windOf_J9_floorMod_7cf53 rfl rfl rfl (by decide +kernel) ⟨Nat.le_of_ble_eq_true rfl, Nat.le_of_ble_eq_true rfl⟩) hK hP hD hS hA (q_mask [false, false] _) rfl hl.1 rfl (Nat.le_of_ble_eq_true rfl) dX2_windOf_7 ⟨(Nat.le_of_ble_eq_true rfl), (Nat.le_of_ble_eq_true rfl)⟩ (fun v9 C9 H locs hp hP hD hS => ?_)
  obtain ⟨rfl, rfl⟩ := hp
  have hP : va_P D vwCl [(wa, .inr (3, [.int len, .ref wi, .ref ja])), (wi, .inl (T 0, 10, .inl wf))] H := q_P_perm (q_mrg_perm [false, false] _ _) hP
  have hD : va_D A [(wa, .inr (3, [.int len, .ref wi, .ref ja])), (wi, .inl (T 0, 10, .inl wf))] := q_D_perm (q_mrg_perm [false, false] _ _) hD
  refine va_iald (D := D) hx hb hK hP 1 0 rfl rfl (vp_in_nI (Nat.mod_lt _ (by omega)) (by omega)) dX2_windOf_10 ?_
  rw [show ((nI (k % 10))).toNatClampNeg = (k % 10) from (pk_cl (k % 10) rfl (by omega))]
  exact q_iret hx hb hr hlocks hP hK hD hS (Nat.le_of_ble_eq_true rfl) (Nat.le_of_ble_eq_true rfl) dX2_windOf_11 ⟨rfl, rfl⟩
abbrev rmX2_changeWind : Room := { frames := 1, cells := 0, slots := 0, locals := 22 }
set_option maxHeartbeats 4000000 in
set_option maxRecDepth 100000 in
theorem c_X2_changeWind (l : Launch) (D : va_G) (T : Nat → ClassId) (wa wi ja k : Nat) (len x : Int32) (wf : Nat → Int32) (hk : k < 2 ^ 31) : q_M l D (q_ty T) yX2_changeWind wsX2_changeWind rmX2_changeWind [.ref wa, .int (nI k), .int x] [(wa, .inr (3, [.int len, .ref wi, .ref ja])), (wi, .inl (T 0, 10, .inl wf))] q_no (q_is (some (.int (wf (k % 10)))) [q_wc wa len wi ja, q_ia T wi 10 (upd wf (k % 10) x)]) := by
  refine q_start (cc := cX2_changeWind) (maxL := 5) (ret := (some .int)) (by decide) rfl (Nat.le_of_ble_eq_true rfl) ?_
  intro p e s m args below meth c A H locs hx hb hr hts hown hlocks hml hnm hP hK hD hS hA hG ls hl
  have hown : s.vm.findClass RX2 = some m.cls := hown
  have hC : CallFix p m c cX2_changeWind 5 s args wsX2_changeWind RX2 := ⟨hx, hb, hml, hown, hts⟩
  have iX2 : ∀ w ∈ wsX20, w ∈ wsX2_changeWind := by decide +kernel
  have hl : lv_has ls 5 [(0, .ref wa), (1, .int (nI k)), (2, .int x)] := hl
  refine lv_iload_n hx hb dX2_changeWind_0 rfl (lv_at hl 1 rfl) ?_
  refine lv_bipush (v := 10) hx hb dX2_changeWind_1 (by decide) ?_
  refine q_callS (As := [.int (nI k), .int 10]) (rs := []) hC (c_floorMod10 l D T k hk) q_no_st q_no_at (va_cwS 2 hts gX2_changeWind_J9_floorMod_7cf53 rfl rfl rfl (by decide +kernel) ⟨Nat.le_of_ble_eq_true rfl, Nat.le_of_ble_eq_true rfl⟩) hK hP hD hS hA (q_mask [false, false] _) rfl hl.1 rfl (Nat.le_of_ble_eq_true rfl) dX2_changeWind_3 ⟨(Nat.le_of_ble_eq_true rfl), (Nat.le_of_ble_eq_true rfl)⟩ (fun v9 C9 H locs hp hP hD hS => ?_)
  obtain ⟨rfl, rfl⟩ := hp
  have hP : va_P D vwCl [(wa, .inr (3, [.int len, .ref wi, .ref ja])), (wi, .inl (T 0, 10, .inl wf))] H := q_P_perm (q_mrg_perm [false, false] _ _) hP
  have hD : va_D A [(wa, .inr (3, [.int len, .ref wi, .ref ja])), (wi, .inl (T 0, 10, .inl wf))] := q_D_perm (q_mrg_perm [false, false] _ _) hD
  refine lv_istore_n (lv' := [(3, .int (nI (k % 10))), (0, .ref wa), (1, .int (nI k)), (2, .int x)]) hx hb dX2_changeWind_6 rfl hl (by decide) rfl (fun ls hl => ?_)
  refine lv_aload_n hx hb dX2_changeWind_7 rfl (lv_at hl 1 rfl) ?_
  refine va_get (D := D) (ci := 3) (v := .ref wi) (C := RX2) (T := TX2) (N := 3) hx hb hts iX2 hown hK hP 0 rfl rfl 1 (by decide) (hts (.fieldLink RX2 13 "ToyRegatta$Waters" "winds" "[I") (by decide +kernel)) (fun _ h9 => h9) rfl dX2_changeWind_8 ?_
  refine lv_iload_n hx hb dX2_changeWind_11 rfl (lv_at hl 0 rfl) ?_
  refine va_iald (D := D) hx hb hK hP 1 0 rfl rfl (vp_in_nI (Nat.mod_lt _ (by omega)) (by omega)) dX2_changeWind_12 ?_
  rw [show ((nI (k % 10))).toNatClampNeg = (k % 10) from (pk_cl (k % 10) rfl (by omega))]
  refine lv_istore (lv' := [(4, .int (wf (k % 10))), (3, .int (nI (k % 10))), (0, .ref wa), (1, .int (nI k)), (2, .int x)]) hx hb dX2_changeWind_13 hl (by decide) rfl (fun ls hl => ?_)
  refine lv_aload_n hx hb dX2_changeWind_15 rfl (lv_at hl 2 rfl) ?_
  refine va_get (D := D) (ci := 3) (v := .ref wi) (C := RX2) (T := TX2) (N := 3) hx hb hts iX2 hown hK hP 0 rfl rfl 1 (by decide) (hts (.fieldLink RX2 13 "ToyRegatta$Waters" "winds" "[I") (by decide +kernel)) (fun _ h9 => h9) rfl dX2_changeWind_16 ?_
  refine lv_iload_n hx hb dX2_changeWind_19 rfl (lv_at hl 1 rfl) ?_
  refine lv_iload_n hx hb dX2_changeWind_20 rfl (lv_at hl 4 rfl) ?_
  refine va_iast (D := D) hx hb hK hP hD hS 1 0 rfl rfl (vp_in_nI (Nat.mod_lt _ (by omega)) (by omega)) dX2_changeWind_21 (fun H locs hP hD hS => ?_)
  rw [show ((nI (k % 10))).toNatClampNeg = (k % 10) from (pk_cl (k % 10) rfl (by omega))] at hP hD
  have hP : va_P D vwCl [(wa, .inr (3, [.int len, .ref wi, .ref ja])), (wi, .inl (T 0, 10, .inl (upd wf (k % 10) x)))] H := hP
  have hD : va_D A [(wa, .inr (3, [.int len, .ref wi, .ref ja])), (wi, .inl (T 0, 10, .inl (upd wf (k % 10) x)))] := hD
  refine lv_iload hx hb dX2_changeWind_22 (lv_at hl 0 rfl) ?_
  exact q_iret hx hb hr hlocks hP hK hD hS (Nat.le_of_ble_eq_true rfl) (Nat.le_of_ble_eq_true rfl) dX2_changeWind_24 ⟨rfl, rfl⟩
abbrev rmX2_isSeen : Room := { frames := 1, cells := 0, slots := 0, locals := 21 }
set_option maxHeartbeats 4000000 in
set_option maxRecDepth 100000 in
theorem c_X2_isSeen (l : Launch) (D : va_G) (T : Nat → ClassId) (wa wi ja k : Nat) (len x : Int32) (ju : Nat → Int32) (hk : k < 2 ^ 31) : q_M l D (q_ty T) yX2_isSeen wsX2_isSeen rmX2_isSeen [.ref wa, .int x] [(wa, .inr (3, [.int len, .ref wi, .ref ja])), (ja, .inl (T 0, k, .inl ju))] q_no (q_is (some (.int (bSee ju k x))) [q_wc wa len wi ja, q_ia T ja k ju]) := by
  refine q_start (cc := cX2_isSeen) (maxL := 6) (ret := (some .boolean)) (by decide) rfl (Nat.le_of_ble_eq_true rfl) ?_
  intro p e s m args below meth c A H locs hx hb hr hts hown hlocks hml hnm hP hK hD hS hA hG ls hl
  have hown : s.vm.findClass RX2 = some m.cls := hown
  have hC : CallFix p m c cX2_isSeen 6 s args wsX2_isSeen RX2 := ⟨hx, hb, hml, hown, hts⟩
  have iX2 : ∀ w ∈ wsX20, w ∈ wsX2_isSeen := by decide +kernel
  have hl : lv_has ls 6 [(0, .ref wa), (1, .int x)] := hl
  refine lv_aload_n hx hb dX2_isSeen_0 rfl (lv_at hl 0 rfl) ?_
  refine va_get (D := D) (ci := 3) (v := .ref ja) (C := RX2) (T := TX2) (N := 3) hx hb hts iX2 hown hK hP 0 rfl rfl 2 (by decide) (hts (.fieldLink RX2 23 "ToyRegatta$Waters" "judges" "[I") (by decide +kernel)) (fun _ h9 => h9) rfl dX2_isSeen_1 ?_
  refine lv_astore_n (lv' := [(2, .ref ja), (0, .ref wa), (1, .int x)]) hx hb dX2_isSeen_4 rfl hl (by decide) rfl (fun ls hl => ?_)
  refine lv_aload_n hx hb dX2_isSeen_5 rfl (lv_at hl 0 rfl) ?_
  refine va_alen (D := D) (v := nI k) hx hb hK hP 1 0 rfl rfl rfl dX2_isSeen_6 ?_
  refine lv_istore_n (lv' := [(3, .int (nI k)), (2, .ref ja), (0, .ref wa), (1, .int x)]) hx hb dX2_isSeen_7 rfl hl (by decide) rfl (fun ls hl => ?_)
  refine lv_iconst (v := 0) hx hb dX2_isSeen_8 (by decide) ?_
  refine lv_istore (lv' := [(4, .int 0), (3, .int (nI k)), (2, .ref ja), (0, .ref wa), (1, .int x)]) hx hb dX2_isSeen_9 hl (by decide) rfl (fun ls hl => ?_)
  have L11 : ∀ (f9 j : Nat) (h9a : k < j + f9) (h9b : j ≤ k) (h9c : q_any (fun j => decide (bAbs (x - ju j) ≤ 10)) j = false) (H : Heap) (locs : List Loc) (ls : Array Slot), va_P D vwCl [(wa, .inr (3, [.int len, .ref wi, .ref ja])), (ja, .inl (T 0, k, .inl ju))] H → va_D A [(wa, .inr (3, [.int len, .ref wi, .ref ja])), (ja, .inl (T 0, k, .inl ju))] → va_S A s.heap H locs → lv_has ls 6 [(0, .ref wa), (1, .int x), (2, .ref ja), (3, .int (nI k)), (4, .int (nI j))] → W p l e rmX2_isSeen s m args below meth c H locs 0 0 (q_E below D (q_ty T) (q_is (some (.int (bSee ju k x))) [q_wc wa len wi ja, q_ia T ja k ju]) A args s rmX2_isSeen) (F0 m 11 ls []) := by
    intro f9
    induction f9 with
    | zero => intro j h9a h9b; exact absurd h9a (by omega)
    | succ f9 ih =>
      intro j h9a h9b  h9c H locs ls hP hD hS hl
      refine lv_iload hx hb dX2_isSeen_11 (lv_at hl 4 rfl) ?_
      refine lv_iload_n hx hb dX2_isSeen_13 rfl (lv_at hl 3 rfl) ?_
      refine lv_icmp_ge (tgt := 43) hx hb dX2_isSeen_14 (by decide) (fun c_14 => ?_) (fun c_14 => ?_)
      · have h9d := q_exit c_14 h9b hk
        subst h9d
        refine lv_iconst (v := 0) hx hb dX2_isSeen_43 (by decide) ?_
        exact q_zret hx hb hr hlocks hP hK hD hS rfl (Nat.le_of_ble_eq_true rfl) (Nat.le_of_ble_eq_true rfl) dX2_isSeen_44 ⟨by simp [bSee, h9c], rfl⟩
      · have h9d := q_goon c_14 (by omega)
        refine lv_aload_n hx hb dX2_isSeen_17 rfl (lv_at hl 2 rfl) ?_
        refine lv_iload hx hb dX2_isSeen_18 (lv_at hl 4 rfl) ?_
        refine va_iald (D := D) hx hb hK hP 1 0 rfl rfl (vp_in_nI h9d hk) dX2_isSeen_20 ?_
        rw [show ((nI j)).toNatClampNeg = j from (pk_cl j rfl (by omega))]
        refine lv_istore (lv' := [(5, .int (ju j)), (0, .ref wa), (1, .int x), (2, .ref ja), (3, .int (nI k)), (4, .int (nI j))]) hx hb dX2_isSeen_21 hl (by decide) rfl (fun ls hl => ?_)
        refine lv_iload_n hx hb dX2_isSeen_23 rfl (lv_at hl 2 rfl) ?_
        refine lv_iload hx hb dX2_isSeen_24 (lv_at hl 0 rfl) ?_
        refine lv_isub hx hb dX2_isSeen_26 ?_
        refine va_mabs hx hb (hml.trans hl.1.symm) hown (hts (.methodLink RX2 36 Lib.Math.abs.name) (by decide +kernel)) (hts (.static Lib.Math.abs.name) (by decide +kernel)) (hts (.initialized "java/lang/Math") (by decide +kernel)) (hts (.code Lib.Math.abs.name Lib.Math.abs.code 1 (some .int)) (by decide +kernel)) (Nat.le_of_ble_eq_true rfl) (Nat.le_of_ble_eq_true rfl) (Nat.le_of_ble_eq_true rfl) (Nat.le_of_ble_eq_true rfl) dX2_isSeen_27 ?_
        refine lv_bipush (v := 10) hx hb dX2_isSeen_30 (by decide) ?_
        refine lv_icmp_gt (tgt := 37) hx hb dX2_isSeen_32 (by decide) (fun c_32 => ?_) (fun c_32 => ?_)
        · refine lv_iinc (v := (nI (j + 1))) (lv' := [(4, .int (nI (j + 1))), (5, .int (ju j)), (0, .ref wa), (1, .int x), (2, .ref ja), (3, .int (nI k))]) hx hb dX2_isSeen_37 hl (k := 5) rfl (nI_1 j) (by decide) rfl (fun ls hl => ?_)
          refine lv_goto (tgt := 11) hx hb dX2_isSeen_40 (by decide) ?_
          exact ih (j + 1) (by omega) (by omega)  (by simp only [q_any, h9c, Bool.false_or, decide_eq_false_iff_not]; exact fun q => absurd q (Int32.not_le.mpr c_32)) H locs ls hP hD hS (lv_sub hl [2, 3, 4, 5, 0] rfl)
        · refine lv_iconst (v := 1) hx hb dX2_isSeen_35 (by decide) ?_
          exact q_zret hx hb hr hlocks hP hK hD hS rfl (Nat.le_of_ble_eq_true rfl) (Nat.le_of_ble_eq_true rfl) dX2_isSeen_36 ⟨by rw [bSee, if_pos (q_any_hit h9d (decide_eq_true (Int32.not_lt.mp c_32)))], rfl⟩
  exact L11 (k + 1) 0 (by omega) (by omega)  rfl H locs ls hP hD hS (lv_sub hl [3, 4, 2, 1, 0] rfl)
