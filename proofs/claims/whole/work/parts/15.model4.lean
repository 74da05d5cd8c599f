
theorem q_isb {b nb : Nat} (hb : b < nb) (hn : nb ≤ 8) : ¬ bIsIn (nI b) 0 (nI nb - 1) = 0 := by
  have e : nI nb - 1 = nI (nb - 1) := by
    obtain ⟨c, rfl⟩ : ∃ c, nb = c + 1 := ⟨nb - 1, by omega⟩
    exact nI_pred c
  rw [bIsIn, e, if_neg (nI_pos (by omega)), if_neg (nI_nlt (by omega) (by omega))]
  decide
theorem q_isk {k n : Nat} (hk : k ≤ n) (hn : n < 2 ^ 31) : ¬ bIsIn (nI k) 0 (nI n) = 0 := by
  rw [bIsIn, if_neg (nI_pos (by omega)), if_neg (nI_nlt (by omega) (by omega))]
  decide

abbrev rmX4_pond : Room := { frames := 1, cells := 0, slots := 0, locals := 22 }
set_option maxHeartbeats 4000000 in
set_option maxRecDepth 100000 in
theorem c_X4_pond_ok (l : Launch) (D : va_G) (T : Nat → ClassId) (mo mw me mf mn nb nj : Nat) (th len : Int32) (nu : Nat → Int32) (x : Int32) (h1 : ¬ bIsIn x 20 200 = 0) (h2 : bOn nu = 0) : q_M l D (q_ty T) yX4_pond wsX4_pond rmX4_pond [.ref mo, .int x] [q_mc mo th nb nj len mw me mf mn, q_ia T mn 4 nu] q_no (q_is (some (.int len)) [q_mc mo 0 nb nj x mw me mf mn, q_ia T mn 4 nu]) := by
  refine q_start (cc := cX4_pond) (maxL := 3) (ret := (some .int)) (by decide) rfl (Nat.le_of_ble_eq_true rfl) ?_
  intro p e s m args below meth c A H locs hx hb hr hts hown hlocks hml hnm hP hK hD hS hA hG ls hl
  have hown : s.vm.findClass RX4 = some m.cls := hown
  have hC : CallFix p m c cX4_pond 3 s args wsX4_pond RX4 := ⟨hx, hb, hml, hown, hts⟩
  have iX4 : ∀ w ∈ wsX40, w ∈ wsX4_pond := by decide +kernel
  have hl : lv_has ls 3 [(0, .ref mo), (1, .int x)] := hl
  refine lv_aload_n hx hb dX4_pond_0 rfl (lv_at hl 0 rfl) ?_
  refine lv_iconst (v := 0) hx hb dX4_pond_1 (by decide) ?_
  refine va_put (D := D) (ci := 5) (v := .int 0) (ty := .int) (C := RX4) (T := TX4) (N := 8) hx hb hts iX4 tyX4 tyX4_ok nmX4 hown hK hP hD hS 0 rfl rfl 0 (by decide) (hts (.fieldLink RX4 26 "ToyRegattaModel" "thrown" "I") (by decide +kernel)) (fun _ h9 => h9) rfl (by decide +kernel) rfl rfl (Nat.le_of_ble_eq_true rfl) dX4_pond_2 (fun H locs hP hD hS => ?_)
  have hP : va_P D vwCl [q_mc mo 0 nb nj len mw me mf mn, q_ia T mn 4 nu] H := hP
  have hD : va_D A [q_mc mo 0 nb nj len mw me mf mn, q_ia T mn 4 nu] := hD
  refine lv_iload_n hx hb dX4_pond_5 rfl (lv_at hl 1 rfl) ?_
  refine lv_bipush (v := 20) hx hb dX4_pond_6 (by decide) ?_
  refine lv_sipush (v := 200) hx hb dX4_pond_8 (by decide) ?_
  refine q_callS (As := [.int x, .int 20, .int 200]) (rs := []) hC (c_X4_isIn l D T x 20 200) q_no_st q_no_at (va_cwS 3 hts gX4_pond_X4_isIn rfl rfl rfl (by decide +kernel) ⟨Nat.le_of_ble_eq_true rfl, Nat.le_of_ble_eq_true rfl⟩) hK hP hD hS hA (q_mask [false, false] _) rfl hl.1 rfl (Nat.le_of_ble_eq_true rfl) dX4_pond_11 ⟨(Nat.le_of_ble_eq_true rfl), (Nat.le_of_ble_eq_true rfl)⟩ (fun v9 C9 H locs hp hP hD hS => ?_)
  obtain ⟨rfl, rfl⟩ := hp
  have hP : va_P D vwCl [q_mc mo 0 nb nj len mw me mf mn, q_ia T mn 4 nu] H := q_P_perm (q_mrg_perm [false, false] _ _) hP
  have hD : va_D A [q_mc mo 0 nb nj len mw me mf mn, q_ia T mn 4 nu] := q_D_perm (q_mrg_perm [false, false] _ _) hD
  refine lv_if_ne (tgt := 23) hx hb dX4_pond_14 (by decide) (fun c_14 => ?_) (fun c_14 => absurd c_14 h1)
  refine lv_aload_n hx hb dX4_pond_23 rfl (lv_at hl 0 rfl) ?_
  refine q_callV (As := []) (rs := []) hC (c_X4_isRace l D T mo mw me mf mn nb nj 0 len nu) q_no_st q_no_at (cwV 0 hts gX4_pond_X4_isRace rfl rfl rfl (by decide +kernel) ⟨Nat.le_of_ble_eq_true rfl, Nat.le_of_ble_eq_true rfl⟩) (va_recv hK hP (ci := 5) (q0 := 0) rfl rfl) hK hP hD hS hA (q_mask [true, true] _) rfl hl.1 rfl (Nat.le_of_ble_eq_true rfl) dX4_pond_24 ⟨(Nat.le_of_ble_eq_true rfl), (Nat.le_of_ble_eq_true rfl)⟩ (fun v9 C9 H locs hp hP hD hS => ?_)
  obtain ⟨rfl, rfl⟩ := hp
  have hP : va_P D vwCl [q_mc mo 0 nb nj len mw me mf mn, q_ia T mn 4 nu] H := q_P_perm (q_mrg_perm [true, true] _ _) hP
  have hD : va_D A [q_mc mo 0 nb nj len mw me mf mn, q_ia T mn 4 nu] := q_D_perm (q_mrg_perm [true, true] _ _) hD
  refine lv_if_eq (tgt := 36) hx hb dX4_pond_27 (by decide) (fun c_27 => ?_) (fun c_27 => absurd h2 c_27)
  refine lv_aload_n hx hb dX4_pond_36 rfl (lv_at hl 0 rfl) ?_
  refine va_get (D := D) (ci := 5) (v := .int len) (C := RX4) (T := TX4) (N := 8) hx hb hts iX4 hown hK hP 0 rfl rfl 3 (by decide) (hts (.fieldLink RX4 7 "ToyRegattaModel" "length" "I") (by decide +kernel)) (fun _ h9 => h9) rfl dX4_pond_37 ?_
  refine lv_istore_n (lv' := [(2, .int len), (0, .ref mo), (1, .int x)]) hx hb dX4_pond_40 rfl hl (by decide) rfl (fun ls hl => ?_)
  refine lv_aload_n hx hb dX4_pond_41 rfl (lv_at hl 1 rfl) ?_
  refine lv_iload_n hx hb dX4_pond_42 rfl (lv_at hl 2 rfl) ?_
  refine va_put (D := D) (ci := 5) (v := .int x) (ty := .int) (C := RX4) (T := TX4) (N := 8) hx hb hts iX4 tyX4 tyX4_ok nmX4 hown hK hP hD hS 0 rfl rfl 3 (by decide) (hts (.fieldLink RX4 7 "ToyRegattaModel" "length" "I") (by decide +kernel)) (fun _ h9 => h9) rfl (by decide +kernel) rfl rfl (Nat.le_of_ble_eq_true rfl) dX4_pond_43 (fun H locs hP hD hS => ?_)
  have hP : va_P D vwCl [q_mc mo 0 nb nj x mw me mf mn, q_ia T mn 4 nu] H := hP
  have hD : va_D A [q_mc mo 0 nb nj x mw me mf mn, q_ia T mn 4 nu] := hD
  refine lv_iload_n hx hb dX4_pond_46 rfl (lv_at hl 0 rfl) ?_
  exact q_iret hx hb hr hlocks hP hK hD hS (Nat.le_of_ble_eq_true rfl) (Nat.le_of_ble_eq_true rfl) dX4_pond_47 ⟨rfl, rfl⟩
set_option maxHeartbeats 4000000 in
set_option maxRecDepth 100000 in
theorem c_X4_pond_f1 (l : Launch) (D : va_G) (T : Nat → ClassId) (mo mw me mf mn nb nj : Nat) (th len : Int32) (nu : Nat → Int32) (x : Int32) (h1 : bIsIn x 20 200 = 0) : q_M l D (q_ty T) yX4_pond wsX4_pond rmX4_pond [.ref mo, .int x] [q_mc mo th nb nj len mw me mf mn, q_ia T mn 4 nu] q_no (q_is (some (.int 0)) [q_mc mo 1 nb nj len mw me mf mn, q_ia T mn 4 nu]) := by
  refine q_start (cc := cX4_pond) (maxL := 3) (ret := (some .int)) (by decide) rfl (Nat.le_of_ble_eq_true rfl) ?_
  intro p e s m args below meth c A H locs hx hb hr hts hown hlocks hml hnm hP hK hD hS hA hG ls hl
  have hown : s.vm.findClass RX4 = some m.cls := hown
  have hC : CallFix p m c cX4_pond 3 s args wsX4_pond RX4 := ⟨hx, hb, hml, hown, hts⟩
  have iX4 : ∀ w ∈ wsX40, w ∈ wsX4_pond := by decide +kernel
  have hl : lv_has ls 3 [(0, .ref mo), (1, .int x)] := hl
  refine lv_aload_n hx hb dX4_pond_0 rfl (lv_at hl 0 rfl) ?_
  refine lv_iconst (v := 0) hx hb dX4_pond_1 (by decide) ?_
  refine va_put (D := D) (ci := 5) (v := .int 0) (ty := .int) (C := RX4) (T := TX4) (N := 8) hx hb hts iX4 tyX4 tyX4_ok nmX4 hown hK hP hD hS 0 rfl rfl 0 (by decide) (hts (.fieldLink RX4 26 "ToyRegattaModel" "thrown" "I") (by decide +kernel)) (fun _ h9 => h9) rfl (by decide +kernel) rfl rfl (Nat.le_of_ble_eq_true rfl) dX4_pond_2 (fun H locs hP hD hS => ?_)
  have hP : va_P D vwCl [q_mc mo 0 nb nj len mw me mf mn, q_ia T mn 4 nu] H := hP
  have hD : va_D A [q_mc mo 0 nb nj len mw me mf mn, q_ia T mn 4 nu] := hD
  refine lv_iload_n hx hb dX4_pond_5 rfl (lv_at hl 1 rfl) ?_
  refine lv_bipush (v := 20) hx hb dX4_pond_6 (by decide) ?_
  refine lv_sipush (v := 200) hx hb dX4_pond_8 (by decide) ?_
  refine q_callS (As := [.int x, .int 20, .int 200]) (rs := []) hC (c_X4_isIn l D T x 20 200) q_no_st q_no_at (va_cwS 3 hts gX4_pond_X4_isIn rfl rfl rfl (by decide +kernel) ⟨Nat.le_of_ble_eq_true rfl, Nat.le_of_ble_eq_true rfl⟩) hK hP hD hS hA (q_mask [false, false] _) rfl hl.1 rfl (Nat.le_of_ble_eq_true rfl) dX4_pond_11 ⟨(Nat.le_of_ble_eq_true rfl), (Nat.le_of_ble_eq_true rfl)⟩ (fun v9 C9 H locs hp hP hD hS => ?_)
  obtain ⟨rfl, rfl⟩ := hp
  have hP : va_P D vwCl [q_mc mo 0 nb nj len mw me mf mn, q_ia T mn 4 nu] H := q_P_perm (q_mrg_perm [false, false] _ _) hP
  have hD : va_D A [q_mc mo 0 nb nj len mw me mf mn, q_ia T mn 4 nu] := q_D_perm (q_mrg_perm [false, false] _ _) hD
  refine lv_if_ne (tgt := 23) hx hb dX4_pond_14 (by decide) (fun c_14 => absurd h1 c_14) (fun c_14 => ?_)
  refine lv_aload_n hx hb dX4_pond_17 rfl (lv_at hl 0 rfl) ?_
  refine lv_iconst (v := 1) hx hb dX4_pond_18 (by decide) ?_
  refine q_callV (As := [.int 1]) (rs := []) hC (c_X4_fail l D T mo mw me mf mn nb nj 0 len 1) q_no_st q_no_at (cwV 1 hts gX4_pond_X4_fail rfl rfl rfl (by decide +kernel) ⟨Nat.le_of_ble_eq_true rfl, Nat.le_of_ble_eq_true rfl⟩) (va_recv hK hP (ci := 5) (q0 := 0) rfl rfl) hK hP hD hS hA (q_mask [true, false] _) rfl hl.1 rfl (Nat.le_of_ble_eq_true rfl) dX4_pond_19 ⟨(Nat.le_of_ble_eq_true rfl), (Nat.le_of_ble_eq_true rfl)⟩ (fun v9 C9 H locs hp hP hD hS => ?_)
  obtain ⟨rfl, rfl⟩ := hp
  have hP : va_P D vwCl [q_mc mo 1 nb nj len mw me mf mn, q_ia T mn 4 nu] H := q_P_perm (q_mrg_perm [true, false] _ _) hP
  have hD : va_D A [q_mc mo 1 nb nj len mw me mf mn, q_ia T mn 4 nu] := q_D_perm (q_mrg_perm [true, false] _ _) hD
  exact q_iret hx hb hr hlocks hP hK hD hS (Nat.le_of_ble_eq_true rfl) (Nat.le_of_ble_eq_true rfl) dX4_pond_22 ⟨rfl, rfl⟩
set_option maxHeartbeats 4000000 in
set_option maxRecDepth 100000 in
theorem c_X4_pond_f2 (l : Launch) (D : va_G) (T : Nat → ClassId) (mo mw me mf mn nb nj : Nat) (th len : Int32) (nu : Nat → Int32) (x : Int32) (h1 : ¬ bIsIn x 20 200 = 0) (h2 : ¬ bOn nu = 0) : q_M l D (q_ty T) yX4_pond wsX4_pond rmX4_pond [.ref mo, .int x] [q_mc mo th nb nj len mw me mf mn, q_ia T mn 4 nu] q_no (q_is (some (.int 0)) [q_mc mo 2 nb nj len mw me mf mn, q_ia T mn 4 nu]) := by
  refine q_start (cc := cX4_pond) (maxL := 3) (ret := (some .int)) (by decide) rfl (Nat.le_of_ble_eq_true rfl) ?_
  intro p e s m args below meth c A H locs hx hb hr hts hown hlocks hml hnm hP hK hD hS hA hG ls hl
  have hown : s.vm.findClass RX4 = some m.cls := hown
  have hC : CallFix p m c cX4_pond 3 s args wsX4_pond RX4 := ⟨hx, hb, hml, hown, hts⟩
  have iX4 : ∀ w ∈ wsX40, w ∈ wsX4_pond := by decide +kernel
  have hl : lv_has ls 3 [(0, .ref mo), (1, .int x)] := hl
  refine lv_aload_n hx hb dX4_pond_0 rfl (lv_at hl 0 rfl) ?_
  refine lv_iconst (v := 0) hx hb dX4_pond_1 (by decide) ?_
  refine va_put (D := D) (ci := 5) (v := .int 0) (ty := .int) (C := RX4) (T := TX4) (N := 8) hx hb hts iX4 tyX4 tyX4_ok nmX4 hown hK hP hD hS 0 rfl rfl 0 (by decide) (hts (.fieldLink RX4 26 "ToyRegattaModel" "thrown" "I") (by decide +kernel)) (fun _ h9 => h9) rfl (by decide +kernel) rfl rfl (Nat.le_of_ble_eq_true rfl) dX4_pond_2 (fun H locs hP hD hS => ?_)
  have hP : va_P D vwCl [q_mc mo 0 nb nj len mw me mf mn, q_ia T mn 4 nu] H := hP
  have hD : va_D A [q_mc mo 0 nb nj len mw me mf mn, q_ia T mn 4 nu] := hD
  refine lv_iload_n hx hb dX4_pond_5 rfl (lv_at hl 1 rfl) ?_
  refine lv_bipush (v := 20) hx hb dX4_pond_6 (by decide) ?_
  refine lv_sipush (v := 200) hx hb dX4_pond_8 (by decide) ?_
  refine q_callS (As := [.int x, .int 20, .int 200]) (rs := []) hC (c_X4_isIn l D T x 20 200) q_no_st q_no_at (va_cwS 3 hts gX4_pond_X4_isIn rfl rfl rfl (by decide +kernel) ⟨Nat.le_of_ble_eq_true rfl, Nat.le_of_ble_eq_true rfl⟩) hK hP hD hS hA (q_mask [false, false] _) rfl hl.1 rfl (Nat.le_of_ble_eq_true rfl) dX4_pond_11 ⟨(Nat.le_of_ble_eq_true rfl), (Nat.le_of_ble_eq_true rfl)⟩ (fun v9 C9 H locs hp hP hD hS => ?_)
  obtain ⟨rfl, rfl⟩ := hp
  have hP : va_P D vwCl [q_mc mo 0 nb nj len mw me mf mn, q_ia T mn 4 nu] H := q_P_perm (q_mrg_perm [false, false] _ _) hP
  have hD : va_D A [q_mc mo 0 nb nj len mw me mf mn, q_ia T mn 4 nu] := q_D_perm (q_mrg_perm [false, false] _ _) hD
  refine lv_if_ne (tgt := 23) hx hb dX4_pond_14 (by decide) (fun c_14 => ?_) (fun c_14 => absurd c_14 h1)
  refine lv_aload_n hx hb dX4_pond_23 rfl (lv_at hl 0 rfl) ?_
  refine q_callV (As := []) (rs := []) hC (c_X4_isRace l D T mo mw me mf mn nb nj 0 len nu) q_no_st q_no_at (cwV 0 hts gX4_pond_X4_isRace rfl rfl rfl (by decide +kernel) ⟨Nat.le_of_ble_eq_true rfl, Nat.le_of_ble_eq_true rfl⟩) (va_recv hK hP (ci := 5) (q0 := 0) rfl rfl) hK hP hD hS hA (q_mask [true, true] _) rfl hl.1 rfl (Nat.le_of_ble_eq_true rfl) dX4_pond_24 ⟨(Nat.le_of_ble_eq_true rfl), (Nat.le_of_ble_eq_true rfl)⟩ (fun v9 C9 H locs hp hP hD hS => ?_)
  obtain ⟨rfl, rfl⟩ := hp
  have hP : va_P D vwCl [q_mc mo 0 nb nj len mw me mf mn, q_ia T mn 4 nu] H := q_P_perm (q_mrg_perm [true, true] _ _) hP
  have hD : va_D A [q_mc mo 0 nb nj len mw me mf mn, q_ia T mn 4 nu] := q_D_perm (q_mrg_perm [true, true] _ _) hD
  refine lv_if_eq (tgt := 36) hx hb dX4_pond_27 (by decide) (fun c_27 => absurd c_27 h2) (fun c_27 => ?_)
  refine lv_aload_n hx hb dX4_pond_30 rfl (lv_at hl 0 rfl) ?_
  refine lv_iconst (v := 2) hx hb dX4_pond_31 (by decide) ?_
  refine q_callV (As := [.int 2]) (rs := []) hC (c_X4_fail l D T mo mw me mf mn nb nj 0 len 2) q_no_st q_no_at (cwV 1 hts gX4_pond_X4_fail rfl rfl rfl (by decide +kernel) ⟨Nat.le_of_ble_eq_true rfl, Nat.le_of_ble_eq_true rfl⟩) (va_recv hK hP (ci := 5) (q0 := 0) rfl rfl) hK hP hD hS hA (q_mask [true, false] _) rfl hl.1 rfl (Nat.le_of_ble_eq_true rfl) dX4_pond_32 ⟨(Nat.le_of_ble_eq_true rfl), (Nat.le_of_ble_eq_true rfl)⟩ (fun v9 C9 H locs hp hP hD hS => ?_)
  obtain ⟨rfl, rfl⟩ := hp
  have hP : va_P D vwCl [q_mc mo 2 nb nj len mw me mf mn, q_ia T mn 4 nu] H := q_P_perm (q_mrg_perm [true, false] _ _) hP
  have hD : va_D A [q_mc mo 2 nb nj len mw me mf mn, q_ia T mn 4 nu] := q_D_perm (q_mrg_perm [true, false] _ _) hD
  exact q_iret hx hb hr hlocks hP hK hD hS (Nat.le_of_ble_eq_true rfl) (Nat.le_of_ble_eq_true rfl) dX4_pond_35 ⟨rfl, rfl⟩
abbrev rmX4_setWind : Room := { frames := 1, cells := 0, slots := 0, locals := 22 }
set_option maxHeartbeats 4000000 in
set_option maxRecDepth 100000 in
theorem c_X4_setWind_ok (l : Launch) (D : va_G) (T : Nat → ClassId) (mo mw me mf mn nb nj : Nat) (th len : Int32) (wf : Nat → Int32) (k : Nat) (x : Int32) (hk : k < 10) (h2 : ¬ bIsIn x 0 9 = 0) : q_M l D (q_ty T) yX4_setWind wsX4_setWind rmX4_setWind [.ref mo, .int (nI k), .int x] [q_mc mo th nb nj len mw me mf mn, q_ia T mw 10 wf] q_no (q_is (some (.int (wf k))) [q_mc mo 0 nb nj len mw me mf mn, q_ia T mw 10 (upd wf k x)]) := by
  refine q_start (cc := cX4_setWind) (maxL := 4) (ret := (some .int)) (by decide) rfl (Nat.le_of_ble_eq_true rfl) ?_
  intro p e s m args below meth c A H locs hx hb hr hts hown hlocks hml hnm hP hK hD hS hA hG ls hl
  have hown : s.vm.findClass RX4 = some m.cls := hown
  have hC : CallFix p m c cX4_setWind 4 s args wsX4_setWind RX4 := ⟨hx, hb, hml, hown, hts⟩
  have iX4 : ∀ w ∈ wsX40, w ∈ wsX4_setWind := by decide +kernel
  have hl : lv_has ls 4 [(0, .ref mo), (1, .int (nI k)), (2, .int x)] := hl
  refine lv_aload_n hx hb dX4_setWind_0 rfl (lv_at hl 0 rfl) ?_
  refine lv_iconst (v := 0) hx hb dX4_setWind_1 (by decide) ?_
  refine va_put (D := D) (ci := 5) (v := .int 0) (ty := .int) (C := RX4) (T := TX4) (N := 8) hx hb hts iX4 tyX4 tyX4_ok nmX4 hown hK hP hD hS 0 rfl rfl 0 (by decide) (hts (.fieldLink RX4 26 "ToyRegattaModel" "thrown" "I") (by decide +kernel)) (fun _ h9 => h9) rfl (by decide +kernel) rfl rfl (Nat.le_of_ble_eq_true rfl) dX4_setWind_2 (fun H locs hP hD hS => ?_)
  have hP : va_P D vwCl [q_mc mo 0 nb nj len mw me mf mn, q_ia T mw 10 wf] H := hP
  have hD : va_D A [q_mc mo 0 nb nj len mw me mf mn, q_ia T mw 10 wf] := hD
  refine lv_iload_n hx hb dX4_setWind_5 rfl (lv_at hl 1 rfl) ?_
  refine lv_iconst (v := 0) hx hb dX4_setWind_6 (by decide) ?_
  refine lv_bipush (v := 9) hx hb dX4_setWind_7 (by decide) ?_
  refine q_callS (As := [.int (nI k), .int 0, .int 9]) (rs := []) hC (c_X4_isIn l D T (nI k) 0 9) q_no_st q_no_at (va_cwS 3 hts gX4_setWind_X4_isIn rfl rfl rfl (by decide +kernel) ⟨Nat.le_of_ble_eq_true rfl, Nat.le_of_ble_eq_true rfl⟩) hK hP hD hS hA (q_mask [false, false] _) rfl hl.1 rfl (Nat.le_of_ble_eq_true rfl) dX4_setWind_9 ⟨(Nat.le_of_ble_eq_true rfl), (Nat.le_of_ble_eq_true rfl)⟩ (fun v9 C9 H locs hp hP hD hS => ?_)
  obtain ⟨rfl, rfl⟩ := hp
  have hP : va_P D vwCl [q_mc mo 0 nb nj len mw me mf mn, q_ia T mw 10 wf] H := q_P_perm (q_mrg_perm [false, false] _ _) hP
  have hD : va_D A [q_mc mo 0 nb nj len mw me mf mn, q_ia T mw 10 wf] := q_D_perm (q_mrg_perm [false, false] _ _) hD
  refine lv_if_ne (tgt := 21) hx hb dX4_setWind_12 (by decide) (fun c_12 => ?_) (fun c_12 => absurd c_12 (q_isk (n := 9) (by omega) (by omega)))
  refine lv_iload_n hx hb dX4_setWind_21 rfl (lv_at hl 2 rfl) ?_
  refine lv_iconst (v := 0) hx hb dX4_setWind_22 (by decide) ?_
  refine lv_bipush (v := 9) hx hb dX4_setWind_23 (by decide) ?_
  refine q_callS (As := [.int x, .int 0, .int 9]) (rs := []) hC (c_X4_isIn l D T x 0 9) q_no_st q_no_at (va_cwS 3 hts gX4_setWind_X4_isIn rfl rfl rfl (by decide +kernel) ⟨Nat.le_of_ble_eq_true rfl, Nat.le_of_ble_eq_true rfl⟩) hK hP hD hS hA (q_mask [false, false] _) rfl hl.1 rfl (Nat.le_of_ble_eq_true rfl) dX4_setWind_25 ⟨(Nat.le_of_ble_eq_true rfl), (Nat.le_of_ble_eq_true rfl)⟩ (fun v9 C9 H locs hp hP hD hS => ?_)
  obtain ⟨rfl, rfl⟩ := hp
  have hP : va_P D vwCl [q_mc mo 0 nb nj len mw me mf mn, q_ia T mw 10 wf] H := q_P_perm (q_mrg_perm [false, false] _ _) hP
  have hD : va_D A [q_mc mo 0 nb nj len mw me mf mn, q_ia T mw 10 wf] := q_D_perm (q_mrg_perm [false, false] _ _) hD
  refine lv_if_ne (tgt := 37) hx hb dX4_setWind_28 (by decide) (fun c_28 => ?_) (fun c_28 => absurd c_28 h2)
  refine lv_aload_n hx hb dX4_setWind_37 rfl (lv_at hl 0 rfl) ?_
  refine va_get (D := D) (ci := 5) (v := .ref mw) (C := RX4) (T := TX4) (N := 8) hx hb hts iX4 hown hK hP 0 rfl rfl 4 (by decide) (hts (.fieldLink RX4 13 "ToyRegattaModel" "winds" "[I") (by decide +kernel)) (fun _ h9 => h9) rfl dX4_setWind_38 ?_
  refine lv_iload_n hx hb dX4_setWind_41 rfl (lv_at hl 1 rfl) ?_
  refine va_iald (D := D) hx hb hK hP 1 0 rfl rfl (vp_in_nI hk (by omega)) dX4_setWind_42 ?_
  rw [show ((nI k) : Int32).toNatClampNeg = k from (pk_cl k rfl (by omega))]
  refine lv_istore_n (lv' := [(3, .int (wf k)), (0, .ref mo), (1, .int (nI k)), (2, .int x)]) hx hb dX4_setWind_43 rfl hl (by decide) rfl (fun ls hl => ?_)
  refine lv_aload_n hx hb dX4_setWind_44 rfl (lv_at hl 1 rfl) ?_
  refine va_get (D := D) (ci := 5) (v := .ref mw) (C := RX4) (T := TX4) (N := 8) hx hb hts iX4 hown hK hP 0 rfl rfl 4 (by decide) (hts (.fieldLink RX4 13 "ToyRegattaModel" "winds" "[I") (by decide +kernel)) (fun _ h9 => h9) rfl dX4_setWind_45 ?_
  refine lv_iload_n hx hb dX4_setWind_48 rfl (lv_at hl 2 rfl) ?_
  refine lv_iload_n hx hb dX4_setWind_49 rfl (lv_at hl 3 rfl) ?_
  refine va_iast (D := D) hx hb hK hP hD hS 1 0 rfl rfl (vp_in_nI hk (by omega)) dX4_setWind_50 (fun H locs hP hD hS => ?_)
  rw [show ((nI k) : Int32).toNatClampNeg = k from (pk_cl k rfl (by omega))] at hP hD
  have hP : va_P D vwCl [q_mc mo 0 nb nj len mw me mf mn, q_ia T mw 10 (upd wf k x)] H := hP
  have hD : va_D A [q_mc mo 0 nb nj len mw me mf mn, q_ia T mw 10 (upd wf k x)] := hD
  refine lv_iload_n hx hb dX4_setWind_51 rfl (lv_at hl 0 rfl) ?_
  exact q_iret hx hb hr hlocks hP hK hD hS (Nat.le_of_ble_eq_true rfl) (Nat.le_of_ble_eq_true rfl) dX4_setWind_52 ⟨rfl, rfl⟩
set_option maxHeartbeats 4000000 in
set_option maxRecDepth 100000 in
theorem c_X4_setWind_f1 (l : Launch) (D : va_G) (T : Nat → ClassId) (mo mw me mf mn nb nj : Nat) (th len : Int32) (wf : Nat → Int32) (y x : Int32) (h1 : bIsIn y 0 9 = 0) : q_M l D (q_ty T) yX4_setWind wsX4_setWind rmX4_setWind [.ref mo, .int y, .int x] [q_mc mo th nb nj len mw me mf mn, q_ia T mw 10 wf] q_no (q_is (some (.int 0)) [q_mc mo 1 nb nj len mw me mf mn, q_ia T mw 10 wf]) := by
  refine q_start (cc := cX4_setWind) (maxL := 4) (ret := (some .int)) (by decide) rfl (Nat.le_of_ble_eq_true rfl) ?_
  intro p e s m args below meth c A H locs hx hb hr hts hown hlocks hml hnm hP hK hD hS hA hG ls hl
  have hown : s.vm.findClass RX4 = some m.cls := hown
  have hC : CallFix p m c cX4_setWind 4 s args wsX4_setWind RX4 := ⟨hx, hb, hml, hown, hts⟩
  have iX4 : ∀ w ∈ wsX40, w ∈ wsX4_setWind := by decide +kernel
  have hl : lv_has ls 4 [(0, .ref mo), (1, .int y), (2, .int x)] := hl
  refine lv_aload_n hx hb dX4_setWind_0 rfl (lv_at hl 0 rfl) ?_
  refine lv_iconst (v := 0) hx hb dX4_setWind_1 (by decide) ?_
  refine va_put (D := D) (ci := 5) (v := .int 0) (ty := .int) (C := RX4) (T := TX4) (N := 8) hx hb hts iX4 tyX4 tyX4_ok nmX4 hown hK hP hD hS 0 rfl rfl 0 (by decide) (hts (.fieldLink RX4 26 "ToyRegattaModel" "thrown" "I") (by decide +kernel)) (fun _ h9 => h9) rfl (by decide +kernel) rfl rfl (Nat.le_of_ble_eq_true rfl) dX4_setWind_2 (fun H locs hP hD hS => ?_)
  have hP : va_P D vwCl [q_mc mo 0 nb nj len mw me mf mn, q_ia T mw 10 wf] H := hP
  have hD : va_D A [q_mc mo 0 nb nj len mw me mf mn, q_ia T mw 10 wf] := hD
  refine lv_iload_n hx hb dX4_setWind_5 rfl (lv_at hl 1 rfl) ?_
  refine lv_iconst (v := 0) hx hb dX4_setWind_6 (by decide) ?_
  refine lv_bipush (v := 9) hx hb dX4_setWind_7 (by decide) ?_
  refine q_callS (As := [.int y, .int 0, .int 9]) (rs := []) hC (c_X4_isIn l D T y 0 9) q_no_st q_no_at (va_cwS 3 hts gX4_setWind_X4_isIn rfl rfl rfl (by decide +kernel) ⟨Nat.le_of_ble_eq_true rfl, Nat.le_of_ble_eq_true rfl⟩) hK hP hD hS hA (q_mask [false, false] _) rfl hl.1 rfl (Nat.le_of_ble_eq_true rfl) dX4_setWind_9 ⟨(Nat.le_of_ble_eq_true rfl), (Nat.le_of_ble_eq_true rfl)⟩ (fun v9 C9 H locs hp hP hD hS => ?_)
  obtain ⟨rfl, rfl⟩ := hp
  have hP : va_P D vwCl [q_mc mo 0 nb nj len mw me mf mn, q_ia T mw 10 wf] H := q_P_perm (q_mrg_perm [false, false] _ _) hP
  have hD : va_D A [q_mc mo 0 nb nj len mw me mf mn, q_ia T mw 10 wf] := q_D_perm (q_mrg_perm [false, false] _ _) hD
  refine lv_if_ne (tgt := 21) hx hb dX4_setWind_12 (by decide) (fun c_12 => absurd h1 c_12) (fun c_12 => ?_)
  refine lv_aload_n hx hb dX4_setWind_15 rfl (lv_at hl 0 rfl) ?_
  refine lv_iconst (v := 1) hx hb dX4_setWind_16 (by decide) ?_
  refine q_callV (As := [.int 1]) (rs := []) hC (c_X4_fail l D T mo mw me mf mn nb nj 0 len 1) q_no_st q_no_at (cwV 1 hts gX4_setWind_X4_fail rfl rfl rfl (by decide +kernel) ⟨Nat.le_of_ble_eq_true rfl, Nat.le_of_ble_eq_true rfl⟩) (va_recv hK hP (ci := 5) (q0 := 0) rfl rfl) hK hP hD hS hA (q_mask [true, false] _) rfl hl.1 rfl (Nat.le_of_ble_eq_true rfl) dX4_setWind_17 ⟨(Nat.le_of_ble_eq_true rfl), (Nat.le_of_ble_eq_true rfl)⟩ (fun v9 C9 H locs hp hP hD hS => ?_)
  obtain ⟨rfl, rfl⟩ := hp
  have hP : va_P D vwCl [q_mc mo 1 nb nj len mw me mf mn, q_ia T mw 10 wf] H := q_P_perm (q_mrg_perm [true, false] _ _) hP
  have hD : va_D A [q_mc mo 1 nb nj len mw me mf mn, q_ia T mw 10 wf] := q_D_perm (q_mrg_perm [true, false] _ _) hD
  exact q_iret hx hb hr hlocks hP hK hD hS (Nat.le_of_ble_eq_true rfl) (Nat.le_of_ble_eq_true rfl) dX4_setWind_20 ⟨rfl, rfl⟩
set_option maxHeartbeats 4000000 in
set_option maxRecDepth 100000 in
theorem c_X4_setWind_f2 (l : Launch) (D : va_G) (T : Nat → ClassId) (mo mw me mf mn nb nj : Nat) (th len : Int32) (wf : Nat → Int32) (y x : Int32) (h1 : ¬ bIsIn y 0 9 = 0) (h2 : bIsIn x 0 9 = 0) : q_M l D (q_ty T) yX4_setWind wsX4_setWind rmX4_setWind [.ref mo, .int y, .int x] [q_mc mo th nb nj len mw me mf mn, q_ia T mw 10 wf] q_no (q_is (some (.int 0)) [q_mc mo 2 nb nj len mw me mf mn, q_ia T mw 10 wf]) := by
  refine q_start (cc := cX4_setWind) (maxL := 4) (ret := (some .int)) (by decide) rfl (Nat.le_of_ble_eq_true rfl) ?_
  intro p e s m args below meth c A H locs hx hb hr hts hown hlocks hml hnm hP hK hD hS hA hG ls hl
  have hown : s.vm.findClass RX4 = some m.cls := hown
  have hC : CallFix p m c cX4_setWind 4 s args wsX4_setWind RX4 := ⟨hx, hb, hml, hown, hts⟩
  have iX4 : ∀ w ∈ wsX40, w ∈ wsX4_setWind := by decide +kernel
  have hl : lv_has ls 4 [(0, .ref mo), (1, .int y), (2, .int x)] := hl
  refine lv_aload_n hx hb dX4_setWind_0 rfl (lv_at hl 0 rfl) ?_
  refine lv_iconst (v := 0) hx hb dX4_setWind_1 (by decide) ?_
  refine va_put (D := D) (ci := 5) (v := .int 0) (ty := .int) (C := RX4) (T := TX4) (N := 8) hx hb hts iX4 tyX4 tyX4_ok nmX4 hown hK hP hD hS 0 rfl rfl 0 (by decide) (hts (.fieldLink RX4 26 "ToyRegattaModel" "thrown" "I") (by decide +kernel)) (fun _ h9 => h9) rfl (by decide +kernel) rfl rfl (Nat.le_of_ble_eq_true rfl) dX4_setWind_2 (fun H locs hP hD hS => ?_)
  have hP : va_P D vwCl [q_mc mo 0 nb nj len mw me mf mn, q_ia T mw 10 wf] H := hP
  have hD : va_D A [q_mc mo 0 nb nj len mw me mf mn, q_ia T mw 10 wf] := hD
  refine lv_iload_n hx hb dX4_setWind_5 rfl (lv_at hl 1 rfl) ?_
  refine lv_iconst (v := 0) hx hb dX4_setWind_6 (by decide) ?_
  refine lv_bipush (v := 9) hx hb dX4_setWind_7 (by decide) ?_
  refine q_callS (As := [.int y, .int 0, .int 9]) (rs := []) hC (c_X4_isIn l D T y 0 9) q_no_st q_no_at (va_cwS 3 hts gX4_setWind_X4_isIn rfl rfl rfl (by decide +kernel) ⟨Nat.le_of_ble_eq_true rfl, Nat.le_of_ble_eq_true rfl⟩) hK hP hD hS hA (q_mask [false, false] _) rfl hl.1 rfl (Nat.le_of_ble_eq_true rfl) dX4_setWind_9 ⟨(Nat.le_of_ble_eq_true rfl), (Nat.le_of_ble_eq_true rfl)⟩ (fun v9 C9 H locs hp hP hD hS => ?_)
  obtain ⟨rfl, rfl⟩ := hp
  have hP : va_P D vwCl [q_mc mo 0 nb nj len mw me mf mn, q_ia T mw 10 wf] H := q_P_perm (q_mrg_perm [false, false] _ _) hP
  have hD : va_D A [q_mc mo 0 nb nj len mw me mf mn, q_ia T mw 10 wf] := q_D_perm (q_mrg_perm [false, false] _ _) hD
  refine lv_if_ne (tgt := 21) hx hb dX4_setWind_12 (by decide) (fun c_12 => ?_) (fun c_12 => absurd c_12 h1)
  refine lv_iload_n hx hb dX4_setWind_21 rfl (lv_at hl 2 rfl) ?_
  refine lv_iconst (v := 0) hx hb dX4_setWind_22 (by decide) ?_
  refine lv_bipush (v := 9) hx hb dX4_setWind_23 (by decide) ?_
  refine q_callS (As := [.int x, .int 0, .int 9]) (rs := []) hC (c_X4_isIn l D T x 0 9) q_no_st q_no_at (va_cwS 3 hts gX4_setWind_X4_isIn rfl rfl rfl (by decide +kernel) ⟨Nat.le_of_ble_eq_true rfl, Nat.le_of_ble_eq_true rfl⟩) hK hP hD hS hA (q_mask [false, false] _) rfl hl.1 rfl (Nat.le_of_ble_eq_true rfl) dX4_setWind_25 ⟨(Nat.le_of_ble_eq_true rfl), (Nat.le_of_ble_eq_true rfl)⟩ (fun v9 C9 H locs hp hP hD hS => ?_)
  obtain ⟨rfl, rfl⟩ := hp
  have hP : va_P D vwCl [q_mc mo 0 nb nj len mw me mf mn, q_ia T mw 10 wf] H := q_P_perm (q_mrg_perm [false, false] _ _) hP
  have hD : va_D A [q_mc mo 0 nb nj len mw me mf mn, q_ia T mw 10 wf] := q_D_perm (q_mrg_perm [false, false] _ _) hD
  refine lv_if_ne (tgt := 37) hx hb dX4_setWind_28 (by decide) (fun c_28 => absurd h2 c_28) (fun c_28 => ?_)
  refine lv_aload_n hx hb dX4_setWind_31 rfl (lv_at hl 0 rfl) ?_
  refine lv_iconst (v := 2) hx hb dX4_setWind_32 (by decide) ?_
  refine q_callV (As := [.int 2]) (rs := []) hC (c_X4_fail l D T mo mw me mf mn nb nj 0 len 2) q_no_st q_no_at (cwV 1 hts gX4_setWind_X4_fail rfl rfl rfl (by decide +kernel) ⟨Nat.le_of_ble_eq_true rfl, Nat.le_of_ble_eq_true rfl⟩) (va_recv hK hP (ci := 5) (q0 := 0) rfl rfl) hK hP hD hS hA (q_mask [true, false] _) rfl hl.1 rfl (Nat.le_of_ble_eq_true rfl) dX4_setWind_33 ⟨(Nat.le_of_ble_eq_true rfl), (Nat.le_of_ble_eq_true rfl)⟩ (fun v9 C9 H locs hp hP hD hS => ?_)
  obtain ⟨rfl, rfl⟩ := hp
  have hP : va_P D vwCl [q_mc mo 2 nb nj len mw me mf mn, q_ia T mw 10 wf] H := q_P_perm (q_mrg_perm [true, false] _ _) hP
  have hD : va_D A [q_mc mo 2 nb nj len mw me mf mn, q_ia T mw 10 wf] := q_D_perm (q_mrg_perm [true, false] _ _) hD
  exact q_iret hx hb hr hlocks hP hK hD hS (Nat.le_of_ble_eq_true rfl) (Nat.le_of_ble_eq_true rfl) dX4_setWind_36 ⟨rfl, rfl⟩
abbrev rmX4_ballast : Room := { frames := 2, cells := 0, slots := 0, locals := 43 }
set_option maxHeartbeats 4000000 in
set_option maxRecDepth 100000 in
theorem c_X4_ballast_ok (l : Launch) (D : va_G) (T : Nat → ClassId) (mo mw me mf mn nb nj : Nat) (th len : Int32) (G : Nat → Nat → Int32) (nu : Nat → Int32) (b : Nat) (x : Int32) (hb8 : b < nb) (hn : nb ≤ 8) (h2 : ¬ bIsIn x 0 9 = 0) (h3 : bOn nu = 0) : q_M l D (q_ty T) yX4_ballast wsX4_ballast rmX4_ballast [.ref mo, .int (nI b), .int x] [q_mc mo th nb nj len mw me mf mn, q_fa T mf G, q_ia T mn 4 nu] q_no (q_is (some (.int (G b 2))) [q_mc mo 0 nb nj len mw me mf mn, q_fa T mf (va_up G b (upd (G b) 2 x)), q_ia T mn 4 nu]) := by
  refine q_start (cc := cX4_ballast) (maxL := 4) (ret := (some .int)) (by decide) rfl (Nat.le_of_ble_eq_true rfl) ?_
  intro p e s m args below meth c A H locs hx hb hr hts hown hlocks hml hnm hP hK hD hS hA hG ls hl
  have hown : s.vm.findClass RX4 = some m.cls := hown
  have hC : CallFix p m c cX4_ballast 4 s args wsX4_ballast RX4 := ⟨hx, hb, hml, hown, hts⟩
  have iX4 : ∀ w ∈ wsX40, w ∈ wsX4_ballast := by decide +kernel
  have hl : lv_has ls 4 [(0, .ref mo), (1, .int (nI b)), (2, .int x)] := hl
  refine lv_aload_n hx hb dX4_ballast_0 rfl (lv_at hl 0 rfl) ?_
  refine lv_iconst (v := 0) hx hb dX4_ballast_1 (by decide) ?_
  refine va_put (D := D) (ci := 5) (v := .int 0) (ty := .int) (C := RX4) (T := TX4) (N := 8) hx hb hts iX4 tyX4 tyX4_ok nmX4 hown hK hP hD hS 0 rfl rfl 0 (by decide) (hts (.fieldLink RX4 26 "ToyRegattaModel" "thrown" "I") (by decide +kernel)) (fun _ h9 => h9) rfl (by decide +kernel) rfl rfl (Nat.le_of_ble_eq_true rfl) dX4_ballast_2 (fun H locs hP hD hS => ?_)
  have hP : va_P D vwCl [q_mc mo 0 nb nj len mw me mf mn, q_fa T mf G, q_ia T mn 4 nu] H := hP
  have hD : va_D A [q_mc mo 0 nb nj len mw me mf mn, q_fa T mf G, q_ia T mn 4 nu] := hD
  refine lv_aload_n hx hb dX4_ballast_5 rfl (lv_at hl 0 rfl) ?_
  refine lv_iload_n hx hb dX4_ballast_6 rfl (lv_at hl 1 rfl) ?_
  refine q_callV (As := [.int (nI b)]) (rs := []) hC (c_X4_isBoat l D T mo mw me mf mn nb nj 0 len (nI b)) q_no_st q_no_at (cwV 1 hts gX4_ballast_X4_isBoat rfl rfl rfl (by decide +kernel) ⟨Nat.le_of_ble_eq_true rfl, Nat.le_of_ble_eq_true rfl⟩) (va_recv hK hP (ci := 5) (q0 := 0) rfl rfl) hK hP hD hS hA (q_mask [true, false, false] _) rfl hl.1 rfl (Nat.le_of_ble_eq_true rfl) dX4_ballast_7 ⟨(Nat.le_of_ble_eq_true rfl), (Nat.le_of_ble_eq_true rfl)⟩ (fun v9 C9 H locs hp hP hD hS => ?_)
  obtain ⟨rfl, rfl⟩ := hp
  have hP : va_P D vwCl [q_mc mo 0 nb nj len mw me mf mn, q_fa T mf G, q_ia T mn 4 nu] H := q_P_perm (q_mrg_perm [true, false, false] _ _) hP
  have hD : va_D A [q_mc mo 0 nb nj len mw me mf mn, q_fa T mf G, q_ia T mn 4 nu] := q_D_perm (q_mrg_perm [true, false, false] _ _) hD
  refine lv_if_ne (tgt := 19) hx hb dX4_ballast_10 (by decide) (fun c_10 => ?_) (fun c_10 => absurd c_10 (q_isb hb8 hn))
  refine lv_iload_n hx hb dX4_ballast_19 rfl (lv_at hl 2 rfl) ?_
  refine lv_iconst (v := 0) hx hb dX4_ballast_20 (by decide) ?_
  refine lv_bipush (v := 9) hx hb dX4_ballast_21 (by decide) ?_
  refine q_callS (As := [.int x, .int 0, .int 9]) (rs := []) hC (c_X4_isIn l D T x 0 9) q_no_st q_no_at (va_cwS 3 hts gX4_ballast_X4_isIn rfl rfl rfl (by decide +kernel) ⟨Nat.le_of_ble_eq_true rfl, Nat.le_of_ble_eq_true rfl⟩) hK hP hD hS hA (q_mask [false, false, false] _) rfl hl.1 rfl (Nat.le_of_ble_eq_true rfl) dX4_ballast_23 ⟨(Nat.le_of_ble_eq_true rfl), (Nat.le_of_ble_eq_true rfl)⟩ (fun v9 C9 H locs hp hP hD hS => ?_)
  obtain ⟨rfl, rfl⟩ := hp
  have hP : va_P D vwCl [q_mc mo 0 nb nj len mw me mf mn, q_fa T mf G, q_ia T mn 4 nu] H := q_P_perm (q_mrg_perm [false, false, false] _ _) hP
  have hD : va_D A [q_mc mo 0 nb nj len mw me mf mn, q_fa T mf G, q_ia T mn 4 nu] := q_D_perm (q_mrg_perm [false, false, false] _ _) hD
  refine lv_if_ne (tgt := 35) hx hb dX4_ballast_26 (by decide) (fun c_26 => ?_) (fun c_26 => absurd c_26 h2)
  refine lv_aload_n hx hb dX4_ballast_35 rfl (lv_at hl 0 rfl) ?_
  refine q_callV (As := []) (rs := []) hC (c_X4_isRace l D T mo mw me mf mn nb nj 0 len nu) q_no_st q_no_at (cwV 0 hts gX4_ballast_X4_isRace rfl rfl rfl (by decide +kernel) ⟨Nat.le_of_ble_eq_true rfl, Nat.le_of_ble_eq_true rfl⟩) (va_recv hK hP (ci := 5) (q0 := 0) rfl rfl) hK hP hD hS hA (q_mask [true, false, true] _) rfl hl.1 rfl (Nat.le_of_ble_eq_true rfl) dX4_ballast_36 ⟨(Nat.le_of_ble_eq_true rfl), (Nat.le_of_ble_eq_true rfl)⟩ (fun v9 C9 H locs hp hP hD hS => ?_)
  obtain ⟨rfl, rfl⟩ := hp
  have hP : va_P D vwCl [q_mc mo 0 nb nj len mw me mf mn, q_fa T mf G, q_ia T mn 4 nu] H := q_P_perm (q_mrg_perm [true, false, true] _ _) hP
  have hD : va_D A [q_mc mo 0 nb nj len mw me mf mn, q_fa T mf G, q_ia T mn 4 nu] := q_D_perm (q_mrg_perm [true, false, true] _ _) hD
  refine lv_if_eq (tgt := 48) hx hb dX4_ballast_39 (by decide) (fun c_39 => ?_) (fun c_39 => absurd h3 c_39)
  refine lv_aload_n hx hb dX4_ballast_48 rfl (lv_at hl 0 rfl) ?_
  refine lv_iload_n hx hb dX4_ballast_49 rfl (lv_at hl 1 rfl) ?_
  refine lv_iconst (v := 2) hx hb dX4_ballast_50 (by decide) ?_
  refine q_callV (As := [.int (nI b), .int 2]) (rs := []) hC (c_X4_bo l D T mo mw me mf mn nb nj 0 len G b 2 (G b) (by omega) (by omega) rfl) q_no_st q_no_at (cwV 2 hts gX4_ballast_X4_bo rfl rfl rfl (by decide +kernel) ⟨Nat.le_of_ble_eq_true rfl, Nat.le_of_ble_eq_true rfl⟩) (va_recv hK hP (ci := 5) (q0 := 0) rfl rfl) hK hP hD hS hA (q_mask [true, true, false] _) rfl hl.1 rfl (Nat.le_of_ble_eq_true rfl) dX4_ballast_51 ⟨(Nat.le_of_ble_eq_true rfl), (Nat.le_of_ble_eq_true rfl)⟩ (fun v9 C9 H locs hp hP hD hS => ?_)
  obtain ⟨rfl, rfl⟩ := hp
  have hP : va_P D vwCl [q_mc mo 0 nb nj len mw me mf mn, q_fa T mf G, q_ia T mn 4 nu] H := q_P_perm (q_mrg_perm [true, true, false] _ _) hP
  have hD : va_D A [q_mc mo 0 nb nj len mw me mf mn, q_fa T mf G, q_ia T mn 4 nu] := q_D_perm (q_mrg_perm [true, true, false] _ _) hD
  refine lv_istore_n (lv' := [(3, .int (G b 2)), (0, .ref mo), (1, .int (nI b)), (2, .int x)]) hx hb dX4_ballast_54 rfl hl (by decide) rfl (fun ls hl => ?_)
  refine lv_aload_n hx hb dX4_ballast_55 rfl (lv_at hl 1 rfl) ?_
  refine lv_iload_n hx hb dX4_ballast_56 rfl (lv_at hl 2 rfl) ?_
  refine lv_iconst (v := 2) hx hb dX4_ballast_57 (by decide) ?_
  refine lv_iload_n hx hb dX4_ballast_58 rfl (lv_at hl 3 rfl) ?_
  refine q_callV (As := [.int (nI b), .int 2, .int x]) (rs := []) hC (c_X4_put l D T mo mw me mf mn nb nj 0 len G (va_up G b (upd (G b) 2 x)) b 2 x (G b) (by omega) (by omega) rfl rfl) q_no_st q_no_at (cwV 3 hts gX4_ballast_X4_put rfl rfl rfl (by decide +kernel) ⟨Nat.le_of_ble_eq_true rfl, Nat.le_of_ble_eq_true rfl⟩) (va_recv hK hP (ci := 5) (q0 := 0) rfl rfl) hK hP hD hS hA (q_mask [true, true, false] _) rfl hl.1 rfl (Nat.le_of_ble_eq_true rfl) dX4_ballast_59 ⟨(Nat.le_of_ble_eq_true rfl), (Nat.le_of_ble_eq_true rfl)⟩ (fun v9 C9 H locs hp hP hD hS => ?_)
  obtain ⟨rfl, rfl⟩ := hp
  have hP : va_P D vwCl [q_mc mo 0 nb nj len mw me mf mn, q_fa T mf (va_up G b (upd (G b) 2 x)), q_ia T mn 4 nu] H := q_P_perm (q_mrg_perm [true, true, false] _ _) hP
  have hD : va_D A [q_mc mo 0 nb nj len mw me mf mn, q_fa T mf (va_up G b (upd (G b) 2 x)), q_ia T mn 4 nu] := q_D_perm (q_mrg_perm [true, true, false] _ _) hD
  refine lv_iload_n hx hb dX4_ballast_62 rfl (lv_at hl 0 rfl) ?_
  exact q_iret hx hb hr hlocks hP hK hD hS (Nat.le_of_ble_eq_true rfl) (Nat.le_of_ble_eq_true rfl) dX4_ballast_63 ⟨rfl, rfl⟩
set_option maxHeartbeats 4000000 in
set_option maxRecDepth 100000 in
theorem c_X4_ballast_f1 (l : Launch) (D : va_G) (T : Nat → ClassId) (mo mw me mf mn nb nj : Nat) (th len : Int32) (G : Nat → Nat → Int32) (nu : Nat → Int32) (y x : Int32) (h1 : bIsIn y 0 (nI nb - 1) = 0) : q_M l D (q_ty T) yX4_ballast wsX4_ballast rmX4_ballast [.ref mo, .int y, .int x] [q_mc mo th nb nj len mw me mf mn, q_fa T mf G, q_ia T mn 4 nu] q_no (q_is (some (.int 0)) [q_mc mo 1 nb nj len mw me mf mn, q_fa T mf G, q_ia T mn 4 nu]) := by
  refine q_start (cc := cX4_ballast) (maxL := 4) (ret := (some .int)) (by decide) rfl (Nat.le_of_ble_eq_true rfl) ?_
  intro p e s m args below meth c A H locs hx hb hr hts hown hlocks hml hnm hP hK hD hS hA hG ls hl
  have hown : s.vm.findClass RX4 = some m.cls := hown
  have hC : CallFix p m c cX4_ballast 4 s args wsX4_ballast RX4 := ⟨hx, hb, hml, hown, hts⟩
  have iX4 : ∀ w ∈ wsX40, w ∈ wsX4_ballast := by decide +kernel
  have hl : lv_has ls 4 [(0, .ref mo), (1, .int y), (2, .int x)] := hl
  refine lv_aload_n hx hb dX4_ballast_0 rfl (lv_at hl 0 rfl) ?_
  refine lv_iconst (v := 0) hx hb dX4_ballast_1 (by decide) ?_
  refine va_put (D := D) (ci := 5) (v := .int 0) (ty := .int) (C := RX4) (T := TX4) (N := 8) hx hb hts iX4 tyX4 tyX4_ok nmX4 hown hK hP hD hS 0 rfl rfl 0 (by decide) (hts (.fieldLink RX4 26 "ToyRegattaModel" "thrown" "I") (by decide +kernel)) (fun _ h9 => h9) rfl (by decide +kernel) rfl rfl (Nat.le_of_ble_eq_true rfl) dX4_ballast_2 (fun H locs hP hD hS => ?_)
  have hP : va_P D vwCl [q_mc mo 0 nb nj len mw me mf mn, q_fa T mf G, q_ia T mn 4 nu] H := hP
  have hD : va_D A [q_mc mo 0 nb nj len mw me mf mn, q_fa T mf G, q_ia T mn 4 nu] := hD
  refine lv_aload_n hx hb dX4_ballast_5 rfl (lv_at hl 0 rfl) ?_
  refine lv_iload_n hx hb dX4_ballast_6 rfl (lv_at hl 1 rfl) ?_
  refine q_callV (As := [.int y]) (rs := []) hC (c_X4_isBoat l D T mo mw me mf mn nb nj 0 len y) q_no_st q_no_at (cwV 1 hts gX4_ballast_X4_isBoat rfl rfl rfl (by decide +kernel) ⟨Nat.le_of_ble_eq_true rfl, Nat.le_of_ble_eq_true rfl⟩) (va_recv hK hP (ci := 5) (q0 := 0) rfl rfl) hK hP hD hS hA (q_mask [true, false, false] _) rfl hl.1 rfl (Nat.le_of_ble_eq_true rfl) dX4_ballast_7 ⟨(Nat.le_of_ble_eq_true rfl), (Nat.le_of_ble_eq_true rfl)⟩ (fun v9 C9 H locs hp hP hD hS => ?_)
  obtain ⟨rfl, rfl⟩ := hp
  have hP : va_P D vwCl [q_mc mo 0 nb nj len mw me mf mn, q_fa T mf G, q_ia T mn 4 nu] H := q_P_perm (q_mrg_perm [true, false, false] _ _) hP
  have hD : va_D A [q_mc mo 0 nb nj len mw me mf mn, q_fa T mf G, q_ia T mn 4 nu] := q_D_perm (q_mrg_perm [true, false, false] _ _) hD
  refine lv_if_ne (tgt := 19) hx hb dX4_ballast_10 (by decide) (fun c_10 => absurd h1 c_10) (fun c_10 => ?_)
  refine lv_aload_n hx hb dX4_ballast_13 rfl (lv_at hl 0 rfl) ?_
  refine lv_iconst (v := 1) hx hb dX4_ballast_14 (by decide) ?_
  refine q_callV (As := [.int 1]) (rs := []) hC (c_X4_fail l D T mo mw me mf mn nb nj 0 len 1) q_no_st q_no_at (cwV 1 hts gX4_ballast_X4_fail rfl rfl rfl (by decide +kernel) ⟨Nat.le_of_ble_eq_true rfl, Nat.le_of_ble_eq_true rfl⟩) (va_recv hK hP (ci := 5) (q0 := 0) rfl rfl) hK hP hD hS hA (q_mask [true, false, false] _) rfl hl.1 rfl (Nat.le_of_ble_eq_true rfl) dX4_ballast_15 ⟨(Nat.le_of_ble_eq_true rfl), (Nat.le_of_ble_eq_true rfl)⟩ (fun v9 C9 H locs hp hP hD hS => ?_)
  obtain ⟨rfl, rfl⟩ := hp
  have hP : va_P D vwCl [q_mc mo 1 nb nj len mw me mf mn, q_fa T mf G, q_ia T mn 4 nu] H := q_P_perm (q_mrg_perm [true, false, false] _ _) hP
  have hD : va_D A [q_mc mo 1 nb nj len mw me mf mn, q_fa T mf G, q_ia T mn 4 nu] := q_D_perm (q_mrg_perm [true, false, false] _ _) hD
  exact q_iret hx hb hr hlocks hP hK hD hS (Nat.le_of_ble_eq_true rfl) (Nat.le_of_ble_eq_true rfl) dX4_ballast_18 ⟨rfl, rfl⟩
set_option maxHeartbeats 4000000 in
set_option maxRecDepth 100000 in
theorem c_X4_ballast_f2 (l : Launch) (D : va_G) (T : Nat → ClassId) (mo mw me mf mn nb nj : Nat) (th len : Int32) (G : Nat → Nat → Int32) (nu : Nat → Int32) (y x : Int32) (h1 : ¬ bIsIn y 0 (nI nb - 1) = 0) (h2 : bIsIn x 0 9 = 0) : q_M l D (q_ty T) yX4_ballast wsX4_ballast rmX4_ballast [.ref mo, .int y, .int x] [q_mc mo th nb nj len mw me mf mn, q_fa T mf G, q_ia T mn 4 nu] q_no (q_is (some (.int 0)) [q_mc mo 2 nb nj len mw me mf mn, q_fa T mf G, q_ia T mn 4 nu]) := by
  refine q_start (cc := cX4_ballast) (maxL := 4) (ret := (some .int)) (by decide) rfl (Nat.le_of_ble_eq_true rfl) ?_
  intro p e s m args below meth c A H locs hx hb hr hts hown hlocks hml hnm hP hK hD hS hA hG ls hl
  have hown : s.vm.findClass RX4 = some m.cls := hown
  have hC : CallFix p m c cX4_ballast 4 s args wsX4_ballast RX4 := ⟨hx, hb, hml, hown, hts⟩
  have iX4 : ∀ w ∈ wsX40, w ∈ wsX4_ballast := by decide +kernel
  have hl : lv_has ls 4 [(0, .ref mo), (1, .int y), (2, .int x)] := hl
  refine lv_aload_n hx hb dX4_ballast_0 rfl (lv_at hl 0 rfl) ?_
  refine lv_iconst (v := 0) hx hb dX4_ballast_1 (by decide) ?_
  refine va_put (D := D) (ci := 5) (v := .int 0) (ty := .int) (C := RX4) (T := TX4) (N := 8) hx hb hts iX4 tyX4 tyX4_ok nmX4 hown hK hP hD hS 0 rfl rfl 0 (by decide) (hts (.fieldLink RX4 26 "ToyRegattaModel" "thrown" "I") (by decide +kernel)) (fun _ h9 => h9) rfl (by decide +kernel) rfl rfl (Nat.le_of_ble_eq_true rfl) dX4_ballast_2 (fun H locs hP hD hS => ?_)
  have hP : va_P D vwCl [q_mc mo 0 nb nj len mw me mf mn, q_fa T mf G, q_ia T mn 4 nu] H := hP
  have hD : va_D A [q_mc mo 0 nb nj len mw me mf mn, q_fa T mf G, q_ia T mn 4 nu] := hD
  refine lv_aload_n hx hb dX4_ballast_5 rfl (lv_at hl 0 rfl) ?_
  refine lv_iload_n hx hb dX4_ballast_6 rfl (lv_at hl 1 rfl) ?_
  refine q_callV (As := [.int y]) (rs := []) hC (c_X4_isBoat l D T mo mw me mf mn nb nj 0 len y) q_no_st q_no_at (cwV 1 hts gX4_ballast_X4_isBoat rfl rfl rfl (by decide +kernel) ⟨Nat.le_of_ble_eq_true rfl, Nat.le_of_ble_eq_true rfl⟩) (va_recv hK hP (ci := 5) (q0 := 0) rfl rfl) hK hP hD hS hA (q_mask [true, false, false] _) rfl hl.1 rfl (Nat.le_of_ble_eq_true rfl) dX4_ballast_7 ⟨(Nat.le_of_ble_eq_true rfl), (Nat.le_of_ble_eq_true rfl)⟩ (fun v9 C9 H locs hp hP hD hS => ?_)
  obtain ⟨rfl, rfl⟩ := hp
  have hP : va_P D vwCl [q_mc mo 0 nb nj len mw me mf mn, q_fa T mf G, q_ia T mn 4 nu] H := q_P_perm (q_mrg_perm [true, false, false] _ _) hP
  have hD : va_D A [q_mc mo 0 nb nj len mw me mf mn, q_fa T mf G, q_ia T mn 4 nu] := q_D_perm (q_mrg_perm [true, false, false] _ _) hD
  refine lv_if_ne (tgt := 19) hx hb dX4_ballast_10 (by decide) (fun c_10 => ?_) (fun c_10 => absurd c_10 h1)
  refine lv_iload_n hx hb dX4_ballast_19 rfl (lv_at hl 2 rfl) ?_
  refine lv_iconst (v := 0) hx hb dX4_ballast_20 (by decide) ?_
  refine lv_bipush (v := 9) hx hb dX4_ballast_21 (by decide) ?_
  refine q_callS (As := [.int x, .int 0, .int 9]) (rs := []) hC (c_X4_isIn l D T x 0 9) q_no_st q_no_at (va_cwS 3 hts gX4_ballast_X4_isIn rfl rfl rfl (by decide +kernel) ⟨Nat.le_of_ble_eq_true rfl, Nat.le_of_ble_eq_true rfl⟩) hK hP hD hS hA (q_mask [false, false, false] _) rfl hl.1 rfl (Nat.le_of_ble_eq_true rfl) dX4_ballast_23 ⟨(Nat.le_of_ble_eq_true rfl), (Nat.le_of_ble_eq_true rfl)⟩ (fun v9 C9 H locs hp hP hD hS => ?_)
  obtain ⟨rfl, rfl⟩ := hp
  have hP : va_P D vwCl [q_mc mo 0 nb nj len mw me mf mn, q_fa T mf G, q_ia T mn 4 nu] H := q_P_perm (q_mrg_perm [false, false, false] _ _) hP
  have hD : va_D A [q_mc mo 0 nb nj len mw me mf mn, q_fa T mf G, q_ia T mn 4 nu] := q_D_perm (q_mrg_perm [false, false, false] _ _) hD
  refine lv_if_ne (tgt := 35) hx hb dX4_ballast_26 (by decide) (fun c_26 => absurd h2 c_26) (fun c_26 => ?_)
  refine lv_aload_n hx hb dX4_ballast_29 rfl (lv_at hl 0 rfl) ?_
  refine lv_iconst (v := 2) hx hb dX4_ballast_30 (by decide) ?_
  refine q_callV (As := [.int 2]) (rs := []) hC (c_X4_fail l D T mo mw me mf mn nb nj 0 len 2) q_no_st q_no_at (cwV 1 hts gX4_ballast_X4_fail rfl rfl rfl (by decide +kernel) ⟨Nat.le_of_ble_eq_true rfl, Nat.le_of_ble_eq_true rfl⟩) (va_recv hK hP (ci := 5) (q0 := 0) rfl rfl) hK hP hD hS hA (q_mask [true, false, false] _) rfl hl.1 rfl (Nat.le_of_ble_eq_true rfl) dX4_ballast_31 ⟨(Nat.le_of_ble_eq_true rfl), (Nat.le_of_ble_eq_true rfl)⟩ (fun v9 C9 H locs hp hP hD hS => ?_)
  obtain ⟨rfl, rfl⟩ := hp
  have hP : va_P D vwCl [q_mc mo 2 nb nj len mw me mf mn, q_fa T mf G, q_ia T mn 4 nu] H := q_P_perm (q_mrg_perm [true, false, false] _ _) hP
  have hD : va_D A [q_mc mo 2 nb nj len mw me mf mn, q_fa T mf G, q_ia T mn 4 nu] := q_D_perm (q_mrg_perm [true, false, false] _ _) hD
  exact q_iret hx hb hr hlocks hP hK hD hS (Nat.le_of_ble_eq_true rfl) (Nat.le_of_ble_eq_true rfl) dX4_ballast_34 ⟨rfl, rfl⟩
set_option maxHeartbeats 4000000 in
set_option maxRecDepth 100000 in
theorem c_X4_ballast_f3 (l : Launch) (D : va_G) (T : Nat → ClassId) (mo mw me mf mn nb nj : Nat) (th len : Int32) (G : Nat → Nat → Int32) (nu : Nat → Int32) (y x : Int32) (h1 : ¬ bIsIn y 0 (nI nb - 1) = 0) (h2 : ¬ bIsIn x 0 9 = 0) (h3 : ¬ bOn nu = 0) : q_M l D (q_ty T) yX4_ballast wsX4_ballast rmX4_ballast [.ref mo, .int y, .int x] [q_mc mo th nb nj len mw me mf mn, q_fa T mf G, q_ia T mn 4 nu] q_no (q_is (some (.int 0)) [q_mc mo 3 nb nj len mw me mf mn, q_fa T mf G, q_ia T mn 4 nu]) := by
  refine q_start (cc := cX4_ballast) (maxL := 4) (ret := (some .int)) (by decide) rfl (Nat.le_of_ble_eq_true rfl) ?_
  intro p e s m args below meth c A H locs hx hb hr hts hown hlocks hml hnm hP hK hD hS hA hG ls hl
  have hown : s.vm.findClass RX4 = some m.cls := hown
  have hC : CallFix p m c cX4_ballast 4 s args wsX4_ballast RX4 := ⟨hx, hb, hml, hown, hts⟩
  have iX4 : ∀ w ∈ wsX40, w ∈ wsX4_ballast := by decide +kernel
  have hl : lv_has ls 4 [(0, .ref mo), (1, .int y), (2, .int x)] := hl
  refine lv_aload_n hx hb dX4_ballast_0 rfl (lv_at hl 0 rfl) ?_
  refine lv_iconst (v := 0) hx hb dX4_ballast_1 (by decide) ?_
  refine va_put (D := D) (ci := 5) (v := .int 0) (ty := .int) (C := RX4) (T := TX4) (N := 8) hx hb hts iX4 tyX4 tyX4_ok nmX4 hown hK hP hD hS 0 rfl rfl 0 (by decide) (hts (.fieldLink RX4 26 "ToyRegattaModel" "thrown" "I") (by decide +kernel)) (fun _ h9 => h9) rfl (by decide +kernel) rfl rfl (Nat.le_of_ble_eq_true rfl) dX4_ballast_2 (fun H locs hP hD hS => ?_)
  have hP : va_P D vwCl [q_mc mo 0 nb nj len mw me mf mn, q_fa T mf G, q_ia T mn 4 nu] H := hP
  have hD : va_D A [q_mc mo 0 nb nj len mw me mf mn, q_fa T mf G, q_ia T mn 4 nu] := hD
  refine lv_aload_n hx hb dX4_ballast_5 rfl (lv_at hl 0 rfl) ?_
  refine lv_iload_n hx hb dX4_ballast_6 rfl (lv_at hl 1 rfl) ?_
  refine q_callV (As := [.int y]) (rs := []) hC (c_X4_isBoat l D T mo mw me mf mn nb nj 0 len y) q_no_st q_no_at (cwV 1 hts gX4_ballast_X4_isBoat rfl rfl rfl (by decide +kernel) ⟨Nat.le_of_ble_eq_true rfl, Nat.le_of_ble_eq_true rfl⟩) (va_recv hK hP (ci := 5) (q0 := 0) rfl rfl) hK hP hD hS hA (q_mask [true, false, false] _) rfl hl.1 rfl (Nat.le_of_ble_eq_true rfl) dX4_ballast_7 ⟨(Nat.le_of_ble_eq_true rfl), (Nat.le_of_ble_eq_true rfl)⟩ (fun v9 C9 H locs hp hP hD hS => ?_)
  obtain ⟨rfl, rfl⟩ := hp
  have hP : va_P D vwCl [q_mc mo 0 nb nj len mw me mf mn, q_fa T mf G, q_ia T mn 4 nu] H := q_P_perm (q_mrg_perm [true, false, false] _ _) hP
  have hD : va_D A [q_mc mo 0 nb nj len mw me mf mn, q_fa T mf G, q_ia T mn 4 nu] := q_D_perm (q_mrg_perm [true, false, false] _ _) hD
  refine lv_if_ne (tgt := 19) hx hb dX4_ballast_10 (by decide) (fun c_10 => ?_) (fun c_10 => absurd c_10 h1)
  refine lv_iload_n hx hb dX4_ballast_19 rfl (lv_at hl 2 rfl) ?_
  refine lv_iconst (v := 0) hx hb dX4_ballast_20 (by decide) ?_
  refine lv_bipush (v := 9) hx hb dX4_ballast_21 (by decide) ?_
  refine q_callS (As := [.int x, .int 0, .int 9]) (rs := []) hC (c_X4_isIn l D T x 0 9) q_no_st q_no_at (va_cwS 3 hts gX4_ballast_X4_isIn rfl rfl rfl (by decide +kernel) ⟨Nat.le_of_ble_eq_true rfl, Nat.le_of_ble_eq_true rfl⟩) hK hP hD hS hA (q_mask [false, false, false] _) rfl hl.1 rfl (Nat.le_of_ble_eq_true rfl) dX4_ballast_23 ⟨(Nat.le_of_ble_eq_true rfl), (Nat.le_of_ble_eq_true rfl)⟩ (fun v9 C9 H locs hp hP hD hS => ?_)
  obtain ⟨rfl, rfl⟩ := hp
  have hP : va_P D vwCl [q_mc mo 0 nb nj len mw me mf mn, q_fa T mf G, q_ia T mn 4 nu] H := q_P_perm (q_mrg_perm [false, false, false] _ _) hP
  have hD : va_D A [q_mc mo 0 nb nj len mw me mf mn, q_fa T mf G, q_ia T mn 4 nu] := q_D_perm (q_mrg_perm [false, false, false] _ _) hD
  refine lv_if_ne (tgt := 35) hx hb dX4_ballast_26 (by decide) (fun c_26 => ?_) (fun c_26 => absurd c_26 h2)
  refine lv_aload_n hx hb dX4_ballast_35 rfl (lv_at hl 0 rfl) ?_
  refine q_callV (As := []) (rs := []) hC (c_X4_isRace l D T mo mw me mf mn nb nj 0 len nu) q_no_st q_no_at (cwV 0 hts gX4_ballast_X4_isRace rfl rfl rfl (by decide +kernel) ⟨Nat.le_of_ble_eq_true rfl, Nat.le_of_ble_eq_true rfl⟩) (va_recv hK hP (ci := 5) (q0 := 0) rfl rfl) hK hP hD hS hA (q_mask [true, false, true] _) rfl hl.1 rfl (Nat.le_of_ble_eq_true rfl) dX4_ballast_36 ⟨(Nat.le_of_ble_eq_true rfl), (Nat.le_of_ble_eq_true rfl)⟩ (fun v9 C9 H locs hp hP hD hS => ?_)
  obtain ⟨rfl, rfl⟩ := hp
  have hP : va_P D vwCl [q_mc mo 0 nb nj len mw me mf mn, q_fa T mf G, q_ia T mn 4 nu] H := q_P_perm (q_mrg_perm [true, false, true] _ _) hP
  have hD : va_D A [q_mc mo 0 nb nj len mw me mf mn, q_fa T mf G, q_ia T mn 4 nu] := q_D_perm (q_mrg_perm [true, false, true] _ _) hD
  refine lv_if_eq (tgt := 48) hx hb dX4_ballast_39 (by decide) (fun c_39 => absurd c_39 h3) (fun c_39 => ?_)
  refine lv_aload_n hx hb dX4_ballast_42 rfl (lv_at hl 0 rfl) ?_
  refine lv_iconst (v := 3) hx hb dX4_ballast_43 (by decide) ?_
  refine q_callV (As := [.int 3]) (rs := []) hC (c_X4_fail l D T mo mw me mf mn nb nj 0 len 3) q_no_st q_no_at (cwV 1 hts gX4_ballast_X4_fail rfl rfl rfl (by decide +kernel) ⟨Nat.le_of_ble_eq_true rfl, Nat.le_of_ble_eq_true rfl⟩) (va_recv hK hP (ci := 5) (q0 := 0) rfl rfl) hK hP hD hS hA (q_mask [true, false, false] _) rfl hl.1 rfl (Nat.le_of_ble_eq_true rfl) dX4_ballast_44 ⟨(Nat.le_of_ble_eq_true rfl), (Nat.le_of_ble_eq_true rfl)⟩ (fun v9 C9 H locs hp hP hD hS => ?_)
  obtain ⟨rfl, rfl⟩ := hp
  have hP : va_P D vwCl [q_mc mo 3 nb nj len mw me mf mn, q_fa T mf G, q_ia T mn 4 nu] H := q_P_perm (q_mrg_perm [true, false, false] _ _) hP
  have hD : va_D A [q_mc mo 3 nb nj len mw me mf mn, q_fa T mf G, q_ia T mn 4 nu] := q_D_perm (q_mrg_perm [true, false, false] _ _) hD
  exact q_iret hx hb hr hlocks hP hK hD hS (Nat.le_of_ble_eq_true rfl) (Nat.le_of_ble_eq_true rfl) dX4_ballast_47 ⟨rfl, rfl⟩
abbrev rmX4_judge : Room := { frames := 1, cells := 0, slots := 0, locals := 22 }
set_option maxHeartbeats 4000000 in
set_option maxRecDepth 100000 in
theorem c_X4_judge_ok (l : Launch) (D : va_G) (T : Nat → ClassId) (mo mw me mf mn nb nj : Nat) (th len : Int32) (ey : Nat → Int32) (x : Int32) (h1 : ¬ bIsIn x 0 199 = 0) (hj : nj < 3) : q_M l D (q_ty T) yX4_judge wsX4_judge rmX4_judge [.ref mo, .int x] [q_mc mo th nb nj len mw me mf mn, q_ia T me 3 ey] q_no (q_is (some (.int (nI (nj + 1)))) [q_mc mo 0 nb (nj + 1) len mw me mf mn, q_ia T me 3 (upd ey nj x)]) := by
  refine q_start (cc := cX4_judge) (maxL := 2) (ret := (some .int)) (by decide) rfl (Nat.le_of_ble_eq_true rfl) ?_
  intro p e s m args below meth c A H locs hx hb hr hts hown hlocks hml hnm hP hK hD hS hA hG ls hl
  have hown : s.vm.findClass RX4 = some m.cls := hown
  have hC : CallFix p m c cX4_judge 2 s args wsX4_judge RX4 := ⟨hx, hb, hml, hown, hts⟩
  have iX4 : ∀ w ∈ wsX40, w ∈ wsX4_judge := by decide +kernel
  have hl : lv_has ls 2 [(0, .ref mo), (1, .int x)] := hl
  refine lv_aload_n hx hb dX4_judge_0 rfl (lv_at hl 0 rfl) ?_
  refine lv_iconst (v := 0) hx hb dX4_judge_1 (by decide) ?_
  refine va_put (D := D) (ci := 5) (v := .int 0) (ty := .int) (C := RX4) (T := TX4) (N := 8) hx hb hts iX4 tyX4 tyX4_ok nmX4 hown hK hP hD hS 0 rfl rfl 0 (by decide) (hts (.fieldLink RX4 26 "ToyRegattaModel" "thrown" "I") (by decide +kernel)) (fun _ h9 => h9) rfl (by decide +kernel) rfl rfl (Nat.le_of_ble_eq_true rfl) dX4_judge_2 (fun H locs hP hD hS => ?_)
  have hP : va_P D vwCl [q_mc mo 0 nb nj len mw me mf mn, q_ia T me 3 ey] H := hP
  have hD : va_D A [q_mc mo 0 nb nj len mw me mf mn, q_ia T me 3 ey] := hD
  refine lv_iload_n hx hb dX4_judge_5 rfl (lv_at hl 1 rfl) ?_
  refine lv_iconst (v := 0) hx hb dX4_judge_6 (by decide) ?_
  refine lv_sipush (v := 199) hx hb dX4_judge_7 (by decide) ?_
  refine q_callS (As := [.int x, .int 0, .int 199]) (rs := []) hC (c_X4_isIn l D T x 0 199) q_no_st q_no_at (va_cwS 3 hts gX4_judge_X4_isIn rfl rfl rfl (by decide +kernel) ⟨Nat.le_of_ble_eq_true rfl, Nat.le_of_ble_eq_true rfl⟩) hK hP hD hS hA (q_mask [false, false] _) rfl hl.1 rfl (Nat.le_of_ble_eq_true rfl) dX4_judge_10 ⟨(Nat.le_of_ble_eq_true rfl), (Nat.le_of_ble_eq_true rfl)⟩ (fun v9 C9 H locs hp hP hD hS => ?_)
  obtain ⟨rfl, rfl⟩ := hp
  have hP : va_P D vwCl [q_mc mo 0 nb nj len mw me mf mn, q_ia T me 3 ey] H := q_P_perm (q_mrg_perm [false, false] _ _) hP
  have hD : va_D A [q_mc mo 0 nb nj len mw me mf mn, q_ia T me 3 ey] := q_D_perm (q_mrg_perm [false, false] _ _) hD
  refine lv_if_ne (tgt := 22) hx hb dX4_judge_13 (by decide) (fun c_13 => ?_) (fun c_13 => absurd c_13 h1)
  refine lv_aload_n hx hb dX4_judge_22 rfl (lv_at hl 0 rfl) ?_
  refine va_get (D := D) (ci := 5) (v := .int (nI nj)) (C := RX4) (T := TX4) (N := 8) hx hb hts iX4 hown hK hP 0 rfl rfl 2 (by decide) (hts (.fieldLink RX4 62 "ToyRegattaModel" "judges" "I") (by decide +kernel)) (fun _ h9 => h9) rfl dX4_judge_23 ?_
  refine lv_iconst (v := 3) hx hb dX4_judge_26 (by decide) ?_
  refine lv_icmp_ne (tgt := 36) hx hb dX4_judge_27 (by decide) (fun c_27 => ?_) (fun c_27 => absurd c_27 (fun q => absurd ((nI_eq (b := 3) (by omega) (by omega)).mp q) (by omega)))
  refine lv_aload_n hx hb dX4_judge_36 rfl (lv_at hl 0 rfl) ?_
  refine va_get (D := D) (ci := 5) (v := .ref me) (C := RX4) (T := TX4) (N := 8) hx hb hts iX4 hown hK hP 0 rfl rfl 5 (by decide) (hts (.fieldLink RX4 17 "ToyRegattaModel" "eyes" "[I") (by decide +kernel)) (fun _ h9 => h9) rfl dX4_judge_37 ?_
  refine lv_aload_n hx hb dX4_judge_40 rfl (lv_at hl 0 rfl) ?_
  refine va_get (D := D) (ci := 5) (v := .int (nI nj)) (C := RX4) (T := TX4) (N := 8) hx hb hts iX4 hown hK hP 0 rfl rfl 2 (by decide) (hts (.fieldLink RX4 62 "ToyRegattaModel" "judges" "I") (by decide +kernel)) (fun _ h9 => h9) rfl dX4_judge_41 ?_
  refine lv_iload_n hx hb dX4_judge_44 rfl (lv_at hl 1 rfl) ?_
  refine va_iast (D := D) hx hb hK hP hD hS 1 0 rfl rfl (vp_in_nI (by omega) (by omega)) dX4_judge_45 (fun H locs hP hD hS => ?_)
  rw [show ((nI nj) : Int32).toNatClampNeg = nj from (pk_cl nj rfl (by omega))] at hP hD
  have hP : va_P D vwCl [q_mc mo 0 nb nj len mw me mf mn, q_ia T me 3 (upd ey nj x)] H := hP
  have hD : va_D A [q_mc mo 0 nb nj len mw me mf mn, q_ia T me 3 (upd ey nj x)] := hD
  refine lv_aload_n hx hb dX4_judge_46 rfl (lv_at hl 0 rfl) ?_
  refine lv_dup hx hb dX4_judge_47 rfl ?_
  refine va_get (D := D) (ci := 5) (v := .int (nI nj)) (C := RX4) (T := TX4) (N := 8) hx hb hts iX4 hown hK hP 0 rfl rfl 2 (by decide) (hts (.fieldLink RX4 62 "ToyRegattaModel" "judges" "I") (by decide +kernel)) (fun _ h9 => h9) rfl dX4_judge_48 ?_
  refine lv_iconst (v := 1) hx hb dX4_judge_51 (by decide) ?_
  refine lv_iadd hx hb dX4_judge_52 ?_
  refine W.eq (g2 := F0 m 53 ls [.int (nI (nj + 1)), .ref mo]) (by rw [← nI_1] <;> rfl) ?_
  refine va_put (D := D) (ci := 5) (v := .int (nI (nj + 1))) (ty := .int) (C := RX4) (T := TX4) (N := 8) hx hb hts iX4 tyX4 tyX4_ok nmX4 hown hK hP hD hS 0 rfl rfl 2 (by decide) (hts (.fieldLink RX4 62 "ToyRegattaModel" "judges" "I") (by decide +kernel)) (fun _ h9 => h9) rfl (by decide +kernel) rfl rfl (Nat.le_of_ble_eq_true rfl) dX4_judge_53 (fun H locs hP hD hS => ?_)
  have hP : va_P D vwCl [q_mc mo 0 nb (nj + 1) len mw me mf mn, q_ia T me 3 (upd ey nj x)] H := hP
  have hD : va_D A [q_mc mo 0 nb (nj + 1) len mw me mf mn, q_ia T me 3 (upd ey nj x)] := hD
  refine lv_aload_n hx hb dX4_judge_56 rfl (lv_at hl 0 rfl) ?_
  refine va_get (D := D) (ci := 5) (v := .int (nI (nj + 1))) (C := RX4) (T := TX4) (N := 8) hx hb hts iX4 hown hK hP 0 rfl rfl 2 (by decide) (hts (.fieldLink RX4 62 "ToyRegattaModel" "judges" "I") (by decide +kernel)) (fun _ h9 => h9) rfl dX4_judge_57 ?_
  exact q_iret hx hb hr hlocks hP hK hD hS (Nat.le_of_ble_eq_true rfl) (Nat.le_of_ble_eq_true rfl) dX4_judge_60 ⟨rfl, rfl⟩
set_option maxHeartbeats 4000000 in
set_option maxRecDepth 100000 in
theorem c_X4_judge_f1 (l : Launch) (D : va_G) (T : Nat → ClassId) (mo mw me mf mn nb nj : Nat) (th len : Int32) (ey : Nat → Int32) (x : Int32) (h1 : bIsIn x 0 199 = 0) : q_M l D (q_ty T) yX4_judge wsX4_judge rmX4_judge [.ref mo, .int x] [q_mc mo th nb nj len mw me mf mn, q_ia T me 3 ey] q_no (q_is (some (.int 0)) [q_mc mo 1 nb nj len mw me mf mn, q_ia T me 3 ey]) := by
  refine q_start (cc := cX4_judge) (maxL := 2) (ret := (some .int)) (by decide) rfl (Nat.le_of_ble_eq_true rfl) ?_
  intro p e s m args below meth c A H locs hx hb hr hts hown hlocks hml hnm hP hK hD hS hA hG ls hl
  have hown : s.vm.findClass RX4 = some m.cls := hown
  have hC : CallFix p m c cX4_judge 2 s args wsX4_judge RX4 := ⟨hx, hb, hml, hown, hts⟩
  have iX4 : ∀ w ∈ wsX40, w ∈ wsX4_judge := by decide +kernel
  have hl : lv_has ls 2 [(0, .ref mo), (1, .int x)] := hl
  refine lv_aload_n hx hb dX4_judge_0 rfl (lv_at hl 0 rfl) ?_
  refine lv_iconst (v := 0) hx hb dX4_judge_1 (by decide) ?_
  refine va_put (D := D) (ci := 5) (v := .int 0) (ty := .int) (C := RX4) (T := TX4) (N := 8) hx hb hts iX4 tyX4 tyX4_ok nmX4 hown hK hP hD hS 0 rfl rfl 0 (by decide) (hts (.fieldLink RX4 26 "ToyRegattaModel" "thrown" "I") (by decide +kernel)) (fun _ h9 => h9) rfl (by decide +kernel) rfl rfl (Nat.le_of_ble_eq_true rfl) dX4_judge_2 (fun H locs hP hD hS => ?_)
  have hP : va_P D vwCl [q_mc mo 0 nb nj len mw me mf mn, q_ia T me 3 ey] H := hP
  have hD : va_D A [q_mc mo 0 nb nj len mw me mf mn, q_ia T me 3 ey] := hD
  refine lv_iload_n hx hb dX4_judge_5 rfl (lv_at hl 1 rfl) ?_
  refine lv_iconst (v := 0) hx hb dX4_judge_6 (by decide) ?_
  refine lv_sipush (v := 199) hx hb dX4_judge_7 (by decide) ?_
  refine q_callS (As := [.int x, .int 0, .int 199]) (rs := []) hC (c_X4_isIn l D T x 0 199) q_no_st q_no_at (va_cwS 3 hts gX4_judge_X4_isIn rfl rfl rfl (by decide +kernel) ⟨Nat.le_of_ble_eq_true rfl, Nat.le_of_ble_eq_true rfl⟩) hK hP hD hS hA (q_mask [false, false] _) rfl hl.1 rfl (Nat.le_of_ble_eq_true rfl) dX4_judge_10 ⟨(Nat.le_of_ble_eq_true rfl), (Nat.le_of_ble_eq_true rfl)⟩ (fun v9 C9 H locs hp hP hD hS => ?_)
  obtain ⟨rfl, rfl⟩ := hp
  have hP : va_P D vwCl [q_mc mo 0 nb nj len mw me mf mn, q_ia T me 3 ey] H := q_P_perm (q_mrg_perm [false, false] _ _) hP
  have hD : va_D A [q_mc mo 0 nb nj len mw me mf mn, q_ia T me 3 ey] := q_D_perm (q_mrg_perm [false, false] _ _) hD
  refine lv_if_ne (tgt := 22) hx hb dX4_judge_13 (by decide) (fun c_13 => absurd h1 c_13) (fun c_13 => ?_)
  refine lv_aload_n hx hb dX4_judge_16 rfl (lv_at hl 0 rfl) ?_
  refine lv_iconst (v := 1) hx hb dX4_judge_17 (by decide) ?_
  refine q_callV (As := [.int 1]) (rs := []) hC (c_X4_fail l D T mo mw me mf mn nb nj 0 len 1) q_no_st q_no_at (cwV 1 hts gX4_judge_X4_fail rfl rfl rfl (by decide +kernel) ⟨Nat.le_of_ble_eq_true rfl, Nat.le_of_ble_eq_true rfl⟩) (va_recv hK hP (ci := 5) (q0 := 0) rfl rfl) hK hP hD hS hA (q_mask [true, false] _) rfl hl.1 rfl (Nat.le_of_ble_eq_true rfl) dX4_judge_18 ⟨(Nat.le_of_ble_eq_true rfl), (Nat.le_of_ble_eq_true rfl)⟩ (fun v9 C9 H locs hp hP hD hS => ?_)
  obtain ⟨rfl, rfl⟩ := hp
  have hP : va_P D vwCl [q_mc mo 1 nb nj len mw me mf mn, q_ia T me 3 ey] H := q_P_perm (q_mrg_perm [true, false] _ _) hP
  have hD : va_D A [q_mc mo 1 nb nj len mw me mf mn, q_ia T me 3 ey] := q_D_perm (q_mrg_perm [true, false] _ _) hD
  exact q_iret hx hb hr hlocks hP hK hD hS (Nat.le_of_ble_eq_true rfl) (Nat.le_of_ble_eq_true rfl) dX4_judge_21 ⟨rfl, rfl⟩
set_option maxHeartbeats 4000000 in
set_option maxRecDepth 100000 in
theorem c_X4_judge_f2 (l : Launch) (D : va_G) (T : Nat → ClassId) (mo mw me mf mn nb nj : Nat) (th len : Int32) (ey : Nat → Int32) (x : Int32) (h1 : ¬ bIsIn x 0 199 = 0) (hj : nI nj = 3) : q_M l D (q_ty T) yX4_judge wsX4_judge rmX4_judge [.ref mo, .int x] [q_mc mo th nb nj len mw me mf mn, q_ia T me 3 ey] q_no (q_is (some (.int 0)) [q_mc mo 2 nb nj len mw me mf mn, q_ia T me 3 ey]) := by
  refine q_start (cc := cX4_judge) (maxL := 2) (ret := (some .int)) (by decide) rfl (Nat.le_of_ble_eq_true rfl) ?_
  intro p e s m args below meth c A H locs hx hb hr hts hown hlocks hml hnm hP hK hD hS hA hG ls hl
  have hown : s.vm.findClass RX4 = some m.cls := hown
  have hC : CallFix p m c cX4_judge 2 s args wsX4_judge RX4 := ⟨hx, hb, hml, hown, hts⟩
  have iX4 : ∀ w ∈ wsX40, w ∈ wsX4_judge := by decide +kernel
  have hl : lv_has ls 2 [(0, .ref mo), (1, .int x)] := hl
  refine lv_aload_n hx hb dX4_judge_0 rfl (lv_at hl 0 rfl) ?_
  refine lv_iconst (v := 0) hx hb dX4_judge_1 (by decide) ?_
  refine va_put (D := D) (ci := 5) (v := .int 0) (ty := .int) (C := RX4) (T := TX4) (N := 8) hx hb hts iX4 tyX4 tyX4_ok nmX4 hown hK hP hD hS 0 rfl rfl 0 (by decide) (hts (.fieldLink RX4 26 "ToyRegattaModel" "thrown" "I") (by decide +kernel)) (fun _ h9 => h9) rfl (by decide +kernel) rfl rfl (Nat.le_of_ble_eq_true rfl) dX4_judge_2 (fun H locs hP hD hS => ?_)
  have hP : va_P D vwCl [q_mc mo 0 nb nj len mw me mf mn, q_ia T me 3 ey] H := hP
  have hD : va_D A [q_mc mo 0 nb nj len mw me mf mn, q_ia T me 3 ey] := hD
  refine lv_iload_n hx hb dX4_judge_5 rfl (lv_at hl 1 rfl) ?_
  refine lv_iconst (v := 0) hx hb dX4_judge_6 (by decide) ?_
  refine lv_sipush (v := 199) hx hb dX4_judge_7 (by decide) ?_
  refine q_callS (As := [.int x, .int 0, .int 199]) (rs := []) hC (c_X4_isIn l D T x 0 199) q_no_st q_no_at (va_cwS 3 hts gX4_judge_X4_isIn rfl rfl rfl (by decide +kernel) ⟨Nat.le_of_ble_eq_true rfl, Nat.le_of_ble_eq_true rfl⟩) hK hP hD hS hA (q_mask [false, false] _) rfl hl.1 rfl (Nat.le_of_ble_eq_true rfl) dX4_judge_10 ⟨(Nat.le_of_ble_eq_true rfl), (Nat.le_of_ble_eq_true rfl)⟩ (fun v9 C9 H locs hp hP hD hS => ?_)
  obtain ⟨rfl, rfl⟩ := hp
  have hP : va_P D vwCl [q_mc mo 0 nb nj len mw me mf mn, q_ia T me 3 ey] H := q_P_perm (q_mrg_perm [false, false] _ _) hP
  have hD : va_D A [q_mc mo 0 nb nj len mw me mf mn, q_ia T me 3 ey] := q_D_perm (q_mrg_perm [false, false] _ _) hD
  refine lv_if_ne (tgt := 22) hx hb dX4_judge_13 (by decide) (fun c_13 => ?_) (fun c_13 => absurd c_13 h1)
  refine lv_aload_n hx hb dX4_judge_22 rfl (lv_at hl 0 rfl) ?_
  refine va_get (D := D) (ci := 5) (v := .int (nI nj)) (C := RX4) (T := TX4) (N := 8) hx hb hts iX4 hown hK hP 0 rfl rfl 2 (by decide) (hts (.fieldLink RX4 62 "ToyRegattaModel" "judges" "I") (by decide +kernel)) (fun _ h9 => h9) rfl dX4_judge_23 ?_
  refine lv_iconst (v := 3) hx hb dX4_judge_26 (by decide) ?_
  refine lv_icmp_ne (tgt := 36) hx hb dX4_judge_27 (by decide) (fun c_27 => absurd hj c_27) (fun c_27 => ?_)
  refine lv_aload_n hx hb dX4_judge_30 rfl (lv_at hl 0 rfl) ?_
  refine lv_iconst (v := 2) hx hb dX4_judge_31 (by decide) ?_
  refine q_callV (As := [.int 2]) (rs := []) hC (c_X4_fail l D T mo mw me mf mn nb nj 0 len 2) q_no_st q_no_at (cwV 1 hts gX4_judge_X4_fail rfl rfl rfl (by decide +kernel) ⟨Nat.le_of_ble_eq_true rfl, Nat.le_of_ble_eq_true rfl⟩) (va_recv hK hP (ci := 5) (q0 := 0) rfl rfl) hK hP hD hS hA (q_mask [true, false] _) rfl hl.1 rfl (Nat.le_of_ble_eq_true rfl) dX4_judge_32 ⟨(Nat.le_of_ble_eq_true rfl), (Nat.le_of_ble_eq_true rfl)⟩ (fun v9 C9 H locs hp hP hD hS => ?_)
  obtain ⟨rfl, rfl⟩ := hp
  have hP : va_P D vwCl [q_mc mo 2 nb nj len mw me mf mn, q_ia T me 3 ey] H := q_P_perm (q_mrg_perm [true, false] _ _) hP
  have hD : va_D A [q_mc mo 2 nb nj len mw me mf mn, q_ia T me 3 ey] := q_D_perm (q_mrg_perm [true, false] _ _) hD
  exact q_iret hx hb hr hlocks hP hK hD hS (Nat.le_of_ble_eq_true rfl) (Nat.le_of_ble_eq_true rfl) dX4_judge_35 ⟨rfl, rfl⟩
abbrev rmX4_ready_x : Room := { frames := 1, cells := 0, slots := 0, locals := 22 }
abbrev rmX4_start : Room := { frames := 3, cells := 0, slots := 0, locals := 65 }
set_option maxHeartbeats 4000000 in
set_option maxRecDepth 100000 in
theorem c_X4_start_ok (l : Launch) (D : va_G) (T : Nat → ClassId) (mo mw me mf mn nb nj : Nat) (th len : Int32) (G : Nat → Nat → Int32) (nu : Nat → Int32) (hn : nb ≤ 8) (h1 : bOn nu = 0) (h2 : ¬ q_sum (rRdy G) nb = 0) : q_M l D (q_ty T) yX4_start wsX4_start rmX4_start [.ref mo] [q_mc mo th nb nj len mw me mf mn, q_fa T mf G, q_ia T mn 4 nu] q_no (q_is (some (.int (q_sum (dSt (q_upto nb (rEnters G) G) 1) nb))) [q_mc mo 0 nb nj len mw me mf mn, q_fa T mf (q_upto nb (rEnters G) G), q_ia T mn 4 (rBegU (upd nu 1 (nu 1 + 1)))]) := by
  refine q_start (cc := cX4_start) (maxL := 1) (ret := (some .int)) (by decide) rfl (Nat.le_of_ble_eq_true rfl) ?_
  intro p e s m args below meth c A H locs hx hb hr hts hown hlocks hml hnm hP hK hD hS hA hG ls hl
  have hown : s.vm.findClass RX4 = some m.cls := hown
  have hC : CallFix p m c cX4_start 1 s args wsX4_start RX4 := ⟨hx, hb, hml, hown, hts⟩
  have iX4 : ∀ w ∈ wsX40, w ∈ wsX4_start := by decide +kernel
  have hl : lv_has ls 1 [(0, .ref mo)] := hl
  refine lv_aload_n hx hb dX4_start_0 rfl (lv_at hl 0 rfl) ?_
  refine lv_iconst (v := 0) hx hb dX4_start_1 (by decide) ?_
  refine va_put (D := D) (ci := 5) (v := .int 0) (ty := .int) (C := RX4) (T := TX4) (N := 8) hx hb hts iX4 tyX4 tyX4_ok nmX4 hown hK hP hD hS 0 rfl rfl 0 (by decide) (hts (.fieldLink RX4 26 "ToyRegattaModel" "thrown" "I") (by decide +kernel)) (fun _ h9 => h9) rfl (by decide +kernel) rfl rfl (Nat.le_of_ble_eq_true rfl) dX4_start_2 (fun H locs hP hD hS => ?_)
  have hP : va_P D vwCl [q_mc mo 0 nb nj len mw me mf mn, q_fa T mf G, q_ia T mn 4 nu] H := hP
  have hD : va_D A [q_mc mo 0 nb nj len mw me mf mn, q_fa T mf G, q_ia T mn 4 nu] := hD
  refine lv_aload_n hx hb dX4_start_5 rfl (lv_at hl 0 rfl) ?_
  refine q_callV (As := []) (rs := []) hC (c_X4_isRace l D T mo mw me mf mn nb nj 0 len nu) q_no_st q_no_at (cwV 0 hts gX4_start_X4_isRace rfl rfl rfl (by decide +kernel) ⟨Nat.le_of_ble_eq_true rfl, Nat.le_of_ble_eq_true rfl⟩) (va_recv hK hP (ci := 5) (q0 := 0) rfl rfl) hK hP hD hS hA (q_mask [true, false, true] _) rfl hl.1 rfl (Nat.le_of_ble_eq_true rfl) dX4_start_6 ⟨(Nat.le_of_ble_eq_true rfl), (Nat.le_of_ble_eq_true rfl)⟩ (fun v9 C9 H locs hp hP hD hS => ?_)
  obtain ⟨rfl, rfl⟩ := hp
  have hP : va_P D vwCl [q_mc mo 0 nb nj len mw me mf mn, q_fa T mf G, q_ia T mn 4 nu] H := q_P_perm (q_mrg_perm [true, false, true] _ _) hP
  have hD : va_D A [q_mc mo 0 nb nj len mw me mf mn, q_fa T mf G, q_ia T mn 4 nu] := q_D_perm (q_mrg_perm [true, false, true] _ _) hD
  refine lv_if_ne (tgt := 19) hx hb dX4_start_9 (by decide) (fun c_9 => absurd h1 c_9) (fun c_9 => ?_)
  refine lv_aload_n hx hb dX4_start_12 rfl (lv_at hl 0 rfl) ?_
  refine q_callV (As := []) (rs := []) hC (c_X4_ready l D T mo mw me mf mn nb nj 0 len G hn) q_no_st q_no_at (cwV 0 hts gX4_start_X4_ready rfl rfl rfl (by decide +kernel) ⟨Nat.le_of_ble_eq_true rfl, Nat.le_of_ble_eq_true rfl⟩) (va_recv hK hP (ci := 5) (q0 := 0) rfl rfl) hK hP hD hS hA (q_mask [true, true, false] _) rfl hl.1 rfl (Nat.le_of_ble_eq_true rfl) dX4_start_13 ⟨(Nat.le_of_ble_eq_true rfl), (Nat.le_of_ble_eq_true rfl)⟩ (fun v9 C9 H locs hp hP hD hS => ?_)
  obtain ⟨rfl, rfl⟩ := hp
  have hP : va_P D vwCl [q_mc mo 0 nb nj len mw me mf mn, q_fa T mf G, q_ia T mn 4 nu] H := q_P_perm (q_mrg_perm [true, true, false] _ _) hP
  have hD : va_D A [q_mc mo 0 nb nj len mw me mf mn, q_fa T mf G, q_ia T mn 4 nu] := q_D_perm (q_mrg_perm [true, true, false] _ _) hD
  refine lv_if_ne (tgt := 25) hx hb dX4_start_16 (by decide) (fun c_16 => ?_) (fun c_16 => absurd c_16 h2)
  refine lv_aload_n hx hb dX4_start_25 rfl (lv_at hl 0 rfl) ?_
  refine va_get (D := D) (ci := 5) (v := .ref mn) (C := RX4) (T := TX4) (N := 8) hx hb hts iX4 hown hK hP 0 rfl rfl 7 (by decide) (hts (.fieldLink RX4 23 "ToyRegattaModel" "numbers" "[I") (by decide +kernel)) (fun _ h9 => h9) rfl dX4_start_26 ?_
  refine lv_iconst (v := 1) hx hb dX4_start_29 (by decide) ?_
  refine lv_dup2_11 hx hb dX4_start_30 rfl rfl ?_
  refine va_iald (D := D) hx hb hK hP 2 0 rfl rfl (by unfold vp_in; decide) dX4_start_31 ?_
  rw [show (1 : Int32).toNatClampNeg = 1 from (by decide)]
  refine lv_iconst (v := 1) hx hb dX4_start_32 (by decide) ?_
  refine lv_iadd hx hb dX4_start_33 ?_
  refine va_iast (D := D) hx hb hK hP hD hS 2 0 rfl rfl (by unfold vp_in; decide) dX4_start_34 (fun H locs hP hD hS => ?_)
  rw [show (1 : Int32).toNatClampNeg = 1 from (by decide)] at hP hD
  have hP : va_P D vwCl [q_mc mo 0 nb nj len mw me mf mn, q_fa T mf G, q_ia T mn 4 (upd nu 1 ((nu 1) + 1))] H := hP
  have hD : va_D A [q_mc mo 0 nb nj len mw me mf mn, q_fa T mf G, q_ia T mn 4 (upd nu 1 ((nu 1) + 1))] := hD
  refine lv_aload_n hx hb dX4_start_35 rfl (lv_at hl 0 rfl) ?_
  refine q_callV (As := []) (rs := []) hC (c_X4_begin l D T mo mw me mf mn nb nj 0 len G (upd nu 1 ((nu 1) + 1)) hn) q_no_st q_no_at (cwV 0 hts gX4_start_X4_begin rfl rfl rfl (by decide +kernel) ⟨Nat.le_of_ble_eq_true rfl, Nat.le_of_ble_eq_true rfl⟩) (va_recv hK hP (ci := 5) (q0 := 0) rfl rfl) hK hP hD hS hA (q_mask [true, true, true] _) rfl hl.1 rfl (Nat.le_of_ble_eq_true rfl) dX4_start_36 ⟨(Nat.le_of_ble_eq_true rfl), (Nat.le_of_ble_eq_true rfl)⟩ (fun v9 C9 H locs hp hP hD hS => ?_)
  obtain ⟨rfl, rfl⟩ := hp
  have hP : va_P D vwCl [q_mc mo 0 nb nj len mw me mf mn, q_fa T mf (q_upto nb (rEnters G) G), q_ia T mn 4 (rBegU (upd nu 1 ((nu 1) + 1)))] H := q_P_perm (q_mrg_perm [true, true, true] _ _) hP
  have hD : va_D A [q_mc mo 0 nb nj len mw me mf mn, q_fa T mf (q_upto nb (rEnters G) G), q_ia T mn 4 (rBegU (upd nu 1 ((nu 1) + 1)))] := q_D_perm (q_mrg_perm [true, true, true] _ _) hD
  exact q_iret hx hb hr hlocks hP hK hD hS (Nat.le_of_ble_eq_true rfl) (Nat.le_of_ble_eq_true rfl) dX4_start_39 ⟨rfl, rfl⟩
set_option maxHeartbeats 4000000 in
set_option maxRecDepth 100000 in
theorem c_X4_start_f1 (l : Launch) (D : va_G) (T : Nat → ClassId) (mo mw me mf mn nb nj : Nat) (th len : Int32) (G : Nat → Nat → Int32) (nu : Nat → Int32) (hn : nb ≤ 8) (h1 : ¬ bOn nu = 0) : q_M l D (q_ty T) yX4_start wsX4_start rmX4_start [.ref mo] [q_mc mo th nb nj len mw me mf mn, q_fa T mf G, q_ia T mn 4 nu] q_no (q_is (some (.int 0)) [q_mc mo 1 nb nj len mw me mf mn, q_fa T mf G, q_ia T mn 4 nu]) := by
  refine q_start (cc := cX4_start) (maxL := 1) (ret := (some .int)) (by decide) rfl (Nat.le_of_ble_eq_true rfl) ?_
  intro p e s m args below meth c A H locs hx hb hr hts hown hlocks hml hnm hP hK hD hS hA hG ls hl
  have hown : s.vm.findClass RX4 = some m.cls := hown
  have hC : CallFix p m c cX4_start 1 s args wsX4_start RX4 := ⟨hx, hb, hml, hown, hts⟩
  have iX4 : ∀ w ∈ wsX40, w ∈ wsX4_start := by decide +kernel
  have hl : lv_has ls 1 [(0, .ref mo)] := hl
  refine lv_aload_n hx hb dX4_start_0 rfl (lv_at hl 0 rfl) ?_
  refine lv_iconst (v := 0) hx hb dX4_start_1 (by decide) ?_
  refine va_put (D := D) (ci := 5) (v := .int 0) (ty := .int) (C := RX4) (T := TX4) (N := 8) hx hb hts iX4 tyX4 tyX4_ok nmX4 hown hK hP hD hS 0 rfl rfl 0 (by decide) (hts (.fieldLink RX4 26 "ToyRegattaModel" "thrown" "I") (by decide +kernel)) (fun _ h9 => h9) rfl (by decide +kernel) rfl rfl (Nat.le_of_ble_eq_true rfl) dX4_start_2 (fun H locs hP hD hS => ?_)
  have hP : va_P D vwCl [q_mc mo 0 nb nj len mw me mf mn, q_fa T mf G, q_ia T mn 4 nu] H := hP
  have hD : va_D A [q_mc mo 0 nb nj len mw me mf mn, q_fa T mf G, q_ia T mn 4 nu] := hD
  refine lv_aload_n hx hb dX4_start_5 rfl (lv_at hl 0 rfl) ?_
  refine q_callV (As := []) (rs := []) hC (c_X4_isRace l D T mo mw me mf mn nb nj 0 len nu) q_no_st q_no_at (cwV 0 hts gX4_start_X4_isRace rfl rfl rfl (by decide +kernel) ⟨Nat.le_of_ble_eq_true rfl, Nat.le_of_ble_eq_true rfl⟩) (va_recv hK hP (ci := 5) (q0 := 0) rfl rfl) hK hP hD hS hA (q_mask [true, false, true] _) rfl hl.1 rfl (Nat.le_of_ble_eq_true rfl) dX4_start_6 ⟨(Nat.le_of_ble_eq_true rfl), (Nat.le_of_ble_eq_true rfl)⟩ (fun v9 C9 H locs hp hP hD hS => ?_)
  obtain ⟨rfl, rfl⟩ := hp
  have hP : va_P D vwCl [q_mc mo 0 nb nj len mw me mf mn, q_fa T mf G, q_ia T mn 4 nu] H := q_P_perm (q_mrg_perm [true, false, true] _ _) hP
  have hD : va_D A [q_mc mo 0 nb nj len mw me mf mn, q_fa T mf G, q_ia T mn 4 nu] := q_D_perm (q_mrg_perm [true, false, true] _ _) hD
  refine lv_if_ne (tgt := 19) hx hb dX4_start_9 (by decide) (fun c_9 => ?_) (fun c_9 => absurd c_9 h1)
  refine lv_aload_n hx hb dX4_start_19 rfl (lv_at hl 0 rfl) ?_
  refine lv_iconst (v := 1) hx hb dX4_start_20 (by decide) ?_
  refine q_callV (As := [.int 1]) (rs := []) hC (c_X4_fail l D T mo mw me mf mn nb nj 0 len 1) q_no_st q_no_at (cwV 1 hts gX4_start_X4_fail rfl rfl rfl (by decide +kernel) ⟨Nat.le_of_ble_eq_true rfl, Nat.le_of_ble_eq_true rfl⟩) (va_recv hK hP (ci := 5) (q0 := 0) rfl rfl) hK hP hD hS hA (q_mask [true, false, false] _) rfl hl.1 rfl (Nat.le_of_ble_eq_true rfl) dX4_start_21 ⟨(Nat.le_of_ble_eq_true rfl), (Nat.le_of_ble_eq_true rfl)⟩ (fun v9 C9 H locs hp hP hD hS => ?_)
  obtain ⟨rfl, rfl⟩ := hp
  have hP : va_P D vwCl [q_mc mo 1 nb nj len mw me mf mn, q_fa T mf G, q_ia T mn 4 nu] H := q_P_perm (q_mrg_perm [true, false, false] _ _) hP
  have hD : va_D A [q_mc mo 1 nb nj len mw me mf mn, q_fa T mf G, q_ia T mn 4 nu] := q_D_perm (q_mrg_perm [true, false, false] _ _) hD
  exact q_iret hx hb hr hlocks hP hK hD hS (Nat.le_of_ble_eq_true rfl) (Nat.le_of_ble_eq_true rfl) dX4_start_24 ⟨rfl, rfl⟩
set_option maxHeartbeats 4000000 in
set_option maxRecDepth 100000 in
theorem c_X4_start_f2 (l : Launch) (D : va_G) (T : Nat → ClassId) (mo mw me mf mn nb nj : Nat) (th len : Int32) (G : Nat → Nat → Int32) (nu : Nat → Int32) (hn : nb ≤ 8) (h1 : bOn nu = 0) (h2 : q_sum (rRdy G) nb = 0) : q_M l D (q_ty T) yX4_start wsX4_start rmX4_start [.ref mo] [q_mc mo th nb nj len mw me mf mn, q_fa T mf G, q_ia T mn 4 nu] q_no (q_is (some (.int 0)) [q_mc mo 1 nb nj len mw me mf mn, q_fa T mf G, q_ia T mn 4 nu]) := by
  refine q_start (cc := cX4_start) (maxL := 1) (ret := (some .int)) (by decide) rfl (Nat.le_of_ble_eq_true rfl) ?_
  intro p e s m args below meth c A H locs hx hb hr hts hown hlocks hml hnm hP hK hD hS hA hG ls hl
  have hown : s.vm.findClass RX4 = some m.cls := hown
  have hC : CallFix p m c cX4_start 1 s args wsX4_start RX4 := ⟨hx, hb, hml, hown, hts⟩
  have iX4 : ∀ w ∈ wsX40, w ∈ wsX4_start := by decide +kernel
  have hl : lv_has ls 1 [(0, .ref mo)] := hl
  refine lv_aload_n hx hb dX4_start_0 rfl (lv_at hl 0 rfl) ?_
  refine lv_iconst (v := 0) hx hb dX4_start_1 (by decide) ?_
  refine va_put (D := D) (ci := 5) (v := .int 0) (ty := .int) (C := RX4) (T := TX4) (N := 8) hx hb hts iX4 tyX4 tyX4_ok nmX4 hown hK hP hD hS 0 rfl rfl 0 (by decide) (hts (.fieldLink RX4 26 "ToyRegattaModel" "thrown" "I") (by decide +kernel)) (fun _ h9 => h9) rfl (by decide +kernel) rfl rfl (Nat.le_of_ble_eq_true rfl) dX4_start_2 (fun H locs hP hD hS => ?_)
  have hP : va_P D vwCl [q_mc mo 0 nb nj len mw me mf mn, q_fa T mf G, q_ia T mn 4 nu] H := hP
  have hD : va_D A [q_mc mo 0 nb nj len mw me mf mn, q_fa T mf G, q_ia T mn 4 nu] := hD
  refine lv_aload_n hx hb dX4_start_5 rfl (lv_at hl 0 rfl) ?_
  refine q_callV (As := []) (rs := []) hC (c_X4_isRace l D T mo mw me mf mn nb nj 0 len nu) q_no_st q_no_at (cwV 0 hts gX4_start_X4_isRace rfl rfl rfl (by decide +kernel) ⟨Nat.le_of_ble_eq_true rfl, Nat.le_of_ble_eq_true rfl⟩) (va_recv hK hP (ci := 5) (q0 := 0) rfl rfl) hK hP hD hS hA (q_mask [true, false, true] _) rfl hl.1 rfl (Nat.le_of_ble_eq_true rfl) dX4_start_6 ⟨(Nat.le_of_ble_eq_true rfl), (Nat.le_of_ble_eq_true rfl)⟩ (fun v9 C9 H locs hp hP hD hS => ?_)
  obtain ⟨rfl, rfl⟩ := hp
  have hP : va_P D vwCl [q_mc mo 0 nb nj len mw me mf mn, q_fa T mf G, q_ia T mn 4 nu] H := q_P_perm (q_mrg_perm [true, false, true] _ _) hP
  have hD : va_D A [q_mc mo 0 nb nj len mw me mf mn, q_fa T mf G, q_ia T mn 4 nu] := q_D_perm (q_mrg_perm [true, false, true] _ _) hD
  refine lv_if_ne (tgt := 19) hx hb dX4_start_9 (by decide) (fun c_9 => absurd h1 c_9) (fun c_9 => ?_)
  refine lv_aload_n hx hb dX4_start_12 rfl (lv_at hl 0 rfl) ?_
  refine q_callV (As := []) (rs := []) hC (c_X4_ready l D T mo mw me mf mn nb nj 0 len G hn) q_no_st q_no_at (cwV 0 hts gX4_start_X4_ready rfl rfl rfl (by decide +kernel) ⟨Nat.le_of_ble_eq_true rfl, Nat.le_of_ble_eq_true rfl⟩) (va_recv hK hP (ci := 5) (q0 := 0) rfl rfl) hK hP hD hS hA (q_mask [true, true, false] _) rfl hl.1 rfl (Nat.le_of_ble_eq_true rfl) dX4_start_13 ⟨(Nat.le_of_ble_eq_true rfl), (Nat.le_of_ble_eq_true rfl)⟩ (fun v9 C9 H locs hp hP hD hS => ?_)
  obtain ⟨rfl, rfl⟩ := hp
  have hP : va_P D vwCl [q_mc mo 0 nb nj len mw me mf mn, q_fa T mf G, q_ia T mn 4 nu] H := q_P_perm (q_mrg_perm [true, true, false] _ _) hP
  have hD : va_D A [q_mc mo 0 nb nj len mw me mf mn, q_fa T mf G, q_ia T mn 4 nu] := q_D_perm (q_mrg_perm [true, true, false] _ _) hD
  refine lv_if_ne (tgt := 25) hx hb dX4_start_16 (by decide) (fun c_16 => absurd h2 c_16) (fun c_16 => ?_)
  refine lv_aload_n hx hb dX4_start_19 rfl (lv_at hl 0 rfl) ?_
  refine lv_iconst (v := 1) hx hb dX4_start_20 (by decide) ?_
  refine q_callV (As := [.int 1]) (rs := []) hC (c_X4_fail l D T mo mw me mf mn nb nj 0 len 1) q_no_st q_no_at (cwV 1 hts gX4_start_X4_fail rfl rfl rfl (by decide +kernel) ⟨Nat.le_of_ble_eq_true rfl, Nat.le_of_ble_eq_true rfl⟩) (va_recv hK hP (ci := 5) (q0 := 0) rfl rfl) hK hP hD hS hA (q_mask [true, false, false] _) rfl hl.1 rfl (Nat.le_of_ble_eq_true rfl) dX4_start_21 ⟨(Nat.le_of_ble_eq_true rfl), (Nat.le_of_ble_eq_true rfl)⟩ (fun v9 C9 H locs hp hP hD hS => ?_)
  obtain ⟨rfl, rfl⟩ := hp
  have hP : va_P D vwCl [q_mc mo 1 nb nj len mw me mf mn, q_fa T mf G, q_ia T mn 4 nu] H := q_P_perm (q_mrg_perm [true, false, false] _ _) hP
  have hD : va_D A [q_mc mo 1 nb nj len mw me mf mn, q_fa T mf G, q_ia T mn 4 nu] := q_D_perm (q_mrg_perm [true, false, false] _ _) hD
  exact q_iret hx hb hr hlocks hP hK hD hS (Nat.le_of_ble_eq_true rfl) (Nat.le_of_ble_eq_true rfl) dX4_start_24 ⟨rfl, rfl⟩
abbrev rmX4_told : Room := { frames := 4, cells := 0, slots := 0, locals := 88 }
set_option maxHeartbeats 4000000 in
set_option maxRecDepth 100000 in
theorem c_X4_told_ok (l : Launch) (D : va_G) (T : Nat → ClassId) (mo mw me mf mn nb nj : Nat) (th len : Int32) (G : Nat → Nat → Int32) (wf nu : Nat → Int32) (mk : Nat) (hm : nu 0 = nI mk) (hmk : mk < 2 ^ 31) (b k : Nat) (hb8 : b < nb) (hn : nb ≤ 8) (hk : k < 7) (hz : 0 < 2 + G b 0 + G b 2 / 2) : q_M l D (q_ty T) yX4_told wsX4_told rmX4_told [.ref mo, .int (nI b), .int (nI k)] [q_mc mo th nb nj len mw me mf mn, q_ia T mw 10 wf, q_fa T mf G, q_ia T mn 4 nu] q_no (q_is (some (.int (qTold G b k (wf (mk % 10))))) [q_mc mo 0 nb nj len mw me mf mn, q_ia T mw 10 wf, q_fa T mf G, q_ia T mn 4 nu]) := by
  refine q_start (cc := cX4_told) (maxL := 3) (ret := (some .int)) (by decide) rfl (Nat.le_of_ble_eq_true rfl) ?_
  intro p e s m args below meth c A H locs hx hb hr hts hown hlocks hml hnm hP hK hD hS hA hG ls hl
  have hown : s.vm.findClass RX4 = some m.cls := hown
  have hC : CallFix p m c cX4_told 3 s args wsX4_told RX4 := ⟨hx, hb, hml, hown, hts⟩
  have iX4 : ∀ w ∈ wsX40, w ∈ wsX4_told := by decide +kernel
  have hl : lv_has ls 3 [(0, .ref mo), (1, .int (nI b)), (2, .int (nI k))] := hl
  refine lv_aload_n hx hb dX4_told_0 rfl (lv_at hl 0 rfl) ?_
  refine lv_iconst (v := 0) hx hb dX4_told_1 (by decide) ?_
  refine va_put (D := D) (ci := 5) (v := .int 0) (ty := .int) (C := RX4) (T := TX4) (N := 8) hx hb hts iX4 tyX4 tyX4_ok nmX4 hown hK hP hD hS 0 rfl rfl 0 (by decide) (hts (.fieldLink RX4 26 "ToyRegattaModel" "thrown" "I") (by decide +kernel)) (fun _ h9 => h9) rfl (by decide +kernel) rfl rfl (Nat.le_of_ble_eq_true rfl) dX4_told_2 (fun H locs hP hD hS => ?_)
  have hP : va_P D vwCl [q_mc mo 0 nb nj len mw me mf mn, q_ia T mw 10 wf, q_fa T mf G, q_ia T mn 4 nu] H := hP
  have hD : va_D A [q_mc mo 0 nb nj len mw me mf mn, q_ia T mw 10 wf, q_fa T mf G, q_ia T mn 4 nu] := hD
  refine lv_aload_n hx hb dX4_told_5 rfl (lv_at hl 0 rfl) ?_
  refine lv_iload_n hx hb dX4_told_6 rfl (lv_at hl 1 rfl) ?_
  refine q_callV (As := [.int (nI b)]) (rs := []) hC (c_X4_isBoat l D T mo mw me mf mn nb nj 0 len (nI b)) q_no_st q_no_at (cwV 1 hts gX4_told_X4_isBoat rfl rfl rfl (by decide +kernel) ⟨Nat.le_of_ble_eq_true rfl, Nat.le_of_ble_eq_true rfl⟩) (va_recv hK hP (ci := 5) (q0 := 0) rfl rfl) hK hP hD hS hA (q_mask [true, false, false, false] _) rfl hl.1 rfl (Nat.le_of_ble_eq_true rfl) dX4_told_7 ⟨(Nat.le_of_ble_eq_true rfl), (Nat.le_of_ble_eq_true rfl)⟩ (fun v9 C9 H locs hp hP hD hS => ?_)
  obtain ⟨rfl, rfl⟩ := hp
  have hP : va_P D vwCl [q_mc mo 0 nb nj len mw me mf mn, q_ia T mw 10 wf, q_fa T mf G, q_ia T mn 4 nu] H := q_P_perm (q_mrg_perm [true, false, false, false] _ _) hP
  have hD : va_D A [q_mc mo 0 nb nj len mw me mf mn, q_ia T mw 10 wf, q_fa T mf G, q_ia T mn 4 nu] := q_D_perm (q_mrg_perm [true, false, false, false] _ _) hD
  refine lv_if_eq (tgt := 32) hx hb dX4_told_10 (by decide) (fun c_10 => absurd c_10 (q_isb hb8 hn)) (fun c_10 => ?_)
  refine lv_iload_n hx hb dX4_told_13 rfl (lv_at hl 2 rfl) ?_
  refine lv_iconst (v := 0) hx hb dX4_told_14 (by decide) ?_
  refine lv_bipush (v := 6) hx hb dX4_told_15 (by decide) ?_
  refine q_callS (As := [.int (nI k), .int 0, .int 6]) (rs := []) hC (c_X4_isIn l D T (nI k) 0 6) q_no_st q_no_at (va_cwS 3 hts gX4_told_X4_isIn rfl rfl rfl (by decide +kernel) ⟨Nat.le_of_ble_eq_true rfl, Nat.le_of_ble_eq_true rfl⟩) hK hP hD hS hA (q_mask [false, false, false, false] _) rfl hl.1 rfl (Nat.le_of_ble_eq_true rfl) dX4_told_17 ⟨(Nat.le_of_ble_eq_true rfl), (Nat.le_of_ble_eq_true rfl)⟩ (fun v9 C9 H locs hp hP hD hS => ?_)
  obtain ⟨rfl, rfl⟩ := hp
  have hP : va_P D vwCl [q_mc mo 0 nb nj len mw me mf mn, q_ia T mw 10 wf, q_fa T mf G, q_ia T mn 4 nu] H := q_P_perm (q_mrg_perm [false, false, false, false] _ _) hP
  have hD : va_D A [q_mc mo 0 nb nj len mw me mf mn, q_ia T mw 10 wf, q_fa T mf G, q_ia T mn 4 nu] := q_D_perm (q_mrg_perm [false, false, false, false] _ _) hD
  refine lv_if_eq (tgt := 32) hx hb dX4_told_20 (by decide) (fun c_20 => absurd c_20 (q_isk (n := 6) (by omega) (by omega))) (fun c_20 => ?_)
  refine lv_aload_n hx hb dX4_told_23 rfl (lv_at hl 0 rfl) ?_
  refine lv_iload_n hx hb dX4_told_24 rfl (lv_at hl 1 rfl) ?_
  refine lv_iload_n hx hb dX4_told_25 rfl (lv_at hl 2 rfl) ?_
  refine q_callV (As := [.int (nI b), .int (nI k)]) (rs := []) hC (c_X4_toldOf l D T mo mw me mf mn nb nj 0 len G wf nu mk hm hmk b k (by omega) hk hz) q_no_st q_no_at (cwV 2 hts gX4_told_X4_toldOf rfl rfl rfl (by decide +kernel) ⟨Nat.le_of_ble_eq_true rfl, Nat.le_of_ble_eq_true rfl⟩) (va_recv hK hP (ci := 5) (q0 := 0) rfl rfl) hK hP hD hS hA (q_mask [true, true, true, true] _) rfl hl.1 rfl (Nat.le_of_ble_eq_true rfl) dX4_told_26 ⟨(Nat.le_of_ble_eq_true rfl), (Nat.le_of_ble_eq_true rfl)⟩ (fun v9 C9 H locs hp hP hD hS => ?_)
  obtain ⟨rfl, rfl⟩ := hp
  have hP : va_P D vwCl [q_mc mo 0 nb nj len mw me mf mn, q_ia T mw 10 wf, q_fa T mf G, q_ia T mn 4 nu] H := q_P_perm (q_mrg_perm [true, true, true, true] _ _) hP
  have hD : va_D A [q_mc mo 0 nb nj len mw me mf mn, q_ia T mw 10 wf, q_fa T mf G, q_ia T mn 4 nu] := q_D_perm (q_mrg_perm [true, true, true, true] _ _) hD
  refine lv_goto (tgt := 37) hx hb dX4_told_29 (by decide) ?_
  exact q_iret hx hb hr hlocks hP hK hD hS (Nat.le_of_ble_eq_true rfl) (Nat.le_of_ble_eq_true rfl) dX4_told_37 ⟨rfl, rfl⟩
set_option maxHeartbeats 4000000 in
set_option maxRecDepth 100000 in
theorem c_X4_told_f1 (l : Launch) (D : va_G) (T : Nat → ClassId) (mo mw me mf mn nb nj : Nat) (th len : Int32) (y x : Int32) (h1 : bIsIn y 0 (nI nb - 1) = 0) : q_M l D (q_ty T) yX4_told wsX4_told rmX4_told [.ref mo, .int y, .int x] [q_mc mo th nb nj len mw me mf mn] q_no (q_is (some (.int 0)) [q_mc mo 1 nb nj len mw me mf mn]) := by
  refine q_start (cc := cX4_told) (maxL := 3) (ret := (some .int)) (by decide) rfl (Nat.le_of_ble_eq_true rfl) ?_
  intro p e s m args below meth c A H locs hx hb hr hts hown hlocks hml hnm hP hK hD hS hA hG ls hl
  have hown : s.vm.findClass RX4 = some m.cls := hown
  have hC : CallFix p m c cX4_told 3 s args wsX4_told RX4 := ⟨hx, hb, hml, hown, hts⟩
  have iX4 : ∀ w ∈ wsX40, w ∈ wsX4_told := by decide +kernel
  have hl : lv_has ls 3 [(0, .ref mo), (1, .int y), (2, .int x)] := hl
  refine lv_aload_n hx hb dX4_told_0 rfl (lv_at hl 0 rfl) ?_
  refine lv_iconst (v := 0) hx hb dX4_told_1 (by decide) ?_
  refine va_put (D := D) (ci := 5) (v := .int 0) (ty := .int) (C := RX4) (T := TX4) (N := 8) hx hb hts iX4 tyX4 tyX4_ok nmX4 hown hK hP hD hS 0 rfl rfl 0 (by decide) (hts (.fieldLink RX4 26 "ToyRegattaModel" "thrown" "I") (by decide +kernel)) (fun _ h9 => h9) rfl (by decide +kernel) rfl rfl (Nat.le_of_ble_eq_true rfl) dX4_told_2 (fun H locs hP hD hS => ?_)
  have hP : va_P D vwCl [q_mc mo 0 nb nj len mw me mf mn] H := hP
  have hD : va_D A [q_mc mo 0 nb nj len mw me mf mn] := hD
  refine lv_aload_n hx hb dX4_told_5 rfl (lv_at hl 0 rfl) ?_
  refine lv_iload_n hx hb dX4_told_6 rfl (lv_at hl 1 rfl) ?_
  refine q_callV (As := [.int y]) (rs := []) hC (c_X4_isBoat l D T mo mw me mf mn nb nj 0 len y) q_no_st q_no_at (cwV 1 hts gX4_told_X4_isBoat rfl rfl rfl (by decide +kernel) ⟨Nat.le_of_ble_eq_true rfl, Nat.le_of_ble_eq_true rfl⟩) (va_recv hK hP (ci := 5) (q0 := 0) rfl rfl) hK hP hD hS hA (q_mask [true] _) rfl hl.1 rfl (Nat.le_of_ble_eq_true rfl) dX4_told_7 ⟨(Nat.le_of_ble_eq_true rfl), (Nat.le_of_ble_eq_true rfl)⟩ (fun v9 C9 H locs hp hP hD hS => ?_)
  obtain ⟨rfl, rfl⟩ := hp
  have hP : va_P D vwCl [q_mc mo 0 nb nj len mw me mf mn] H := q_P_perm (q_mrg_perm [true] _ _) hP
  have hD : va_D A [q_mc mo 0 nb nj len mw me mf mn] := q_D_perm (q_mrg_perm [true] _ _) hD
  refine lv_if_eq (tgt := 32) hx hb dX4_told_10 (by decide) (fun c_10 => ?_) (fun c_10 => absurd h1 c_10)
  refine lv_aload_n hx hb dX4_told_32 rfl (lv_at hl 0 rfl) ?_
  refine lv_iconst (v := 1) hx hb dX4_told_33 (by decide) ?_
  refine q_callV (As := [.int 1]) (rs := []) hC (c_X4_fail l D T mo mw me mf mn nb nj 0 len 1) q_no_st q_no_at (cwV 1 hts gX4_told_X4_fail rfl rfl rfl (by decide +kernel) ⟨Nat.le_of_ble_eq_true rfl, Nat.le_of_ble_eq_true rfl⟩) (va_recv hK hP (ci := 5) (q0 := 0) rfl rfl) hK hP hD hS hA (q_mask [true] _) rfl hl.1 rfl (Nat.le_of_ble_eq_true rfl) dX4_told_34 ⟨(Nat.le_of_ble_eq_true rfl), (Nat.le_of_ble_eq_true rfl)⟩ (fun v9 C9 H locs hp hP hD hS => ?_)
  obtain ⟨rfl, rfl⟩ := hp
  have hP : va_P D vwCl [q_mc mo 1 nb nj len mw me mf mn] H := q_P_perm (q_mrg_perm [true] _ _) hP
  have hD : va_D A [q_mc mo 1 nb nj len mw me mf mn] := q_D_perm (q_mrg_perm [true] _ _) hD
  exact q_iret hx hb hr hlocks hP hK hD hS (Nat.le_of_ble_eq_true rfl) (Nat.le_of_ble_eq_true rfl) dX4_told_37 ⟨rfl, rfl⟩
set_option maxHeartbeats 4000000 in
set_option maxRecDepth 100000 in
theorem c_X4_told_f2 (l : Launch) (D : va_G) (T : Nat → ClassId) (mo mw me mf mn nb nj : Nat) (th len : Int32) (y x : Int32) (h1 : ¬ bIsIn y 0 (nI nb - 1) = 0) (h2 : bIsIn x 0 6 = 0) : q_M l D (q_ty T) yX4_told wsX4_told rmX4_told [.ref mo, .int y, .int x] [q_mc mo th nb nj len mw me mf mn] q_no (q_is (some (.int 0)) [q_mc mo 1 nb nj len mw me mf mn]) := by
  refine q_start (cc := cX4_told) (maxL := 3) (ret := (some .int)) (by decide) rfl (Nat.le_of_ble_eq_true rfl) ?_
  intro p e s m args below meth c A H locs hx hb hr hts hown hlocks hml hnm hP hK hD hS hA hG ls hl
  have hown : s.vm.findClass RX4 = some m.cls := hown
  have hC : CallFix p m c cX4_told 3 s args wsX4_told RX4 := ⟨hx, hb, hml, hown, hts⟩
  have iX4 : ∀ w ∈ wsX40, w ∈ wsX4_told := by decide +kernel
  have hl : lv_has ls 3 [(0, .ref mo), (1, .int y), (2, .int x)] := hl
  refine lv_aload_n hx hb dX4_told_0 rfl (lv_at hl 0 rfl) ?_
  refine lv_iconst (v := 0) hx hb dX4_told_1 (by decide) ?_
  refine va_put (D := D) (ci := 5) (v := .int 0) (ty := .int) (C := RX4) (T := TX4) (N := 8) hx hb hts iX4 tyX4 tyX4_ok nmX4 hown hK hP hD hS 0 rfl rfl 0 (by decide) (hts (.fieldLink RX4 26 "ToyRegattaModel" "thrown" "I") (by decide +kernel)) (fun _ h9 => h9) rfl (by decide +kernel) rfl rfl (Nat.le_of_ble_eq_true rfl) dX4_told_2 (fun H locs hP hD hS => ?_)
  have hP : va_P D vwCl [q_mc mo 0 nb nj len mw me mf mn] H := hP
  have hD : va_D A [q_mc mo 0 nb nj len mw me mf mn] := hD
  refine lv_aload_n hx hb dX4_told_5 rfl (lv_at hl 0 rfl) ?_
  refine lv_iload_n hx hb dX4_told_6 rfl (lv_at hl 1 rfl) ?_
  refine q_callV (As := [.int y]) (rs := []) hC (c_X4_isBoat l D T mo mw me mf mn nb nj 0 len y) q_no_st q_no_at (cwV 1 hts gX4_told_X4_isBoat rfl rfl rfl (by decide +kernel) ⟨Nat.le_of_ble_eq_true rfl, Nat.le_of_ble_eq_true rfl⟩) (va_recv hK hP (ci := 5) (q0 := 0) rfl rfl) hK hP hD hS hA (q_mask [true] _) rfl hl.1 rfl (Nat.le_of_ble_eq_true rfl) dX4_told_7 ⟨(Nat.le_of_ble_eq_true rfl), (Nat.le_of_ble_eq_true rfl)⟩ (fun v9 C9 H locs hp hP hD hS => ?_)
  obtain ⟨rfl, rfl⟩ := hp
  have hP : va_P D vwCl [q_mc mo 0 nb nj len mw me mf mn] H := q_P_perm (q_mrg_perm [true] _ _) hP
  have hD : va_D A [q_mc mo 0 nb nj len mw me mf mn] := q_D_perm (q_mrg_perm [true] _ _) hD
  refine lv_if_eq (tgt := 32) hx hb dX4_told_10 (by decide) (fun c_10 => absurd c_10 h1) (fun c_10 => ?_)
  refine lv_iload_n hx hb dX4_told_13 rfl (lv_at hl 2 rfl) ?_
  refine lv_iconst (v := 0) hx hb dX4_told_14 (by decide) ?_
  refine lv_bipush (v := 6) hx hb dX4_told_15 (by decide) ?_
  refine q_callS (As := [.int x, .int 0, .int 6]) (rs := []) hC (c_X4_isIn l D T x 0 6) q_no_st q_no_at (va_cwS 3 hts gX4_told_X4_isIn rfl rfl rfl (by decide +kernel) ⟨Nat.le_of_ble_eq_true rfl, Nat.le_of_ble_eq_true rfl⟩) hK hP hD hS hA (q_mask [false] _) rfl hl.1 rfl (Nat.le_of_ble_eq_true rfl) dX4_told_17 ⟨(Nat.le_of_ble_eq_true rfl), (Nat.le_of_ble_eq_true rfl)⟩ (fun v9 C9 H locs hp hP hD hS => ?_)
  obtain ⟨rfl, rfl⟩ := hp
  have hP : va_P D vwCl [q_mc mo 0 nb nj len mw me mf mn] H := q_P_perm (q_mrg_perm [false] _ _) hP
  have hD : va_D A [q_mc mo 0 nb nj len mw me mf mn] := q_D_perm (q_mrg_perm [false] _ _) hD
  refine lv_if_eq (tgt := 32) hx hb dX4_told_20 (by decide) (fun c_20 => ?_) (fun c_20 => absurd h2 c_20)
  refine lv_aload_n hx hb dX4_told_32 rfl (lv_at hl 0 rfl) ?_
  refine lv_iconst (v := 1) hx hb dX4_told_33 (by decide) ?_
  refine q_callV (As := [.int 1]) (rs := []) hC (c_X4_fail l D T mo mw me mf mn nb nj 0 len 1) q_no_st q_no_at (cwV 1 hts gX4_told_X4_fail rfl rfl rfl (by decide +kernel) ⟨Nat.le_of_ble_eq_true rfl, Nat.le_of_ble_eq_true rfl⟩) (va_recv hK hP (ci := 5) (q0 := 0) rfl rfl) hK hP hD hS hA (q_mask [true] _) rfl hl.1 rfl (Nat.le_of_ble_eq_true rfl) dX4_told_34 ⟨(Nat.le_of_ble_eq_true rfl), (Nat.le_of_ble_eq_true rfl)⟩ (fun v9 C9 H locs hp hP hD hS => ?_)
  obtain ⟨rfl, rfl⟩ := hp
  have hP : va_P D vwCl [q_mc mo 1 nb nj len mw me mf mn] H := q_P_perm (q_mrg_perm [true] _ _) hP
  have hD : va_D A [q_mc mo 1 nb nj len mw me mf mn] := q_D_perm (q_mrg_perm [true] _ _) hD
  exact q_iret hx hb hr hlocks hP hK hD hS (Nat.le_of_ble_eq_true rfl) (Nat.le_of_ble_eq_true rfl) dX4_told_37 ⟨rfl, rfl⟩
abbrev rmX4_about : Room := { frames := 2, cells := 0, slots := 0, locals := 44 }
set_option maxHeartbeats 4000000 in
set_option maxRecDepth 100000 in
theorem c_X4_about_ok (l : Launch) (D : va_G) (T : Nat → ClassId) (mo mw me mf mn nb nj : Nat) (th len : Int32) (G : Nat → Nat → Int32) (nu : Nat → Int32) (b k : Nat) (hb8 : b < nb) (hn : nb ≤ 8) (hk : k < 5) : q_M l D (q_ty T) yX4_about wsX4_about rmX4_about [.ref mo, .int (nI b), .int (nI k)] [q_mc mo th nb nj len mw me mf mn, q_fa T mf G, q_ia T mn 4 nu] q_no (q_is (some (.int (rAbt G nu b k))) [q_mc mo 0 nb nj len mw me mf mn, q_fa T mf G, q_ia T mn 4 nu]) := by
  refine q_start (cc := cX4_about) (maxL := 3) (ret := (some .int)) (by decide) rfl (Nat.le_of_ble_eq_true rfl) ?_
  intro p e s m args below meth c A H locs hx hb hr hts hown hlocks hml hnm hP hK hD hS hA hG ls hl
  have hown : s.vm.findClass RX4 = some m.cls := hown
  have hC : CallFix p m c cX4_about 3 s args wsX4_about RX4 := ⟨hx, hb, hml, hown, hts⟩
  have iX4 : ∀ w ∈ wsX40, w ∈ wsX4_about := by decide +kernel
  have hl : lv_has ls 3 [(0, .ref mo), (1, .int (nI b)), (2, .int (nI k))] := hl
  refine lv_aload_n hx hb dX4_about_0 rfl (lv_at hl 0 rfl) ?_
  refine lv_iconst (v := 0) hx hb dX4_about_1 (by decide) ?_
  refine va_put (D := D) (ci := 5) (v := .int 0) (ty := .int) (C := RX4) (T := TX4) (N := 8) hx hb hts iX4 tyX4 tyX4_ok nmX4 hown hK hP hD hS 0 rfl rfl 0 (by decide) (hts (.fieldLink RX4 26 "ToyRegattaModel" "thrown" "I") (by decide +kernel)) (fun _ h9 => h9) rfl (by decide +kernel) rfl rfl (Nat.le_of_ble_eq_true rfl) dX4_about_2 (fun H locs hP hD hS => ?_)
  have hP : va_P D vwCl [q_mc mo 0 nb nj len mw me mf mn, q_fa T mf G, q_ia T mn 4 nu] H := hP
  have hD : va_D A [q_mc mo 0 nb nj len mw me mf mn, q_fa T mf G, q_ia T mn 4 nu] := hD
  refine lv_aload_n hx hb dX4_about_5 rfl (lv_at hl 0 rfl) ?_
  refine lv_iload_n hx hb dX4_about_6 rfl (lv_at hl 1 rfl) ?_
  refine q_callV (As := [.int (nI b)]) (rs := []) hC (c_X4_isBoat l D T mo mw me mf mn nb nj 0 len (nI b)) q_no_st q_no_at (cwV 1 hts gX4_about_X4_isBoat rfl rfl rfl (by decide +kernel) ⟨Nat.le_of_ble_eq_true rfl, Nat.le_of_ble_eq_true rfl⟩) (va_recv hK hP (ci := 5) (q0 := 0) rfl rfl) hK hP hD hS hA (q_mask [true, false, false] _) rfl hl.1 rfl (Nat.le_of_ble_eq_true rfl) dX4_about_7 ⟨(Nat.le_of_ble_eq_true rfl), (Nat.le_of_ble_eq_true rfl)⟩ (fun v9 C9 H locs hp hP hD hS => ?_)
  obtain ⟨rfl, rfl⟩ := hp
  have hP : va_P D vwCl [q_mc mo 0 nb nj len mw me mf mn, q_fa T mf G, q_ia T mn 4 nu] H := q_P_perm (q_mrg_perm [true, false, false] _ _) hP
  have hD : va_D A [q_mc mo 0 nb nj len mw me mf mn, q_fa T mf G, q_ia T mn 4 nu] := q_D_perm (q_mrg_perm [true, false, false] _ _) hD
  refine lv_if_eq (tgt := 31) hx hb dX4_about_10 (by decide) (fun c_10 => absurd c_10 (q_isb hb8 hn)) (fun c_10 => ?_)
  refine lv_iload_n hx hb dX4_about_13 rfl (lv_at hl 2 rfl) ?_
  refine lv_iconst (v := 0) hx hb dX4_about_14 (by decide) ?_
  refine lv_iconst (v := 4) hx hb dX4_about_15 (by decide) ?_
  refine q_callS (As := [.int (nI k), .int 0, .int 4]) (rs := []) hC (c_X4_isIn l D T (nI k) 0 4) q_no_st q_no_at (va_cwS 3 hts gX4_about_X4_isIn rfl rfl rfl (by decide +kernel) ⟨Nat.le_of_ble_eq_true rfl, Nat.le_of_ble_eq_true rfl⟩) hK hP hD hS hA (q_mask [false, false, false] _) rfl hl.1 rfl (Nat.le_of_ble_eq_true rfl) dX4_about_16 ⟨(Nat.le_of_ble_eq_true rfl), (Nat.le_of_ble_eq_true rfl)⟩ (fun v9 C9 H locs hp hP hD hS => ?_)
  obtain ⟨rfl, rfl⟩ := hp
  have hP : va_P D vwCl [q_mc mo 0 nb nj len mw me mf mn, q_fa T mf G, q_ia T mn 4 nu] H := q_P_perm (q_mrg_perm [false, false, false] _ _) hP
  have hD : va_D A [q_mc mo 0 nb nj len mw me mf mn, q_fa T mf G, q_ia T mn 4 nu] := q_D_perm (q_mrg_perm [false, false, false] _ _) hD
  refine lv_if_eq (tgt := 31) hx hb dX4_about_19 (by decide) (fun c_19 => absurd c_19 (q_isk (n := 4) (by omega) (by omega))) (fun c_19 => ?_)
  refine lv_aload_n hx hb dX4_about_22 rfl (lv_at hl 0 rfl) ?_
  refine lv_iload_n hx hb dX4_about_23 rfl (lv_at hl 1 rfl) ?_
  refine lv_iload_n hx hb dX4_about_24 rfl (lv_at hl 2 rfl) ?_
  refine q_callV (As := [.int (nI b), .int (nI k)]) (rs := []) hC (c_X4_raceTold l D T mo mw me mf mn nb nj 0 len G nu b k (by omega) hk) q_no_st q_no_at (cwV 2 hts gX4_about_X4_raceTold rfl rfl rfl (by decide +kernel) ⟨Nat.le_of_ble_eq_true rfl, Nat.le_of_ble_eq_true rfl⟩) (va_recv hK hP (ci := 5) (q0 := 0) rfl rfl) hK hP hD hS hA (q_mask [true, true, true] _) rfl hl.1 rfl (Nat.le_of_ble_eq_true rfl) dX4_about_25 ⟨(Nat.le_of_ble_eq_true rfl), (Nat.le_of_ble_eq_true rfl)⟩ (fun v9 C9 H locs hp hP hD hS => ?_)
  obtain ⟨rfl, rfl⟩ := hp
  have hP : va_P D vwCl [q_mc mo 0 nb nj len mw me mf mn, q_fa T mf G, q_ia T mn 4 nu] H := q_P_perm (q_mrg_perm [true, true, true] _ _) hP
  have hD : va_D A [q_mc mo 0 nb nj len mw me mf mn, q_fa T mf G, q_ia T mn 4 nu] := q_D_perm (q_mrg_perm [true, true, true] _ _) hD
  refine lv_goto (tgt := 36) hx hb dX4_about_28 (by decide) ?_
  exact q_iret hx hb hr hlocks hP hK hD hS (Nat.le_of_ble_eq_true rfl) (Nat.le_of_ble_eq_true rfl) dX4_about_36 ⟨rfl, rfl⟩
set_option maxHeartbeats 4000000 in
set_option maxRecDepth 100000 in
theorem c_X4_about_f1 (l : Launch) (D : va_G) (T : Nat → ClassId) (mo mw me mf mn nb nj : Nat) (th len : Int32) (y x : Int32) (h1 : bIsIn y 0 (nI nb - 1) = 0) : q_M l D (q_ty T) yX4_about wsX4_about rmX4_about [.ref mo, .int y, .int x] [q_mc mo th nb nj len mw me mf mn] q_no (q_is (some (.int 0)) [q_mc mo 1 nb nj len mw me mf mn]) := by
  refine q_start (cc := cX4_about) (maxL := 3) (ret := (some .int)) (by decide) rfl (Nat.le_of_ble_eq_true rfl) ?_
  intro p e s m args below meth c A H locs hx hb hr hts hown hlocks hml hnm hP hK hD hS hA hG ls hl
  have hown : s.vm.findClass RX4 = some m.cls := hown
  have hC : CallFix p m c cX4_about 3 s args wsX4_about RX4 := ⟨hx, hb, hml, hown, hts⟩
  have iX4 : ∀ w ∈ wsX40, w ∈ wsX4_about := by decide +kernel
  have hl : lv_has ls 3 [(0, .ref mo), (1, .int y), (2, .int x)] := hl
  refine lv_aload_n hx hb dX4_about_0 rfl (lv_at hl 0 rfl) ?_
  refine lv_iconst (v := 0) hx hb dX4_about_1 (by decide) ?_
  refine va_put (D := D) (ci := 5) (v := .int 0) (ty := .int) (C := RX4) (T := TX4) (N := 8) hx hb hts iX4 tyX4 tyX4_ok nmX4 hown hK hP hD hS 0 rfl rfl 0 (by decide) (hts (.fieldLink RX4 26 "ToyRegattaModel" "thrown" "I") (by decide +kernel)) (fun _ h9 => h9) rfl (by decide +kernel) rfl rfl (Nat.le_of_ble_eq_true rfl) dX4_about_2 (fun H locs hP hD hS => ?_)
  have hP : va_P D vwCl [q_mc mo 0 nb nj len mw me mf mn] H := hP
  have hD : va_D A [q_mc mo 0 nb nj len mw me mf mn] := hD
  refine lv_aload_n hx hb dX4_about_5 rfl (lv_at hl 0 rfl) ?_
  refine lv_iload_n hx hb dX4_about_6 rfl (lv_at hl 1 rfl) ?_
  refine q_callV (As := [.int y]) (rs := []) hC (c_X4_isBoat l D T mo mw me mf mn nb nj 0 len y) q_no_st q_no_at (cwV 1 hts gX4_about_X4_isBoat rfl rfl rfl (by decide +kernel) ⟨Nat.le_of_ble_eq_true rfl, Nat.le_of_ble_eq_true rfl⟩) (va_recv hK hP (ci := 5) (q0 := 0) rfl rfl) hK hP hD hS hA (q_mask [true] _) rfl hl.1 rfl (Nat.le_of_ble_eq_true rfl) dX4_about_7 ⟨(Nat.le_of_ble_eq_true rfl), (Nat.le_of_ble_eq_true rfl)⟩ (fun v9 C9 H locs hp hP hD hS => ?_)
  obtain ⟨rfl, rfl⟩ := hp
  have hP : va_P D vwCl [q_mc mo 0 nb nj len mw me mf mn] H := q_P_perm (q_mrg_perm [true] _ _) hP
  have hD : va_D A [q_mc mo 0 nb nj len mw me mf mn] := q_D_perm (q_mrg_perm [true] _ _) hD
  refine lv_if_eq (tgt := 31) hx hb dX4_about_10 (by decide) (fun c_10 => ?_) (fun c_10 => absurd h1 c_10)
  refine lv_aload_n hx hb dX4_about_31 rfl (lv_at hl 0 rfl) ?_
  refine lv_iconst (v := 1) hx hb dX4_about_32 (by decide) ?_
  refine q_callV (As := [.int 1]) (rs := []) hC (c_X4_fail l D T mo mw me mf mn nb nj 0 len 1) q_no_st q_no_at (cwV 1 hts gX4_about_X4_fail rfl rfl rfl (by decide +kernel) ⟨Nat.le_of_ble_eq_true rfl, Nat.le_of_ble_eq_true rfl⟩) (va_recv hK hP (ci := 5) (q0 := 0) rfl rfl) hK hP hD hS hA (q_mask [true] _) rfl hl.1 rfl (Nat.le_of_ble_eq_true rfl) dX4_about_33 ⟨(Nat.le_of_ble_eq_true rfl), (Nat.le_of_ble_eq_true rfl)⟩ (fun v9 C9 H locs hp hP hD hS => ?_)
  obtain ⟨rfl, rfl⟩ := hp
  have hP : va_P D vwCl [q_mc mo 1 nb nj len mw me mf mn] H := q_P_perm (q_mrg_perm [true] _ _) hP
  have hD : va_D A [q_mc mo 1 nb nj len mw me mf mn] := q_D_perm (q_mrg_perm [true] _ _) hD
  exact q_iret hx hb hr hlocks hP hK hD hS (Nat.le_of_ble_eq_true rfl) (Nat.le_of_ble_eq_true rfl) dX4_about_36 ⟨rfl, rfl⟩
set_option maxHeartbeats 4000000 in
set_option maxRecDepth 100000 in
theorem c_X4_about_f2 (l : Launch) (D : va_G) (T : Nat → ClassId) (mo mw me mf mn nb nj : Nat) (th len : Int32) (y x : Int32) (h1 : ¬ bIsIn y 0 (nI nb - 1) = 0) (h2 : bIsIn x 0 4 = 0) : q_M l D (q_ty T) yX4_about wsX4_about rmX4_about [.ref mo, .int y, .int x] [q_mc mo th nb nj len mw me mf mn] q_no (q_is (some (.int 0)) [q_mc mo 1 nb nj len mw me mf mn]) := by
  refine q_start (cc := cX4_about) (maxL := 3) (ret := (some .int)) (by decide) rfl (Nat.le_of_ble_eq_true rfl) ?_
  intro p e s m args below meth c A H locs hx hb hr hts hown hlocks hml hnm hP hK hD hS hA hG ls hl
  have hown : s.vm.findClass RX4 = some m.cls := hown
  have hC : CallFix p m c cX4_about 3 s args wsX4_about RX4 := ⟨hx, hb, hml, hown, hts⟩
  have iX4 : ∀ w ∈ wsX40, w ∈ wsX4_about := by decide +kernel
  have hl : lv_has ls 3 [(0, .ref mo), (1, .int y), (2, .int x)] := hl
  refine lv_aload_n hx hb dX4_about_0 rfl (lv_at hl 0 rfl) ?_
  refine lv_iconst (v := 0) hx hb dX4_about_1 (by decide) ?_
  refine va_put (D := D) (ci := 5) (v := .int 0) (ty := .int) (C := RX4) (T := TX4) (N := 8) hx hb hts iX4 tyX4 tyX4_ok nmX4 hown hK hP hD hS 0 rfl rfl 0 (by decide) (hts (.fieldLink RX4 26 "ToyRegattaModel" "thrown" "I") (by decide +kernel)) (fun _ h9 => h9) rfl (by decide +kernel) rfl rfl (Nat.le_of_ble_eq_true rfl) dX4_about_2 (fun H locs hP hD hS => ?_)
  have hP : va_P D vwCl [q_mc mo 0 nb nj len mw me mf mn] H := hP
  have hD : va_D A [q_mc mo 0 nb nj len mw me mf mn] := hD
  refine lv_aload_n hx hb dX4_about_5 rfl (lv_at hl 0 rfl) ?_
  refine lv_iload_n hx hb dX4_about_6 rfl (lv_at hl 1 rfl) ?_
  refine q_callV (As := [.int y]) (rs := []) hC (c_X4_isBoat l D T mo mw me mf mn nb nj 0 len y) q_no_st q_no_at (cwV 1 hts gX4_about_X4_isBoat rfl rfl rfl (by decide +kernel) ⟨Nat.le_of_ble_eq_true rfl, Nat.le_of_ble_eq_true rfl⟩) (va_recv hK hP (ci := 5) (q0 := 0) rfl rfl) hK hP hD hS hA (q_mask [true] _) rfl hl.1 rfl (Nat.le_of_ble_eq_true rfl) dX4_about_7 ⟨(Nat.le_of_ble_eq_true rfl), (Nat.le_of_ble_eq_true rfl)⟩ (fun v9 C9 H locs hp hP hD hS => ?_)
  obtain ⟨rfl, rfl⟩ := hp
  have hP : va_P D vwCl [q_mc mo 0 nb nj len mw me mf mn] H := q_P_perm (q_mrg_perm [true] _ _) hP
  have hD : va_D A [q_mc mo 0 nb nj len mw me mf mn] := q_D_perm (q_mrg_perm [true] _ _) hD
  refine lv_if_eq (tgt := 31) hx hb dX4_about_10 (by decide) (fun c_10 => absurd c_10 h1) (fun c_10 => ?_)
  refine lv_iload_n hx hb dX4_about_13 rfl (lv_at hl 2 rfl) ?_
  refine lv_iconst (v := 0) hx hb dX4_about_14 (by decide) ?_
  refine lv_iconst (v := 4) hx hb dX4_about_15 (by decide) ?_
  refine q_callS (As := [.int x, .int 0, .int 4]) (rs := []) hC (c_X4_isIn l D T x 0 4) q_no_st q_no_at (va_cwS 3 hts gX4_about_X4_isIn rfl rfl rfl (by decide +kernel) ⟨Nat.le_of_ble_eq_true rfl, Nat.le_of_ble_eq_true rfl⟩) hK hP hD hS hA (q_mask [false] _) rfl hl.1 rfl (Nat.le_of_ble_eq_true rfl) dX4_about_16 ⟨(Nat.le_of_ble_eq_true rfl), (Nat.le_of_ble_eq_true rfl)⟩ (fun v9 C9 H locs hp hP hD hS => ?_)
  obtain ⟨rfl, rfl⟩ := hp
  have hP : va_P D vwCl [q_mc mo 0 nb nj len mw me mf mn] H := q_P_perm (q_mrg_perm [false] _ _) hP
  have hD : va_D A [q_mc mo 0 nb nj len mw me mf mn] := q_D_perm (q_mrg_perm [false] _ _) hD
  refine lv_if_eq (tgt := 31) hx hb dX4_about_19 (by decide) (fun c_19 => ?_) (fun c_19 => absurd h2 c_19)
  refine lv_aload_n hx hb dX4_about_31 rfl (lv_at hl 0 rfl) ?_
  refine lv_iconst (v := 1) hx hb dX4_about_32 (by decide) ?_
  refine q_callV (As := [.int 1]) (rs := []) hC (c_X4_fail l D T mo mw me mf mn nb nj 0 len 1) q_no_st q_no_at (cwV 1 hts gX4_about_X4_fail rfl rfl rfl (by decide +kernel) ⟨Nat.le_of_ble_eq_true rfl, Nat.le_of_ble_eq_true rfl⟩) (va_recv hK hP (ci := 5) (q0 := 0) rfl rfl) hK hP hD hS hA (q_mask [true] _) rfl hl.1 rfl (Nat.le_of_ble_eq_true rfl) dX4_about_33 ⟨(Nat.le_of_ble_eq_true rfl), (Nat.le_of_ble_eq_true rfl)⟩ (fun v9 C9 H locs hp hP hD hS => ?_)
  obtain ⟨rfl, rfl⟩ := hp
  have hP : va_P D vwCl [q_mc mo 1 nb nj len mw me mf mn] H := q_P_perm (q_mrg_perm [true] _ _) hP
  have hD : va_D A [q_mc mo 1 nb nj len mw me mf mn] := q_D_perm (q_mrg_perm [true] _ _) hD
  exact q_iret hx hb hr hlocks hP hK hD hS (Nat.le_of_ble_eq_true rfl) (Nat.le_of_ble_eq_true rfl) dX4_about_36 ⟨rfl, rfl⟩
abbrev rmX4_count : Room := { frames := 3, cells := 0, slots := 0, locals := 66 }
set_option maxHeartbeats 4000000 in
set_option maxRecDepth 100000 in
theorem c_X4_count_ok (l : Launch) (D : va_G) (T : Nat → ClassId) (mo mw me mf mn nb nj : Nat) (th len : Int32) (G : Nat → Nat → Int32) (wf nu : Nat → Int32) (mk k : Nat) (hm : nu 0 = nI mk) (hmk : mk < 2 ^ 31) (hk : k < 9) (hn : nb ≤ 8) : q_M l D (q_ty T) yX4_count wsX4_count rmX4_count [.ref mo, .int (nI k)] [q_mc mo th nb nj len mw me mf mn, q_ia T mw 10 wf, q_fa T mf G, q_ia T mn 4 nu] q_no (q_is (some (.int (qCnt (nu 0) (wf (mk % 10)) (nI nb) (nI nj) (nu 1) (nu 2) (if bOn nu = 0 then 0 else q_sum (dSt G 1) nb) (q_sum (dCol G 3) nb) (q_sum (dCol G 4) nb) k))) [q_mc mo 0 nb nj len mw me mf mn, q_ia T mw 10 wf, q_fa T mf G, q_ia T mn 4 nu]) := by
  refine q_start (cc := cX4_count) (maxL := 2) (ret := (some .int)) (by decide) rfl (Nat.le_of_ble_eq_true rfl) ?_
  intro p e s m args below meth c A H locs hx hb hr hts hown hlocks hml hnm hP hK hD hS hA hG ls hl
  have hown : s.vm.findClass RX4 = some m.cls := hown
  have hC : CallFix p m c cX4_count 2 s args wsX4_count RX4 := ⟨hx, hb, hml, hown, hts⟩
  have iX4 : ∀ w ∈ wsX40, w ∈ wsX4_count := by decide +kernel
  have hl : lv_has ls 2 [(0, .ref mo), (1, .int (nI k))] := hl
  refine lv_aload_n hx hb dX4_count_0 rfl (lv_at hl 0 rfl) ?_
  refine lv_iconst (v := 0) hx hb dX4_count_1 (by decide) ?_
  refine va_put (D := D) (ci := 5) (v := .int 0) (ty := .int) (C := RX4) (T := TX4) (N := 8) hx hb hts iX4 tyX4 tyX4_ok nmX4 hown hK hP hD hS 0 rfl rfl 0 (by decide) (hts (.fieldLink RX4 26 "ToyRegattaModel" "thrown" "I") (by decide +kernel)) (fun _ h9 => h9) rfl (by decide +kernel) rfl rfl (Nat.le_of_ble_eq_true rfl) dX4_count_2 (fun H locs hP hD hS => ?_)
  have hP : va_P D vwCl [q_mc mo 0 nb nj len mw me mf mn, q_ia T mw 10 wf, q_fa T mf G, q_ia T mn 4 nu] H := hP
  have hD : va_D A [q_mc mo 0 nb nj len mw me mf mn, q_ia T mw 10 wf, q_fa T mf G, q_ia T mn 4 nu] := hD
  refine lv_iload_n hx hb dX4_count_5 rfl (lv_at hl 1 rfl) ?_
  refine lv_iconst (v := 0) hx hb dX4_count_6 (by decide) ?_
  refine lv_bipush (v := 8) hx hb dX4_count_7 (by decide) ?_
  refine q_callS (As := [.int (nI k), .int 0, .int 8]) (rs := []) hC (c_X4_isIn l D T (nI k) 0 8) q_no_st q_no_at (va_cwS 3 hts gX4_count_X4_isIn rfl rfl rfl (by decide +kernel) ⟨Nat.le_of_ble_eq_true rfl, Nat.le_of_ble_eq_true rfl⟩) hK hP hD hS hA (q_mask [false, false, false, false] _) rfl hl.1 rfl (Nat.le_of_ble_eq_true rfl) dX4_count_9 ⟨(Nat.le_of_ble_eq_true rfl), (Nat.le_of_ble_eq_true rfl)⟩ (fun v9 C9 H locs hp hP hD hS => ?_)
  obtain ⟨rfl, rfl⟩ := hp
  have hP : va_P D vwCl [q_mc mo 0 nb nj len mw me mf mn, q_ia T mw 10 wf, q_fa T mf G, q_ia T mn 4 nu] H := q_P_perm (q_mrg_perm [false, false, false, false] _ _) hP
  have hD : va_D A [q_mc mo 0 nb nj len mw me mf mn, q_ia T mw 10 wf, q_fa T mf G, q_ia T mn 4 nu] := q_D_perm (q_mrg_perm [false, false, false, false] _ _) hD
  refine lv_if_eq (tgt := 23) hx hb dX4_count_12 (by decide) (fun c_12 => absurd c_12 (q_isk (n := 8) (by omega) (by omega))) (fun c_12 => ?_)
  refine lv_aload_n hx hb dX4_count_15 rfl (lv_at hl 0 rfl) ?_
  refine lv_iload_n hx hb dX4_count_16 rfl (lv_at hl 1 rfl) ?_
  refine q_callV (As := [.int (nI k)]) (rs := []) hC (c_X4_counted l D T mo mw me mf mn nb nj 0 len G wf nu mk k hm hmk hk hn) q_no_st q_no_at (cwV 1 hts gX4_count_X4_counted rfl rfl rfl (by decide +kernel) ⟨Nat.le_of_ble_eq_true rfl, Nat.le_of_ble_eq_true rfl⟩) (va_recv hK hP (ci := 5) (q0 := 0) rfl rfl) hK hP hD hS hA (q_mask [true, true, true, true] _) rfl hl.1 rfl (Nat.le_of_ble_eq_true rfl) dX4_count_17 ⟨(Nat.le_of_ble_eq_true rfl), (Nat.le_of_ble_eq_true rfl)⟩ (fun v9 C9 H locs hp hP hD hS => ?_)
  obtain ⟨rfl, rfl⟩ := hp
  have hP : va_P D vwCl [q_mc mo 0 nb nj len mw me mf mn, q_ia T mw 10 wf, q_fa T mf G, q_ia T mn 4 nu] H := q_P_perm (q_mrg_perm [true, true, true, true] _ _) hP
  have hD : va_D A [q_mc mo 0 nb nj len mw me mf mn, q_ia T mw 10 wf, q_fa T mf G, q_ia T mn 4 nu] := q_D_perm (q_mrg_perm [true, true, true, true] _ _) hD
  refine lv_goto (tgt := 28) hx hb dX4_count_20 (by decide) ?_
  exact q_iret hx hb hr hlocks hP hK hD hS (Nat.le_of_ble_eq_true rfl) (Nat.le_of_ble_eq_true rfl) dX4_count_28 ⟨rfl, rfl⟩
set_option maxHeartbeats 4000000 in
set_option maxRecDepth 100000 in
theorem c_X4_count_f1 (l : Launch) (D : va_G) (T : Nat → ClassId) (mo mw me mf mn nb nj : Nat) (th len : Int32) (x : Int32) (h1 : bIsIn x 0 8 = 0) : q_M l D (q_ty T) yX4_count wsX4_count rmX4_count [.ref mo, .int x] [q_mc mo th nb nj len mw me mf mn] q_no (q_is (some (.int 0)) [q_mc mo 1 nb nj len mw me mf mn]) := by
  refine q_start (cc := cX4_count) (maxL := 2) (ret := (some .int)) (by decide) rfl (Nat.le_of_ble_eq_true rfl) ?_
  intro p e s m args below meth c A H locs hx hb hr hts hown hlocks hml hnm hP hK hD hS hA hG ls hl
  have hown : s.vm.findClass RX4 = some m.cls := hown
  have hC : CallFix p m c cX4_count 2 s args wsX4_count RX4 := ⟨hx, hb, hml, hown, hts⟩
  have iX4 : ∀ w ∈ wsX40, w ∈ wsX4_count := by decide +kernel
  have hl : lv_has ls 2 [(0, .ref mo), (1, .int x)] := hl
  refine lv_aload_n hx hb dX4_count_0 rfl (lv_at hl 0 rfl) ?_
  refine lv_iconst (v := 0) hx hb dX4_count_1 (by decide) ?_
  refine va_put (D := D) (ci := 5) (v := .int 0) (ty := .int) (C := RX4) (T := TX4) (N := 8) hx hb hts iX4 tyX4 tyX4_ok nmX4 hown hK hP hD hS 0 rfl rfl 0 (by decide) (hts (.fieldLink RX4 26 "ToyRegattaModel" "thrown" "I") (by decide +kernel)) (fun _ h9 => h9) rfl (by decide +kernel) rfl rfl (Nat.le_of_ble_eq_true rfl) dX4_count_2 (fun H locs hP hD hS => ?_)
  have hP : va_P D vwCl [q_mc mo 0 nb nj len mw me mf mn] H := hP
  have hD : va_D A [q_mc mo 0 nb nj len mw me mf mn] := hD
  refine lv_iload_n hx hb dX4_count_5 rfl (lv_at hl 1 rfl) ?_
  refine lv_iconst (v := 0) hx hb dX4_count_6 (by decide) ?_
  refine lv_bipush (v := 8) hx hb dX4_count_7 (by decide) ?_
  refine q_callS (As := [.int x, .int 0, .int 8]) (rs := []) hC (c_X4_isIn l D T x 0 8) q_no_st q_no_at (va_cwS 3 hts gX4_count_X4_isIn rfl rfl rfl (by decide +kernel) ⟨Nat.le_of_ble_eq_true rfl, Nat.le_of_ble_eq_true rfl⟩) hK hP hD hS hA (q_mask [false] _) rfl hl.1 rfl (Nat.le_of_ble_eq_true rfl) dX4_count_9 ⟨(Nat.le_of_ble_eq_true rfl), (Nat.le_of_ble_eq_true rfl)⟩ (fun v9 C9 H locs hp hP hD hS => ?_)
  obtain ⟨rfl, rfl⟩ := hp
  have hP : va_P D vwCl [q_mc mo 0 nb nj len mw me mf mn] H := q_P_perm (q_mrg_perm [false] _ _) hP
  have hD : va_D A [q_mc mo 0 nb nj len mw me mf mn] := q_D_perm (q_mrg_perm [false] _ _) hD
  refine lv_if_eq (tgt := 23) hx hb dX4_count_12 (by decide) (fun c_12 => ?_) (fun c_12 => absurd h1 c_12)
  refine lv_aload_n hx hb dX4_count_23 rfl (lv_at hl 0 rfl) ?_
  refine lv_iconst (v := 1) hx hb dX4_count_24 (by decide) ?_
  refine q_callV (As := [.int 1]) (rs := []) hC (c_X4_fail l D T mo mw me mf mn nb nj 0 len 1) q_no_st q_no_at (cwV 1 hts gX4_count_X4_fail rfl rfl rfl (by decide +kernel) ⟨Nat.le_of_ble_eq_true rfl, Nat.le_of_ble_eq_true rfl⟩) (va_recv hK hP (ci := 5) (q0 := 0) rfl rfl) hK hP hD hS hA (q_mask [true] _) rfl hl.1 rfl (Nat.le_of_ble_eq_true rfl) dX4_count_25 ⟨(Nat.le_of_ble_eq_true rfl), (Nat.le_of_ble_eq_true rfl)⟩ (fun v9 C9 H locs hp hP hD hS => ?_)
  obtain ⟨rfl, rfl⟩ := hp
  have hP : va_P D vwCl [q_mc mo 1 nb nj len mw me mf mn] H := q_P_perm (q_mrg_perm [true] _ _) hP
  have hD : va_D A [q_mc mo 1 nb nj len mw me mf mn] := q_D_perm (q_mrg_perm [true] _ _) hD
  exact q_iret hx hb hr hlocks hP hK hD hS (Nat.le_of_ble_eq_true rfl) (Nat.le_of_ble_eq_true rfl) dX4_count_28 ⟨rfl, rfl⟩
def qFal (r : Nat → Int32) (x : Int32) : Int32 := if bHeel r x ≤ 30 then 0 else 1
abbrev rmX4_falls : Room := { frames := 3, cells := 0, slots := 0, locals := 66 }
set_option maxHeartbeats 4000000 in
set_option maxRecDepth 100000 in
theorem c_X4_falls_ok (l : Launch) (D : va_G) (T : Nat → ClassId) (mo mw me mf mn nb nj : Nat) (th len : Int32) (G : Nat → Nat → Int32) (b : Nat) (x : Int32) (hb8 : b < nb) (hn : nb ≤ 8) (h2 : ¬ bIsIn x 0 9 = 0) : q_M l D (q_ty T) yX4_falls wsX4_falls rmX4_falls [.ref mo, .int (nI b), .int x] [q_mc mo th nb nj len mw me mf mn, q_fa T mf G] q_no (q_is (some (.int (qFal (G b) x))) [q_mc mo 0 nb nj len mw me mf mn, q_fa T mf G]) := by
  refine q_start (cc := cX4_falls) (maxL := 3) (ret := (some .boolean)) (by decide) rfl (Nat.le_of_ble_eq_true rfl) ?_
  intro p e s m args below meth c A H locs hx hb hr hts hown hlocks hml hnm hP hK hD hS hA hG ls hl
  have hown : s.vm.findClass RX4 = some m.cls := hown
  have hC : CallFix p m c cX4_falls 3 s args wsX4_falls RX4 := ⟨hx, hb, hml, hown, hts⟩
  have iX4 : ∀ w ∈ wsX40, w ∈ wsX4_falls := by decide +kernel
  have hl : lv_has ls 3 [(0, .ref mo), (1, .int (nI b)), (2, .int x)] := hl
  refine lv_aload_n hx hb dX4_falls_0 rfl (lv_at hl 0 rfl) ?_
  refine lv_aload_n hx hb dX4_falls_1 rfl (lv_at hl 0 rfl) ?_
  refine lv_iload_n hx hb dX4_falls_2 rfl (lv_at hl 1 rfl) ?_
  refine q_callV (As := [.int (nI b)]) (rs := [.ref mo]) hC (c_X4_isBoat l D T mo mw me mf mn nb nj th len (nI b)) q_no_st q_no_at (cwV 1 hts gX4_falls_X4_isBoat rfl rfl rfl (by decide +kernel) ⟨Nat.le_of_ble_eq_true rfl, Nat.le_of_ble_eq_true rfl⟩) (va_recv hK hP (ci := 5) (q0 := 0) rfl rfl) hK hP hD hS hA (q_mask [true, false] _) rfl hl.1 rfl (Nat.le_of_ble_eq_true rfl) dX4_falls_3 ⟨(Nat.le_of_ble_eq_true rfl), (Nat.le_of_ble_eq_true rfl)⟩ (fun v9 C9 H locs hp hP hD hS => ?_)
  obtain ⟨rfl, rfl⟩ := hp
  have hP : va_P D vwCl [q_mc mo th nb nj len mw me mf mn, q_fa T mf G] H := q_P_perm (q_mrg_perm [true, false] _ _) hP
  have hD : va_D A [q_mc mo th nb nj len mw me mf mn, q_fa T mf G] := q_D_perm (q_mrg_perm [true, false] _ _) hD
  refine lv_if_ne (tgt := 13) hx hb dX4_falls_6 (by decide) (fun c_6 => ?_) (fun c_6 => absurd c_6 (q_isb hb8 hn))
  refine lv_iload_n hx hb dX4_falls_13 rfl (lv_at hl 2 rfl) ?_
  refine lv_iconst (v := 0) hx hb dX4_falls_14 (by decide) ?_
  refine lv_bipush (v := 9) hx hb dX4_falls_15 (by decide) ?_
  refine q_callS (As := [.int x, .int 0, .int 9]) (rs := [.ref mo]) hC (c_X4_isIn l D T x 0 9) q_no_st q_no_at (va_cwS 3 hts gX4_falls_X4_isIn rfl rfl rfl (by decide +kernel) ⟨Nat.le_of_ble_eq_true rfl, Nat.le_of_ble_eq_true rfl⟩) hK hP hD hS hA (q_mask [false, false] _) rfl hl.1 rfl (Nat.le_of_ble_eq_true rfl) dX4_falls_17 ⟨(Nat.le_of_ble_eq_true rfl), (Nat.le_of_ble_eq_true rfl)⟩ (fun v9 C9 H locs hp hP hD hS => ?_)
  obtain ⟨rfl, rfl⟩ := hp
  have hP : va_P D vwCl [q_mc mo th nb nj len mw me mf mn, q_fa T mf G] H := q_P_perm (q_mrg_perm [false, false] _ _) hP
  have hD : va_D A [q_mc mo th nb nj len mw me mf mn, q_fa T mf G] := q_D_perm (q_mrg_perm [false, false] _ _) hD
  refine lv_if_ne (tgt := 27) hx hb dX4_falls_20 (by decide) (fun c_20 => ?_) (fun c_20 => absurd c_20 h2)
  refine lv_iconst (v := 0) hx hb dX4_falls_27 (by decide) ?_
  refine va_put (D := D) (ci := 5) (v := .int 0) (ty := .int) (C := RX4) (T := TX4) (N := 8) hx hb hts iX4 tyX4 tyX4_ok nmX4 hown hK hP hD hS 0 rfl rfl 0 (by decide) (hts (.fieldLink RX4 26 "ToyRegattaModel" "thrown" "I") (by decide +kernel)) (fun _ h9 => h9) rfl (by decide +kernel) rfl rfl (Nat.le_of_ble_eq_true rfl) dX4_falls_28 (fun H locs hP hD hS => ?_)
  have hP : va_P D vwCl [q_mc mo 0 nb nj len mw me mf mn, q_fa T mf G] H := hP
  have hD : va_D A [q_mc mo 0 nb nj len mw me mf mn, q_fa T mf G] := hD
  refine lv_aload_n hx hb dX4_falls_31 rfl (lv_at hl 0 rfl) ?_
  refine va_get (D := D) (ci := 5) (v := .int 0) (C := RX4) (T := TX4) (N := 8) hx hb hts iX4 hown hK hP 0 rfl rfl 0 (by decide) (hts (.fieldLink RX4 26 "ToyRegattaModel" "thrown" "I") (by decide +kernel)) (fun _ h9 => h9) rfl dX4_falls_32 ?_
  refine lv_if_ne (tgt := 53) hx hb dX4_falls_35 (by decide) (fun c_35 => absurd c_35 (by decide)) (fun _ => ?_)
  refine lv_aload_n hx hb dX4_falls_38 rfl (lv_at hl 0 rfl) ?_
  refine lv_iload_n hx hb dX4_falls_39 rfl (lv_at hl 1 rfl) ?_
  refine lv_iload_n hx hb dX4_falls_40 rfl (lv_at hl 2 rfl) ?_
  refine q_callV (As := [.int (nI b), .int x]) (rs := []) hC (c_X4_heel l D T mo mw me mf mn nb nj 0 len G b x (G b) (by omega) rfl ) q_no_st q_no_at (cwV 2 hts gX4_falls_X4_heel rfl rfl rfl (by decide +kernel) ⟨Nat.le_of_ble_eq_true rfl, Nat.le_of_ble_eq_true rfl⟩) (va_recv hK hP (ci := 5) (q0 := 0) rfl rfl) hK hP hD hS hA (q_mask [true, true] _) rfl hl.1 rfl (Nat.le_of_ble_eq_true rfl) dX4_falls_41 ⟨(Nat.le_of_ble_eq_true rfl), (Nat.le_of_ble_eq_true rfl)⟩ (fun v9 C9 H locs hp hP hD hS => ?_)
  obtain ⟨rfl, rfl⟩ := hp
  have hP : va_P D vwCl [q_mc mo 0 nb nj len mw me mf mn, q_fa T mf G] H := q_P_perm (q_mrg_perm [true, true] _ _) hP
  have hD : va_D A [q_mc mo 0 nb nj len mw me mf mn, q_fa T mf G] := q_D_perm (q_mrg_perm [true, true] _ _) hD
  refine lv_bipush (v := 30) hx hb dX4_falls_44 (by decide) ?_
  refine lv_icmp_le (tgt := 53) hx hb dX4_falls_46 (by decide) (fun c_46 => ?_) (fun c_46 => ?_)
  · refine lv_iconst (v := 0) hx hb dX4_falls_53 (by decide) ?_
    exact q_zret hx hb hr hlocks hP hK hD hS rfl (Nat.le_of_ble_eq_true rfl) (Nat.le_of_ble_eq_true rfl) dX4_falls_54 ⟨by simp only [qFal, if_pos c_46], rfl⟩
  · refine lv_iconst (v := 1) hx hb dX4_falls_49 (by decide) ?_
    refine lv_goto (tgt := 54) hx hb dX4_falls_50 (by decide) ?_
    exact q_zret hx hb hr hlocks hP hK hD hS rfl (Nat.le_of_ble_eq_true rfl) (Nat.le_of_ble_eq_true rfl) dX4_falls_54 ⟨by simp only [qFal, if_neg c_46], rfl⟩
set_option maxHeartbeats 4000000 in
set_option maxRecDepth 100000 in
theorem c_X4_falls_f1 (l : Launch) (D : va_G) (T : Nat → ClassId) (mo mw me mf mn nb nj : Nat) (th len : Int32) (G : Nat → Nat → Int32) (y x : Int32) (h1 : bIsIn y 0 (nI nb - 1) = 0) : q_M l D (q_ty T) yX4_falls wsX4_falls rmX4_falls [.ref mo, .int y, .int x] [q_mc mo th nb nj len mw me mf mn, q_fa T mf G] q_no (q_is (some (.int 0)) [q_mc mo 1 nb nj len mw me mf mn, q_fa T mf G]) := by
  refine q_start (cc := cX4_falls) (maxL := 3) (ret := (some .boolean)) (by decide) rfl (Nat.le_of_ble_eq_true rfl) ?_
  intro p e s m args below meth c A H locs hx hb hr hts hown hlocks hml hnm hP hK hD hS hA hG ls hl
  have hown : s.vm.findClass RX4 = some m.cls := hown
  have hC : CallFix p m c cX4_falls 3 s args wsX4_falls RX4 := ⟨hx, hb, hml, hown, hts⟩
  have iX4 : ∀ w ∈ wsX40, w ∈ wsX4_falls := by decide +kernel
  have hl : lv_has ls 3 [(0, .ref mo), (1, .int y), (2, .int x)] := hl
  refine lv_aload_n hx hb dX4_falls_0 rfl (lv_at hl 0 rfl) ?_
  refine lv_aload_n hx hb dX4_falls_1 rfl (lv_at hl 0 rfl) ?_
  refine lv_iload_n hx hb dX4_falls_2 rfl (lv_at hl 1 rfl) ?_
  refine q_callV (As := [.int y]) (rs := [.ref mo]) hC (c_X4_isBoat l D T mo mw me mf mn nb nj th len y) q_no_st q_no_at (cwV 1 hts gX4_falls_X4_isBoat rfl rfl rfl (by decide +kernel) ⟨Nat.le_of_ble_eq_true rfl, Nat.le_of_ble_eq_true rfl⟩) (va_recv hK hP (ci := 5) (q0 := 0) rfl rfl) hK hP hD hS hA (q_mask [true, false] _) rfl hl.1 rfl (Nat.le_of_ble_eq_true rfl) dX4_falls_3 ⟨(Nat.le_of_ble_eq_true rfl), (Nat.le_of_ble_eq_true rfl)⟩ (fun v9 C9 H locs hp hP hD hS => ?_)
  obtain ⟨rfl, rfl⟩ := hp
  have hP : va_P D vwCl [q_mc mo th nb nj len mw me mf mn, q_fa T mf G] H := q_P_perm (q_mrg_perm [true, false] _ _) hP
  have hD : va_D A [q_mc mo th nb nj len mw me mf mn, q_fa T mf G] := q_D_perm (q_mrg_perm [true, false] _ _) hD
  refine lv_if_ne (tgt := 13) hx hb dX4_falls_6 (by decide) (fun c_6 => absurd h1 c_6) (fun c_6 => ?_)
  refine lv_iconst (v := 1) hx hb dX4_falls_9 (by decide) ?_
  refine lv_goto (tgt := 28) hx hb dX4_falls_10 (by decide) ?_
  refine va_put (D := D) (ci := 5) (v := .int 1) (ty := .int) (C := RX4) (T := TX4) (N := 8) hx hb hts iX4 tyX4 tyX4_ok nmX4 hown hK hP hD hS 0 rfl rfl 0 (by decide) (hts (.fieldLink RX4 26 "ToyRegattaModel" "thrown" "I") (by decide +kernel)) (fun _ h9 => h9) rfl (by decide +kernel) rfl rfl (Nat.le_of_ble_eq_true rfl) dX4_falls_28 (fun H locs hP hD hS => ?_)
  have hP : va_P D vwCl [q_mc mo 1 nb nj len mw me mf mn, q_fa T mf G] H := hP
  have hD : va_D A [q_mc mo 1 nb nj len mw me mf mn, q_fa T mf G] := hD
  refine lv_aload_n hx hb dX4_falls_31 rfl (lv_at hl 0 rfl) ?_
  refine va_get (D := D) (ci := 5) (v := .int 1) (C := RX4) (T := TX4) (N := 8) hx hb hts iX4 hown hK hP 0 rfl rfl 0 (by decide) (hts (.fieldLink RX4 26 "ToyRegattaModel" "thrown" "I") (by decide +kernel)) (fun _ h9 => h9) rfl dX4_falls_32 ?_
  refine lv_if_ne (tgt := 53) hx hb dX4_falls_35 (by decide) (fun _ => ?_) (fun c_35 => absurd c_35 (by decide))
  refine lv_iconst (v := 0) hx hb dX4_falls_53 (by decide) ?_
  exact q_zret hx hb hr hlocks hP hK hD hS rfl (Nat.le_of_ble_eq_true rfl) (Nat.le_of_ble_eq_true rfl) dX4_falls_54 ⟨rfl, rfl⟩
set_option maxHeartbeats 4000000 in
set_option maxRecDepth 100000 in
theorem c_X4_falls_f2 (l : Launch) (D : va_G) (T : Nat → ClassId) (mo mw me mf mn nb nj : Nat) (th len : Int32) (G : Nat → Nat → Int32) (y x : Int32) (h1 : ¬ bIsIn y 0 (nI nb - 1) = 0) (h2 : bIsIn x 0 9 = 0) : q_M l D (q_ty T) yX4_falls wsX4_falls rmX4_falls [.ref mo, .int y, .int x] [q_mc mo th nb nj len mw me mf mn, q_fa T mf G] q_no (q_is (some (.int 0)) [q_mc mo 2 nb nj len mw me mf mn, q_fa T mf G]) := by
  refine q_start (cc := cX4_falls) (maxL := 3) (ret := (some .boolean)) (by decide) rfl (Nat.le_of_ble_eq_true rfl) ?_
  intro p e s m args below meth c A H locs hx hb hr hts hown hlocks hml hnm hP hK hD hS hA hG ls hl
  have hown : s.vm.findClass RX4 = some m.cls := hown
  have hC : CallFix p m c cX4_falls 3 s args wsX4_falls RX4 := ⟨hx, hb, hml, hown, hts⟩
  have iX4 : ∀ w ∈ wsX40, w ∈ wsX4_falls := by decide +kernel
  have hl : lv_has ls 3 [(0, .ref mo), (1, .int y), (2, .int x)] := hl
  refine lv_aload_n hx hb dX4_falls_0 rfl (lv_at hl 0 rfl) ?_
  refine lv_aload_n hx hb dX4_falls_1 rfl (lv_at hl 0 rfl) ?_
  refine lv_iload_n hx hb dX4_falls_2 rfl (lv_at hl 1 rfl) ?_
  refine q_callV (As := [.int y]) (rs := [.ref mo]) hC (c_X4_isBoat l D T mo mw me mf mn nb nj th len y) q_no_st q_no_at (cwV 1 hts gX4_falls_X4_isBoat rfl rfl rfl (by decide +kernel) ⟨Nat.le_of_ble_eq_true rfl, Nat.le_of_ble_eq_true rfl⟩) (va_recv hK hP (ci := 5) (q0 := 0) rfl rfl) hK hP hD hS hA (q_mask [true, false] _) rfl hl.1 rfl (Nat.le_of_ble_eq_true rfl) dX4_falls_3 ⟨(Nat.le_of_ble_eq_true rfl), (Nat.le_of_ble_eq_true rfl)⟩ (fun v9 C9 H locs hp hP hD hS => ?_)
  obtain ⟨rfl, rfl⟩ := hp
  have hP : va_P D vwCl [q_mc mo th nb nj len mw me mf mn, q_fa T mf G] H := q_P_perm (q_mrg_perm [true, false] _ _) hP
  have hD : va_D A [q_mc mo th nb nj len mw me mf mn, q_fa T mf G] := q_D_perm (q_mrg_perm [true, false] _ _) hD
  refine lv_if_ne (tgt := 13) hx hb dX4_falls_6 (by decide) (fun c_6 => ?_) (fun c_6 => absurd c_6 h1)
  refine lv_iload_n hx hb dX4_falls_13 rfl (lv_at hl 2 rfl) ?_
  refine lv_iconst (v := 0) hx hb dX4_falls_14 (by decide) ?_
  refine lv_bipush (v := 9) hx hb dX4_falls_15 (by decide) ?_
  refine q_callS (As := [.int x, .int 0, .int 9]) (rs := [.ref mo]) hC (c_X4_isIn l D T x 0 9) q_no_st q_no_at (va_cwS 3 hts gX4_falls_X4_isIn rfl rfl rfl (by decide +kernel) ⟨Nat.le_of_ble_eq_true rfl, Nat.le_of_ble_eq_true rfl⟩) hK hP hD hS hA (q_mask [false, false] _) rfl hl.1 rfl (Nat.le_of_ble_eq_true rfl) dX4_falls_17 ⟨(Nat.le_of_ble_eq_true rfl), (Nat.le_of_ble_eq_true rfl)⟩ (fun v9 C9 H locs hp hP hD hS => ?_)
  obtain ⟨rfl, rfl⟩ := hp
  have hP : va_P D vwCl [q_mc mo th nb nj len mw me mf mn, q_fa T mf G] H := q_P_perm (q_mrg_perm [false, false] _ _) hP
  have hD : va_D A [q_mc mo th nb nj len mw me mf mn, q_fa T mf G] := q_D_perm (q_mrg_perm [false, false] _ _) hD
  refine lv_if_ne (tgt := 27) hx hb dX4_falls_20 (by decide) (fun c_20 => absurd h2 c_20) (fun c_20 => ?_)
  refine lv_iconst (v := 2) hx hb dX4_falls_23 (by decide) ?_
  refine lv_goto (tgt := 28) hx hb dX4_falls_24 (by decide) ?_
  refine va_put (D := D) (ci := 5) (v := .int 2) (ty := .int) (C := RX4) (T := TX4) (N := 8) hx hb hts iX4 tyX4 tyX4_ok nmX4 hown hK hP hD hS 0 rfl rfl 0 (by decide) (hts (.fieldLink RX4 26 "ToyRegattaModel" "thrown" "I") (by decide +kernel)) (fun _ h9 => h9) rfl (by decide +kernel) rfl rfl (Nat.le_of_ble_eq_true rfl) dX4_falls_28 (fun H locs hP hD hS => ?_)
  have hP : va_P D vwCl [q_mc mo 2 nb nj len mw me mf mn, q_fa T mf G] H := hP
  have hD : va_D A [q_mc mo 2 nb nj len mw me mf mn, q_fa T mf G] := hD
  refine lv_aload_n hx hb dX4_falls_31 rfl (lv_at hl 0 rfl) ?_
  refine va_get (D := D) (ci := 5) (v := .int 2) (C := RX4) (T := TX4) (N := 8) hx hb hts iX4 hown hK hP 0 rfl rfl 0 (by decide) (hts (.fieldLink RX4 26 "ToyRegattaModel" "thrown" "I") (by decide +kernel)) (fun _ h9 => h9) rfl dX4_falls_32 ?_
  refine lv_if_ne (tgt := 53) hx hb dX4_falls_35 (by decide) (fun _ => ?_) (fun c_35 => absurd c_35 (by decide))
  refine lv_iconst (v := 0) hx hb dX4_falls_53 (by decide) ?_
  exact q_zret hx hb hr hlocks hP hK hD hS rfl (Nat.le_of_ble_eq_true rfl) (Nat.le_of_ble_eq_true rfl) dX4_falls_54 ⟨rfl, rfl⟩

def rIt (wf ey : Nat → Int32) (nj : Nat) (len : Int32) (nb : Nat) (S : (Nat → Nat → Int32) × (Nat → Int32)) : Nat → (Nat → Nat → Int32) × (Nat → Int32)
  | 0 => S
  | j + 1 => rS wf ey nj len nb (rIt wf ey nj len nb S j)
theorem rIt_0 (wf ey : Nat → Int32) (nj : Nat) (len : Int32) (nb : Nat) (S : (Nat → Nat → Int32) × (Nat → Int32)) {mk : Nat} (hm : S.2 0 = nI mk) : ∀ j, (rIt wf ey nj len nb S j).2 0 = nI (mk + j)
  | 0 => hm
  | j + 1 => by rw [rIt, rS_0, rIt_0 wf ey nj len nb S hm j]; exact nI_1 _
theorem rIt_keep (wf ey : Nat → Int32) (nj : Nat) (len : Int32) (nb : Nat) (S : (Nat → Nat → Int32) × (Nat → Int32)) : ∀ j, mKeep S.1 (rIt wf ey nj len nb S j).1
  | 0 => mKeep.rf
  | j + 1 => (rIt_keep wf ey nj len nb S j).tr (rG_keep _ _ _ _ _ _ _)

abbrev rmX4_pass : Room := { frames := 6, cells := 180, slots := 1080, locals := 132 }
theorem q_ist {t : Nat} (h1 : 1 ≤ t) (h2 : t ≤ 90) : ¬ bIsIn (nI t) 1 90 = 0 := by
  rw [bIsIn, if_neg (show ¬ nI t < (1 : Int32) from nI_nlt (b := 1) h1 (by omega)), if_neg (show ¬ (90 : Int32) < nI t from nI_nlt (a := 90) h2 (by omega))]
  decide
set_option maxHeartbeats 4000000 in
set_option maxRecDepth 100000 in
theorem c_X4_pass_ok (l : Launch) (D : va_G) (T : Nat → ClassId) (mo mw me mf mn nb nj : Nat) (th len : Int32) (G : Nat → Nat → Int32) (wf ey nu : Nat → Int32) (mk : Nat) (hm : nu 0 = nI mk) (hmk : mk < 2 ^ 30) (hn : nb ≤ 8) (hj : nj ≤ 3) (t : Nat) (hz : mHz G nb) (ht1 : 1 ≤ t) (ht : t ≤ 90) : q_M l D (q_ty T) yX4_pass wsX4_pass rmX4_pass [.ref mo, .int (nI t)] [q_mc mo th nb nj len mw me mf mn, q_ia T mw 10 wf, q_ia T me 3 ey, q_fa T mf G, q_ia T mn 4 nu] q_no (q_is (some (.int (q_sum (dSt (rIt wf ey nj len nb (G, nu) t).1 2) nb - q_sum (dSt G 2) nb))) [q_mc mo 0 nb nj len mw me mf mn, q_ia T mw 10 wf, q_ia T me 3 ey, q_fa T mf (rIt wf ey nj len nb (G, nu) t).1, q_ia T mn 4 (rIt wf ey nj len nb (G, nu) t).2]) := by
  refine q_start (cc := cX4_pass) (maxL := 4) (ret := (some .int)) (by decide) rfl (Nat.le_of_ble_eq_true rfl) ?_
  intro p e s m args below meth c A H locs hx hb hr hts hown hlocks hml hnm hP hK hD hS hA hG ls hl
  have hown : s.vm.findClass RX4 = some m.cls := hown
  have hC : CallFix p m c cX4_pass 4 s args wsX4_pass RX4 := ⟨hx, hb, hml, hown, hts⟩
  have iX4 : ∀ w ∈ wsX40, w ∈ wsX4_pass := by decide +kernel
  have hl : lv_has ls 4 [(0, .ref mo), (1, .int (nI t))] := hl
  refine lv_aload_n hx hb dX4_pass_0 rfl (lv_at hl 0 rfl) ?_
  refine lv_iconst (v := 0) hx hb dX4_pass_1 (by decide) ?_
  refine va_put (D := D) (ci := 5) (v := .int 0) (ty := .int) (C := RX4) (T := TX4) (N := 8) hx hb hts iX4 tyX4 tyX4_ok nmX4 hown hK hP hD hS 0 rfl rfl 0 (by decide) (hts (.fieldLink RX4 26 "ToyRegattaModel" "thrown" "I") (by decide +kernel)) (fun _ h9 => h9) rfl (by decide +kernel) rfl rfl (Nat.le_of_ble_eq_true rfl) dX4_pass_2 (fun H locs hP hD hS => ?_)
  have hP : va_P D vwCl [q_mc mo 0 nb nj len mw me mf mn, q_ia T mw 10 wf, q_ia T me 3 ey, q_fa T mf G, q_ia T mn 4 nu] H := hP
  have hD : va_D A [q_mc mo 0 nb nj len mw me mf mn, q_ia T mw 10 wf, q_ia T me 3 ey, q_fa T mf G, q_ia T mn 4 nu] := hD
  refine lv_iload_n hx hb dX4_pass_5 rfl (lv_at hl 1 rfl) ?_
  refine lv_iconst (v := 1) hx hb dX4_pass_6 (by decide) ?_
  refine lv_bipush (v := 90) hx hb dX4_pass_7 (by decide) ?_
  refine q_callS (As := [.int (nI t), .int 1, .int 90]) (rs := []) hC (c_X4_isIn l D T (nI t) 1 90) q_no_st q_no_at (va_cwS 3 hts gX4_pass_X4_isIn rfl rfl rfl (by decide +kernel) ⟨Nat.le_of_ble_eq_true rfl, Nat.le_of_ble_eq_true rfl⟩) hK hP hD hS hA (q_mask [false, false, false, false, false] _) rfl hl.1 rfl (Nat.le_of_ble_eq_true rfl) dX4_pass_9 ⟨(Nat.le_of_ble_eq_true rfl), (Nat.le_of_ble_eq_true rfl)⟩ (fun v9 C9 H locs hp hP hD hS => ?_)
  obtain ⟨rfl, rfl⟩ := hp
  have hP : va_P D vwCl [q_mc mo 0 nb nj len mw me mf mn, q_ia T mw 10 wf, q_ia T me 3 ey, q_fa T mf G, q_ia T mn 4 nu] H := q_P_perm (q_mrg_perm [false, false, false, false, false] _ _) hP
  have hD : va_D A [q_mc mo 0 nb nj len mw me mf mn, q_ia T mw 10 wf, q_ia T me 3 ey, q_fa T mf G, q_ia T mn 4 nu] := q_D_perm (q_mrg_perm [false, false, false, false, false] _ _) hD
  refine lv_if_ne (tgt := 21) hx hb dX4_pass_12 (by decide) (fun c_12 => ?_) (fun c_12 => absurd c_12 (q_ist ht1 ht))
  refine lv_aload_n hx hb dX4_pass_21 rfl (lv_at hl 0 rfl) ?_
  refine q_callV (As := []) (rs := []) hC (c_X4_allIn l D T mo mw me mf mn nb nj 0 len G hn) q_no_st q_no_at (cwV 0 hts gX4_pass_X4_allIn rfl rfl rfl (by decide +kernel) ⟨Nat.le_of_ble_eq_true rfl, Nat.le_of_ble_eq_true rfl⟩) (va_recv hK hP (ci := 5) (q0 := 0) rfl rfl) hK hP hD hS hA (q_mask [true, false, false, true, false] _) rfl hl.1 rfl (Nat.le_of_ble_eq_true rfl) dX4_pass_22 ⟨(Nat.le_of_ble_eq_true rfl), (Nat.le_of_ble_eq_true rfl)⟩ (fun v9 C9 H locs hp hP hD hS => ?_)
  obtain ⟨rfl, rfl⟩ := hp
  have hP : va_P D vwCl [q_mc mo 0 nb nj len mw me mf mn, q_ia T mw 10 wf, q_ia T me 3 ey, q_fa T mf G, q_ia T mn 4 nu] H := q_P_perm (q_mrg_perm [true, false, false, true, false] _ _) hP
  have hD : va_D A [q_mc mo 0 nb nj len mw me mf mn, q_ia T mw 10 wf, q_ia T me 3 ey, q_fa T mf G, q_ia T mn 4 nu] := q_D_perm (q_mrg_perm [true, false, false, true, false] _ _) hD
  refine lv_istore_n (lv' := [(2, .int (q_sum (dSt G 2) nb)), (0, .ref mo), (1, .int (nI t))]) hx hb dX4_pass_25 rfl hl (by decide) rfl (fun ls hl => ?_)
  refine lv_iconst (v := 0) hx hb dX4_pass_26 (by decide) ?_
  refine lv_istore_n (lv' := [(3, .int 0), (2, .int (q_sum (dSt G 2) nb)), (0, .ref mo), (1, .int (nI t))]) hx hb dX4_pass_27 rfl hl (by decide) rfl (fun ls hl => ?_)
  refine W.widen (k := 2 * 0) (n := 12 * 0) (Nat.le_refl _) (Nat.le_refl _) ?_
  have L28 : ∀ (f9 j : Nat) (h9a : t < j + f9) (h9b : j ≤ t) (H : Heap) (locs : List Loc) (ls : Array Slot), va_P D vwCl [q_mc mo 0 nb nj len mw me mf mn, q_ia T mw 10 wf, q_ia T me 3 ey, q_fa T mf ((rIt wf ey nj len nb (G, nu) j).1), q_ia T mn 4 ((rIt wf ey nj len nb (G, nu) j).2)] H → va_D A [q_mc mo 0 nb nj len mw me mf mn, q_ia T mw 10 wf, q_ia T me 3 ey, q_fa T mf ((rIt wf ey nj len nb (G, nu) j).1), q_ia T mn 4 ((rIt wf ey nj len nb (G, nu) j).2)] → va_S A s.heap H locs → lv_has ls 4 [(0, .ref mo), (1, .int (nI t)), (2, .int (q_sum (dSt G 2) nb)), (3, .int (nI j))] → W p l e rmX4_pass s m args below meth c H locs (2 * j) (12 * j) (q_E below D (q_ty T) (q_is (some (.int (q_sum (dSt (rIt wf ey nj len nb (G, nu) t).1 2) nb - q_sum (dSt G 2) nb))) [q_mc mo 0 nb nj len mw me mf mn, q_ia T mw 10 wf, q_ia T me 3 ey, q_fa T mf (rIt wf ey nj len nb (G, nu) t).1, q_ia T mn 4 (rIt wf ey nj len nb (G, nu) t).2]) A args s rmX4_pass) (F0 m 28 ls []) := by
    intro f9
    induction f9 with
    | zero => intro j h9a h9b; exact absurd h9a (by omega)
    | succ f9 ih28 =>
      intro j h9a h9b   H locs ls hP hD hS hl
      refine lv_iload_n hx hb dX4_pass_28 rfl (lv_at hl 3 rfl) ?_
      refine lv_iload_n hx hb dX4_pass_29 rfl (lv_at hl 1 rfl) ?_
      refine lv_icmp_ge (tgt := 43) hx hb dX4_pass_30 (by decide) (fun c_30 => ?_) (fun c_30 => ?_)
      · have h9d := (q_exit c_30 h9b (by omega)).symm
        subst h9d
        refine lv_aload_n hx hb dX4_pass_43 rfl (lv_at hl 0 rfl) ?_
        refine q_callV (As := []) (rs := []) hC (c_X4_allIn l D T mo mw me mf mn nb nj 0 len ((rIt wf ey nj len nb (G, nu) t).1) hn) q_no_st q_no_at (cwV 0 hts gX4_pass_X4_allIn rfl rfl rfl (by decide +kernel) ⟨Nat.le_of_ble_eq_true rfl, Nat.le_of_ble_eq_true rfl⟩) (va_recv hK hP (ci := 5) (q0 := 0) rfl rfl) hK hP hD hS hA (q_mask [true, false, false, true, false] _) rfl hl.1 rfl (Nat.le_of_ble_eq_true rfl) dX4_pass_44 ⟨(by show (2 * t) + 0 ≤ 180; omega), (by show (12 * t) + 0 ≤ 1080; omega)⟩ (fun v9 C9 H locs hp hP hD hS => ?_)
        obtain ⟨rfl, rfl⟩ := hp
        have hP : va_P D vwCl [q_mc mo 0 nb nj len mw me mf mn, q_ia T mw 10 wf, q_ia T me 3 ey, q_fa T mf ((rIt wf ey nj len nb (G, nu) t).1), q_ia T mn 4 ((rIt wf ey nj len nb (G, nu) t).2)] H := q_P_perm (q_mrg_perm [true, false, false, true, false] _ _) hP
        have hD : va_D A [q_mc mo 0 nb nj len mw me mf mn, q_ia T mw 10 wf, q_ia T me 3 ey, q_fa T mf ((rIt wf ey nj len nb (G, nu) t).1), q_ia T mn 4 ((rIt wf ey nj len nb (G, nu) t).2)] := q_D_perm (q_mrg_perm [true, false, false, true, false] _ _) hD
        refine lv_iload_n hx hb dX4_pass_47 rfl (lv_at hl 2 rfl) ?_
        refine lv_isub hx hb dX4_pass_48 ?_
        exact q_iret hx hb hr hlocks hP hK hD hS (by show (2 * t) ≤ 180; omega) (by show (12 * t) ≤ 1080; omega) dX4_pass_49 ⟨rfl, rfl⟩
      · have h9d := q_goon c_30 (by omega)
        refine lv_aload_n hx hb dX4_pass_33 rfl (lv_at hl 0 rfl) ?_
        refine q_callV (As := []) (rs := []) hC (c_X4_minuteOn l D T mo mw me mf mn nb nj 0 len (rIt wf ey nj len nb (G, nu) j).1 wf ey (rIt wf ey nj len nb (G, nu) j).2 (mk + j) (rIt_0 wf ey nj len nb (G, nu) hm j) (by omega) hn hj (hz.keep (rIt_keep wf ey nj len nb (G, nu) j))) q_no_st q_no_at (cwV 0 hts gX4_pass_X4_minuteOn rfl rfl rfl (by decide +kernel) ⟨Nat.le_of_ble_eq_true rfl, Nat.le_of_ble_eq_true rfl⟩) (va_recv hK hP (ci := 5) (q0 := 0) rfl rfl) hK hP hD hS hA (q_mask [true, true, true, true, true] _) rfl hl.1 rfl (Nat.le_of_ble_eq_true rfl) dX4_pass_34 ⟨(by show (2 * j) + 2 ≤ 180; omega), (by show (12 * j) + 12 ≤ 1080; omega)⟩ (fun v9 C9 H locs hp hP hD hS => ?_)
        obtain ⟨rfl, rfl⟩ := hp
        have hP : va_P D vwCl [q_mc mo 0 nb nj len mw me mf mn, q_ia T mw 10 wf, q_ia T me 3 ey, q_fa T mf (rG (rIt wf ey nj len nb (G, nu) j).1 (rIt wf ey nj len nb (G, nu) j).2 (wf ((mk + j) % 10)) ey nj len nb), q_ia T mn 4 (rU (rIt wf ey nj len nb (G, nu) j).1 (rIt wf ey nj len nb (G, nu) j).2 (wf ((mk + j) % 10)) ey nj len nb)] H := q_P_perm (q_mrg_perm [true, true, true, true, true] _ _) hP
        have hD : va_D A [q_mc mo 0 nb nj len mw me mf mn, q_ia T mw 10 wf, q_ia T me 3 ey, q_fa T mf (rG (rIt wf ey nj len nb (G, nu) j).1 (rIt wf ey nj len nb (G, nu) j).2 (wf ((mk + j) % 10)) ey nj len nb), q_ia T mn 4 (rU (rIt wf ey nj len nb (G, nu) j).1 (rIt wf ey nj len nb (G, nu) j).2 (wf ((mk + j) % 10)) ey nj len nb)] := q_D_perm (q_mrg_perm [true, true, true, true, true] _ _) hD
        refine lv_iinc (v := (nI (j + 1))) (lv' := [(3, .int (nI (j + 1))), (0, .ref mo), (1, .int (nI t)), (2, .int (q_sum (dSt G 2) nb))]) hx hb dX4_pass_37 hl (k := 3) rfl (nI_1 j) (by decide) rfl (fun ls hl => ?_)
        refine lv_goto (tgt := 28) hx hb dX4_pass_40 (by decide) ?_
        have h9e : (rIt wf ey nj len nb (G, nu) (j + 1)) = (rG (rIt wf ey nj len nb (G, nu) j).1 (rIt wf ey nj len nb (G, nu) j).2 (wf ((mk + j) % 10)) ey nj len nb, rU (rIt wf ey nj len nb (G, nu) j).1 (rIt wf ey nj len nb (G, nu) j).2 (wf ((mk + j) % 10)) ey nj len nb) := by rw [rIt, rS, wAt_eq (rIt_0 wf ey nj len nb (G, nu) hm j) (by omega)]
        have hP : va_P D vwCl [q_mc mo 0 nb nj len mw me mf mn, q_ia T mw 10 wf, q_ia T me 3 ey, q_fa T mf ((rIt wf ey nj len nb (G, nu) (j + 1)).1), q_ia T mn 4 ((rIt wf ey nj len nb (G, nu) (j + 1)).2)] H := by rw [h9e]; exact hP
        have hD : va_D A [q_mc mo 0 nb nj len mw me mf mn, q_ia T mw 10 wf, q_ia T me 3 ey, q_fa T mf ((rIt wf ey nj len nb (G, nu) (j + 1)).1), q_ia T mn 4 ((rIt wf ey nj len nb (G, nu) (j + 1)).2)] := by rw [h9e]; exact hD
        refine W.widen (k := 2 * (j + 1)) (n := 12 * (j + 1)) (by show ((2 * j) + 2) ≤ 2 * (j + 1); omega) (by show ((12 * j) + 12) ≤ 12 * (j + 1); omega) ?_
        exact ih28 (j + 1) (by omega) (by omega)   _ _ ls hP hD hS (lv_sub hl [1, 2, 3, 0] rfl)
  exact L28 (t + 1) 0 (by omega) (by omega)   _ _ ls hP hD hS (lv_sub hl [2, 3, 1, 0] rfl)
set_option maxHeartbeats 4000000 in
set_option maxRecDepth 100000 in
theorem c_X4_pass_f1 (l : Launch) (D : va_G) (T : Nat → ClassId) (mo mw me mf mn nb nj : Nat) (th len : Int32) (x : Int32) (h1 : bIsIn x 1 90 = 0) : q_M l D (q_ty T) yX4_pass wsX4_pass rmX4_pass [.ref mo, .int x] [q_mc mo th nb nj len mw me mf mn] q_no (q_is (some (.int 0)) [q_mc mo 1 nb nj len mw me mf mn]) := by
  refine q_start (cc := cX4_pass) (maxL := 4) (ret := (some .int)) (by decide) rfl (Nat.le_of_ble_eq_true rfl) ?_
  intro p e s m args below meth c A H locs hx hb hr hts hown hlocks hml hnm hP hK hD hS hA hG ls hl
  have hown : s.vm.findClass RX4 = some m.cls := hown
  have hC : CallFix p m c cX4_pass 4 s args wsX4_pass RX4 := ⟨hx, hb, hml, hown, hts⟩
  have iX4 : ∀ w ∈ wsX40, w ∈ wsX4_pass := by decide +kernel
  have hl : lv_has ls 4 [(0, .ref mo), (1, .int x)] := hl
  refine lv_aload_n hx hb dX4_pass_0 rfl (lv_at hl 0 rfl) ?_
  refine lv_iconst (v := 0) hx hb dX4_pass_1 (by decide) ?_
  refine va_put (D := D) (ci := 5) (v := .int 0) (ty := .int) (C := RX4) (T := TX4) (N := 8) hx hb hts iX4 tyX4 tyX4_ok nmX4 hown hK hP hD hS 0 rfl rfl 0 (by decide) (hts (.fieldLink RX4 26 "ToyRegattaModel" "thrown" "I") (by decide +kernel)) (fun _ h9 => h9) rfl (by decide +kernel) rfl rfl (Nat.le_of_ble_eq_true rfl) dX4_pass_2 (fun H locs hP hD hS => ?_)
  have hP : va_P D vwCl [q_mc mo 0 nb nj len mw me mf mn] H := hP
  have hD : va_D A [q_mc mo 0 nb nj len mw me mf mn] := hD
  refine lv_iload_n hx hb dX4_pass_5 rfl (lv_at hl 1 rfl) ?_
  refine lv_iconst (v := 1) hx hb dX4_pass_6 (by decide) ?_
  refine lv_bipush (v := 90) hx hb dX4_pass_7 (by decide) ?_
  refine q_callS (As := [.int x, .int 1, .int 90]) (rs := []) hC (c_X4_isIn l D T x 1 90) q_no_st q_no_at (va_cwS 3 hts gX4_pass_X4_isIn rfl rfl rfl (by decide +kernel) ⟨Nat.le_of_ble_eq_true rfl, Nat.le_of_ble_eq_true rfl⟩) hK hP hD hS hA (q_mask [false] _) rfl hl.1 rfl (Nat.le_of_ble_eq_true rfl) dX4_pass_9 ⟨(Nat.le_of_ble_eq_true rfl), (Nat.le_of_ble_eq_true rfl)⟩ (fun v9 C9 H locs hp hP hD hS => ?_)
  obtain ⟨rfl, rfl⟩ := hp
  have hP : va_P D vwCl [q_mc mo 0 nb nj len mw me mf mn] H := q_P_perm (q_mrg_perm [false] _ _) hP
  have hD : va_D A [q_mc mo 0 nb nj len mw me mf mn] := q_D_perm (q_mrg_perm [false] _ _) hD
  refine lv_if_ne (tgt := 21) hx hb dX4_pass_12 (by decide) (fun c_12 => absurd h1 c_12) (fun c_12 => ?_)
  refine lv_aload_n hx hb dX4_pass_15 rfl (lv_at hl 0 rfl) ?_
  refine lv_iconst (v := 1) hx hb dX4_pass_16 (by decide) ?_
  refine q_callV (As := [.int 1]) (rs := []) hC (c_X4_fail l D T mo mw me mf mn nb nj 0 len 1) q_no_st q_no_at (cwV 1 hts gX4_pass_X4_fail rfl rfl rfl (by decide +kernel) ⟨Nat.le_of_ble_eq_true rfl, Nat.le_of_ble_eq_true rfl⟩) (va_recv hK hP (ci := 5) (q0 := 0) rfl rfl) hK hP hD hS hA (q_mask [true] _) rfl hl.1 rfl (Nat.le_of_ble_eq_true rfl) dX4_pass_17 ⟨(Nat.le_of_ble_eq_true rfl), (Nat.le_of_ble_eq_true rfl)⟩ (fun v9 C9 H locs hp hP hD hS => ?_)
  obtain ⟨rfl, rfl⟩ := hp
  have hP : va_P D vwCl [q_mc mo 1 nb nj len mw me mf mn] H := q_P_perm (q_mrg_perm [true] _ _) hP
  have hD : va_D A [q_mc mo 1 nb nj len mw me mf mn] := q_D_perm (q_mrg_perm [true] _ _) hD
  exact q_iret hx hb hr hlocks hP hK hD hS (Nat.le_of_ble_eq_true rfl) (Nat.le_of_ble_eq_true rfl) dX4_pass_20 ⟨rfl, rfl⟩
