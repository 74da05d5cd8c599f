abbrev rmX4_init : Room := { frames := 1, cells := 0, slots := 0, locals := 20 }
set_option maxHeartbeats 4000000 in
set_option maxRecDepth 100000 in
theorem c_X4_init (l : Launch) (D : va_G) (T : Nat → ClassId) (h : Nat) : q_M l D (q_ty T) yX4_init wsX4_init rmX4_init [.ref h] [q_sb h (fun _ => (0 : Int32))] q_no (q_is none [q_sb h sNew]) := by
  refine q_start (cc := cX4_init) (maxL := 1) (ret := none) (by decide) rfl (Nat.le_of_ble_eq_true rfl) ?_
  intro p e s m args below meth c A H locs hx hb hr hts hown hlocks hml hnm hP hK hD hS hA hG ls hl
  have hown : s.vm.findClass RX4 = some m.cls := hown
  have hC : CallFix p m c cX4_init 1 s args wsX4_init RX4 := ⟨hx, hb, hml, hown, hts⟩
  have iX4 : ∀ w ∈ wsX40, w ∈ wsX4_init := by decide +kernel
  have hl : lv_has ls 1 [(0, .ref h)] := hl
  refine lv_aload_n hx hb dX4_init_0 rfl (lv_at hl 0 rfl) ?_
  refine W.objInit hx hb hown (hts (.methodLink RX4 1 objectInit) (by decide +kernel)) (hts (.instanceMethod objectInit) (by decide +kernel)) (hts (.code objectInit ⟨#[0xb1]⟩ 1 none) (by decide +kernel)) rfl (hl.1.trans hml.symm) rfl dX4_init_1 (Nat.le_of_ble_eq_true rfl) (Nat.le_of_ble_eq_true rfl) ?_
  refine W.eq (g2 := F0 m 4 ls []) rfl ?_
  refine lv_aload_n hx hb dX4_init_4 rfl (lv_at hl 0 rfl) ?_
  refine lv_iconst (v := (-1)) hx hb dX4_init_5 (by decide) ?_
  refine va_put (D := D) (ci := 5) (v := .int (-1)) (ty := .int) (C := RX4) (T := TX4) (N := 10) hx hb hts iX4 tyX4 tyX4_ok nmX4 hown hK hP hD hS 0 rfl rfl 7 (by decide) (hts (.fieldLink RX4 7 "ToyRegattaLaw$Boat" "time" "I") (by decide +kernel)) (fun _ h9 => h9) rfl (by decide +kernel) rfl rfl (Nat.le_of_ble_eq_true rfl) dX4_init_6 (fun H locs hP hD hS => ?_)
  have hP : va_P D vwCl [q_sb h (upd (fun _ => (0 : Int32)) 6 (-1))] H := hP
  have hD : va_D A [q_sb h (upd (fun _ => (0 : Int32)) 6 (-1))] := hD
  exact q_vret hx hb hr hlocks hP hK hD hS (Nat.le_of_ble_eq_true rfl) (Nat.le_of_ble_eq_true rfl) dX4_init_9 ⟨rfl, rfl⟩
abbrev rmX4_pull : Room := { frames := 0, cells := 0, slots := 0, locals := 0 }
set_option maxHeartbeats 4000000 in
set_option maxRecDepth 100000 in
theorem c_X4_pull (l : Launch) (D : va_G) (T : Nat → ClassId) (h : Nat) (r : Nat → Int32) (hB : pB r) (x : Nat) (hw9 : x < 10) : q_M l D (q_ty T) yX4_pull wsX4_pull rmX4_pull [.ref h, .int (nI x)] [q_sb h r] q_no (q_is (some (.int (bPull (r 1) (nI x)))) [q_sb h r]) := by
  refine q_start (cc := cX4_pull) (maxL := 2) (ret := (some .int)) (by decide) rfl (Nat.le_of_ble_eq_true rfl) ?_
  intro p e s m args below meth c A H locs hx hb hr hts hown hlocks hml hnm hP hK hD hS hA hG ls hl
  have hown : s.vm.findClass RX4 = some m.cls := hown
  have hC : CallFix p m c cX4_pull 2 s args wsX4_pull RX4 := ⟨hx, hb, hml, hown, hts⟩
  have iX4 : ∀ w ∈ wsX40, w ∈ wsX4_pull := by decide +kernel
  have hl : lv_has ls 2 [(0, .ref h), (1, .int (nI x))] := hl
  refine lv_aload_n hx hb dX4_pull_0 rfl (lv_at hl 0 rfl) ?_
  refine va_get (D := D) (ci := 5) (v := .int (r 1)) (C := RX4) (T := TX4) (N := 10) hx hb hts iX4 hown hK hP 0 rfl rfl 1 (by decide) (hts (.fieldLink RX4 17 "ToyRegattaLaw$Boat" "rig" "I") (by decide +kernel)) (fun _ h9 => h9) rfl dX4_pull_1 ?_
  refine lv_iconst (v := 2) hx hb dX4_pull_4 (by decide) ?_
  refine lv_icmp_ne (tgt := 22) hx hb dX4_pull_5 (by decide) (fun c_5 => ?_) (fun c_5 => ?_)
  · refine lv_aload_n hx hb dX4_pull_22 rfl (lv_at hl 0 rfl) ?_
    refine va_get (D := D) (ci := 5) (v := .int (r 1)) (C := RX4) (T := TX4) (N := 10) hx hb hts iX4 hown hK hP 0 rfl rfl 1 (by decide) (hts (.fieldLink RX4 17 "ToyRegattaLaw$Boat" "rig" "I") (by decide +kernel)) (fun _ h9 => h9) rfl dX4_pull_23 ?_
    refine lv_iconst (v := 1) hx hb dX4_pull_26 (by decide) ?_
    refine lv_icmp_ne (tgt := 38) hx hb dX4_pull_27 (by decide) (fun c_27 => ?_) (fun c_27 => ?_)
    · refine lv_iload_n hx hb dX4_pull_38 rfl (lv_at hl 1 rfl) ?_
      refine lv_iload_n hx hb dX4_pull_39 rfl (lv_at hl 1 rfl) ?_
      refine lv_iadd hx hb dX4_pull_40 ?_
      refine lv_iload_n hx hb dX4_pull_41 rfl (lv_at hl 1 rfl) ?_
      refine lv_iadd hx hb dX4_pull_42 ?_
      exact q_iret hx hb hr hlocks hP hK hD hS (Nat.le_of_ble_eq_true rfl) (Nat.le_of_ble_eq_true rfl) dX4_pull_43 ⟨by rw [sPull_eq hB hw9]; simp only [sPull, if_neg c_5, if_neg c_27], rfl⟩
    · refine lv_iload_n hx hb dX4_pull_30 rfl (lv_at hl 1 rfl) ?_
      refine lv_iload_n hx hb dX4_pull_31 rfl (lv_at hl 1 rfl) ?_
      refine lv_imul hx hb dX4_pull_32 ?_
      refine lv_iconst (v := 2) hx hb dX4_pull_33 (by decide) ?_
      refine lv_idiv hx hb dX4_pull_34 (by decide) ?_
      refine lv_goto (tgt := 43) hx hb dX4_pull_35 (by decide) ?_
      exact q_iret hx hb hr hlocks hP hK hD hS (Nat.le_of_ble_eq_true rfl) (Nat.le_of_ble_eq_true rfl) dX4_pull_43 ⟨by rw [sPull_eq hB hw9]; simp only [sPull, if_neg c_5, if_pos c_27], rfl⟩
  · refine lv_iload_n hx hb dX4_pull_8 rfl (lv_at hl 1 rfl) ?_
    refine lv_if_le (tgt := 18) hx hb dX4_pull_9 (by decide) (fun c_9 => ?_) (fun c_9 => ?_)
    · refine lv_iconst (v := 0) hx hb dX4_pull_18 (by decide) ?_
      refine lv_goto (tgt := 43) hx hb dX4_pull_19 (by decide) ?_
      exact q_iret hx hb hr hlocks hP hK hD hS (Nat.le_of_ble_eq_true rfl) (Nat.le_of_ble_eq_true rfl) dX4_pull_43 ⟨by rw [sPull_eq hB hw9]; simp only [sPull, if_pos c_5, if_pos c_9], rfl⟩
    · refine lv_iload_n hx hb dX4_pull_12 rfl (lv_at hl 1 rfl) ?_
      refine lv_iconst (v := 5) hx hb dX4_pull_13 (by decide) ?_
      refine lv_iadd hx hb dX4_pull_14 ?_
      refine lv_goto (tgt := 43) hx hb dX4_pull_15 (by decide) ?_
      exact q_iret hx hb hr hlocks hP hK hD hS (Nat.le_of_ble_eq_true rfl) (Nat.le_of_ble_eq_true rfl) dX4_pull_43 ⟨by rw [sPull_eq hB hw9]; simp only [sPull, if_pos c_5, if_neg c_9], rfl⟩
abbrev rmX4_heel : Room := { frames := 1, cells := 0, slots := 0, locals := 21 }
set_option maxHeartbeats 4000000 in
set_option maxRecDepth 100000 in
theorem c_X4_heel (l : Launch) (D : va_G) (T : Nat → ClassId) (h : Nat) (r : Nat → Int32) (hB : pB r) (x : Nat) (hw9 : x < 10) : q_M l D (q_ty T) yX4_heel wsX4_heel rmX4_heel [.ref h, .int (nI x)] [q_sb h r] q_no (q_is (some (.int (bHeel r (nI x)))) [q_sb h r]) := by
  refine q_start (cc := cX4_heel) (maxL := 3) (ret := (some .int)) (by decide) rfl (Nat.le_of_ble_eq_true rfl) ?_
  intro p e s m args below meth c A H locs hx hb hr hts hown hlocks hml hnm hP hK hD hS hA hG ls hl
  have hown : s.vm.findClass RX4 = some m.cls := hown
  have hC : CallFix p m c cX4_heel 3 s args wsX4_heel RX4 := ⟨hx, hb, hml, hown, hts⟩
  have iX4 : ∀ w ∈ wsX40, w ∈ wsX4_heel := by decide +kernel
  have hl : lv_has ls 3 [(0, .ref h), (1, .int (nI x))] := hl
  refine lv_iconst (v := 4) hx hb dX4_heel_0 (by decide) ?_
  refine lv_aload_n hx hb dX4_heel_1 rfl (lv_at hl 0 rfl) ?_
  refine lv_iload_n hx hb dX4_heel_2 rfl (lv_at hl 1 rfl) ?_
  refine q_callV (As := [.int (nI x)]) (rs := [.int 4]) hC (c_X4_pull l D T h r hB x hw9) q_no_st q_no_at (cwV 1 hts gX4_heel_X4_pull rfl rfl rfl (by decide +kernel) ⟨Nat.le_of_ble_eq_true rfl, Nat.le_of_ble_eq_true rfl⟩) (va_recv hK hP (ci := 5) (q0 := 0) rfl rfl) hK hP hD hS hA (q_mask [true] _) rfl hl.1 rfl (Nat.le_of_ble_eq_true rfl) dX4_heel_3 ⟨(Nat.le_of_ble_eq_true rfl), (Nat.le_of_ble_eq_true rfl)⟩ (fun v9 C9 H locs hp hP hD hS => ?_)
  obtain ⟨rfl, rfl⟩ := hp
  have hP : va_P D vwCl [q_sb h r] H := q_P_perm (q_mrg_perm [true] _ _) hP
  have hD : va_D A [q_sb h r] := q_D_perm (q_mrg_perm [true] _ _) hD
  refine lv_imul hx hb dX4_heel_6 ?_
  refine lv_iconst (v := 5) hx hb dX4_heel_7 (by decide) ?_
  refine lv_aload_n hx hb dX4_heel_8 rfl (lv_at hl 0 rfl) ?_
  refine va_get (D := D) (ci := 5) (v := .int (r 2)) (C := RX4) (T := TX4) (N := 10) hx hb hts iX4 hown hK hP 0 rfl rfl 2 (by decide) (hts (.fieldLink RX4 20 "ToyRegattaLaw$Boat" "lead" "I") (by decide +kernel)) (fun _ h9 => h9) rfl dX4_heel_9 ?_
  refine lv_imul hx hb dX4_heel_12 ?_
  refine lv_isub hx hb dX4_heel_13 ?_
  refine lv_iconst (v := 2) hx hb dX4_heel_14 (by decide) ?_
  refine lv_aload_n hx hb dX4_heel_15 rfl (lv_at hl 0 rfl) ?_
  refine va_get (D := D) (ci := 5) (v := .int (r 0)) (C := RX4) (T := TX4) (N := 10) hx hb hts iX4 hown hK hP 0 rfl rfl 0 (by decide) (hts (.fieldLink RX4 14 "ToyRegattaLaw$Boat" "hull" "I") (by decide +kernel)) (fun _ h9 => h9) rfl dX4_heel_16 ?_
  refine lv_imul hx hb dX4_heel_19 ?_
  refine lv_isub hx hb dX4_heel_20 ?_
  refine lv_istore_n (lv' := [(2, .int (((4 * (bPull (r 1) (nI x))) - (5 * (r 2))) - (2 * (r 0)))), (0, .ref h), (1, .int (nI x))]) hx hb dX4_heel_21 rfl hl (by decide) rfl (fun ls hl => ?_)
  refine lv_iload_n hx hb dX4_heel_22 rfl (lv_at hl 0 rfl) ?_
  refine lv_if_ge (tgt := 30) hx hb dX4_heel_23 (by decide) (fun c_23 => ?_) (fun c_23 => ?_)
  · refine lv_iload_n hx hb dX4_heel_30 rfl (lv_at hl 0 rfl) ?_
    exact q_iret hx hb hr hlocks hP hK hD hS (Nat.le_of_ble_eq_true rfl) (Nat.le_of_ble_eq_true rfl) dX4_heel_31 ⟨by rw [show bHeel r (nI x) = _ from s_he_a c_23], rfl⟩
  · refine lv_iconst (v := 0) hx hb dX4_heel_26 (by decide) ?_
    refine lv_goto (tgt := 31) hx hb dX4_heel_27 (by decide) ?_
    exact q_iret hx hb hr hlocks hP hK hD hS (Nat.le_of_ble_eq_true rfl) (Nat.le_of_ble_eq_true rfl) dX4_heel_31 ⟨by rw [show bHeel r (nI x) = _ from s_he_b c_23], rfl⟩
abbrev rmX4_speed : Room := { frames := 1, cells := 0, slots := 0, locals := 21 }
set_option maxHeartbeats 4000000 in
set_option maxRecDepth 100000 in
theorem c_X4_speed (l : Launch) (D : va_G) (T : Nat → ClassId) (h : Nat) (r : Nat → Int32) (hB : pB r) (x : Nat) (hw9 : x < 10) : q_M l D (q_ty T) yX4_speed wsX4_speed rmX4_speed [.ref h, .int (nI x)] [q_sb h r] q_no (q_is (some (.int (bSpeed r (nI x)))) [q_sb h r]) := by
  refine q_start (cc := cX4_speed) (maxL := 3) (ret := (some .int)) (by decide) rfl (Nat.le_of_ble_eq_true rfl) ?_
  intro p e s m args below meth c A H locs hx hb hr hts hown hlocks hml hnm hP hK hD hS hA hG ls hl
  have hown : s.vm.findClass RX4 = some m.cls := hown
  have hC : CallFix p m c cX4_speed 3 s args wsX4_speed RX4 := ⟨hx, hb, hml, hown, hts⟩
  have iX4 : ∀ w ∈ wsX40, w ∈ wsX4_speed := by decide +kernel
  have hl : lv_has ls 3 [(0, .ref h), (1, .int (nI x))] := hl
  refine lv_iconst (v := 4) hx hb dX4_speed_0 (by decide) ?_
  refine lv_aload_n hx hb dX4_speed_1 rfl (lv_at hl 0 rfl) ?_
  refine lv_iload_n hx hb dX4_speed_2 rfl (lv_at hl 1 rfl) ?_
  refine q_callV (As := [.int (nI x)]) (rs := [.int 4]) hC (c_X4_pull l D T h r hB x hw9) q_no_st q_no_at (cwV 1 hts gX4_speed_X4_pull rfl rfl rfl (by decide +kernel) ⟨Nat.le_of_ble_eq_true rfl, Nat.le_of_ble_eq_true rfl⟩) (va_recv hK hP (ci := 5) (q0 := 0) rfl rfl) hK hP hD hS hA (q_mask [true] _) rfl hl.1 rfl (Nat.le_of_ble_eq_true rfl) dX4_speed_3 ⟨(Nat.le_of_ble_eq_true rfl), (Nat.le_of_ble_eq_true rfl)⟩ (fun v9 C9 H locs hp hP hD hS => ?_)
  obtain ⟨rfl, rfl⟩ := hp
  have hP : va_P D vwCl [q_sb h r] H := q_P_perm (q_mrg_perm [true] _ _) hP
  have hD : va_D A [q_sb h r] := q_D_perm (q_mrg_perm [true] _ _) hD
  refine lv_imul hx hb dX4_speed_6 ?_
  refine lv_iconst (v := 2) hx hb dX4_speed_7 (by decide) ?_
  refine lv_aload_n hx hb dX4_speed_8 rfl (lv_at hl 0 rfl) ?_
  refine va_get (D := D) (ci := 5) (v := .int (r 0)) (C := RX4) (T := TX4) (N := 10) hx hb hts iX4 hown hK hP 0 rfl rfl 0 (by decide) (hts (.fieldLink RX4 14 "ToyRegattaLaw$Boat" "hull" "I") (by decide +kernel)) (fun _ h9 => h9) rfl dX4_speed_9 ?_
  refine lv_iadd hx hb dX4_speed_12 ?_
  refine lv_aload_n hx hb dX4_speed_13 rfl (lv_at hl 0 rfl) ?_
  refine va_get (D := D) (ci := 5) (v := .int (r 2)) (C := RX4) (T := TX4) (N := 10) hx hb hts iX4 hown hK hP 0 rfl rfl 2 (by decide) (hts (.fieldLink RX4 20 "ToyRegattaLaw$Boat" "lead" "I") (by decide +kernel)) (fun _ h9 => h9) rfl dX4_speed_14 ?_
  refine lv_iconst (v := 2) hx hb dX4_speed_17 (by decide) ?_
  refine lv_idiv hx hb dX4_speed_18 (by decide) ?_
  refine lv_iadd hx hb dX4_speed_19 ?_
  refine lv_idiv hx hb dX4_speed_20 (q_ne0 hB.div) ?_
  refine lv_istore_n (lv' := [(2, .int ((4 * (bPull (r 1) (nI x))) / ((2 + (r 0)) + ((r 2) / 2)))), (0, .ref h), (1, .int (nI x))]) hx hb dX4_speed_21 rfl hl (by decide) rfl (fun ls hl => ?_)
  refine lv_iload_n hx hb dX4_speed_22 rfl (lv_at hl 0 rfl) ?_
  refine lv_bipush (v := 20) hx hb dX4_speed_23 (by decide) ?_
  refine lv_icmp_le (tgt := 33) hx hb dX4_speed_25 (by decide) (fun c_25 => ?_) (fun c_25 => ?_)
  · refine lv_iload_n hx hb dX4_speed_33 rfl (lv_at hl 0 rfl) ?_
    exact q_iret hx hb hr hlocks hP hK hD hS (Nat.le_of_ble_eq_true rfl) (Nat.le_of_ble_eq_true rfl) dX4_speed_34 ⟨by rw [show bSpeed r (nI x) = _ from s_sp_a c_25], rfl⟩
  · refine lv_bipush (v := 20) hx hb dX4_speed_28 (by decide) ?_
    refine lv_goto (tgt := 34) hx hb dX4_speed_30 (by decide) ?_
    exact q_iret hx hb hr hlocks hP hK hD hS (Nat.le_of_ble_eq_true rfl) (Nat.le_of_ble_eq_true rfl) dX4_speed_34 ⟨by rw [show bSpeed r (nI x) = _ from s_sp_b c_25], rfl⟩
abbrev rmX5_wind : Room := { frames := 0, cells := 0, slots := 0, locals := 0 }
set_option maxHeartbeats 4000000 in
set_option maxRecDepth 100000 in
theorem c_X5_wind (l : Launch) (D : va_G) (T : Nat → ClassId) (si sw so sj : Nat) (len mi ra go : Int32) (wg : Nat → Int32) (mk : Nat) (hm : mi = nI mk) (hmk : mk < 2 ^ 31) : q_M l D (q_ty T) yX5_wind wsX5_wind rmX5_wind [.ref si] [q_sm si len sw so sj mi ra go, (sw, .inl (T 0, 10, .inl wg))] q_no (q_is (some (.int (wg (mk % 10)))) [q_sm si len sw so sj mi ra go, q_ia T sw 10 wg]) := by
  refine q_start (cc := cX5_wind) (maxL := 1) (ret := (some .int)) (by decide) rfl (Nat.le_of_ble_eq_true rfl) ?_
  intro p e s m args below meth c A H locs hx hb hr hts hown hlocks hml hnm hP hK hD hS hA hG ls hl
  have hown : s.vm.findClass RX5 = some m.cls := hown
  have hC : CallFix p m c cX5_wind 1 s args wsX5_wind RX5 := ⟨hx, hb, hml, hown, hts⟩
  have iX5 : ∀ w ∈ wsX50, w ∈ wsX5_wind := by decide +kernel
  have hl : lv_has ls 1 [(0, .ref si)] := hl
  refine lv_aload_n hx hb dX5_wind_0 rfl (lv_at hl 0 rfl) ?_
  refine va_get (D := D) (ci := 6) (v := .ref sw) (C := RX5) (T := TX5) (N := 7) hx hb hts iX5 hown hK hP 0 rfl rfl 1 (by decide) (hts (.fieldLink RX5 13 "ToyRegattaLaw$Sim" "winds" "[I") (by decide +kernel)) (fun _ h9 => h9) rfl dX5_wind_1 ?_
  refine lv_aload_n hx hb dX5_wind_4 rfl (lv_at hl 0 rfl) ?_
  refine va_get (D := D) (ci := 6) (v := .int mi) (C := RX5) (T := TX5) (N := 7) hx hb hts iX5 hown hK hP 0 rfl rfl 4 (by decide) (hts (.fieldLink RX5 34 "ToyRegattaLaw$Sim" "minute" "I") (by decide +kernel)) (fun _ h9 => h9) rfl dX5_wind_5 ?_
  refine lv_bipush (v := 10) hx hb dX5_wind_8 (by decide) ?_
  refine lv_irem hx hb dX5_wind_10 (by decide) ?_
  refine W.eq (g2 := F0 m 11 ls [.int (nI (mk % 10)), .ref sw]) (by rw [hm, show (10 : Int32) = nI 10 from rfl, pk_rem hmk (by omega) (by omega)]) ?_
  refine va_iald (D := D) hx hb hK hP 1 0 rfl rfl (vp_in_nI (Nat.mod_lt _ (by omega)) (by omega)) dX5_wind_11 ?_
  rw [show ((nI (mk % 10)) : Int32).toNatClampNeg = (mk % 10) from (pk_cl (mk % 10) rfl (by omega))]
  exact q_iret hx hb hr hlocks hP hK hD hS (Nat.le_of_ble_eq_true rfl) (Nat.le_of_ble_eq_true rfl) dX5_wind_12 ⟨rfl, rfl⟩
abbrev rmX5_can : Room := { frames := 0, cells := 0, slots := 0, locals := 0 }
set_option maxHeartbeats 4000000 in
set_option maxRecDepth 100000 in
theorem c_X5_can (l : Launch) (D : va_G) (T : Nat → ClassId) (si sw so sj : Nat) (len mi ra go : Int32) (n : Nat) (sd : Nat → Nat) (G : Nat → Nat → Int32) (hn : n ≤ 8) : q_M l D (q_ty T) yX5_can wsX5_can rmX5_can [.ref si] ([q_sm si len sw so sj mi ra go, q_ra (T 3) so n sd] ++ q_gp q_sb (List.range n) sd G) q_no (q_is (some (.int (q_sum (rRdy G) n))) ([q_sm si len sw so sj mi ra go, q_ra (T 3) so n sd] ++ q_gp q_sb (List.range n) sd G)) := by
  refine q_start (cc := cX5_can) (maxL := 6) (ret := (some .int)) (by decide) rfl (Nat.le_of_ble_eq_true rfl) ?_
  intro p e s m args below meth c A H locs hx hb hr hts hown hlocks hml hnm hP hK hD hS hA hG ls hl
  have hown : s.vm.findClass RX5 = some m.cls := hown
  have hC : CallFix p m c cX5_can 6 s args wsX5_can RX5 := ⟨hx, hb, hml, hown, hts⟩
  have iX5 : ∀ w ∈ wsX50, w ∈ wsX5_can := by decide +kernel
  have iX4 : ∀ w ∈ wsX40, w ∈ wsX5_can := by decide +kernel
  have hl : lv_has ls 6 [(0, .ref si)] := hl
  refine lv_iconst (v := 0) hx hb dX5_can_0 (by decide) ?_
  refine lv_istore_n (lv' := [(1, .int 0), (0, .ref si)]) hx hb dX5_can_1 rfl hl (by decide) rfl (fun ls hl => ?_)
  refine lv_aload_n hx hb dX5_can_2 rfl (lv_at hl 1 rfl) ?_
  refine va_get (D := D) (ci := 6) (v := .ref so) (C := RX5) (T := TX5) (N := 7) hx hb hts iX5 hown hK hP 0 rfl rfl 2 (by decide) (hts (.fieldLink RX5 19 "ToyRegattaLaw$Sim" "boats" "[LToyRegattaLaw$Boat;") (by decide +kernel)) (fun _ h9 => h9) rfl dX5_can_3 ?_
  refine lv_astore_n (lv' := [(2, .ref so), (1, .int 0), (0, .ref si)]) hx hb dX5_can_6 rfl hl (by decide) rfl (fun ls hl => ?_)
  refine lv_aload_n hx hb dX5_can_7 rfl (lv_at hl 0 rfl) ?_
  refine va_alen (D := D) (v := nI n) hx hb hK hP 1 3 rfl rfl rfl dX5_can_8 ?_
  refine lv_istore_n (lv' := [(3, .int (nI n)), (2, .ref so), (1, .int 0), (0, .ref si)]) hx hb dX5_can_9 rfl hl (by decide) rfl (fun ls hl => ?_)
  refine lv_iconst (v := 0) hx hb dX5_can_10 (by decide) ?_
  refine lv_istore (lv' := [(4, .int 0), (3, .int (nI n)), (2, .ref so), (1, .int 0), (0, .ref si)]) hx hb dX5_can_11 hl (by decide) rfl (fun ls hl => ?_)
  have L13 : ∀ (f9 b : Nat) (h9a : n < b + f9) (h9b : b ≤ n) (H : Heap) (locs : List Loc) (ls : Array Slot), va_P D vwCl ([q_sm si len sw so sj mi ra go, q_ra (T 3) so n sd] ++ q_gp q_sb (List.range n) sd G) H → va_D A ([q_sm si len sw so sj mi ra go, q_ra (T 3) so n sd] ++ q_gp q_sb (List.range n) sd G) → va_S A s.heap H locs → lv_has ls 6 [(0, .ref si), (1, .int (q_sum (rRdy G) b)), (2, .ref so), (3, .int (nI n)), (4, .int (nI b))] → W p l e rmX5_can s m args below meth c H locs 0 0 (q_E below D (q_ty T) (q_is (some (.int (q_sum (rRdy G) n))) ([q_sm si len sw so sj mi ra go, q_ra (T 3) so n sd] ++ q_gp q_sb (List.range n) sd G)) A args s rmX5_can) (F0 m 13 ls []) := by
    intro f9
    induction f9 with
    | zero => intro b h9a h9b; exact absurd h9a (by omega)
    | succ f9 ih13 =>
      intro b h9a h9b   H locs ls hP hD hS hl
      refine lv_iload hx hb dX5_can_13 (lv_at hl 4 rfl) ?_
      refine lv_iload_n hx hb dX5_can_15 rfl (lv_at hl 3 rfl) ?_
      refine lv_icmp_ge (tgt := 49) hx hb dX5_can_16 (by decide) (fun c_16 => ?_) (fun c_16 => ?_)
      · have h9d := (q_exit c_16 h9b (by omega)).symm
        subst h9d
        refine lv_iload_n hx hb dX5_can_49 rfl (lv_at hl 1 rfl) ?_
        exact q_iret hx hb hr hlocks hP hK hD hS (Nat.le_of_ble_eq_true rfl) (Nat.le_of_ble_eq_true rfl) dX5_can_50 ⟨rfl, rfl⟩
      · have h9d := q_goon c_16 (by omega)
        have hP : va_P D vwCl ([q_sb (sd b) (G b), q_sm si len sw so sj mi ra go, q_ra (T 3) so n sd] ++ q_gp q_sb ((List.range n).erase b) sd G) H := q_P_perm (q_gno _ h9d rfl) hP
        have hD : va_D A ([q_sb (sd b) (G b), q_sm si len sw so sj mi ra go, q_ra (T 3) so n sd] ++ q_gp q_sb ((List.range n).erase b) sd G) := q_D_perm (q_gno _ h9d rfl) hD
        refine lv_aload_n hx hb dX5_can_19 rfl (lv_at hl 2 rfl) ?_
        refine lv_iload hx hb dX5_can_20 (lv_at hl 4 rfl) ?_
        refine va_aldq (D := D) hx hb hK hP 2 3 rfl rfl (vp_in_nI (N := n) h9d (by omega)) dX5_can_22 ?_
        rw [q_ref (n := n) (ad := sd) h9d (by omega)]
        refine lv_astore (lv' := [(5, .ref (sd b)), (0, .ref si), (1, .int (q_sum (rRdy G) b)), (2, .ref so), (3, .int (nI n)), (4, .int (nI b))]) hx hb dX5_can_23 hl (by decide) rfl (fun ls hl => ?_)
        refine lv_iload_n hx hb dX5_can_25 rfl (lv_at hl 2 rfl) ?_
        refine lv_aload hx hb dX5_can_26 (lv_at hl 0 rfl) ?_
        refine va_get (D := D) (ci := 5) (v := .int ((G b) 4)) (C := RX4) (T := TX4) (N := 10) hx hb hts iX4 hown hK hP 0 rfl rfl 4 (by decide) (hts (.fieldLink RX5 40 "ToyRegattaLaw$Boat" "wet" "I") (by decide +kernel)) (fun _ h9 => h9) rfl dX5_can_28 ?_
        refine lv_bipush (v := 9) hx hb dX5_can_31 (by decide) ?_
        refine lv_icmp_ge (tgt := 40) hx hb dX5_can_33 (by decide) (fun c_33 => ?_) (fun c_33 => ?_)
        · refine lv_iconst (v := 0) hx hb dX5_can_40 (by decide) ?_
          refine lv_iadd hx hb dX5_can_41 ?_
          refine lv_istore_n (lv' := [(1, .int ((q_sum (rRdy G) b) + 0)), (5, .ref (sd b)), (0, .ref si), (2, .ref so), (3, .int (nI n)), (4, .int (nI b))]) hx hb dX5_can_42 rfl hl (by decide) rfl (fun ls hl => ?_)
          refine lv_iinc (v := (nI (b + 1))) (lv' := [(4, .int (nI (b + 1))), (1, .int ((q_sum (rRdy G) b) + 0)), (5, .ref (sd b)), (0, .ref si), (2, .ref so), (3, .int (nI n))]) hx hb dX5_can_43 hl (k := 5) rfl (nI_1 b) (by decide) rfl (fun ls hl => ?_)
          refine lv_goto (tgt := 13) hx hb dX5_can_46 (by decide) ?_
          have hP : va_P D vwCl ([q_sm si len sw so sj mi ra go, q_ra (T 3) so n sd] ++ q_gp q_sb (List.range n) sd G) H := q_P_perm (q_gns [q_sm si len sw so sj mi ra go, q_ra (T 3) so n sd] h9d (F := G) (q_up_id G b)) hP
          have hD : va_D A ([q_sm si len sw so sj mi ra go, q_ra (T 3) so n sd] ++ q_gp q_sb (List.range n) sd G) := q_D_perm (q_gns [q_sm si len sw so sj mi ra go, q_ra (T 3) so n sd] h9d (F := G) (q_up_id G b)) hD
          have e9 : q_sum (rRdy G) (b + 1) = ((q_sum (rRdy G) b) + 0) := by simp only [q_sum, rRdy, if_pos c_33, Int32.add_zero]
          rw [← e9] at hl
          exact ih13 (b + 1) (by omega) (by omega)   _ _ ls hP hD hS (lv_sub hl [3, 1, 4, 5, 0] rfl)
        · refine lv_iconst (v := 1) hx hb dX5_can_36 (by decide) ?_
          refine lv_goto (tgt := 41) hx hb dX5_can_37 (by decide) ?_
          refine lv_iadd hx hb dX5_can_41 ?_
          refine lv_istore_n (lv' := [(1, .int ((q_sum (rRdy G) b) + 1)), (5, .ref (sd b)), (0, .ref si), (2, .ref so), (3, .int (nI n)), (4, .int (nI b))]) hx hb dX5_can_42 rfl hl (by decide) rfl (fun ls hl => ?_)
          refine lv_iinc (v := (nI (b + 1))) (lv' := [(4, .int (nI (b + 1))), (1, .int ((q_sum (rRdy G) b) + 1)), (5, .ref (sd b)), (0, .ref si), (2, .ref so), (3, .int (nI n))]) hx hb dX5_can_43 hl (k := 5) rfl (nI_1 b) (by decide) rfl (fun ls hl => ?_)
          refine lv_goto (tgt := 13) hx hb dX5_can_46 (by decide) ?_
          have hP : va_P D vwCl ([q_sm si len sw so sj mi ra go, q_ra (T 3) so n sd] ++ q_gp q_sb (List.range n) sd G) H := q_P_perm (q_gns [q_sm si len sw so sj mi ra go, q_ra (T 3) so n sd] h9d (F := G) (q_up_id G b)) hP
          have hD : va_D A ([q_sm si len sw so sj mi ra go, q_ra (T 3) so n sd] ++ q_gp q_sb (List.range n) sd G) := q_D_perm (q_gns [q_sm si len sw so sj mi ra go, q_ra (T 3) so n sd] h9d (F := G) (q_up_id G b)) hD
          have e9 : q_sum (rRdy G) (b + 1) = ((q_sum (rRdy G) b) + 1) := by simp only [q_sum, rRdy, if_neg c_33, Int32.add_zero]
          rw [← e9] at hl
          exact ih13 (b + 1) (by omega) (by omega)   _ _ ls hP hD hS (lv_sub hl [3, 1, 4, 5, 0] rfl)
  exact L13 (n + 1) 0 (by omega) (by omega)   _ _ ls hP hD hS (lv_sub hl [4, 3, 2, 1, 0] rfl)
abbrev rmX5_start : Room := { frames := 1, cells := 0, slots := 0, locals := 25 }
set_option maxHeartbeats 4000000 in
set_option maxRecDepth 100000 in
theorem c_X5_start (l : Launch) (D : va_G) (T : Nat → ClassId) (si sw so sj : Nat) (len mi ra go : Int32) (n : Nat) (sd : Nat → Nat) (G : Nat → Nat → Int32) (hn : n ≤ 8) : q_M l D (q_ty T) yX5_start wsX5_start rmX5_start [.ref si] ([q_sm si len sw so sj mi ra go, q_ra (T 3) so n sd] ++ q_gp q_sb (List.range n) sd G) q_no (q_is (some (.int (q_sum (rRdy (rEnters G)) n))) ([q_sm si len sw so sj mi ra 0, q_ra (T 3) so n sd] ++ q_gp q_sb (List.range n) sd (rEnters G))) := by
  refine q_start (cc := cX5_start) (maxL := 5) (ret := (some .int)) (by decide) rfl (Nat.le_of_ble_eq_true rfl) ?_
  intro p e s m args below meth c A H locs hx hb hr hts hown hlocks hml hnm hP hK hD hS hA hG ls hl
  have hown : s.vm.findClass RX5 = some m.cls := hown
  have hC : CallFix p m c cX5_start 5 s args wsX5_start RX5 := ⟨hx, hb, hml, hown, hts⟩
  have iX5 : ∀ w ∈ wsX50, w ∈ wsX5_start := by decide +kernel
  have iX4 : ∀ w ∈ wsX40, w ∈ wsX5_start := by decide +kernel
  have hl : lv_has ls 5 [(0, .ref si)] := hl
  refine lv_aload_n hx hb dX5_start_0 rfl (lv_at hl 0 rfl) ?_
  refine va_get (D := D) (ci := 6) (v := .ref so) (C := RX5) (T := TX5) (N := 7) hx hb hts iX5 hown hK hP 0 rfl rfl 2 (by decide) (hts (.fieldLink RX5 19 "ToyRegattaLaw$Sim" "boats" "[LToyRegattaLaw$Boat;") (by decide +kernel)) (fun _ h9 => h9) rfl dX5_start_1 ?_
  refine lv_astore_n (lv' := [(1, .ref so), (0, .ref si)]) hx hb dX5_start_4 rfl hl (by decide) rfl (fun ls hl => ?_)
  refine lv_aload_n hx hb dX5_start_5 rfl (lv_at hl 0 rfl) ?_
  refine va_alen (D := D) (v := nI n) hx hb hK hP 1 3 rfl rfl rfl dX5_start_6 ?_
  refine lv_istore_n (lv' := [(2, .int (nI n)), (1, .ref so), (0, .ref si)]) hx hb dX5_start_7 rfl hl (by decide) rfl (fun ls hl => ?_)
  refine lv_iconst (v := 0) hx hb dX5_start_8 (by decide) ?_
  refine lv_istore_n (lv' := [(3, .int 0), (2, .int (nI n)), (1, .ref so), (0, .ref si)]) hx hb dX5_start_9 rfl hl (by decide) rfl (fun ls hl => ?_)
  have hP : va_P D vwCl ([q_sm si len sw so sj mi ra go, q_ra (T 3) so n sd] ++ q_gp q_sb (List.range n) sd (q_upto 0 (rEnters G) G)) H := by rw [q_upto_0]; exact hP
  have hD : va_D A ([q_sm si len sw so sj mi ra go, q_ra (T 3) so n sd] ++ q_gp q_sb (List.range n) sd (q_upto 0 (rEnters G) G)) := by rw [q_upto_0]; exact hD
  have L10 : ∀ (f9 b : Nat) (h9a : n < b + f9) (h9b : b ≤ n) (H : Heap) (locs : List Loc) (ls : Array Slot), va_P D vwCl ([q_sm si len sw so sj mi ra go, q_ra (T 3) so n sd] ++ q_gp q_sb (List.range n) sd (q_upto b (rEnters G) G)) H → va_D A ([q_sm si len sw so sj mi ra go, q_ra (T 3) so n sd] ++ q_gp q_sb (List.range n) sd (q_upto b (rEnters G) G)) → va_S A s.heap H locs → lv_has ls 5 [(0, .ref si), (1, .ref so), (2, .int (nI n)), (3, .int (nI b))] → W p l e rmX5_start s m args below meth c H locs 0 0 (q_E below D (q_ty T) (q_is (some (.int (q_sum (rRdy (rEnters G)) n))) ([q_sm si len sw so sj mi ra 0, q_ra (T 3) so n sd] ++ q_gp q_sb (List.range n) sd (rEnters G))) A args s rmX5_start) (F0 m 10 ls []) := by
    intro f9
    induction f9 with
    | zero => intro b h9a h9b; exact absurd h9a (by omega)
    | succ f9 ih10 =>
      intro b h9a h9b   H locs ls hP hD hS hl
      refine lv_iload_n hx hb dX5_start_10 rfl (lv_at hl 3 rfl) ?_
      refine lv_iload_n hx hb dX5_start_11 rfl (lv_at hl 2 rfl) ?_
      refine lv_icmp_ge (tgt := 70) hx hb dX5_start_12 (by decide) (fun c_12 => ?_) (fun c_12 => ?_)
      · have h9d := (q_exit c_12 h9b (by omega)).symm
        subst h9d
        rw [q_gp_cn (F := q_upto n (rEnters G) G) (F' := (rEnters G)) (fun b hb => q_upto_lt _ _ hb)] at hP hD
        have hP : va_P D vwCl ([q_sm si len sw so sj mi ra go, q_ra (T 3) so n sd] ++ q_gp q_sb (List.range n) sd (rEnters G)) H := hP
        have hD : va_D A ([q_sm si len sw so sj mi ra go, q_ra (T 3) so n sd] ++ q_gp q_sb (List.range n) sd (rEnters G)) := hD
        refine lv_aload_n hx hb dX5_start_70 rfl (lv_at hl 0 rfl) ?_
        refine lv_iconst (v := 0) hx hb dX5_start_71 (by decide) ?_
        refine va_put (D := D) (ci := 6) (v := .int 0) (ty := .int) (C := RX5) (T := TX5) (N := 7) hx hb hts iX5 tyX5 tyX5_ok nmX5 hown hK hP hD hS 0 rfl rfl 6 (by decide) (hts (.fieldLink RX5 26 "ToyRegattaLaw$Sim" "gone" "I") (by decide +kernel)) (fun _ h9 => h9) rfl (by decide +kernel) rfl rfl (Nat.le_of_ble_eq_true rfl) dX5_start_72 (fun H locs hP hD hS => ?_)
        have hP : va_P D vwCl ([q_sm si len sw so sj mi ra 0, q_ra (T 3) so n sd] ++ q_gp q_sb (List.range n) sd (rEnters G)) H := hP
        have hD : va_D A ([q_sm si len sw so sj mi ra 0, q_ra (T 3) so n sd] ++ q_gp q_sb (List.range n) sd (rEnters G)) := hD
        refine lv_aload_n hx hb dX5_start_75 rfl (lv_at hl 0 rfl) ?_
        refine q_callV (As := []) (rs := []) hC (c_X5_can l D T si sw so sj len mi ra 0 n sd (rEnters G) hn) q_no_st q_no_at (cwV 0 hts gX5_start_X5_can rfl rfl rfl (by decide +kernel) ⟨Nat.le_of_ble_eq_true rfl, Nat.le_of_ble_eq_true rfl⟩) (va_recv hK hP (ci := 6) (q0 := 0) rfl rfl) hK hP hD hS hA (q_tmask [true, true] _ _) rfl hl.1 rfl (Nat.le_of_ble_eq_true rfl) dX5_start_76 ⟨(Nat.le_of_ble_eq_true rfl), (Nat.le_of_ble_eq_true rfl)⟩ (fun v9 C9 H locs hp hP hD hS => ?_)
        obtain ⟨rfl, rfl⟩ := hp
        have hP : va_P D vwCl ([q_sm si len sw so sj mi ra 0, q_ra (T 3) so n sd] ++ q_gp q_sb (List.range n) sd (rEnters G)) H := q_P_perm (q_tback [true, true] _ [] _) hP
        have hD : va_D A ([q_sm si len sw so sj mi ra 0, q_ra (T 3) so n sd] ++ q_gp q_sb (List.range n) sd (rEnters G)) := q_D_perm (q_tback [true, true] _ [] _) hD
        exact q_iret hx hb hr hlocks hP hK hD hS (Nat.le_of_ble_eq_true rfl) (Nat.le_of_ble_eq_true rfl) dX5_start_79 ⟨rfl, rfl⟩
      · have h9d := q_goon c_12 (by omega)
        have hP : va_P D vwCl ([q_sb (sd b) (G b), q_sm si len sw so sj mi ra go, q_ra (T 3) so n sd] ++ q_gp q_sb ((List.range n).erase b) sd (q_upto b (rEnters G) G)) H := q_P_perm (q_gno _ h9d (q_upto_at b (rEnters G) G)) hP
        have hD : va_D A ([q_sb (sd b) (G b), q_sm si len sw so sj mi ra go, q_ra (T 3) so n sd] ++ q_gp q_sb ((List.range n).erase b) sd (q_upto b (rEnters G) G)) := q_D_perm (q_gno _ h9d (q_upto_at b (rEnters G) G)) hD
        refine lv_aload_n hx hb dX5_start_15 rfl (lv_at hl 1 rfl) ?_
        refine lv_iload_n hx hb dX5_start_16 rfl (lv_at hl 3 rfl) ?_
        refine va_aldq (D := D) hx hb hK hP 2 3 rfl rfl (vp_in_nI (N := n) h9d (by omega)) dX5_start_17 ?_
        rw [q_ref (n := n) (ad := sd) h9d (by omega)]
        refine lv_astore (lv' := [(4, .ref (sd b)), (0, .ref si), (1, .ref so), (2, .int (nI n)), (3, .int (nI b))]) hx hb dX5_start_18 hl (by decide) rfl (fun ls hl => ?_)
        refine lv_aload hx hb dX5_start_20 (lv_at hl 0 rfl) ?_
        refine lv_aload hx hb dX5_start_22 (lv_at hl 0 rfl) ?_
        refine va_get (D := D) (ci := 5) (v := .int ((G b) 4)) (C := RX4) (T := TX4) (N := 10) hx hb hts iX4 hown hK hP 0 rfl rfl 4 (by decide) (hts (.fieldLink RX5 40 "ToyRegattaLaw$Boat" "wet" "I") (by decide +kernel)) (fun _ h9 => h9) rfl dX5_start_24 ?_
        refine lv_bipush (v := 9) hx hb dX5_start_27 (by decide) ?_
        refine lv_icmp_ge (tgt := 36) hx hb dX5_start_29 (by decide) (fun c_29 => ?_) (fun c_29 => ?_)
        · refine lv_iconst (v := 0) hx hb dX5_start_36 (by decide) ?_
          refine va_put (D := D) (ci := 5) (v := .int 0) (ty := .int) (C := RX4) (T := TX4) (N := 10) hx hb hts iX4 tyX4 tyX4_ok nmX4 hown hK hP hD hS 0 rfl rfl 5 (by decide) (hts (.fieldLink RX5 43 "ToyRegattaLaw$Boat" "state" "I") (by decide +kernel)) (fun _ h9 => h9) rfl (by decide +kernel) rfl rfl (Nat.le_of_ble_eq_true rfl) dX5_start_37 (fun H locs hP hD hS => ?_)
          have hP : va_P D vwCl ([q_sb (sd b) (upd (G b) 9 0), q_sm si len sw so sj mi ra go, q_ra (T 3) so n sd] ++ q_gp q_sb ((List.range n).erase b) sd (q_upto b (rEnters G) G)) H := hP
          have hD : va_D A ([q_sb (sd b) (upd (G b) 9 0), q_sm si len sw so sj mi ra go, q_ra (T 3) so n sd] ++ q_gp q_sb ((List.range n).erase b) sd (q_upto b (rEnters G) G)) := hD
          refine lv_aload hx hb dX5_start_40 (lv_at hl 0 rfl) ?_
          refine lv_iconst (v := 0) hx hb dX5_start_42 (by decide) ?_
          refine va_put (D := D) (ci := 5) (v := .int 0) (ty := .int) (C := RX4) (T := TX4) (N := 10) hx hb hts iX4 tyX4 tyX4_ok nmX4 hown hK hP hD hS 0 rfl rfl 6 (by decide) (hts (.fieldLink RX5 46 "ToyRegattaLaw$Boat" "place" "I") (by decide +kernel)) (fun _ h9 => h9) rfl (by decide +kernel) rfl rfl (Nat.le_of_ble_eq_true rfl) dX5_start_43 (fun H locs hP hD hS => ?_)
          have hP : va_P D vwCl ([q_sb (sd b) (upd (upd (G b) 9 0) 5 0), q_sm si len sw so sj mi ra go, q_ra (T 3) so n sd] ++ q_gp q_sb ((List.range n).erase b) sd (q_upto b (rEnters G) G)) H := hP
          have hD : va_D A ([q_sb (sd b) (upd (upd (G b) 9 0) 5 0), q_sm si len sw so sj mi ra go, q_ra (T 3) so n sd] ++ q_gp q_sb ((List.range n).erase b) sd (q_upto b (rEnters G) G)) := hD
          refine lv_aload hx hb dX5_start_46 (lv_at hl 0 rfl) ?_
          refine lv_iconst (v := (-1)) hx hb dX5_start_48 (by decide) ?_
          refine va_put (D := D) (ci := 5) (v := .int (-1)) (ty := .int) (C := RX4) (T := TX4) (N := 10) hx hb hts iX4 tyX4 tyX4_ok nmX4 hown hK hP hD hS 0 rfl rfl 7 (by decide) (hts (.fieldLink RX5 49 "ToyRegattaLaw$Boat" "time" "I") (by decide +kernel)) (fun _ h9 => h9) rfl (by decide +kernel) rfl rfl (Nat.le_of_ble_eq_true rfl) dX5_start_49 (fun H locs hP hD hS => ?_)
          have hP : va_P D vwCl ([q_sb (sd b) (upd (upd (upd (G b) 9 0) 5 0) 6 (-1)), q_sm si len sw so sj mi ra go, q_ra (T 3) so n sd] ++ q_gp q_sb ((List.range n).erase b) sd (q_upto b (rEnters G) G)) H := hP
          have hD : va_D A ([q_sb (sd b) (upd (upd (upd (G b) 9 0) 5 0) 6 (-1)), q_sm si len sw so sj mi ra go, q_ra (T 3) so n sd] ++ q_gp q_sb ((List.range n).erase b) sd (q_upto b (rEnters G) G)) := hD
          refine lv_aload hx hb dX5_start_52 (lv_at hl 0 rfl) ?_
          refine lv_iconst (v := 0) hx hb dX5_start_54 (by decide) ?_
          refine va_put (D := D) (ci := 5) (v := .int 0) (ty := .int) (C := RX4) (T := TX4) (N := 10) hx hb hts iX4 tyX4 tyX4_ok nmX4 hown hK hP hD hS 0 rfl rfl 8 (by decide) (hts (.fieldLink RX5 52 "ToyRegattaLaw$Boat" "fouls" "I") (by decide +kernel)) (fun _ h9 => h9) rfl (by decide +kernel) rfl rfl (Nat.le_of_ble_eq_true rfl) dX5_start_55 (fun H locs hP hD hS => ?_)
          have hP : va_P D vwCl ([q_sb (sd b) (upd (upd (upd (upd (G b) 9 0) 5 0) 6 (-1)) 7 0), q_sm si len sw so sj mi ra go, q_ra (T 3) so n sd] ++ q_gp q_sb ((List.range n).erase b) sd (q_upto b (rEnters G) G)) H := hP
          have hD : va_D A ([q_sb (sd b) (upd (upd (upd (upd (G b) 9 0) 5 0) 6 (-1)) 7 0), q_sm si len sw so sj mi ra go, q_ra (T 3) so n sd] ++ q_gp q_sb ((List.range n).erase b) sd (q_upto b (rEnters G) G)) := hD
          refine lv_aload hx hb dX5_start_58 (lv_at hl 0 rfl) ?_
          refine lv_iconst (v := 0) hx hb dX5_start_60 (by decide) ?_
          refine va_put (D := D) (ci := 5) (v := .int 0) (ty := .int) (C := RX4) (T := TX4) (N := 10) hx hb hts iX4 tyX4 tyX4_ok nmX4 hown hK hP hD hS 0 rfl rfl 9 (by decide) (hts (.fieldLink RX5 55 "ToyRegattaLaw$Boat" "lies" "I") (by decide +kernel)) (fun _ h9 => h9) rfl (by decide +kernel) rfl rfl (Nat.le_of_ble_eq_true rfl) dX5_start_61 (fun H locs hP hD hS => ?_)
          have hP : va_P D vwCl ([q_sb (sd b) (upd (upd (upd (upd (upd (G b) 9 0) 5 0) 6 (-1)) 7 0) 8 0), q_sm si len sw so sj mi ra go, q_ra (T 3) so n sd] ++ q_gp q_sb ((List.range n).erase b) sd (q_upto b (rEnters G) G)) H := hP
          have hD : va_D A ([q_sb (sd b) (upd (upd (upd (upd (upd (G b) 9 0) 5 0) 6 (-1)) 7 0) 8 0), q_sm si len sw so sj mi ra go, q_ra (T 3) so n sd] ++ q_gp q_sb ((List.range n).erase b) sd (q_upto b (rEnters G) G)) := hD
          have hP : va_P D vwCl ([q_sb (sd b) (rEnters G b), q_sm si len sw so sj mi ra go, q_ra (T 3) so n sd] ++ q_gp q_sb ((List.range n).erase b) sd (q_upto b (rEnters G) G)) H := by rw [show (rEnters G) b = (upd (upd (upd (upd (upd (G b) 9 0) 5 0) 6 (-1)) 7 0) 8 0) from (s_enter (G b) 0 (by simp only [if_pos c_29])).symm]; exact hP
          have hD : va_D A ([q_sb (sd b) (rEnters G b), q_sm si len sw so sj mi ra go, q_ra (T 3) so n sd] ++ q_gp q_sb ((List.range n).erase b) sd (q_upto b (rEnters G) G)) := by rw [show (rEnters G) b = (upd (upd (upd (upd (upd (G b) 9 0) 5 0) 6 (-1)) 7 0) 8 0) from (s_enter (G b) 0 (by simp only [if_pos c_29])).symm]; exact hD
          refine lv_iinc (v := (nI (b + 1))) (lv' := [(3, .int (nI (b + 1))), (4, .ref (sd b)), (0, .ref si), (1, .ref so), (2, .int (nI n))]) hx hb dX5_start_64 hl (k := 4) rfl (nI_1 b) (by decide) rfl (fun ls hl => ?_)
          refine lv_goto (tgt := 10) hx hb dX5_start_67 (by decide) ?_
          have hP : va_P D vwCl ([q_sm si len sw so sj mi ra go, q_ra (T 3) so n sd] ++ q_gp q_sb (List.range n) sd (q_upto (b + 1) (rEnters G) G)) H := q_P_perm (q_gns [q_sm si len sw so sj mi ra go, q_ra (T 3) so n sd] h9d (F := (q_upto b (rEnters G) G)) (q_upto_s b (rEnters G) G)) hP
          have hD : va_D A ([q_sm si len sw so sj mi ra go, q_ra (T 3) so n sd] ++ q_gp q_sb (List.range n) sd (q_upto (b + 1) (rEnters G) G)) := q_D_perm (q_gns [q_sm si len sw so sj mi ra go, q_ra (T 3) so n sd] h9d (F := (q_upto b (rEnters G) G)) (q_upto_s b (rEnters G) G)) hD
          exact ih10 (b + 1) (by omega) (by omega)   _ _ ls hP hD hS (lv_sub hl [2, 3, 4, 0] rfl)
        · refine lv_iconst (v := 1) hx hb dX5_start_32 (by decide) ?_
          refine lv_goto (tgt := 37) hx hb dX5_start_33 (by decide) ?_
          refine va_put (D := D) (ci := 5) (v := .int 1) (ty := .int) (C := RX4) (T := TX4) (N := 10) hx hb hts iX4 tyX4 tyX4_ok nmX4 hown hK hP hD hS 0 rfl rfl 5 (by decide) (hts (.fieldLink RX5 43 "ToyRegattaLaw$Boat" "state" "I") (by decide +kernel)) (fun _ h9 => h9) rfl (by decide +kernel) rfl rfl (Nat.le_of_ble_eq_true rfl) dX5_start_37 (fun H locs hP hD hS => ?_)
          have hP : va_P D vwCl ([q_sb (sd b) (upd (G b) 9 1), q_sm si len sw so sj mi ra go, q_ra (T 3) so n sd] ++ q_gp q_sb ((List.range n).erase b) sd (q_upto b (rEnters G) G)) H := hP
          have hD : va_D A ([q_sb (sd b) (upd (G b) 9 1), q_sm si len sw so sj mi ra go, q_ra (T 3) so n sd] ++ q_gp q_sb ((List.range n).erase b) sd (q_upto b (rEnters G) G)) := hD
          refine lv_aload hx hb dX5_start_40 (lv_at hl 0 rfl) ?_
          refine lv_iconst (v := 0) hx hb dX5_start_42 (by decide) ?_
          refine va_put (D := D) (ci := 5) (v := .int 0) (ty := .int) (C := RX4) (T := TX4) (N := 10) hx hb hts iX4 tyX4 tyX4_ok nmX4 hown hK hP hD hS 0 rfl rfl 6 (by decide) (hts (.fieldLink RX5 46 "ToyRegattaLaw$Boat" "place" "I") (by decide +kernel)) (fun _ h9 => h9) rfl (by decide +kernel) rfl rfl (Nat.le_of_ble_eq_true rfl) dX5_start_43 (fun H locs hP hD hS => ?_)
          have hP : va_P D vwCl ([q_sb (sd b) (upd (upd (G b) 9 1) 5 0), q_sm si len sw so sj mi ra go, q_ra (T 3) so n sd] ++ q_gp q_sb ((List.range n).erase b) sd (q_upto b (rEnters G) G)) H := hP
          have hD : va_D A ([q_sb (sd b) (upd (upd (G b) 9 1) 5 0), q_sm si len sw so sj mi ra go, q_ra (T 3) so n sd] ++ q_gp q_sb ((List.range n).erase b) sd (q_upto b (rEnters G) G)) := hD
          refine lv_aload hx hb dX5_start_46 (lv_at hl 0 rfl) ?_
          refine lv_iconst (v := (-1)) hx hb dX5_start_48 (by decide) ?_
          refine va_put (D := D) (ci := 5) (v := .int (-1)) (ty := .int) (C := RX4) (T := TX4) (N := 10) hx hb hts iX4 tyX4 tyX4_ok nmX4 hown hK hP hD hS 0 rfl rfl 7 (by decide) (hts (.fieldLink RX5 49 "ToyRegattaLaw$Boat" "time" "I") (by decide +kernel)) (fun _ h9 => h9) rfl (by decide +kernel) rfl rfl (Nat.le_of_ble_eq_true rfl) dX5_start_49 (fun H locs hP hD hS => ?_)
          have hP : va_P D vwCl ([q_sb (sd b) (upd (upd (upd (G b) 9 1) 5 0) 6 (-1)), q_sm si len sw so sj mi ra go, q_ra (T 3) so n sd] ++ q_gp q_sb ((List.range n).erase b) sd (q_upto b (rEnters G) G)) H := hP
          have hD : va_D A ([q_sb (sd b) (upd (upd (upd (G b) 9 1) 5 0) 6 (-1)), q_sm si len sw so sj mi ra go, q_ra (T 3) so n sd] ++ q_gp q_sb ((List.range n).erase b) sd (q_upto b (rEnters G) G)) := hD
          refine lv_aload hx hb dX5_start_52 (lv_at hl 0 rfl) ?_
          refine lv_iconst (v := 0) hx hb dX5_start_54 (by decide) ?_
          refine va_put (D := D) (ci := 5) (v := .int 0) (ty := .int) (C := RX4) (T := TX4) (N := 10) hx hb hts iX4 tyX4 tyX4_ok nmX4 hown hK hP hD hS 0 rfl rfl 8 (by decide) (hts (.fieldLink RX5 52 "ToyRegattaLaw$Boat" "fouls" "I") (by decide +kernel)) (fun _ h9 => h9) rfl (by decide +kernel) rfl rfl (Nat.le_of_ble_eq_true rfl) dX5_start_55 (fun H locs hP hD hS => ?_)
          have hP : va_P D vwCl ([q_sb (sd b) (upd (upd (upd (upd (G b) 9 1) 5 0) 6 (-1)) 7 0), q_sm si len sw so sj mi ra go, q_ra (T 3) so n sd] ++ q_gp q_sb ((List.range n).erase b) sd (q_upto b (rEnters G) G)) H := hP
          have hD : va_D A ([q_sb (sd b) (upd (upd (upd (upd (G b) 9 1) 5 0) 6 (-1)) 7 0), q_sm si len sw so sj mi ra go, q_ra (T 3) so n sd] ++ q_gp q_sb ((List.range n).erase b) sd (q_upto b (rEnters G) G)) := hD
          refine lv_aload hx hb dX5_start_58 (lv_at hl 0 rfl) ?_
          refine lv_iconst (v := 0) hx hb dX5_start_60 (by decide) ?_
          refine va_put (D := D) (ci := 5) (v := .int 0) (ty := .int) (C := RX4) (T := TX4) (N := 10) hx hb hts iX4 tyX4 tyX4_ok nmX4 hown hK hP hD hS 0 rfl rfl 9 (by decide) (hts (.fieldLink RX5 55 "ToyRegattaLaw$Boat" "lies" "I") (by decide +kernel)) (fun _ h9 => h9) rfl (by decide +kernel) rfl rfl (Nat.le_of_ble_eq_true rfl) dX5_start_61 (fun H locs hP hD hS => ?_)
          have hP : va_P D vwCl ([q_sb (sd b) (upd (upd (upd (upd (upd (G b) 9 1) 5 0) 6 (-1)) 7 0) 8 0), q_sm si len sw so sj mi ra go, q_ra (T 3) so n sd] ++ q_gp q_sb ((List.range n).erase b) sd (q_upto b (rEnters G) G)) H := hP
          have hD : va_D A ([q_sb (sd b) (upd (upd (upd (upd (upd (G b) 9 1) 5 0) 6 (-1)) 7 0) 8 0), q_sm si len sw so sj mi ra go, q_ra (T 3) so n sd] ++ q_gp q_sb ((List.range n).erase b) sd (q_upto b (rEnters G) G)) := hD
          have hP : va_P D vwCl ([q_sb (sd b) (rEnters G b), q_sm si len sw so sj mi ra go, q_ra (T 3) so n sd] ++ q_gp q_sb ((List.range n).erase b) sd (q_upto b (rEnters G) G)) H := by rw [show (rEnters G) b = (upd (upd (upd (upd (upd (G b) 9 1) 5 0) 6 (-1)) 7 0) 8 0) from (s_enter (G b) 1 (by simp only [if_neg c_29])).symm]; exact hP
          have hD : va_D A ([q_sb (sd b) (rEnters G b), q_sm si len sw so sj mi ra go, q_ra (T 3) so n sd] ++ q_gp q_sb ((List.range n).erase b) sd (q_upto b (rEnters G) G)) := by rw [show (rEnters G) b = (upd (upd (upd (upd (upd (G b) 9 1) 5 0) 6 (-1)) 7 0) 8 0) from (s_enter (G b) 1 (by simp only [if_neg c_29])).symm]; exact hD
          refine lv_iinc (v := (nI (b + 1))) (lv' := [(3, .int (nI (b + 1))), (4, .ref (sd b)), (0, .ref si), (1, .ref so), (2, .int (nI n))]) hx hb dX5_start_64 hl (k := 4) rfl (nI_1 b) (by decide) rfl (fun ls hl => ?_)
          refine lv_goto (tgt := 10) hx hb dX5_start_67 (by decide) ?_
          have hP : va_P D vwCl ([q_sm si len sw so sj mi ra go, q_ra (T 3) so n sd] ++ q_gp q_sb (List.range n) sd (q_upto (b + 1) (rEnters G) G)) H := q_P_perm (q_gns [q_sm si len sw so sj mi ra go, q_ra (T 3) so n sd] h9d (F := (q_upto b (rEnters G) G)) (q_upto_s b (rEnters G) G)) hP
          have hD : va_D A ([q_sm si len sw so sj mi ra go, q_ra (T 3) so n sd] ++ q_gp q_sb (List.range n) sd (q_upto (b + 1) (rEnters G) G)) := q_D_perm (q_gns [q_sm si len sw so sj mi ra go, q_ra (T 3) so n sd] h9d (F := (q_upto b (rEnters G) G)) (q_upto_s b (rEnters G) G)) hD
          exact ih10 (b + 1) (by omega) (by omega)   _ _ ls hP hD hS (lv_sub hl [2, 3, 4, 0] rfl)
  exact L10 (n + 1) 0 (by omega) (by omega)   _ _ ls hP hD hS (lv_sub hl [3, 2, 1, 0] rfl)
abbrev rmX5_isSeen : Room := { frames := 0, cells := 0, slots := 0, locals := 0 }
set_option maxHeartbeats 4000000 in
set_option maxRecDepth 100000 in
theorem c_X5_isSeen (l : Launch) (D : va_G) (T : Nat → ClassId) (si sw so sj : Nat) (len mi ra go : Int32) (k p9 : Nat) (x : Int32) (ey : Nat → Int32) (hk : k ≤ 3) (hp : p9 < 2 ^ 30) (hx9 : x = nI p9) (hj : sJu ey k) : q_M l D (q_ty T) yX5_isSeen wsX5_isSeen rmX5_isSeen [.ref si, .int x] [q_sm si len sw so sj mi ra go, (sj, .inl (T 0, k, .inl ey))] q_no (q_is (some (.int (rSee ey k x))) [q_sm si len sw so sj mi ra go, q_ia T sj k ey]) := by
  refine q_start (cc := cX5_isSeen) (maxL := 6) (ret := (some .boolean)) (by decide) rfl (Nat.le_of_ble_eq_true rfl) ?_
  intro p e s m args below meth c A H locs hx hb hr hts hown hlocks hml hnm hP hK hD hS hA hG ls hl
  have hown : s.vm.findClass RX5 = some m.cls := hown
  have hC : CallFix p m c cX5_isSeen 6 s args wsX5_isSeen RX5 := ⟨hx, hb, hml, hown, hts⟩
  have iX5 : ∀ w ∈ wsX50, w ∈ wsX5_isSeen := by decide +kernel
  have hl : lv_has ls 6 [(0, .ref si), (1, .int x)] := hl
  refine lv_aload_n hx hb dX5_isSeen_0 rfl (lv_at hl 0 rfl) ?_
  refine va_get (D := D) (ci := 6) (v := .ref sj) (C := RX5) (T := TX5) (N := 7) hx hb hts iX5 hown hK hP 0 rfl rfl 3 (by decide) (hts (.fieldLink RX5 23 "ToyRegattaLaw$Sim" "judges" "[I") (by decide +kernel)) (fun _ h9 => h9) rfl dX5_isSeen_1 ?_
  refine lv_astore_n (lv' := [(2, .ref sj), (0, .ref si), (1, .int x)]) hx hb dX5_isSeen_4 rfl hl (by decide) rfl (fun ls hl => ?_)
  refine lv_aload_n hx hb dX5_isSeen_5 rfl (lv_at hl 0 rfl) ?_
  refine va_alen (D := D) (v := nI k) hx hb hK hP 1 0 rfl rfl rfl dX5_isSeen_6 ?_
  refine lv_istore_n (lv' := [(3, .int (nI k)), (2, .ref sj), (0, .ref si), (1, .int x)]) hx hb dX5_isSeen_7 rfl hl (by decide) rfl (fun ls hl => ?_)
  refine lv_iconst (v := 0) hx hb dX5_isSeen_8 (by decide) ?_
  refine lv_istore (lv' := [(4, .int 0), (3, .int (nI k)), (2, .ref sj), (0, .ref si), (1, .int x)]) hx hb dX5_isSeen_9 hl (by decide) rfl (fun ls hl => ?_)
  have L11 : ∀ (f9 j : Nat) (h9a : k < j + f9) (h9b : j ≤ k) (h9c : q_any (fun j => decide (bAbs (ey j - x) ≤ 10)) j = false) (H : Heap) (locs : List Loc) (ls : Array Slot), va_P D vwCl [q_sm si len sw so sj mi ra go, (sj, .inl (T 0, k, .inl ey))] H → va_D A [q_sm si len sw so sj mi ra go, (sj, .inl (T 0, k, .inl ey))] → va_S A s.heap H locs → lv_has ls 6 [(0, .ref si), (1, .int x), (2, .ref sj), (3, .int (nI k)), (4, .int (nI j))] → W p l e rmX5_isSeen s m args below meth c H locs 0 0 (q_E below D (q_ty T) (q_is (some (.int (rSee ey k x))) [q_sm si len sw so sj mi ra go, q_ia T sj k ey]) A args s rmX5_isSeen) (F0 m 11 ls []) := by
    intro f9
    induction f9 with
    | zero => intro j h9a h9b; exact absurd h9a (by omega)
    | succ f9 ih11 =>
      intro j h9a h9b  h9c H locs ls hP hD hS hl
      refine lv_iload hx hb dX5_isSeen_11 (lv_at hl 4 rfl) ?_
      refine lv_iload_n hx hb dX5_isSeen_13 rfl (lv_at hl 3 rfl) ?_
      refine lv_icmp_ge (tgt := 49) hx hb dX5_isSeen_14 (by decide) (fun c_14 => ?_) (fun c_14 => ?_)
      · have h9d := q_exit c_14 h9b (by omega)
        subst h9d
        refine lv_iconst (v := 0) hx hb dX5_isSeen_49 (by decide) ?_
        exact q_zret hx hb hr hlocks hP hK hD hS rfl (Nat.le_of_ble_eq_true rfl) (Nat.le_of_ble_eq_true rfl) dX5_isSeen_50 ⟨by simp [rSee, h9c], rfl⟩
      · have h9d := q_goon c_14 (by omega)
        refine lv_aload_n hx hb dX5_isSeen_17 rfl (lv_at hl 2 rfl) ?_
        refine lv_iload hx hb dX5_isSeen_18 (lv_at hl 4 rfl) ?_
        refine va_iald (D := D) hx hb hK hP 1 0 rfl rfl (vp_in_nI h9d (by omega)) dX5_isSeen_20 ?_
        rw [show ((nI j) : Int32).toNatClampNeg = j from (pk_cl j rfl (by omega))]
        refine lv_istore (lv' := [(5, .int (ey j)), (0, .ref si), (1, .int x), (2, .ref sj), (3, .int (nI k)), (4, .int (nI j))]) hx hb dX5_isSeen_21 hl (by decide) rfl (fun ls hl => ?_)
        refine lv_iload hx hb dX5_isSeen_23 (lv_at hl 0 rfl) ?_
        refine lv_iload_n hx hb dX5_isSeen_25 rfl (lv_at hl 2 rfl) ?_
        refine lv_bipush (v := 10) hx hb dX5_isSeen_26 (by decide) ?_
        refine lv_isub hx hb dX5_isSeen_28 ?_
        refine lv_icmp_lt (tgt := 43) hx hb dX5_isSeen_29 (by decide) (fun c_29 => ?_) (fun c_29 => ?_)
        · refine lv_iinc (v := (nI (j + 1))) (lv' := [(4, .int (nI (j + 1))), (5, .int (ey j)), (0, .ref si), (1, .int x), (2, .ref sj), (3, .int (nI k))]) hx hb dX5_isSeen_43 hl (k := 5) rfl (nI_1 j) (by decide) rfl (fun ls hl => ?_)
          refine lv_goto (tgt := 11) hx hb dX5_isSeen_46 (by decide) ?_
          exact ih11 (j + 1) (by omega) (by omega)  (by simp only [q_any, h9c, Bool.false_or, decide_eq_false_iff_not]; obtain ⟨a, a1, a2⟩ := hj j h9d; exact fun q => absurd c_29 (Int32.not_lt.mpr ((s_see1 (by omega) hp a2 hx9).mpr q).1)) _ _ ls hP hD hS (lv_sub hl [2, 3, 4, 5, 0] rfl)
        · refine lv_iload hx hb dX5_isSeen_32 (lv_at hl 0 rfl) ?_
          refine lv_iload_n hx hb dX5_isSeen_34 rfl (lv_at hl 2 rfl) ?_
          refine lv_bipush (v := 10) hx hb dX5_isSeen_35 (by decide) ?_
          refine lv_iadd hx hb dX5_isSeen_37 ?_
          refine lv_icmp_gt (tgt := 43) hx hb dX5_isSeen_38 (by decide) (fun c_38 => ?_) (fun c_38 => ?_)
          · refine lv_iinc (v := (nI (j + 1))) (lv' := [(4, .int (nI (j + 1))), (5, .int (ey j)), (0, .ref si), (1, .int x), (2, .ref sj), (3, .int (nI k))]) hx hb dX5_isSeen_43 hl (k := 5) rfl (nI_1 j) (by decide) rfl (fun ls hl => ?_)
            refine lv_goto (tgt := 11) hx hb dX5_isSeen_46 (by decide) ?_
            exact ih11 (j + 1) (by omega) (by omega)  (by simp only [q_any, h9c, Bool.false_or, decide_eq_false_iff_not]; obtain ⟨a, a1, a2⟩ := hj j h9d; exact fun q => absurd c_38 (Int32.not_lt.mpr ((s_see1 (by omega) hp a2 hx9).mpr q).2)) _ _ ls hP hD hS (lv_sub hl [2, 3, 4, 5, 0] rfl)
          · refine lv_iconst (v := 1) hx hb dX5_isSeen_41 (by decide) ?_
            exact q_zret hx hb hr hlocks hP hK hD hS rfl (Nat.le_of_ble_eq_true rfl) (Nat.le_of_ble_eq_true rfl) dX5_isSeen_42 ⟨by obtain ⟨a, a1, a2⟩ := hj j h9d; rw [rSee, if_pos (q_any_hit h9d (decide_eq_true ((s_see1 (by omega) hp a2 hx9).mp ⟨Int32.not_lt.mp c_29, Int32.not_lt.mp c_38⟩)))], rfl⟩
  exact L11 (k + 1) 0 (by omega) (by omega)  rfl _ _ ls hP hD hS (lv_sub hl [3, 4, 2, 1, 0] rfl)
