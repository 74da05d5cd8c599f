
/-- a boat's cell: eleven fields, by a row of numbers -/
abbrev q_bc (a : Nat) (r : Nat → Int32) : Nat × va_E := (a, .inr (1, [.int (r 0), .int (r 1), .int (r 2), .int (r 3), .int (r 4), .int (r 5), .int (r 6), .int (r 7), .int (r 8), .int (r 9), .int (r 10)]))
theorem q_nz {v : Int32} (h : v = 0 ∨ v = 1) : narrow .boolean (.int v) = .int v := by rcases h with rfl | rfl <;> rfl
theorem q_fz {v : Int32} (h : v = 0 ∨ v = 1) : fits .boolean (.int v) = true := by rcases h with rfl | rfl <;> rfl
def bPull (g w : Int32) : Int32 := if g = 0 then 3 * w else if g = 1 then w * w / 2 else if w = 0 then 0 else 5 + w
def bHeel (r : Nat → Int32) (w : Int32) : Int32 := if 0 < 4 * bPull (r 1) w - 5 * r 2 - 2 * r 0 then 4 * bPull (r 1) w - 5 * r 2 - 2 * r 0 else 0
def bSpeed (r : Nat → Int32) (w : Int32) : Int32 := if 4 * bPull (r 1) w / (2 + r 0 + r 2 / 2) < 20 then 4 * bPull (r 1) w / (2 + r 0 + r 2 / 2) else 20
def bCan (r : Nat → Int32) : Int32 := if 9 ≤ r 4 then 0 else 1
def bEnter (r : Nat → Int32) : Nat → Int32 := upd (upd (upd (upd (upd r 5 0) 6 (-1)) 7 0) 8 0) 9 (if bCan (upd (upd (upd (upd r 5 0) 6 (-1)) 7 0) 8 0) = 0 then 0 else 1)
def bWet (r : Nat → Int32) : Int32 := if r 4 + 2 < 9 then r 4 + 2 else 9
def bFall (r : Nat → Int32) : Nat → Int32 := if bCan (upd r 4 (bWet r)) = 0 then upd (upd r 4 (bWet r)) 9 3 else upd (upd r 4 (bWet r)) 8 2
def bSail (r : Nat → Int32) (w : Int32) : Nat → Int32 :=
  if r 9 = 1 then (if r 8 ≤ 0 then (if bHeel (upd r 10 0) w ≤ 30 then upd (upd (upd r 10 0) 5 (r 5 + bSpeed (upd r 10 0) w)) 10 1 else bFall (upd r 10 0)) else upd (upd r 10 0) 8 (r 8 - 1)) else upd r 10 0
def bTouch (r q : Nat → Int32) : Int32 := if r 10 = 0 then 0 else if q 10 = 0 then 0 else if r 5 = q 5 then (if r 5 < 1 then 0 else 1) else 0
def bIn (r : Nat → Int32) (len t : Int32) : Nat → Int32 := if r 9 = 1 then (if len ≤ r 5 then upd (upd r 9 2) 6 t else r) else r
def bInR (r : Nat → Int32) (len : Int32) : Int32 := if r 9 = 1 then (if len ≤ r 5 then 1 else 0) else 0
def bDry (r : Nat → Int32) : Nat → Int32 := upd r 4 (if 0 < r 4 - 1 then r 4 - 1 else 0)
def bRes (r : Nat → Int32) : Int32 := r 6 + 3 * r 7
def bNew (hull rig : Int32) : Nat → Int32 := upd (upd (upd (fun _ => 0) 0 hull) 1 rig) 6 (-1)
abbrev q_ty (T : Nat → ClassId) : List (ClassId × FieldType) := [(T 0, .int), (T 1, .object "java/lang/Object"), (T 2, .boolean), (T 3, .object RX4), (T 4, .array .int)]
theorem q_ne0 {x : Int32} (h : 0 < x) : ¬ x = 0 := fun e => by rw [e] at h; exact absurd h (by decide)
theorem q_look2 {x : Int32} (h0 : ¬ x = 0) (h1 : ¬ x = 1) {a b d : Int} : Op.lookupswitch.offset [(0, a), (1, b)] d x.toInt = d := by
  have e0 : ¬ x.toInt = 0 := fun h => h0 (Int32.toInt_inj.mp (h.trans rfl))
  have e1 : ¬ x.toInt = 1 := fun h => h1 (Int32.toInt_inj.mp (h.trans rfl))
  simp [Op.lookupswitch.offset, Ne.symm e0, Ne.symm e1]

abbrev rmX0_pull : Room := { frames := 0, cells := 0, slots := 0, locals := 0 }
set_option maxHeartbeats 4000000 in
set_option maxRecDepth 100000 in
theorem c_X0_pull (l : Launch) (D : va_G) (T : Nat → ClassId) (h : Nat) (r : Nat → Int32) (x : Int32) : q_M l D (q_ty T) yX0_pull wsX0_pull rmX0_pull [.ref h, .int x] [q_bc h r] q_no (q_is (some (.int (bPull (r 1) x))) [q_bc h r]) := by
  refine q_start (cc := cX0_pull) (maxL := 2) (ret := (some .int)) (by decide) rfl (Nat.le_of_ble_eq_true rfl) ?_
  intro p e s m args below meth c A H locs hx hb hr hts hown hlocks hml hnm hP hK hD hS hA hG ls hl
  have hown : s.vm.findClass RX0 = some m.cls := hown
  have hC : CallFix p m c cX0_pull 2 s args wsX0_pull RX0 := ⟨hx, hb, hml, hown, hts⟩
  have iX0 : ∀ w ∈ wsX00, w ∈ wsX0_pull := by decide +kernel
  have hl : lv_has ls 2 [(0, .ref h), (1, .int x)] := hl
  refine lv_aload_n hx hb dX0_pull_0 rfl (lv_at hl 0 rfl) ?_
  refine va_get (D := D) (ci := 1) (v := .int (r 1)) (C := RX0) (T := TX0) (N := 11) hx hb hts iX0 hown hK hP 0 rfl rfl 1 (by decide) (hts (.fieldLink RX0 13 "ToyRegatta$Boat" "rig" "I") (by decide +kernel)) (fun _ h9 => h9) rfl dX0_pull_1 ?_
  by_cases g0_4 : (r 1) = 0
  · refine lv_lookup (off := 28) (tgt := 32) hx hb dX0_pull_4 rfl (by rw [g0_4]; rfl) (by decide) ?_
    refine lv_iconst (v := 3) hx hb dX0_pull_32 (by decide) ?_
    refine lv_iload_n hx hb dX0_pull_33 rfl (lv_at hl 1 rfl) ?_
    refine lv_imul hx hb dX0_pull_34 ?_
    exact q_iret hx hb hr hlocks hP hK hD hS (Nat.le_of_ble_eq_true rfl) (Nat.le_of_ble_eq_true rfl) dX0_pull_35 ⟨by simp only [bPull, if_pos g0_4], rfl⟩
  by_cases g1_4 : (r 1) = 1
  · refine lv_lookup (off := 32) (tgt := 36) hx hb dX0_pull_4 rfl (by rw [g1_4]; rfl) (by decide) ?_
    refine lv_iload_n hx hb dX0_pull_36 rfl (lv_at hl 1 rfl) ?_
    refine lv_iload_n hx hb dX0_pull_37 rfl (lv_at hl 1 rfl) ?_
    refine lv_imul hx hb dX0_pull_38 ?_
    refine lv_iconst (v := 2) hx hb dX0_pull_39 (by decide) ?_
    refine lv_idiv hx hb dX0_pull_40 (by decide) ?_
    exact q_iret hx hb hr hlocks hP hK hD hS (Nat.le_of_ble_eq_true rfl) (Nat.le_of_ble_eq_true rfl) dX0_pull_41 ⟨by simp only [bPull, if_neg g0_4, if_pos g1_4], rfl⟩
  refine lv_lookup (off := 38) (tgt := 42) hx hb dX0_pull_4 rfl (q_look2 g0_4 g1_4) (by decide) ?_
  refine lv_iload_n hx hb dX0_pull_42 rfl (lv_at hl 1 rfl) ?_
  refine lv_if_ne (tgt := 50) hx hb dX0_pull_43 (by decide) (fun c_43 => ?_) (fun c_43 => ?_)
  · refine lv_iconst (v := 5) hx hb dX0_pull_50 (by decide) ?_
    refine lv_iload_n hx hb dX0_pull_51 rfl (lv_at hl 1 rfl) ?_
    refine lv_iadd hx hb dX0_pull_52 ?_
    exact q_iret hx hb hr hlocks hP hK hD hS (Nat.le_of_ble_eq_true rfl) (Nat.le_of_ble_eq_true rfl) dX0_pull_53 ⟨by simp only [bPull, if_neg g0_4, if_neg g1_4, if_neg c_43], rfl⟩
  · refine lv_iconst (v := 0) hx hb dX0_pull_46 (by decide) ?_
    refine lv_goto (tgt := 53) hx hb dX0_pull_47 (by decide) ?_
    exact q_iret hx hb hr hlocks hP hK hD hS (Nat.le_of_ble_eq_true rfl) (Nat.le_of_ble_eq_true rfl) dX0_pull_53 ⟨by simp only [bPull, if_neg g0_4, if_neg g1_4, if_pos c_43], rfl⟩
abbrev rmX0_heel : Room := { frames := 1, cells := 0, slots := 0, locals := 21 }
set_option maxHeartbeats 4000000 in
set_option maxRecDepth 100000 in
theorem c_X0_heel (l : Launch) (D : va_G) (T : Nat → ClassId) (h : Nat) (r : Nat → Int32) (x : Int32) : q_M l D (q_ty T) yX0_heel wsX0_heel rmX0_heel [.ref h, .int x] [q_bc h r] q_no (q_is (some (.int (bHeel r x))) [q_bc h r]) := by
  refine q_start (cc := cX0_heel) (maxL := 2) (ret := (some .int)) (by decide) rfl (Nat.le_of_ble_eq_true rfl) ?_
  intro p e s m args below meth c A H locs hx hb hr hts hown hlocks hml hnm hP hK hD hS hA hG ls hl
  have hown : s.vm.findClass RX0 = some m.cls := hown
  have hC : CallFix p m c cX0_heel 2 s args wsX0_heel RX0 := ⟨hx, hb, hml, hown, hts⟩
  have iX0 : ∀ w ∈ wsX00, w ∈ wsX0_heel := by decide +kernel
  have hl : lv_has ls 2 [(0, .ref h), (1, .int x)] := hl
  refine lv_iconst (v := 0) hx hb dX0_heel_0 (by decide) ?_
  refine lv_iconst (v := 4) hx hb dX0_heel_1 (by decide) ?_
  refine lv_aload_n hx hb dX0_heel_2 rfl (lv_at hl 0 rfl) ?_
  refine lv_iload_n hx hb dX0_heel_3 rfl (lv_at hl 1 rfl) ?_
  refine q_callV (As := [.int x]) (rs := [.int 4, .int 0]) hC (c_X0_pull l D T h r x) q_no_st q_no_at (cwV 1 hts gX0_heel_X0_pull rfl rfl rfl (by decide +kernel) ⟨Nat.le_of_ble_eq_true rfl, Nat.le_of_ble_eq_true rfl⟩) (va_recv hK hP (ci := 1) (q0 := 0) rfl rfl) hK hP hD hS hA (q_mask [true] _) rfl hl.1 rfl (Nat.le_of_ble_eq_true rfl) dX0_heel_4 ⟨(Nat.le_of_ble_eq_true rfl), (Nat.le_of_ble_eq_true rfl)⟩ (fun v9 C9 H locs hp hP hD hS => ?_)
  obtain ⟨rfl, rfl⟩ := hp
  have hP : va_P D vwCl [q_bc h r] H := q_P_perm (q_mrg_perm [true] _ _) hP
  have hD : va_D A [q_bc h r] := q_D_perm (q_mrg_perm [true] _ _) hD
  refine lv_imul hx hb dX0_heel_7 ?_
  refine lv_iconst (v := 5) hx hb dX0_heel_8 (by decide) ?_
  refine lv_aload_n hx hb dX0_heel_9 rfl (lv_at hl 0 rfl) ?_
  refine va_get (D := D) (ci := 1) (v := .int (r 2)) (C := RX0) (T := TX0) (N := 11) hx hb hts iX0 hown hK hP 0 rfl rfl 2 (by decide) (hts (.fieldLink RX0 19 "ToyRegatta$Boat" "lead" "I") (by decide +kernel)) (fun _ h9 => h9) rfl dX0_heel_10 ?_
  refine lv_imul hx hb dX0_heel_13 ?_
  refine lv_isub hx hb dX0_heel_14 ?_
  refine lv_iconst (v := 2) hx hb dX0_heel_15 (by decide) ?_
  refine lv_aload_n hx hb dX0_heel_16 rfl (lv_at hl 0 rfl) ?_
  refine va_get (D := D) (ci := 1) (v := .int (r 0)) (C := RX0) (T := TX0) (N := 11) hx hb hts iX0 hown hK hP 0 rfl rfl 0 (by decide) (hts (.fieldLink RX0 7 "ToyRegatta$Boat" "hull" "I") (by decide +kernel)) (fun _ h9 => h9) rfl dX0_heel_17 ?_
  refine lv_imul hx hb dX0_heel_20 ?_
  refine lv_isub hx hb dX0_heel_21 ?_
  refine va_mmax hx hb (hml.trans hl.1.symm) hown (hts (.methodLink RX0 48 Lib.Math.max.name) (by decide +kernel)) (hts (.static Lib.Math.max.name) (by decide +kernel)) (hts (.initialized "java/lang/Math") (by decide +kernel)) (hts (.code Lib.Math.max.name Lib.Math.max.code 2 (some .int)) (by decide +kernel)) (Nat.le_of_ble_eq_true rfl) (Nat.le_of_ble_eq_true rfl) (Nat.le_of_ble_eq_true rfl) (Nat.le_of_ble_eq_true rfl) dX0_heel_22 ?_
  exact q_iret hx hb hr hlocks hP hK hD hS (Nat.le_of_ble_eq_true rfl) (Nat.le_of_ble_eq_true rfl) dX0_heel_25 ⟨rfl, rfl⟩
abbrev rmX0_speed : Room := { frames := 1, cells := 0, slots := 0, locals := 21 }
set_option maxHeartbeats 4000000 in
set_option maxRecDepth 100000 in
theorem c_X0_speed (l : Launch) (D : va_G) (T : Nat → ClassId) (h : Nat) (r : Nat → Int32) (x : Int32) (hz : 0 < 2 + r 0 + r 2 / 2) : q_M l D (q_ty T) yX0_speed wsX0_speed rmX0_speed [.ref h, .int x] [q_bc h r] q_no (q_is (some (.int (bSpeed r x))) [q_bc h r]) := by
  refine q_start (cc := cX0_speed) (maxL := 3) (ret := (some .int)) (by decide) rfl (Nat.le_of_ble_eq_true rfl) ?_
  intro p e s m args below meth c A H locs hx hb hr hts hown hlocks hml hnm hP hK hD hS hA hG ls hl
  have hown : s.vm.findClass RX0 = some m.cls := hown
  have hC : CallFix p m c cX0_speed 3 s args wsX0_speed RX0 := ⟨hx, hb, hml, hown, hts⟩
  have iX0 : ∀ w ∈ wsX00, w ∈ wsX0_speed := by decide +kernel
  have hl : lv_has ls 3 [(0, .ref h), (1, .int x)] := hl
  refine lv_iconst (v := 2) hx hb dX0_speed_0 (by decide) ?_
  refine lv_aload_n hx hb dX0_speed_1 rfl (lv_at hl 0 rfl) ?_
  refine va_get (D := D) (ci := 1) (v := .int (r 0)) (C := RX0) (T := TX0) (N := 11) hx hb hts iX0 hown hK hP 0 rfl rfl 0 (by decide) (hts (.fieldLink RX0 7 "ToyRegatta$Boat" "hull" "I") (by decide +kernel)) (fun _ h9 => h9) rfl dX0_speed_2 ?_
  refine lv_iadd hx hb dX0_speed_5 ?_
  refine lv_aload_n hx hb dX0_speed_6 rfl (lv_at hl 0 rfl) ?_
  refine va_get (D := D) (ci := 1) (v := .int (r 2)) (C := RX0) (T := TX0) (N := 11) hx hb hts iX0 hown hK hP 0 rfl rfl 2 (by decide) (hts (.fieldLink RX0 19 "ToyRegatta$Boat" "lead" "I") (by decide +kernel)) (fun _ h9 => h9) rfl dX0_speed_7 ?_
  refine lv_iconst (v := 2) hx hb dX0_speed_10 (by decide) ?_
  refine lv_idiv hx hb dX0_speed_11 (by decide) ?_
  refine lv_iadd hx hb dX0_speed_12 ?_
  refine lv_istore_n (lv' := [(2, .int ((2 + (r 0)) + ((r 2) / 2))), (0, .ref h), (1, .int x)]) hx hb dX0_speed_13 rfl hl (by decide) rfl (fun ls hl => ?_)
  refine lv_iload_n hx hb dX0_speed_14 rfl (lv_at hl 0 rfl) ?_
  refine lv_if_gt (tgt := 20) hx hb dX0_speed_15 (by decide) (fun c_15 => ?_) (fun c_15 => absurd hz c_15)
  refine lv_bipush (v := 20) hx hb dX0_speed_20 (by decide) ?_
  refine lv_iconst (v := 4) hx hb dX0_speed_22 (by decide) ?_
  refine lv_aload_n hx hb dX0_speed_23 rfl (lv_at hl 1 rfl) ?_
  refine lv_iload_n hx hb dX0_speed_24 rfl (lv_at hl 2 rfl) ?_
  refine q_callV (As := [.int x]) (rs := [.int 4, .int 20]) hC (c_X0_pull l D T h r x) q_no_st q_no_at (cwV 1 hts gX0_speed_X0_pull rfl rfl rfl (by decide +kernel) ⟨Nat.le_of_ble_eq_true rfl, Nat.le_of_ble_eq_true rfl⟩) (va_recv hK hP (ci := 1) (q0 := 0) rfl rfl) hK hP hD hS hA (q_mask [true] _) rfl hl.1 rfl (Nat.le_of_ble_eq_true rfl) dX0_speed_25 ⟨(Nat.le_of_ble_eq_true rfl), (Nat.le_of_ble_eq_true rfl)⟩ (fun v9 C9 H locs hp hP hD hS => ?_)
  obtain ⟨rfl, rfl⟩ := hp
  have hP : va_P D vwCl [q_bc h r] H := q_P_perm (q_mrg_perm [true] _ _) hP
  have hD : va_D A [q_bc h r] := q_D_perm (q_mrg_perm [true] _ _) hD
  refine lv_imul hx hb dX0_speed_28 ?_
  refine lv_iload_n hx hb dX0_speed_29 rfl (lv_at hl 0 rfl) ?_
  refine lv_idiv hx hb dX0_speed_30 (q_ne0 hz) ?_
  refine va_mmin hx hb (hml.trans hl.1.symm) hown (hts (.methodLink RX0 54 Lib.Math.min.name) (by decide +kernel)) (hts (.static Lib.Math.min.name) (by decide +kernel)) (hts (.initialized "java/lang/Math") (by decide +kernel)) (hts (.code Lib.Math.min.name Lib.Math.min.code 2 (some .int)) (by decide +kernel)) (Nat.le_of_ble_eq_true rfl) (Nat.le_of_ble_eq_true rfl) (Nat.le_of_ble_eq_true rfl) (Nat.le_of_ble_eq_true rfl) dX0_speed_31 ?_
  exact q_iret hx hb hr hlocks hP hK hD hS (Nat.le_of_ble_eq_true rfl) (Nat.le_of_ble_eq_true rfl) dX0_speed_34 ⟨rfl, rfl⟩
abbrev rmX0_canRace : Room := { frames := 0, cells := 0, slots := 0, locals := 0 }
set_option maxHeartbeats 4000000 in
set_option maxRecDepth 100000 in
theorem c_X0_canRace (l : Launch) (D : va_G) (T : Nat → ClassId) (h : Nat) (r : Nat → Int32) : q_M l D (q_ty T) yX0_canRace wsX0_canRace rmX0_canRace [.ref h] [q_bc h r] q_no (q_is (some (.int (bCan r))) [q_bc h r]) := by
  refine q_start (cc := cX0_canRace) (maxL := 1) (ret := (some .boolean)) (by decide) rfl (Nat.le_of_ble_eq_true rfl) ?_
  intro p e s m args below meth c A H locs hx hb hr hts hown hlocks hml hnm hP hK hD hS hA hG ls hl
  have hown : s.vm.findClass RX0 = some m.cls := hown
  have hC : CallFix p m c cX0_canRace 1 s args wsX0_canRace RX0 := ⟨hx, hb, hml, hown, hts⟩
  have iX0 : ∀ w ∈ wsX00, w ∈ wsX0_canRace := by decide +kernel
  have hl : lv_has ls 1 [(0, .ref h)] := hl
  refine lv_aload_n hx hb dX0_canRace_0 rfl (lv_at hl 0 rfl) ?_
  refine va_get (D := D) (ci := 1) (v := .int (r 4)) (C := RX0) (T := TX0) (N := 11) hx hb hts iX0 hown hK hP 0 rfl rfl 4 (by decide) (hts (.fieldLink RX0 25 "ToyRegatta$Boat" "soaked" "I") (by decide +kernel)) (fun _ h9 => h9) rfl dX0_canRace_1 ?_
  refine lv_bipush (v := 9) hx hb dX0_canRace_4 (by decide) ?_
  refine lv_icmp_ge (tgt := 13) hx hb dX0_canRace_6 (by decide) (fun c_6 => ?_) (fun c_6 => ?_)
  · refine lv_iconst (v := 0) hx hb dX0_canRace_13 (by decide) ?_
    exact q_zret hx hb hr hlocks hP hK hD hS rfl (Nat.le_of_ble_eq_true rfl) (Nat.le_of_ble_eq_true rfl) dX0_canRace_14 ⟨by simp only [bCan, if_pos c_6], rfl⟩
  · refine lv_iconst (v := 1) hx hb dX0_canRace_9 (by decide) ?_
    refine lv_goto (tgt := 14) hx hb dX0_canRace_10 (by decide) ?_
    exact q_zret hx hb hr hlocks hP hK hD hS rfl (Nat.le_of_ble_eq_true rfl) (Nat.le_of_ble_eq_true rfl) dX0_canRace_14 ⟨by simp only [bCan, if_neg c_6], rfl⟩
abbrev rmX0_enterRace : Room := { frames := 1, cells := 0, slots := 0, locals := 20 }
set_option maxHeartbeats 4000000 in
set_option maxRecDepth 100000 in
theorem c_X0_enterRace (l : Launch) (D : va_G) (T : Nat → ClassId) (h : Nat) (r : Nat → Int32) : q_M l D (q_ty T) yX0_enterRace wsX0_enterRace rmX0_enterRace [.ref h] [q_bc h r] q_no (q_is none [q_bc h (bEnter r)]) := by
  refine q_start (cc := cX0_enterRace) (maxL := 1) (ret := none) (by decide) rfl (Nat.le_of_ble_eq_true rfl) ?_
  intro p e s m args below meth c A H locs hx hb hr hts hown hlocks hml hnm hP hK hD hS hA hG ls hl
  have hown : s.vm.findClass RX0 = some m.cls := hown
  have hC : CallFix p m c cX0_enterRace 1 s args wsX0_enterRace RX0 := ⟨hx, hb, hml, hown, hts⟩
  have iX0 : ∀ w ∈ wsX00, w ∈ wsX0_enterRace := by decide +kernel
  have hl : lv_has ls 1 [(0, .ref h)] := hl
  refine lv_aload_n hx hb dX0_enterRace_0 rfl (lv_at hl 0 rfl) ?_
  refine lv_iconst (v := 0) hx hb dX0_enterRace_1 (by decide) ?_
  refine va_put (D := D) (ci := 1) (v := .int 0) (ty := .int) (C := RX0) (T := TX0) (N := 11) hx hb hts iX0 tyX0 tyX0_ok nmX0 hown hK hP hD hS 0 rfl rfl 5 (by decide) (hts (.fieldLink RX0 28 "ToyRegatta$Boat" "place" "I") (by decide +kernel)) (fun _ h9 => h9) rfl (by decide +kernel) rfl rfl (Nat.le_of_ble_eq_true rfl) dX0_enterRace_2 (fun H locs hP hD hS => ?_)
  have hP : va_P D vwCl [q_bc h (upd r 5 0)] H := hP
  have hD : va_D A [q_bc h (upd r 5 0)] := hD
  refine lv_aload_n hx hb dX0_enterRace_5 rfl (lv_at hl 0 rfl) ?_
  refine lv_iconst (v := (-1)) hx hb dX0_enterRace_6 (by decide) ?_
  refine va_put (D := D) (ci := 1) (v := .int (-1)) (ty := .int) (C := RX0) (T := TX0) (N := 11) hx hb hts iX0 tyX0 tyX0_ok nmX0 hown hK hP hD hS 0 rfl rfl 6 (by decide) (hts (.fieldLink RX0 16 "ToyRegatta$Boat" "time" "I") (by decide +kernel)) (fun _ h9 => h9) rfl (by decide +kernel) rfl rfl (Nat.le_of_ble_eq_true rfl) dX0_enterRace_7 (fun H locs hP hD hS => ?_)
  have hP : va_P D vwCl [q_bc h (upd (upd r 5 0) 6 (-1))] H := hP
  have hD : va_D A [q_bc h (upd (upd r 5 0) 6 (-1))] := hD
  refine lv_aload_n hx hb dX0_enterRace_10 rfl (lv_at hl 0 rfl) ?_
  refine lv_iconst (v := 0) hx hb dX0_enterRace_11 (by decide) ?_
  refine va_put (D := D) (ci := 1) (v := .int 0) (ty := .int) (C := RX0) (T := TX0) (N := 11) hx hb hts iX0 tyX0 tyX0_ok nmX0 hown hK hP hD hS 0 rfl rfl 7 (by decide) (hts (.fieldLink RX0 31 "ToyRegatta$Boat" "fouls" "I") (by decide +kernel)) (fun _ h9 => h9) rfl (by decide +kernel) rfl rfl (Nat.le_of_ble_eq_true rfl) dX0_enterRace_12 (fun H locs hP hD hS => ?_)
  have hP : va_P D vwCl [q_bc h (upd (upd (upd r 5 0) 6 (-1)) 7 0)] H := hP
  have hD : va_D A [q_bc h (upd (upd (upd r 5 0) 6 (-1)) 7 0)] := hD
  refine lv_aload_n hx hb dX0_enterRace_15 rfl (lv_at hl 0 rfl) ?_
  refine lv_iconst (v := 0) hx hb dX0_enterRace_16 (by decide) ?_
  refine va_put (D := D) (ci := 1) (v := .int 0) (ty := .int) (C := RX0) (T := TX0) (N := 11) hx hb hts iX0 tyX0 tyX0_ok nmX0 hown hK hP hD hS 0 rfl rfl 8 (by decide) (hts (.fieldLink RX0 34 "ToyRegatta$Boat" "lying" "I") (by decide +kernel)) (fun _ h9 => h9) rfl (by decide +kernel) rfl rfl (Nat.le_of_ble_eq_true rfl) dX0_enterRace_17 (fun H locs hP hD hS => ?_)
  have hP : va_P D vwCl [q_bc h (upd (upd (upd (upd r 5 0) 6 (-1)) 7 0) 8 0)] H := hP
  have hD : va_D A [q_bc h (upd (upd (upd (upd r 5 0) 6 (-1)) 7 0) 8 0)] := hD
  refine lv_aload_n hx hb dX0_enterRace_20 rfl (lv_at hl 0 rfl) ?_
  refine lv_aload_n hx hb dX0_enterRace_21 rfl (lv_at hl 0 rfl) ?_
  refine q_callV (As := []) (rs := [.ref h]) hC (c_X0_canRace l D T h (upd (upd (upd (upd r 5 0) 6 (-1)) 7 0) 8 0) ) q_no_st q_no_at (cwV 0 hts gX0_enterRace_X0_canRace rfl rfl rfl (by decide +kernel) ⟨Nat.le_of_ble_eq_true rfl, Nat.le_of_ble_eq_true rfl⟩) (va_recv hK hP (ci := 1) (q0 := 0) rfl rfl) hK hP hD hS hA (q_mask [true] _) rfl hl.1 rfl (Nat.le_of_ble_eq_true rfl) dX0_enterRace_22 ⟨(Nat.le_of_ble_eq_true rfl), (Nat.le_of_ble_eq_true rfl)⟩ (fun v9 C9 H locs hp hP hD hS => ?_)
  obtain ⟨rfl, rfl⟩ := hp
  have hP : va_P D vwCl [q_bc h (upd (upd (upd (upd r 5 0) 6 (-1)) 7 0) 8 0)] H := q_P_perm (q_mrg_perm [true] _ _) hP
  have hD : va_D A [q_bc h (upd (upd (upd (upd r 5 0) 6 (-1)) 7 0) 8 0)] := q_D_perm (q_mrg_perm [true] _ _) hD
  refine lv_if_eq (tgt := 32) hx hb dX0_enterRace_25 (by decide) (fun c_25 => ?_) (fun c_25 => ?_)
  · refine lv_iconst (v := 0) hx hb dX0_enterRace_32 (by decide) ?_
    refine va_put (D := D) (ci := 1) (v := .int 0) (ty := .int) (C := RX0) (T := TX0) (N := 11) hx hb hts iX0 tyX0 tyX0_ok nmX0 hown hK hP hD hS 0 rfl rfl 9 (by decide) (hts (.fieldLink RX0 37 "ToyRegatta$Boat" "state" "I") (by decide +kernel)) (fun _ h9 => h9) rfl (by decide +kernel) rfl rfl (Nat.le_of_ble_eq_true rfl) dX0_enterRace_33 (fun H locs hP hD hS => ?_)
    have hP : va_P D vwCl [q_bc h (upd (upd (upd (upd (upd r 5 0) 6 (-1)) 7 0) 8 0) 9 0)] H := hP
    have hD : va_D A [q_bc h (upd (upd (upd (upd (upd r 5 0) 6 (-1)) 7 0) 8 0) 9 0)] := hD
    exact q_vret hx hb hr hlocks hP hK hD hS (Nat.le_of_ble_eq_true rfl) (Nat.le_of_ble_eq_true rfl) dX0_enterRace_36 ⟨rfl, by rw [show bEnter r = (upd (upd (upd (upd (upd r 5 0) 6 (-1)) 7 0) 8 0) 9 0) from by simp only [bEnter, if_pos c_25]]⟩
  · refine lv_iconst (v := 1) hx hb dX0_enterRace_28 (by decide) ?_
    refine lv_goto (tgt := 33) hx hb dX0_enterRace_29 (by decide) ?_
    refine va_put (D := D) (ci := 1) (v := .int 1) (ty := .int) (C := RX0) (T := TX0) (N := 11) hx hb hts iX0 tyX0 tyX0_ok nmX0 hown hK hP hD hS 0 rfl rfl 9 (by decide) (hts (.fieldLink RX0 37 "ToyRegatta$Boat" "state" "I") (by decide +kernel)) (fun _ h9 => h9) rfl (by decide +kernel) rfl rfl (Nat.le_of_ble_eq_true rfl) dX0_enterRace_33 (fun H locs hP hD hS => ?_)
    have hP : va_P D vwCl [q_bc h (upd (upd (upd (upd (upd r 5 0) 6 (-1)) 7 0) 8 0) 9 1)] H := hP
    have hD : va_D A [q_bc h (upd (upd (upd (upd (upd r 5 0) 6 (-1)) 7 0) 8 0) 9 1)] := hD
    exact q_vret hx hb hr hlocks hP hK hD hS (Nat.le_of_ble_eq_true rfl) (Nat.le_of_ble_eq_true rfl) dX0_enterRace_36 ⟨rfl, by rw [show bEnter r = (upd (upd (upd (upd (upd r 5 0) 6 (-1)) 7 0) 8 0) 9 1) from by simp only [bEnter, if_neg c_25]]⟩
abbrev rmX0_fallOver : Room := { frames := 1, cells := 0, slots := 0, locals := 21 }
set_option maxHeartbeats 4000000 in
set_option maxRecDepth 100000 in
theorem c_X0_fallOver (l : Launch) (D : va_G) (T : Nat → ClassId) (h : Nat) (r : Nat → Int32) : q_M l D (q_ty T) yX0_fallOver wsX0_fallOver rmX0_fallOver [.ref h] [q_bc h r] q_no (q_is none [q_bc h (bFall r)]) := by
  refine q_start (cc := cX0_fallOver) (maxL := 1) (ret := none) (by decide) rfl (Nat.le_of_ble_eq_true rfl) ?_
  intro p e s m args below meth c A H locs hx hb hr hts hown hlocks hml hnm hP hK hD hS hA hG ls hl
  have hown : s.vm.findClass RX0 = some m.cls := hown
  have hC : CallFix p m c cX0_fallOver 1 s args wsX0_fallOver RX0 := ⟨hx, hb, hml, hown, hts⟩
  have iX0 : ∀ w ∈ wsX00, w ∈ wsX0_fallOver := by decide +kernel
  have hl : lv_has ls 1 [(0, .ref h)] := hl
  refine lv_aload_n hx hb dX0_fallOver_0 rfl (lv_at hl 0 rfl) ?_
  refine lv_bipush (v := 9) hx hb dX0_fallOver_1 (by decide) ?_
  refine lv_aload_n hx hb dX0_fallOver_3 rfl (lv_at hl 0 rfl) ?_
  refine va_get (D := D) (ci := 1) (v := .int (r 4)) (C := RX0) (T := TX0) (N := 11) hx hb hts iX0 hown hK hP 0 rfl rfl 4 (by decide) (hts (.fieldLink RX0 25 "ToyRegatta$Boat" "soaked" "I") (by decide +kernel)) (fun _ h9 => h9) rfl dX0_fallOver_4 ?_
  refine lv_iconst (v := 2) hx hb dX0_fallOver_7 (by decide) ?_
  refine lv_iadd hx hb dX0_fallOver_8 ?_
  refine va_mmin hx hb (hml.trans hl.1.symm) hown (hts (.methodLink RX0 54 Lib.Math.min.name) (by decide +kernel)) (hts (.static Lib.Math.min.name) (by decide +kernel)) (hts (.initialized "java/lang/Math") (by decide +kernel)) (hts (.code Lib.Math.min.name Lib.Math.min.code 2 (some .int)) (by decide +kernel)) (Nat.le_of_ble_eq_true rfl) (Nat.le_of_ble_eq_true rfl) (Nat.le_of_ble_eq_true rfl) (Nat.le_of_ble_eq_true rfl) dX0_fallOver_9 ?_
  refine va_put (D := D) (ci := 1) (v := .int (if ((r 4) + 2) < 9 then ((r 4) + 2) else 9)) (ty := .int) (C := RX0) (T := TX0) (N := 11) hx hb hts iX0 tyX0 tyX0_ok nmX0 hown hK hP hD hS 0 rfl rfl 4 (by decide) (hts (.fieldLink RX0 25 "ToyRegatta$Boat" "soaked" "I") (by decide +kernel)) (fun _ h9 => h9) rfl (by decide +kernel) rfl rfl (Nat.le_of_ble_eq_true rfl) dX0_fallOver_12 (fun H locs hP hD hS => ?_)
  have hP : va_P D vwCl [q_bc h (upd r 4 (if ((r 4) + 2) < 9 then ((r 4) + 2) else 9))] H := hP
  have hD : va_D A [q_bc h (upd r 4 (if ((r 4) + 2) < 9 then ((r 4) + 2) else 9))] := hD
  have hP : va_P D vwCl [q_bc h (upd r 4 (bWet r))] H := hP
  have hD : va_D A [q_bc h (upd r 4 (bWet r))] := hD
  refine lv_aload_n hx hb dX0_fallOver_15 rfl (lv_at hl 0 rfl) ?_
  refine q_callV (As := []) (rs := []) hC (c_X0_canRace l D T h (upd r 4 (bWet r)) ) q_no_st q_no_at (cwV 0 hts gX0_fallOver_X0_canRace rfl rfl rfl (by decide +kernel) ⟨Nat.le_of_ble_eq_true rfl, Nat.le_of_ble_eq_true rfl⟩) (va_recv hK hP (ci := 1) (q0 := 0) rfl rfl) hK hP hD hS hA (q_mask [true] _) rfl hl.1 rfl (Nat.le_of_ble_eq_true rfl) dX0_fallOver_16 ⟨(Nat.le_of_ble_eq_true rfl), (Nat.le_of_ble_eq_true rfl)⟩ (fun v9 C9 H locs hp hP hD hS => ?_)
  obtain ⟨rfl, rfl⟩ := hp
  have hP : va_P D vwCl [q_bc h (upd r 4 (bWet r))] H := q_P_perm (q_mrg_perm [true] _ _) hP
  have hD : va_D A [q_bc h (upd r 4 (bWet r))] := q_D_perm (q_mrg_perm [true] _ _) hD
  refine lv_if_eq (tgt := 30) hx hb dX0_fallOver_19 (by decide) (fun c_19 => ?_) (fun c_19 => ?_)
  · refine lv_aload_n hx hb dX0_fallOver_30 rfl (lv_at hl 0 rfl) ?_
    refine lv_iconst (v := 3) hx hb dX0_fallOver_31 (by decide) ?_
    refine va_put (D := D) (ci := 1) (v := .int 3) (ty := .int) (C := RX0) (T := TX0) (N := 11) hx hb hts iX0 tyX0 tyX0_ok nmX0 hown hK hP hD hS 0 rfl rfl 9 (by decide) (hts (.fieldLink RX0 37 "ToyRegatta$Boat" "state" "I") (by decide +kernel)) (fun _ h9 => h9) rfl (by decide +kernel) rfl rfl (Nat.le_of_ble_eq_true rfl) dX0_fallOver_32 (fun H locs hP hD hS => ?_)
    have hP : va_P D vwCl [q_bc h (upd (upd r 4 (bWet r)) 9 3)] H := hP
    have hD : va_D A [q_bc h (upd (upd r 4 (bWet r)) 9 3)] := hD
    exact q_vret hx hb hr hlocks hP hK hD hS (Nat.le_of_ble_eq_true rfl) (Nat.le_of_ble_eq_true rfl) dX0_fallOver_35 ⟨rfl, by rw [show bFall r = (upd (upd r 4 (bWet r)) 9 3) from by simp only [bFall, if_pos c_19]]⟩
  · refine lv_aload_n hx hb dX0_fallOver_22 rfl (lv_at hl 0 rfl) ?_
    refine lv_iconst (v := 2) hx hb dX0_fallOver_23 (by decide) ?_
    refine va_put (D := D) (ci := 1) (v := .int 2) (ty := .int) (C := RX0) (T := TX0) (N := 11) hx hb hts iX0 tyX0 tyX0_ok nmX0 hown hK hP hD hS 0 rfl rfl 8 (by decide) (hts (.fieldLink RX0 34 "ToyRegatta$Boat" "lying" "I") (by decide +kernel)) (fun _ h9 => h9) rfl (by decide +kernel) rfl rfl (Nat.le_of_ble_eq_true rfl) dX0_fallOver_24 (fun H locs hP hD hS => ?_)
    have hP : va_P D vwCl [q_bc h (upd (upd r 4 (bWet r)) 8 2)] H := hP
    have hD : va_D A [q_bc h (upd (upd r 4 (bWet r)) 8 2)] := hD
    refine lv_goto (tgt := 35) hx hb dX0_fallOver_27 (by decide) ?_
    exact q_vret hx hb hr hlocks hP hK hD hS (Nat.le_of_ble_eq_true rfl) (Nat.le_of_ble_eq_true rfl) dX0_fallOver_35 ⟨rfl, by rw [show bFall r = (upd (upd r 4 (bWet r)) 8 2) from by simp only [bFall, if_neg c_19]]⟩
abbrev rmX0_sail : Room := { frames := 2, cells := 0, slots := 0, locals := 43 }
set_option maxHeartbeats 4000000 in
set_option maxRecDepth 100000 in
theorem c_X0_sail (l : Launch) (D : va_G) (T : Nat → ClassId) (h : Nat) (r : Nat → Int32) (x : Int32) (hz : 0 < 2 + r 0 + r 2 / 2) : q_M l D (q_ty T) yX0_sail wsX0_sail rmX0_sail [.ref h, .int x] [q_bc h r] q_no (q_is none [q_bc h (bSail r x)]) := by
  refine q_start (cc := cX0_sail) (maxL := 2) (ret := none) (by decide) rfl (Nat.le_of_ble_eq_true rfl) ?_
  intro p e s m args below meth c A H locs hx hb hr hts hown hlocks hml hnm hP hK hD hS hA hG ls hl
  have hown : s.vm.findClass RX0 = some m.cls := hown
  have hC : CallFix p m c cX0_sail 2 s args wsX0_sail RX0 := ⟨hx, hb, hml, hown, hts⟩
  have iX0 : ∀ w ∈ wsX00, w ∈ wsX0_sail := by decide +kernel
  have hl : lv_has ls 2 [(0, .ref h), (1, .int x)] := hl
  refine lv_aload_n hx hb dX0_sail_0 rfl (lv_at hl 0 rfl) ?_
  refine lv_iconst (v := 0) hx hb dX0_sail_1 (by decide) ?_
  refine va_put (D := D) (ci := 1) (v := .int 0) (ty := .boolean) (C := RX0) (T := TX0) (N := 11) hx hb hts iX0 tyX0 tyX0_ok nmX0 hown hK hP hD hS 0 rfl rfl 10 (by decide) (hts (.fieldLink RX0 40 "ToyRegatta$Boat" "wentOn" "Z") (by decide +kernel)) (fun _ h9 => h9) rfl (by decide +kernel) rfl rfl (Nat.le_of_ble_eq_true rfl) dX0_sail_2 (fun H locs hP hD hS => ?_)
  have hP : va_P D vwCl [q_bc h (upd r 10 0)] H := hP
  have hD : va_D A [q_bc h (upd r 10 0)] := hD
  refine lv_aload_n hx hb dX0_sail_5 rfl (lv_at hl 0 rfl) ?_
  refine va_get (D := D) (ci := 1) (v := .int (r 9)) (C := RX0) (T := TX0) (N := 11) hx hb hts iX0 hown hK hP 0 rfl rfl 9 (by decide) (hts (.fieldLink RX0 37 "ToyRegatta$Boat" "state" "I") (by decide +kernel)) (fun _ h9 => h9) rfl dX0_sail_6 ?_
  refine lv_iconst (v := 1) hx hb dX0_sail_9 (by decide) ?_
  refine lv_icmp_eq (tgt := 14) hx hb dX0_sail_10 (by decide) (fun c_10 => ?_) (fun c_10 => ?_)
  · refine lv_aload_n hx hb dX0_sail_14 rfl (lv_at hl 0 rfl) ?_
    refine va_get (D := D) (ci := 1) (v := .int (r 8)) (C := RX0) (T := TX0) (N := 11) hx hb hts iX0 hown hK hP 0 rfl rfl 8 (by decide) (hts (.fieldLink RX0 34 "ToyRegatta$Boat" "lying" "I") (by decide +kernel)) (fun _ h9 => h9) rfl dX0_sail_15 ?_
    refine lv_if_le (tgt := 34) hx hb dX0_sail_18 (by decide) (fun c_18 => ?_) (fun c_18 => ?_)
    · refine lv_aload_n hx hb dX0_sail_34 rfl (lv_at hl 0 rfl) ?_
      refine lv_iload_n hx hb dX0_sail_35 rfl (lv_at hl 1 rfl) ?_
      refine q_callV (As := [.int x]) (rs := []) hC (c_X0_heel l D T h (upd r 10 0) x) q_no_st q_no_at (cwV 1 hts gX0_sail_X0_heel rfl rfl rfl (by decide +kernel) ⟨Nat.le_of_ble_eq_true rfl, Nat.le_of_ble_eq_true rfl⟩) (va_recv hK hP (ci := 1) (q0 := 0) rfl rfl) hK hP hD hS hA (q_mask [true] _) rfl hl.1 rfl (Nat.le_of_ble_eq_true rfl) dX0_sail_36 ⟨(Nat.le_of_ble_eq_true rfl), (Nat.le_of_ble_eq_true rfl)⟩ (fun v9 C9 H locs hp hP hD hS => ?_)
      obtain ⟨rfl, rfl⟩ := hp
      have hP : va_P D vwCl [q_bc h (upd r 10 0)] H := q_P_perm (q_mrg_perm [true] _ _) hP
      have hD : va_D A [q_bc h (upd r 10 0)] := q_D_perm (q_mrg_perm [true] _ _) hD
      refine lv_bipush (v := 30) hx hb dX0_sail_39 (by decide) ?_
      refine lv_icmp_le (tgt := 51) hx hb dX0_sail_41 (by decide) (fun c_41 => ?_) (fun c_41 => ?_)
      · refine lv_aload_n hx hb dX0_sail_51 rfl (lv_at hl 0 rfl) ?_
        refine lv_dup hx hb dX0_sail_52 rfl ?_
        refine va_get (D := D) (ci := 1) (v := .int (r 5)) (C := RX0) (T := TX0) (N := 11) hx hb hts iX0 hown hK hP 0 rfl rfl 5 (by decide) (hts (.fieldLink RX0 28 "ToyRegatta$Boat" "place" "I") (by decide +kernel)) (fun _ h9 => h9) rfl dX0_sail_53 ?_
        refine lv_aload_n hx hb dX0_sail_56 rfl (lv_at hl 0 rfl) ?_
        refine lv_iload_n hx hb dX0_sail_57 rfl (lv_at hl 1 rfl) ?_
        refine q_callV (As := [.int x]) (rs := [.int (r 5), .ref h]) hC (c_X0_speed l D T h (upd r 10 0) x hz) q_no_st q_no_at (cwV 1 hts gX0_sail_X0_speed rfl rfl rfl (by decide +kernel) ⟨Nat.le_of_ble_eq_true rfl, Nat.le_of_ble_eq_true rfl⟩) (va_recv hK hP (ci := 1) (q0 := 0) rfl rfl) hK hP hD hS hA (q_mask [true] _) rfl hl.1 rfl (Nat.le_of_ble_eq_true rfl) dX0_sail_58 ⟨(Nat.le_of_ble_eq_true rfl), (Nat.le_of_ble_eq_true rfl)⟩ (fun v9 C9 H locs hp hP hD hS => ?_)
        obtain ⟨rfl, rfl⟩ := hp
        have hP : va_P D vwCl [q_bc h (upd r 10 0)] H := q_P_perm (q_mrg_perm [true] _ _) hP
        have hD : va_D A [q_bc h (upd r 10 0)] := q_D_perm (q_mrg_perm [true] _ _) hD
        refine lv_iadd hx hb dX0_sail_61 ?_
        refine va_put (D := D) (ci := 1) (v := .int ((r 5) + (bSpeed (upd r 10 0) x))) (ty := .int) (C := RX0) (T := TX0) (N := 11) hx hb hts iX0 tyX0 tyX0_ok nmX0 hown hK hP hD hS 0 rfl rfl 5 (by decide) (hts (.fieldLink RX0 28 "ToyRegatta$Boat" "place" "I") (by decide +kernel)) (fun _ h9 => h9) rfl (by decide +kernel) rfl rfl (Nat.le_of_ble_eq_true rfl) dX0_sail_62 (fun H locs hP hD hS => ?_)
        have hP : va_P D vwCl [q_bc h (upd (upd r 10 0) 5 ((r 5) + (bSpeed (upd r 10 0) x)))] H := hP
        have hD : va_D A [q_bc h (upd (upd r 10 0) 5 ((r 5) + (bSpeed (upd r 10 0) x)))] := hD
        refine lv_aload_n hx hb dX0_sail_65 rfl (lv_at hl 0 rfl) ?_
        refine lv_iconst (v := 1) hx hb dX0_sail_66 (by decide) ?_
        refine va_put (D := D) (ci := 1) (v := .int 1) (ty := .boolean) (C := RX0) (T := TX0) (N := 11) hx hb hts iX0 tyX0 tyX0_ok nmX0 hown hK hP hD hS 0 rfl rfl 10 (by decide) (hts (.fieldLink RX0 40 "ToyRegatta$Boat" "wentOn" "Z") (by decide +kernel)) (fun _ h9 => h9) rfl (by decide +kernel) rfl rfl (Nat.le_of_ble_eq_true rfl) dX0_sail_67 (fun H locs hP hD hS => ?_)
        have hP : va_P D vwCl [q_bc h (upd (upd (upd r 10 0) 5 ((r 5) + (bSpeed (upd r 10 0) x))) 10 1)] H := hP
        have hD : va_D A [q_bc h (upd (upd (upd r 10 0) 5 ((r 5) + (bSpeed (upd r 10 0) x))) 10 1)] := hD
        exact q_vret hx hb hr hlocks hP hK hD hS (Nat.le_of_ble_eq_true rfl) (Nat.le_of_ble_eq_true rfl) dX0_sail_70 ⟨rfl, by rw [show bSail r x = (upd (upd (upd r 10 0) 5 ((r 5) + (bSpeed (upd r 10 0) x))) 10 1) from by simp only [bSail, if_pos c_10, if_pos c_18, if_pos c_41]]⟩
      · refine lv_aload_n hx hb dX0_sail_44 rfl (lv_at hl 0 rfl) ?_
        refine q_callV (As := []) (rs := []) hC (c_X0_fallOver l D T h (upd r 10 0) ) q_no_st q_no_at (cwV 0 hts gX0_sail_X0_fallOver rfl rfl rfl (by decide +kernel) ⟨Nat.le_of_ble_eq_true rfl, Nat.le_of_ble_eq_true rfl⟩) (va_recv hK hP (ci := 1) (q0 := 0) rfl rfl) hK hP hD hS hA (q_mask [true] _) rfl hl.1 rfl (Nat.le_of_ble_eq_true rfl) dX0_sail_45 ⟨(Nat.le_of_ble_eq_true rfl), (Nat.le_of_ble_eq_true rfl)⟩ (fun v9 C9 H locs hp hP hD hS => ?_)
        obtain ⟨rfl, rfl⟩ := hp
        have hP : va_P D vwCl [q_bc h (bFall (upd r 10 0))] H := q_P_perm (q_mrg_perm [true] _ _) hP
        have hD : va_D A [q_bc h (bFall (upd r 10 0))] := q_D_perm (q_mrg_perm [true] _ _) hD
        refine lv_goto (tgt := 70) hx hb dX0_sail_48 (by decide) ?_
        exact q_vret hx hb hr hlocks hP hK hD hS (Nat.le_of_ble_eq_true rfl) (Nat.le_of_ble_eq_true rfl) dX0_sail_70 ⟨rfl, by rw [show bSail r x = (bFall (upd r 10 0)) from by simp only [bSail, if_pos c_10, if_pos c_18, if_neg c_41]]⟩
    · refine lv_aload_n hx hb dX0_sail_21 rfl (lv_at hl 0 rfl) ?_
      refine lv_dup hx hb dX0_sail_22 rfl ?_
      refine va_get (D := D) (ci := 1) (v := .int (r 8)) (C := RX0) (T := TX0) (N := 11) hx hb hts iX0 hown hK hP 0 rfl rfl 8 (by decide) (hts (.fieldLink RX0 34 "ToyRegatta$Boat" "lying" "I") (by decide +kernel)) (fun _ h9 => h9) rfl dX0_sail_23 ?_
      refine lv_iconst (v := 1) hx hb dX0_sail_26 (by decide) ?_
      refine lv_isub hx hb dX0_sail_27 ?_
      refine va_put (D := D) (ci := 1) (v := .int ((r 8) - 1)) (ty := .int) (C := RX0) (T := TX0) (N := 11) hx hb hts iX0 tyX0 tyX0_ok nmX0 hown hK hP hD hS 0 rfl rfl 8 (by decide) (hts (.fieldLink RX0 34 "ToyRegatta$Boat" "lying" "I") (by decide +kernel)) (fun _ h9 => h9) rfl (by decide +kernel) rfl rfl (Nat.le_of_ble_eq_true rfl) dX0_sail_28 (fun H locs hP hD hS => ?_)
      have hP : va_P D vwCl [q_bc h (upd (upd r 10 0) 8 ((r 8) - 1))] H := hP
      have hD : va_D A [q_bc h (upd (upd r 10 0) 8 ((r 8) - 1))] := hD
      refine lv_goto (tgt := 70) hx hb dX0_sail_31 (by decide) ?_
      exact q_vret hx hb hr hlocks hP hK hD hS (Nat.le_of_ble_eq_true rfl) (Nat.le_of_ble_eq_true rfl) dX0_sail_70 ⟨rfl, by rw [show bSail r x = (upd (upd r 10 0) 8 ((r 8) - 1)) from by simp only [bSail, if_pos c_10, if_neg c_18]]⟩
  · exact q_vret hx hb hr hlocks hP hK hD hS (Nat.le_of_ble_eq_true rfl) (Nat.le_of_ble_eq_true rfl) dX0_sail_13 ⟨rfl, by rw [show bSail r x = (upd r 10 0) from by simp only [bSail, if_neg c_10]]⟩
abbrev rmX0_touches : Room := { frames := 0, cells := 0, slots := 0, locals := 0 }
set_option maxHeartbeats 4000000 in
set_option maxRecDepth 100000 in
theorem c_X0_touches (l : Launch) (D : va_G) (T : Nat → ClassId) (h o : Nat) (r q : Nat → Int32) : q_M l D (q_ty T) yX0_touches wsX0_touches rmX0_touches [.ref h, .ref o] [q_bc h r, q_bc o q] q_no (q_is (some (.int (bTouch r q))) [q_bc h r, q_bc o q]) := by
  refine q_start (cc := cX0_touches) (maxL := 2) (ret := (some .boolean)) (by decide) rfl (Nat.le_of_ble_eq_true rfl) ?_
  intro p e s m args below meth c A H locs hx hb hr hts hown hlocks hml hnm hP hK hD hS hA hG ls hl
  have hown : s.vm.findClass RX0 = some m.cls := hown
  have hC : CallFix p m c cX0_touches 2 s args wsX0_touches RX0 := ⟨hx, hb, hml, hown, hts⟩
  have iX0 : ∀ w ∈ wsX00, w ∈ wsX0_touches := by decide +kernel
  have hl : lv_has ls 2 [(0, .ref h), (1, .ref o)] := hl
  refine lv_aload_n hx hb dX0_touches_0 rfl (lv_at hl 0 rfl) ?_
  refine va_get (D := D) (ci := 1) (v := .int (r 10)) (C := RX0) (T := TX0) (N := 11) hx hb hts iX0 hown hK hP 0 rfl rfl 10 (by decide) (hts (.fieldLink RX0 40 "ToyRegatta$Boat" "wentOn" "Z") (by decide +kernel)) (fun _ h9 => h9) rfl dX0_touches_1 ?_
  refine lv_if_eq (tgt := 37) hx hb dX0_touches_4 (by decide) (fun c_4 => ?_) (fun c_4 => ?_)
  · refine lv_iconst (v := 0) hx hb dX0_touches_37 (by decide) ?_
    exact q_zret hx hb hr hlocks hP hK hD hS rfl (Nat.le_of_ble_eq_true rfl) (Nat.le_of_ble_eq_true rfl) dX0_touches_38 ⟨by simp only [bTouch, if_pos c_4], rfl⟩
  · refine lv_aload_n hx hb dX0_touches_7 rfl (lv_at hl 1 rfl) ?_
    refine va_get (D := D) (ci := 1) (v := .int (q 10)) (C := RX0) (T := TX0) (N := 11) hx hb hts iX0 hown hK hP 1 rfl rfl 10 (by decide) (hts (.fieldLink RX0 40 "ToyRegatta$Boat" "wentOn" "Z") (by decide +kernel)) (fun _ h9 => h9) rfl dX0_touches_8 ?_
    refine lv_if_eq (tgt := 37) hx hb dX0_touches_11 (by decide) (fun c_11 => ?_) (fun c_11 => ?_)
    · refine lv_iconst (v := 0) hx hb dX0_touches_37 (by decide) ?_
      exact q_zret hx hb hr hlocks hP hK hD hS rfl (Nat.le_of_ble_eq_true rfl) (Nat.le_of_ble_eq_true rfl) dX0_touches_38 ⟨by simp only [bTouch, if_neg c_4, if_pos c_11], rfl⟩
    · refine lv_aload_n hx hb dX0_touches_14 rfl (lv_at hl 0 rfl) ?_
      refine va_get (D := D) (ci := 1) (v := .int (r 5)) (C := RX0) (T := TX0) (N := 11) hx hb hts iX0 hown hK hP 0 rfl rfl 5 (by decide) (hts (.fieldLink RX0 28 "ToyRegatta$Boat" "place" "I") (by decide +kernel)) (fun _ h9 => h9) rfl dX0_touches_15 ?_
      refine lv_aload_n hx hb dX0_touches_18 rfl (lv_at hl 1 rfl) ?_
      refine va_get (D := D) (ci := 1) (v := .int (q 5)) (C := RX0) (T := TX0) (N := 11) hx hb hts iX0 hown hK hP 1 rfl rfl 5 (by decide) (hts (.fieldLink RX0 28 "ToyRegatta$Boat" "place" "I") (by decide +kernel)) (fun _ h9 => h9) rfl dX0_touches_19 ?_
      refine lv_icmp_ne (tgt := 37) hx hb dX0_touches_22 (by decide) (fun c_22 => ?_) (fun c_22 => ?_)
      · refine lv_iconst (v := 0) hx hb dX0_touches_37 (by decide) ?_
        exact q_zret hx hb hr hlocks hP hK hD hS rfl (Nat.le_of_ble_eq_true rfl) (Nat.le_of_ble_eq_true rfl) dX0_touches_38 ⟨by simp only [bTouch, if_neg c_4, if_neg c_11, if_neg c_22], rfl⟩
      · refine lv_aload_n hx hb dX0_touches_25 rfl (lv_at hl 0 rfl) ?_
        refine va_get (D := D) (ci := 1) (v := .int (r 5)) (C := RX0) (T := TX0) (N := 11) hx hb hts iX0 hown hK hP 0 rfl rfl 5 (by decide) (hts (.fieldLink RX0 28 "ToyRegatta$Boat" "place" "I") (by decide +kernel)) (fun _ h9 => h9) rfl dX0_touches_26 ?_
        refine lv_iconst (v := 1) hx hb dX0_touches_29 (by decide) ?_
        refine lv_icmp_lt (tgt := 37) hx hb dX0_touches_30 (by decide) (fun c_30 => ?_) (fun c_30 => ?_)
        · refine lv_iconst (v := 0) hx hb dX0_touches_37 (by decide) ?_
          exact q_zret hx hb hr hlocks hP hK hD hS rfl (Nat.le_of_ble_eq_true rfl) (Nat.le_of_ble_eq_true rfl) dX0_touches_38 ⟨by simp only [bTouch, if_neg c_4, if_neg c_11, if_pos c_22, if_pos c_30], rfl⟩
        · refine lv_iconst (v := 1) hx hb dX0_touches_33 (by decide) ?_
          refine lv_goto (tgt := 38) hx hb dX0_touches_34 (by decide) ?_
          exact q_zret hx hb hr hlocks hP hK hD hS rfl (Nat.le_of_ble_eq_true rfl) (Nat.le_of_ble_eq_true rfl) dX0_touches_38 ⟨by simp only [bTouch, if_neg c_4, if_neg c_11, if_pos c_22, if_neg c_30], rfl⟩
abbrev rmX0_comeIn : Room := { frames := 0, cells := 0, slots := 0, locals := 0 }
set_option maxHeartbeats 4000000 in
set_option maxRecDepth 100000 in
theorem c_X0_comeIn (l : Launch) (D : va_G) (T : Nat → ClassId) (h : Nat) (r : Nat → Int32) (x t : Int32) : q_M l D (q_ty T) yX0_comeIn wsX0_comeIn rmX0_comeIn [.ref h, .int x, .int t] [q_bc h r] q_no (q_is (some (.int (bInR r x))) [q_bc h (bIn r x t)]) := by
  refine q_start (cc := cX0_comeIn) (maxL := 3) (ret := (some .boolean)) (by decide) rfl (Nat.le_of_ble_eq_true rfl) ?_
  intro p e s m args below meth c A H locs hx hb hr hts hown hlocks hml hnm hP hK hD hS hA hG ls hl
  have hown : s.vm.findClass RX0 = some m.cls := hown
  have hC : CallFix p m c cX0_comeIn 3 s args wsX0_comeIn RX0 := ⟨hx, hb, hml, hown, hts⟩
  have iX0 : ∀ w ∈ wsX00, w ∈ wsX0_comeIn := by decide +kernel
  have hl : lv_has ls 3 [(0, .ref h), (1, .int x), (2, .int t)] := hl
  refine lv_aload_n hx hb dX0_comeIn_0 rfl (lv_at hl 0 rfl) ?_
  refine va_get (D := D) (ci := 1) (v := .int (r 9)) (C := RX0) (T := TX0) (N := 11) hx hb hts iX0 hown hK hP 0 rfl rfl 9 (by decide) (hts (.fieldLink RX0 37 "ToyRegatta$Boat" "state" "I") (by decide +kernel)) (fun _ h9 => h9) rfl dX0_comeIn_1 ?_
  refine lv_iconst (v := 1) hx hb dX0_comeIn_4 (by decide) ?_
  refine lv_icmp_ne (tgt := 16) hx hb dX0_comeIn_5 (by decide) (fun c_5 => ?_) (fun c_5 => ?_)
  · refine lv_iconst (v := 0) hx hb dX0_comeIn_16 (by decide) ?_
    exact q_zret hx hb hr hlocks hP hK hD hS rfl (Nat.le_of_ble_eq_true rfl) (Nat.le_of_ble_eq_true rfl) dX0_comeIn_17 ⟨by simp only [bInR, if_neg c_5], by rw [show bIn r x t = r from by simp only [bIn, if_neg c_5]]⟩
  · refine lv_aload_n hx hb dX0_comeIn_8 rfl (lv_at hl 0 rfl) ?_
    refine va_get (D := D) (ci := 1) (v := .int (r 5)) (C := RX0) (T := TX0) (N := 11) hx hb hts iX0 hown hK hP 0 rfl rfl 5 (by decide) (hts (.fieldLink RX0 28 "ToyRegatta$Boat" "place" "I") (by decide +kernel)) (fun _ h9 => h9) rfl dX0_comeIn_9 ?_
    refine lv_iload_n hx hb dX0_comeIn_12 rfl (lv_at hl 1 rfl) ?_
    refine lv_icmp_ge (tgt := 18) hx hb dX0_comeIn_13 (by decide) (fun c_13 => ?_) (fun c_13 => ?_)
    · refine lv_aload_n hx hb dX0_comeIn_18 rfl (lv_at hl 0 rfl) ?_
      refine lv_iconst (v := 2) hx hb dX0_comeIn_19 (by decide) ?_
      refine va_put (D := D) (ci := 1) (v := .int 2) (ty := .int) (C := RX0) (T := TX0) (N := 11) hx hb hts iX0 tyX0 tyX0_ok nmX0 hown hK hP hD hS 0 rfl rfl 9 (by decide) (hts (.fieldLink RX0 37 "ToyRegatta$Boat" "state" "I") (by decide +kernel)) (fun _ h9 => h9) rfl (by decide +kernel) rfl rfl (Nat.le_of_ble_eq_true rfl) dX0_comeIn_20 (fun H locs hP hD hS => ?_)
      have hP : va_P D vwCl [q_bc h (upd r 9 2)] H := hP
      have hD : va_D A [q_bc h (upd r 9 2)] := hD
      refine lv_aload_n hx hb dX0_comeIn_23 rfl (lv_at hl 0 rfl) ?_
      refine lv_iload_n hx hb dX0_comeIn_24 rfl (lv_at hl 2 rfl) ?_
      refine va_put (D := D) (ci := 1) (v := .int t) (ty := .int) (C := RX0) (T := TX0) (N := 11) hx hb hts iX0 tyX0 tyX0_ok nmX0 hown hK hP hD hS 0 rfl rfl 6 (by decide) (hts (.fieldLink RX0 16 "ToyRegatta$Boat" "time" "I") (by decide +kernel)) (fun _ h9 => h9) rfl (by decide +kernel) rfl rfl (Nat.le_of_ble_eq_true rfl) dX0_comeIn_25 (fun H locs hP hD hS => ?_)
      have hP : va_P D vwCl [q_bc h (upd (upd r 9 2) 6 t)] H := hP
      have hD : va_D A [q_bc h (upd (upd r 9 2) 6 t)] := hD
      refine lv_iconst (v := 1) hx hb dX0_comeIn_28 (by decide) ?_
      exact q_zret hx hb hr hlocks hP hK hD hS rfl (Nat.le_of_ble_eq_true rfl) (Nat.le_of_ble_eq_true rfl) dX0_comeIn_29 ⟨by simp only [bInR, if_pos c_5, if_pos c_13], by rw [show bIn r x t = (upd (upd r 9 2) 6 t) from by simp only [bIn, if_pos c_5, if_pos c_13]]⟩
    · refine lv_iconst (v := 0) hx hb dX0_comeIn_16 (by decide) ?_
      exact q_zret hx hb hr hlocks hP hK hD hS rfl (Nat.le_of_ble_eq_true rfl) (Nat.le_of_ble_eq_true rfl) dX0_comeIn_17 ⟨by simp only [bInR, if_pos c_5, if_neg c_13], by rw [show bIn r x t = r from by simp only [bIn, if_pos c_5, if_neg c_13]]⟩
abbrev rmX0_dry : Room := { frames := 1, cells := 0, slots := 0, locals := 21 }
set_option maxHeartbeats 4000000 in
set_option maxRecDepth 100000 in
theorem c_X0_dry (l : Launch) (D : va_G) (T : Nat → ClassId) (h : Nat) (r : Nat → Int32) : q_M l D (q_ty T) yX0_dry wsX0_dry rmX0_dry [.ref h] [q_bc h r] q_no (q_is none [q_bc h (bDry r)]) := by
  refine q_start (cc := cX0_dry) (maxL := 1) (ret := none) (by decide) rfl (Nat.le_of_ble_eq_true rfl) ?_
  intro p e s m args below meth c A H locs hx hb hr hts hown hlocks hml hnm hP hK hD hS hA hG ls hl
  have hown : s.vm.findClass RX0 = some m.cls := hown
  have hC : CallFix p m c cX0_dry 1 s args wsX0_dry RX0 := ⟨hx, hb, hml, hown, hts⟩
  have iX0 : ∀ w ∈ wsX00, w ∈ wsX0_dry := by decide +kernel
  have hl : lv_has ls 1 [(0, .ref h)] := hl
  refine lv_aload_n hx hb dX0_dry_0 rfl (lv_at hl 0 rfl) ?_
  refine lv_iconst (v := 0) hx hb dX0_dry_1 (by decide) ?_
  refine lv_aload_n hx hb dX0_dry_2 rfl (lv_at hl 0 rfl) ?_
  refine va_get (D := D) (ci := 1) (v := .int (r 4)) (C := RX0) (T := TX0) (N := 11) hx hb hts iX0 hown hK hP 0 rfl rfl 4 (by decide) (hts (.fieldLink RX0 25 "ToyRegatta$Boat" "soaked" "I") (by decide +kernel)) (fun _ h9 => h9) rfl dX0_dry_3 ?_
  refine lv_iconst (v := 1) hx hb dX0_dry_6 (by decide) ?_
  refine lv_isub hx hb dX0_dry_7 ?_
  refine va_mmax hx hb (hml.trans hl.1.symm) hown (hts (.methodLink RX0 48 Lib.Math.max.name) (by decide +kernel)) (hts (.static Lib.Math.max.name) (by decide +kernel)) (hts (.initialized "java/lang/Math") (by decide +kernel)) (hts (.code Lib.Math.max.name Lib.Math.max.code 2 (some .int)) (by decide +kernel)) (Nat.le_of_ble_eq_true rfl) (Nat.le_of_ble_eq_true rfl) (Nat.le_of_ble_eq_true rfl) (Nat.le_of_ble_eq_true rfl) dX0_dry_8 ?_
  refine va_put (D := D) (ci := 1) (v := .int (if 0 < ((r 4) - 1) then ((r 4) - 1) else 0)) (ty := .int) (C := RX0) (T := TX0) (N := 11) hx hb hts iX0 tyX0 tyX0_ok nmX0 hown hK hP hD hS 0 rfl rfl 4 (by decide) (hts (.fieldLink RX0 25 "ToyRegatta$Boat" "soaked" "I") (by decide +kernel)) (fun _ h9 => h9) rfl (by decide +kernel) rfl rfl (Nat.le_of_ble_eq_true rfl) dX0_dry_11 (fun H locs hP hD hS => ?_)
  have hP : va_P D vwCl [q_bc h (upd r 4 (if 0 < ((r 4) - 1) then ((r 4) - 1) else 0))] H := hP
  have hD : va_D A [q_bc h (upd r 4 (if 0 < ((r 4) - 1) then ((r 4) - 1) else 0))] := hD
  exact q_vret hx hb hr hlocks hP hK hD hS (Nat.le_of_ble_eq_true rfl) (Nat.le_of_ble_eq_true rfl) dX0_dry_14 ⟨rfl, rfl⟩
abbrev rmX0_result : Room := { frames := 0, cells := 0, slots := 0, locals := 0 }
set_option maxHeartbeats 4000000 in
set_option maxRecDepth 100000 in
theorem c_X0_result (l : Launch) (D : va_G) (T : Nat → ClassId) (h : Nat) (r : Nat → Int32) : q_M l D (q_ty T) yX0_result wsX0_result rmX0_result [.ref h] [q_bc h r] q_no (q_is (some (.int (bRes r))) [q_bc h r]) := by
  refine q_start (cc := cX0_result) (maxL := 1) (ret := (some .int)) (by decide) rfl (Nat.le_of_ble_eq_true rfl) ?_
  intro p e s m args below meth c A H locs hx hb hr hts hown hlocks hml hnm hP hK hD hS hA hG ls hl
  have hown : s.vm.findClass RX0 = some m.cls := hown
  have hC : CallFix p m c cX0_result 1 s args wsX0_result RX0 := ⟨hx, hb, hml, hown, hts⟩
  have iX0 : ∀ w ∈ wsX00, w ∈ wsX0_result := by decide +kernel
  have hl : lv_has ls 1 [(0, .ref h)] := hl
  refine lv_aload_n hx hb dX0_result_0 rfl (lv_at hl 0 rfl) ?_
  refine va_get (D := D) (ci := 1) (v := .int (r 6)) (C := RX0) (T := TX0) (N := 11) hx hb hts iX0 hown hK hP 0 rfl rfl 6 (by decide) (hts (.fieldLink RX0 16 "ToyRegatta$Boat" "time" "I") (by decide +kernel)) (fun _ h9 => h9) rfl dX0_result_1 ?_
  refine lv_iconst (v := 3) hx hb dX0_result_4 (by decide) ?_
  refine lv_aload_n hx hb dX0_result_5 rfl (lv_at hl 0 rfl) ?_
  refine va_get (D := D) (ci := 1) (v := .int (r 7)) (C := RX0) (T := TX0) (N := 11) hx hb hts iX0 hown hK hP 0 rfl rfl 7 (by decide) (hts (.fieldLink RX0 31 "ToyRegatta$Boat" "fouls" "I") (by decide +kernel)) (fun _ h9 => h9) rfl dX0_result_6 ?_
  refine lv_imul hx hb dX0_result_9 ?_
  refine lv_iadd hx hb dX0_result_10 ?_
  exact q_iret hx hb hr hlocks hP hK hD hS (Nat.le_of_ble_eq_true rfl) (Nat.le_of_ble_eq_true rfl) dX0_result_11 ⟨rfl, rfl⟩
abbrev rmX0_copyFrom : Room := { frames := 0, cells := 0, slots := 0, locals := 0 }
set_option maxHeartbeats 4000000 in
set_option maxRecDepth 100000 in
theorem c_X0_copyFrom (l : Launch) (D : va_G) (T : Nat → ClassId) (h o : Nat) (r q : Nat → Int32) (hz : q 10 = 0 ∨ q 10 = 1) : q_M l D (q_ty T) yX0_copyFrom wsX0_copyFrom rmX0_copyFrom [.ref h, .ref o] [q_bc h r, q_bc o q] q_no (q_is none [q_bc h q, q_bc o q]) := by
  refine q_start (cc := cX0_copyFrom) (maxL := 2) (ret := none) (by decide) rfl (Nat.le_of_ble_eq_true rfl) ?_
  intro p e s m args below meth c A H locs hx hb hr hts hown hlocks hml hnm hP hK hD hS hA hG ls hl
  have hown : s.vm.findClass RX0 = some m.cls := hown
  have hC : CallFix p m c cX0_copyFrom 2 s args wsX0_copyFrom RX0 := ⟨hx, hb, hml, hown, hts⟩
  have iX0 : ∀ w ∈ wsX00, w ∈ wsX0_copyFrom := by decide +kernel
  have hl : lv_has ls 2 [(0, .ref h), (1, .ref o)] := hl
  refine lv_aload_n hx hb dX0_copyFrom_0 rfl (lv_at hl 0 rfl) ?_
  refine lv_aload_n hx hb dX0_copyFrom_1 rfl (lv_at hl 1 rfl) ?_
  refine va_get (D := D) (ci := 1) (v := .int (q 0)) (C := RX0) (T := TX0) (N := 11) hx hb hts iX0 hown hK hP 1 rfl rfl 0 (by decide) (hts (.fieldLink RX0 7 "ToyRegatta$Boat" "hull" "I") (by decide +kernel)) (fun _ h9 => h9) rfl dX0_copyFrom_2 ?_
  refine va_put (D := D) (ci := 1) (v := .int (q 0)) (ty := .int) (C := RX0) (T := TX0) (N := 11) hx hb hts iX0 tyX0 tyX0_ok nmX0 hown hK hP hD hS 0 rfl rfl 0 (by decide) (hts (.fieldLink RX0 7 "ToyRegatta$Boat" "hull" "I") (by decide +kernel)) (fun _ h9 => h9) rfl (by decide +kernel) rfl rfl (Nat.le_of_ble_eq_true rfl) dX0_copyFrom_5 (fun H locs hP hD hS => ?_)
  have hP : va_P D vwCl [q_bc h (upd r 0 (q 0)), q_bc o q] H := hP
  have hD : va_D A [q_bc h (upd r 0 (q 0)), q_bc o q] := hD
  refine lv_aload_n hx hb dX0_copyFrom_8 rfl (lv_at hl 0 rfl) ?_
  refine lv_aload_n hx hb dX0_copyFrom_9 rfl (lv_at hl 1 rfl) ?_
  refine va_get (D := D) (ci := 1) (v := .int (q 1)) (C := RX0) (T := TX0) (N := 11) hx hb hts iX0 hown hK hP 1 rfl rfl 1 (by decide) (hts (.fieldLink RX0 13 "ToyRegatta$Boat" "rig" "I") (by decide +kernel)) (fun _ h9 => h9) rfl dX0_copyFrom_10 ?_
  refine va_put (D := D) (ci := 1) (v := .int (q 1)) (ty := .int) (C := RX0) (T := TX0) (N := 11) hx hb hts iX0 tyX0 tyX0_ok nmX0 hown hK hP hD hS 0 rfl rfl 1 (by decide) (hts (.fieldLink RX0 13 "ToyRegatta$Boat" "rig" "I") (by decide +kernel)) (fun _ h9 => h9) rfl (by decide +kernel) rfl rfl (Nat.le_of_ble_eq_true rfl) dX0_copyFrom_13 (fun H locs hP hD hS => ?_)
  have hP : va_P D vwCl [q_bc h (upd (upd r 0 (q 0)) 1 (q 1)), q_bc o q] H := hP
  have hD : va_D A [q_bc h (upd (upd r 0 (q 0)) 1 (q 1)), q_bc o q] := hD
  refine lv_aload_n hx hb dX0_copyFrom_16 rfl (lv_at hl 0 rfl) ?_
  refine lv_aload_n hx hb dX0_copyFrom_17 rfl (lv_at hl 1 rfl) ?_
  refine va_get (D := D) (ci := 1) (v := .int (q 2)) (C := RX0) (T := TX0) (N := 11) hx hb hts iX0 hown hK hP 1 rfl rfl 2 (by decide) (hts (.fieldLink RX0 19 "ToyRegatta$Boat" "lead" "I") (by decide +kernel)) (fun _ h9 => h9) rfl dX0_copyFrom_18 ?_
  refine va_put (D := D) (ci := 1) (v := .int (q 2)) (ty := .int) (C := RX0) (T := TX0) (N := 11) hx hb hts iX0 tyX0 tyX0_ok nmX0 hown hK hP hD hS 0 rfl rfl 2 (by decide) (hts (.fieldLink RX0 19 "ToyRegatta$Boat" "lead" "I") (by decide +kernel)) (fun _ h9 => h9) rfl (by decide +kernel) rfl rfl (Nat.le_of_ble_eq_true rfl) dX0_copyFrom_21 (fun H locs hP hD hS => ?_)
  have hP : va_P D vwCl [q_bc h (upd (upd (upd r 0 (q 0)) 1 (q 1)) 2 (q 2)), q_bc o q] H := hP
  have hD : va_D A [q_bc h (upd (upd (upd r 0 (q 0)) 1 (q 1)) 2 (q 2)), q_bc o q] := hD
  refine lv_aload_n hx hb dX0_copyFrom_24 rfl (lv_at hl 0 rfl) ?_
  refine lv_aload_n hx hb dX0_copyFrom_25 rfl (lv_at hl 1 rfl) ?_
  refine va_get (D := D) (ci := 1) (v := .int (q 3)) (C := RX0) (T := TX0) (N := 11) hx hb hts iX0 hown hK hP 1 rfl rfl 3 (by decide) (hts (.fieldLink RX0 22 "ToyRegatta$Boat" "points" "I") (by decide +kernel)) (fun _ h9 => h9) rfl dX0_copyFrom_26 ?_
  refine va_put (D := D) (ci := 1) (v := .int (q 3)) (ty := .int) (C := RX0) (T := TX0) (N := 11) hx hb hts iX0 tyX0 tyX0_ok nmX0 hown hK hP hD hS 0 rfl rfl 3 (by decide) (hts (.fieldLink RX0 22 "ToyRegatta$Boat" "points" "I") (by decide +kernel)) (fun _ h9 => h9) rfl (by decide +kernel) rfl rfl (Nat.le_of_ble_eq_true rfl) dX0_copyFrom_29 (fun H locs hP hD hS => ?_)
  have hP : va_P D vwCl [q_bc h (upd (upd (upd (upd r 0 (q 0)) 1 (q 1)) 2 (q 2)) 3 (q 3)), q_bc o q] H := hP
  have hD : va_D A [q_bc h (upd (upd (upd (upd r 0 (q 0)) 1 (q 1)) 2 (q 2)) 3 (q 3)), q_bc o q] := hD
  refine lv_aload_n hx hb dX0_copyFrom_32 rfl (lv_at hl 0 rfl) ?_
  refine lv_aload_n hx hb dX0_copyFrom_33 rfl (lv_at hl 1 rfl) ?_
  refine va_get (D := D) (ci := 1) (v := .int (q 4)) (C := RX0) (T := TX0) (N := 11) hx hb hts iX0 hown hK hP 1 rfl rfl 4 (by decide) (hts (.fieldLink RX0 25 "ToyRegatta$Boat" "soaked" "I") (by decide +kernel)) (fun _ h9 => h9) rfl dX0_copyFrom_34 ?_
  refine va_put (D := D) (ci := 1) (v := .int (q 4)) (ty := .int) (C := RX0) (T := TX0) (N := 11) hx hb hts iX0 tyX0 tyX0_ok nmX0 hown hK hP hD hS 0 rfl rfl 4 (by decide) (hts (.fieldLink RX0 25 "ToyRegatta$Boat" "soaked" "I") (by decide +kernel)) (fun _ h9 => h9) rfl (by decide +kernel) rfl rfl (Nat.le_of_ble_eq_true rfl) dX0_copyFrom_37 (fun H locs hP hD hS => ?_)
  have hP : va_P D vwCl [q_bc h (upd (upd (upd (upd (upd r 0 (q 0)) 1 (q 1)) 2 (q 2)) 3 (q 3)) 4 (q 4)), q_bc o q] H := hP
  have hD : va_D A [q_bc h (upd (upd (upd (upd (upd r 0 (q 0)) 1 (q 1)) 2 (q 2)) 3 (q 3)) 4 (q 4)), q_bc o q] := hD
  refine lv_aload_n hx hb dX0_copyFrom_40 rfl (lv_at hl 0 rfl) ?_
  refine lv_aload_n hx hb dX0_copyFrom_41 rfl (lv_at hl 1 rfl) ?_
  refine va_get (D := D) (ci := 1) (v := .int (q 5)) (C := RX0) (T := TX0) (N := 11) hx hb hts iX0 hown hK hP 1 rfl rfl 5 (by decide) (hts (.fieldLink RX0 28 "ToyRegatta$Boat" "place" "I") (by decide +kernel)) (fun _ h9 => h9) rfl dX0_copyFrom_42 ?_
  refine va_put (D := D) (ci := 1) (v := .int (q 5)) (ty := .int) (C := RX0) (T := TX0) (N := 11) hx hb hts iX0 tyX0 tyX0_ok nmX0 hown hK hP hD hS 0 rfl rfl 5 (by decide) (hts (.fieldLink RX0 28 "ToyRegatta$Boat" "place" "I") (by decide +kernel)) (fun _ h9 => h9) rfl (by decide +kernel) rfl rfl (Nat.le_of_ble_eq_true rfl) dX0_copyFrom_45 (fun H locs hP hD hS => ?_)
  have hP : va_P D vwCl [q_bc h (upd (upd (upd (upd (upd (upd r 0 (q 0)) 1 (q 1)) 2 (q 2)) 3 (q 3)) 4 (q 4)) 5 (q 5)), q_bc o q] H := hP
  have hD : va_D A [q_bc h (upd (upd (upd (upd (upd (upd r 0 (q 0)) 1 (q 1)) 2 (q 2)) 3 (q 3)) 4 (q 4)) 5 (q 5)), q_bc o q] := hD
  refine lv_aload_n hx hb dX0_copyFrom_48 rfl (lv_at hl 0 rfl) ?_
  refine lv_aload_n hx hb dX0_copyFrom_49 rfl (lv_at hl 1 rfl) ?_
  refine va_get (D := D) (ci := 1) (v := .int (q 6)) (C := RX0) (T := TX0) (N := 11) hx hb hts iX0 hown hK hP 1 rfl rfl 6 (by decide) (hts (.fieldLink RX0 16 "ToyRegatta$Boat" "time" "I") (by decide +kernel)) (fun _ h9 => h9) rfl dX0_copyFrom_50 ?_
  refine va_put (D := D) (ci := 1) (v := .int (q 6)) (ty := .int) (C := RX0) (T := TX0) (N := 11) hx hb hts iX0 tyX0 tyX0_ok nmX0 hown hK hP hD hS 0 rfl rfl 6 (by decide) (hts (.fieldLink RX0 16 "ToyRegatta$Boat" "time" "I") (by decide +kernel)) (fun _ h9 => h9) rfl (by decide +kernel) rfl rfl (Nat.le_of_ble_eq_true rfl) dX0_copyFrom_53 (fun H locs hP hD hS => ?_)
  have hP : va_P D vwCl [q_bc h (upd (upd (upd (upd (upd (upd (upd r 0 (q 0)) 1 (q 1)) 2 (q 2)) 3 (q 3)) 4 (q 4)) 5 (q 5)) 6 (q 6)), q_bc o q] H := hP
  have hD : va_D A [q_bc h (upd (upd (upd (upd (upd (upd (upd r 0 (q 0)) 1 (q 1)) 2 (q 2)) 3 (q 3)) 4 (q 4)) 5 (q 5)) 6 (q 6)), q_bc o q] := hD
  refine lv_aload_n hx hb dX0_copyFrom_56 rfl (lv_at hl 0 rfl) ?_
  refine lv_aload_n hx hb dX0_copyFrom_57 rfl (lv_at hl 1 rfl) ?_
  refine va_get (D := D) (ci := 1) (v := .int (q 7)) (C := RX0) (T := TX0) (N := 11) hx hb hts iX0 hown hK hP 1 rfl rfl 7 (by decide) (hts (.fieldLink RX0 31 "ToyRegatta$Boat" "fouls" "I") (by decide +kernel)) (fun _ h9 => h9) rfl dX0_copyFrom_58 ?_
  refine va_put (D := D) (ci := 1) (v := .int (q 7)) (ty := .int) (C := RX0) (T := TX0) (N := 11) hx hb hts iX0 tyX0 tyX0_ok nmX0 hown hK hP hD hS 0 rfl rfl 7 (by decide) (hts (.fieldLink RX0 31 "ToyRegatta$Boat" "fouls" "I") (by decide +kernel)) (fun _ h9 => h9) rfl (by decide +kernel) rfl rfl (Nat.le_of_ble_eq_true rfl) dX0_copyFrom_61 (fun H locs hP hD hS => ?_)
  have hP : va_P D vwCl [q_bc h (upd (upd (upd (upd (upd (upd (upd (upd r 0 (q 0)) 1 (q 1)) 2 (q 2)) 3 (q 3)) 4 (q 4)) 5 (q 5)) 6 (q 6)) 7 (q 7)), q_bc o q] H := hP
  have hD : va_D A [q_bc h (upd (upd (upd (upd (upd (upd (upd (upd r 0 (q 0)) 1 (q 1)) 2 (q 2)) 3 (q 3)) 4 (q 4)) 5 (q 5)) 6 (q 6)) 7 (q 7)), q_bc o q] := hD
  refine lv_aload_n hx hb dX0_copyFrom_64 rfl (lv_at hl 0 rfl) ?_
  refine lv_aload_n hx hb dX0_copyFrom_65 rfl (lv_at hl 1 rfl) ?_
  refine va_get (D := D) (ci := 1) (v := .int (q 8)) (C := RX0) (T := TX0) (N := 11) hx hb hts iX0 hown hK hP 1 rfl rfl 8 (by decide) (hts (.fieldLink RX0 34 "ToyRegatta$Boat" "lying" "I") (by decide +kernel)) (fun _ h9 => h9) rfl dX0_copyFrom_66 ?_
  refine va_put (D := D) (ci := 1) (v := .int (q 8)) (ty := .int) (C := RX0) (T := TX0) (N := 11) hx hb hts iX0 tyX0 tyX0_ok nmX0 hown hK hP hD hS 0 rfl rfl 8 (by decide) (hts (.fieldLink RX0 34 "ToyRegatta$Boat" "lying" "I") (by decide +kernel)) (fun _ h9 => h9) rfl (by decide +kernel) rfl rfl (Nat.le_of_ble_eq_true rfl) dX0_copyFrom_69 (fun H locs hP hD hS => ?_)
  have hP : va_P D vwCl [q_bc h (upd (upd (upd (upd (upd (upd (upd (upd (upd r 0 (q 0)) 1 (q 1)) 2 (q 2)) 3 (q 3)) 4 (q 4)) 5 (q 5)) 6 (q 6)) 7 (q 7)) 8 (q 8)), q_bc o q] H := hP
  have hD : va_D A [q_bc h (upd (upd (upd (upd (upd (upd (upd (upd (upd r 0 (q 0)) 1 (q 1)) 2 (q 2)) 3 (q 3)) 4 (q 4)) 5 (q 5)) 6 (q 6)) 7 (q 7)) 8 (q 8)), q_bc o q] := hD
  refine lv_aload_n hx hb dX0_copyFrom_72 rfl (lv_at hl 0 rfl) ?_
  refine lv_aload_n hx hb dX0_copyFrom_73 rfl (lv_at hl 1 rfl) ?_
  refine va_get (D := D) (ci := 1) (v := .int (q 9)) (C := RX0) (T := TX0) (N := 11) hx hb hts iX0 hown hK hP 1 rfl rfl 9 (by decide) (hts (.fieldLink RX0 37 "ToyRegatta$Boat" "state" "I") (by decide +kernel)) (fun _ h9 => h9) rfl dX0_copyFrom_74 ?_
  refine va_put (D := D) (ci := 1) (v := .int (q 9)) (ty := .int) (C := RX0) (T := TX0) (N := 11) hx hb hts iX0 tyX0 tyX0_ok nmX0 hown hK hP hD hS 0 rfl rfl 9 (by decide) (hts (.fieldLink RX0 37 "ToyRegatta$Boat" "state" "I") (by decide +kernel)) (fun _ h9 => h9) rfl (by decide +kernel) rfl rfl (Nat.le_of_ble_eq_true rfl) dX0_copyFrom_77 (fun H locs hP hD hS => ?_)
  have hP : va_P D vwCl [q_bc h (upd (upd (upd (upd (upd (upd (upd (upd (upd (upd r 0 (q 0)) 1 (q 1)) 2 (q 2)) 3 (q 3)) 4 (q 4)) 5 (q 5)) 6 (q 6)) 7 (q 7)) 8 (q 8)) 9 (q 9)), q_bc o q] H := hP
  have hD : va_D A [q_bc h (upd (upd (upd (upd (upd (upd (upd (upd (upd (upd r 0 (q 0)) 1 (q 1)) 2 (q 2)) 3 (q 3)) 4 (q 4)) 5 (q 5)) 6 (q 6)) 7 (q 7)) 8 (q 8)) 9 (q 9)), q_bc o q] := hD
  refine lv_aload_n hx hb dX0_copyFrom_80 rfl (lv_at hl 0 rfl) ?_
  refine lv_aload_n hx hb dX0_copyFrom_81 rfl (lv_at hl 1 rfl) ?_
  refine va_get (D := D) (ci := 1) (v := .int (q 10)) (C := RX0) (T := TX0) (N := 11) hx hb hts iX0 hown hK hP 1 rfl rfl 10 (by decide) (hts (.fieldLink RX0 40 "ToyRegatta$Boat" "wentOn" "Z") (by decide +kernel)) (fun _ h9 => h9) rfl dX0_copyFrom_82 ?_
  refine va_put (D := D) (ci := 1) (v := .int (q 10)) (ty := .boolean) (C := RX0) (T := TX0) (N := 11) hx hb hts iX0 tyX0 tyX0_ok nmX0 hown hK hP hD hS 0 rfl rfl 10 (by decide) (hts (.fieldLink RX0 40 "ToyRegatta$Boat" "wentOn" "Z") (by decide +kernel)) (fun _ h9 => h9) rfl (by decide +kernel) (q_nz hz) (q_fz hz) (Nat.le_of_ble_eq_true rfl) dX0_copyFrom_85 (fun H locs hP hD hS => ?_)
  have hP : va_P D vwCl [q_bc h (upd (upd (upd (upd (upd (upd (upd (upd (upd (upd (upd r 0 (q 0)) 1 (q 1)) 2 (q 2)) 3 (q 3)) 4 (q 4)) 5 (q 5)) 6 (q 6)) 7 (q 7)) 8 (q 8)) 9 (q 9)) 10 (q 10)), q_bc o q] H := hP
  have hD : va_D A [q_bc h (upd (upd (upd (upd (upd (upd (upd (upd (upd (upd (upd r 0 (q 0)) 1 (q 1)) 2 (q 2)) 3 (q 3)) 4 (q 4)) 5 (q 5)) 6 (q 6)) 7 (q 7)) 8 (q 8)) 9 (q 9)) 10 (q 10)), q_bc o q] := hD
  exact q_vret hx hb hr hlocks hP hK hD hS (Nat.le_of_ble_eq_true rfl) (Nat.le_of_ble_eq_true rfl) dX0_copyFrom_88 ⟨rfl, rfl⟩
