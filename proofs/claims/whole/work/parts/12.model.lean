
/-! the reference: rows of numbers -/
abbrev q_mc (a : Nat) (th : Int32) (nb nj : Nat) (len : Int32) (mw me mf mn : Nat) : Nat × va_E := (a, .inr (5, [.int th, .int (nI nb), .int (nI nj), .int len, .ref mw, .ref me, .ref mf, .ref mn]))
def q_flat (G : Nat → Nat → Int32) : Nat → Int32 := fun j => G (j / 10) (j % 10)
abbrev q_fa (T : Nat → ClassId) (a : Nat) (G : Nat → Nat → Int32) : Nat × va_E := (a, .inl (T 0, 80, .inl (q_flat G)))
theorem q_flat_at (G : Nat → Nat → Int32) {b k : Nat} (hk : k < 10) : q_flat G (10 * b + k) = G b k := by
  unfold q_flat
  rw [show (10 * b + k) / 10 = b by omega, show (10 * b + k) % 10 = k by omega]
theorem q_flat_upd (G : Nat → Nat → Int32) {b k : Nat} (hk : k < 10) (v : Int32) : upd (q_flat G) (10 * b + k) v = q_flat (va_up G b (upd (G b) k v)) := by
  funext j
  unfold upd q_flat va_up
  by_cases h : j = 10 * b + k
  · subst h
    rw [show (10 * b + k) / 10 = b by omega, show (10 * b + k) % 10 = k by omega]
    simp
  · rw [if_neg h]
    by_cases h2 : j / 10 = b
    · rw [if_pos h2]
      show _ = if j % 10 = k then v else G b (j % 10)
      rw [if_neg (by omega), h2]
    · rw [if_neg h2]
theorem q_up_up {β : Type} {F : Nat → β} {i : Nat} {a b : β} : va_up (va_up F i a) i b = va_up F i b := by
  funext j
  by_cases h : j = i
  · subst h; simp [va_up]
  · simp [va_up, h]
def bIsIn (v lo hi : Int32) : Int32 := if v < lo then 0 else if hi < v then 0 else 1
def rEnter (r : Nat → Int32) : Nat → Int32 := upd (upd (upd (upd (upd r 5 0) 6 (-1)) 7 0) 8 0) 9 (if 9 ≤ r 4 then 0 else 1)
def rRdy (G : Nat → Nat → Int32) (b : Nat) : Int32 := if 9 ≤ G b 4 then 0 else 1
def rWet (r : Nat → Int32) : Nat → Int32 := upd (upd r 8 2) 4 (bWet r)
def rSail (r : Nat → Int32) (w : Int32) : Nat → Int32 := if r 9 = 1 then (if r 8 ≤ 0 then (if 30 < bHeel r w then (if bWet r = 9 then upd (rWet r) 9 3 else rWet r) else upd r 5 (r 5 + bSpeed r w)) else upd r 8 (r 8 - 1)) else r
def rWent (r : Nat → Int32) (w : Int32) : Int32 := if r 9 = 1 then (if r 8 ≤ 0 then (if 30 < bHeel r w then 0 else 1) else 0) else 0

abbrev rmX4_thrown : Room := { frames := 0, cells := 0, slots := 0, locals := 0 }
set_option maxHeartbeats 4000000 in
set_option maxRecDepth 100000 in
theorem c_X4_thrown (l : Launch) (D : va_G) (T : Nat → ClassId) (mo mw me mf mn nb nj : Nat) (th len : Int32) : q_M l D (q_ty T) yX4_thrown wsX4_thrown rmX4_thrown [.ref mo] [q_mc mo th nb nj len mw me mf mn] q_no (q_is (some (.int th)) [q_mc mo th nb nj len mw me mf mn]) := by
  refine q_start (cc := cX4_thrown) (maxL := 1) (ret := (some .int)) (by decide) rfl (Nat.le_of_ble_eq_true rfl) ?_
  intro p e s m args below meth c A H locs hx hb hr hts hown hlocks hml hnm hP hK hD hS hA hG ls hl
  have hown : s.vm.findClass RX4 = some m.cls := hown
  have hC : CallFix p m c cX4_thrown 1 s args wsX4_thrown RX4 := ⟨hx, hb, hml, hown, hts⟩
  have iX4 : ∀ w ∈ wsX40, w ∈ wsX4_thrown := by decide +kernel
  have hl : lv_has ls 1 [(0, .ref mo)] := hl
  refine lv_aload_n hx hb dX4_thrown_0 rfl (lv_at hl 0 rfl) ?_
  refine va_get (D := D) (ci := 5) (v := .int th) (C := RX4) (T := TX4) (N := 8) hx hb hts iX4 hown hK hP 0 rfl rfl 0 (by decide) (hts (.fieldLink RX4 26 "ToyRegattaModel" "thrown" "I") (by decide +kernel)) (fun _ h9 => h9) rfl dX4_thrown_1 ?_
  exact q_iret hx hb hr hlocks hP hK hD hS (Nat.le_of_ble_eq_true rfl) (Nat.le_of_ble_eq_true rfl) dX4_thrown_4 ⟨rfl, rfl⟩
abbrev rmX4_fail : Room := { frames := 0, cells := 0, slots := 0, locals := 0 }
set_option maxHeartbeats 4000000 in
set_option maxRecDepth 100000 in
theorem c_X4_fail (l : Launch) (D : va_G) (T : Nat → ClassId) (mo mw me mf mn nb nj : Nat) (th len : Int32) (x : Int32) : q_M l D (q_ty T) yX4_fail wsX4_fail rmX4_fail [.ref mo, .int x] [q_mc mo th nb nj len mw me mf mn] q_no (q_is (some (.int 0)) [q_mc mo x nb nj len mw me mf mn]) := by
  refine q_start (cc := cX4_fail) (maxL := 2) (ret := (some .int)) (by decide) rfl (Nat.le_of_ble_eq_true rfl) ?_
  intro p e s m args below meth c A H locs hx hb hr hts hown hlocks hml hnm hP hK hD hS hA hG ls hl
  have hown : s.vm.findClass RX4 = some m.cls := hown
  have hC : CallFix p m c cX4_fail 2 s args wsX4_fail RX4 := ⟨hx, hb, hml, hown, hts⟩
  have iX4 : ∀ w ∈ wsX40, w ∈ wsX4_fail := by decide +kernel
  have hl : lv_has ls 2 [(0, .ref mo), (1, .int x)] := hl
  refine lv_aload_n hx hb dX4_fail_0 rfl (lv_at hl 0 rfl) ?_
  refine lv_iload_n hx hb dX4_fail_1 rfl (lv_at hl 1 rfl) ?_
  refine va_put (D := D) (ci := 5) (v := .int x) (ty := .int) (C := RX4) (T := TX4) (N := 8) hx hb hts iX4 tyX4 tyX4_ok nmX4 hown hK hP hD hS 0 rfl rfl 0 (by decide) (hts (.fieldLink RX4 26 "ToyRegattaModel" "thrown" "I") (by decide +kernel)) (fun _ h9 => h9) rfl (by decide +kernel) rfl rfl (Nat.le_of_ble_eq_true rfl) dX4_fail_2 (fun H locs hP hD hS => ?_)
  have hP : va_P D vwCl [q_mc mo x nb nj len mw me mf mn] H := hP
  have hD : va_D A [q_mc mo x nb nj len mw me mf mn] := hD
  refine lv_iconst (v := 0) hx hb dX4_fail_5 (by decide) ?_
  exact q_iret hx hb hr hlocks hP hK hD hS (Nat.le_of_ble_eq_true rfl) (Nat.le_of_ble_eq_true rfl) dX4_fail_6 ⟨rfl, rfl⟩
abbrev rmX4_isIn : Room := { frames := 0, cells := 0, slots := 0, locals := 0 }
set_option maxHeartbeats 4000000 in
set_option maxRecDepth 100000 in
theorem c_X4_isIn (l : Launch) (D : va_G) (T : Nat → ClassId) (v lo hi : Int32) : q_M l D (q_ty T) yX4_isIn wsX4_isIn rmX4_isIn [.int v, .int lo, .int hi] [] q_no (q_is (some (.int (bIsIn v lo hi))) []) := by
  refine q_start (cc := cX4_isIn) (maxL := 3) (ret := (some .boolean)) (by decide) rfl (Nat.le_of_ble_eq_true rfl) ?_
  intro p e s m args below meth c A H locs hx hb hr hts hown hlocks hml hnm hP hK hD hS hA hG ls hl
  have hown : s.vm.findClass RX4 = some m.cls := hown
  have hC : CallFix p m c cX4_isIn 3 s args wsX4_isIn RX4 := ⟨hx, hb, hml, hown, hts⟩
  have hl : lv_has ls 3 [(0, .int v), (1, .int lo), (2, .int hi)] := hl
  refine lv_iload_n hx hb dX4_isIn_0 rfl (lv_at hl 0 rfl) ?_
  refine lv_iload_n hx hb dX4_isIn_1 rfl (lv_at hl 1 rfl) ?_
  refine lv_icmp_lt (tgt := 14) hx hb dX4_isIn_2 (by decide) (fun c_2 => ?_) (fun c_2 => ?_)
  · refine lv_iconst (v := 0) hx hb dX4_isIn_14 (by decide) ?_
    exact q_zret hx hb hr hlocks hP hK hD hS rfl (Nat.le_of_ble_eq_true rfl) (Nat.le_of_ble_eq_true rfl) dX4_isIn_15 ⟨by simp only [bIsIn, if_pos c_2], rfl⟩
  · refine lv_iload_n hx hb dX4_isIn_5 rfl (lv_at hl 0 rfl) ?_
    refine lv_iload_n hx hb dX4_isIn_6 rfl (lv_at hl 2 rfl) ?_
    refine lv_icmp_gt (tgt := 14) hx hb dX4_isIn_7 (by decide) (fun c_7 => ?_) (fun c_7 => ?_)
    · refine lv_iconst (v := 0) hx hb dX4_isIn_14 (by decide) ?_
      exact q_zret hx hb hr hlocks hP hK hD hS rfl (Nat.le_of_ble_eq_true rfl) (Nat.le_of_ble_eq_true rfl) dX4_isIn_15 ⟨by simp only [bIsIn, if_neg c_2, if_pos c_7], rfl⟩
    · refine lv_iconst (v := 1) hx hb dX4_isIn_10 (by decide) ?_
      refine lv_goto (tgt := 15) hx hb dX4_isIn_11 (by decide) ?_
      exact q_zret hx hb hr hlocks hP hK hD hS rfl (Nat.le_of_ble_eq_true rfl) (Nat.le_of_ble_eq_true rfl) dX4_isIn_15 ⟨by simp only [bIsIn, if_neg c_2, if_neg c_7], rfl⟩
abbrev rmX4_isBoat : Room := { frames := 1, cells := 0, slots := 0, locals := 22 }
theorem bIsIn01 (v lo hi : Int32) : bIsIn v lo hi = 0 ∨ bIsIn v lo hi = 1 := by
  unfold bIsIn
  split
  · exact Or.inl rfl
  · split
    · exact Or.inl rfl
    · exact Or.inr rfl
set_option maxHeartbeats 4000000 in
set_option maxRecDepth 100000 in
theorem c_X4_isBoat (l : Launch) (D : va_G) (T : Nat → ClassId) (mo mw me mf mn nb nj : Nat) (th len : Int32) (x : Int32) : q_M l D (q_ty T) yX4_isBoat wsX4_isBoat rmX4_isBoat [.ref mo, .int x] [q_mc mo th nb nj len mw me mf mn] q_no (q_is (some (.int (bIsIn x 0 (nI nb - 1)))) [q_mc mo th nb nj len mw me mf mn]) := by
  refine q_start (cc := cX4_isBoat) (maxL := 2) (ret := (some .boolean)) (by decide) rfl (Nat.le_of_ble_eq_true rfl) ?_
  intro p e s m args below meth c A H locs hx hb hr hts hown hlocks hml hnm hP hK hD hS hA hG ls hl
  have hown : s.vm.findClass RX4 = some m.cls := hown
  have hC : CallFix p m c cX4_isBoat 2 s args wsX4_isBoat RX4 := ⟨hx, hb, hml, hown, hts⟩
  have iX4 : ∀ w ∈ wsX40, w ∈ wsX4_isBoat := by decide +kernel
  have hl : lv_has ls 2 [(0, .ref mo), (1, .int x)] := hl
  refine lv_iload_n hx hb dX4_isBoat_0 rfl (lv_at hl 1 rfl) ?_
  refine lv_iconst (v := 0) hx hb dX4_isBoat_1 (by decide) ?_
  refine lv_aload_n hx hb dX4_isBoat_2 rfl (lv_at hl 0 rfl) ?_
  refine va_get (D := D) (ci := 5) (v := .int (nI nb)) (C := RX4) (T := TX4) (N := 8) hx hb hts iX4 hown hK hP 0 rfl rfl 1 (by decide) (hts (.fieldLink RX4 29 "ToyRegattaModel" "boats" "I") (by decide +kernel)) (fun _ h9 => h9) rfl dX4_isBoat_3 ?_
  refine lv_iconst (v := 1) hx hb dX4_isBoat_6 (by decide) ?_
  refine lv_isub hx hb dX4_isBoat_7 ?_
  refine q_callS (As := [.int x, .int 0, .int ((nI nb) - 1)]) (rs := []) hC (c_X4_isIn l D T x 0 ((nI nb) - 1)) q_no_st q_no_at (va_cwS 3 hts gX4_isBoat_X4_isIn rfl rfl rfl (by decide +kernel) ⟨Nat.le_of_ble_eq_true rfl, Nat.le_of_ble_eq_true rfl⟩) hK hP hD hS hA (q_mask [false] _) rfl hl.1 rfl (Nat.le_of_ble_eq_true rfl) dX4_isBoat_8 ⟨(Nat.le_of_ble_eq_true rfl), (Nat.le_of_ble_eq_true rfl)⟩ (fun v9 C9 H locs hp hP hD hS => ?_)
  obtain ⟨rfl, rfl⟩ := hp
  have hP : va_P D vwCl [q_mc mo th nb nj len mw me mf mn] H := q_P_perm (q_mrg_perm [false] _ _) hP
  have hD : va_D A [q_mc mo th nb nj len mw me mf mn] := q_D_perm (q_mrg_perm [false] _ _) hD
  exact q_zret hx hb hr hlocks hP hK hD hS (q_nz (bIsIn01 _ _ _)) (Nat.le_of_ble_eq_true rfl) (Nat.le_of_ble_eq_true rfl) dX4_isBoat_11 ⟨rfl, rfl⟩
def bOn (nu : Nat → Int32) : Int32 := if nu 2 = 1 then 1 else 0
abbrev rmX4_isRace : Room := { frames := 0, cells := 0, slots := 0, locals := 0 }
set_option maxHeartbeats 4000000 in
set_option maxRecDepth 100000 in
theorem c_X4_isRace (l : Launch) (D : va_G) (T : Nat → ClassId) (mo mw me mf mn nb nj : Nat) (th len : Int32) (nu : Nat → Int32) : q_M l D (q_ty T) yX4_isRace wsX4_isRace rmX4_isRace [.ref mo] [q_mc mo th nb nj len mw me mf mn, q_ia T mn 4 nu] q_no (q_is (some (.int (bOn nu))) [q_mc mo th nb nj len mw me mf mn, q_ia T mn 4 nu]) := by
  refine q_start (cc := cX4_isRace) (maxL := 1) (ret := (some .boolean)) (by decide) rfl (Nat.le_of_ble_eq_true rfl) ?_
  intro p e s m args below meth c A H locs hx hb hr hts hown hlocks hml hnm hP hK hD hS hA hG ls hl
  have hown : s.vm.findClass RX4 = some m.cls := hown
  have hC : CallFix p m c cX4_isRace 1 s args wsX4_isRace RX4 := ⟨hx, hb, hml, hown, hts⟩
  have iX4 : ∀ w ∈ wsX40, w ∈ wsX4_isRace := by decide +kernel
  have hl : lv_has ls 1 [(0, .ref mo)] := hl
  refine lv_aload_n hx hb dX4_isRace_0 rfl (lv_at hl 0 rfl) ?_
  refine va_get (D := D) (ci := 5) (v := .ref mn) (C := RX4) (T := TX4) (N := 8) hx hb hts iX4 hown hK hP 0 rfl rfl 7 (by decide) (hts (.fieldLink RX4 23 "ToyRegattaModel" "numbers" "[I") (by decide +kernel)) (fun _ h9 => h9) rfl dX4_isRace_1 ?_
  refine lv_iconst (v := 2) hx hb dX4_isRace_4 (by decide) ?_
  refine va_iald (D := D) hx hb hK hP 1 0 rfl rfl (by unfold vp_in; decide) dX4_isRace_5 ?_
  rw [show (2 : Int32).toNatClampNeg = 2 from (by decide)]
  refine lv_iconst (v := 1) hx hb dX4_isRace_6 (by decide) ?_
  refine lv_icmp_ne (tgt := 14) hx hb dX4_isRace_7 (by decide) (fun c_7 => ?_) (fun c_7 => ?_)
  · refine lv_iconst (v := 0) hx hb dX4_isRace_14 (by decide) ?_
    exact q_zret hx hb hr hlocks hP hK hD hS rfl (Nat.le_of_ble_eq_true rfl) (Nat.le_of_ble_eq_true rfl) dX4_isRace_15 ⟨by simp only [bOn, if_neg c_7], rfl⟩
  · refine lv_iconst (v := 1) hx hb dX4_isRace_10 (by decide) ?_
    refine lv_goto (tgt := 15) hx hb dX4_isRace_11 (by decide) ?_
    exact q_zret hx hb hr hlocks hP hK hD hS rfl (Nat.le_of_ble_eq_true rfl) (Nat.le_of_ble_eq_true rfl) dX4_isRace_15 ⟨by simp only [bOn, if_pos c_7], rfl⟩
theorem q_bk (b k : Nat) : (10 : Int32) * nI b + nI k = nI (10 * b + k) := by
  rw [show (10 : Int32) = nI 10 from rfl, pk_mul, nI_add]
abbrev rmX4_bo : Room := { frames := 0, cells := 0, slots := 0, locals := 0 }
set_option maxHeartbeats 4000000 in
set_option maxRecDepth 100000 in
theorem c_X4_bo (l : Launch) (D : va_G) (T : Nat → ClassId) (mo mw me mf mn nb nj : Nat) (th len : Int32) (G : Nat → Nat → Int32) (b k : Nat) (r : Nat → Int32) (hb : b < 8) (hk : k < 10) (er : G b = r) : q_M l D (q_ty T) yX4_bo wsX4_bo rmX4_bo [.ref mo, .int (nI b), .int (nI k)] [q_mc mo th nb nj len mw me mf mn, q_fa T mf G] q_no (q_is (some (.int (r k))) [q_mc mo th nb nj len mw me mf mn, q_fa T mf G]) := by
  refine q_start (cc := cX4_bo) (maxL := 3) (ret := (some .int)) (by decide) rfl (Nat.le_of_ble_eq_true rfl) ?_
  intro p e s m args below meth c A H locs hx hb hr hts hown hlocks hml hnm hP hK hD hS hA hG ls hl
  have hown : s.vm.findClass RX4 = some m.cls := hown
  have hC : CallFix p m c cX4_bo 3 s args wsX4_bo RX4 := ⟨hx, hb, hml, hown, hts⟩
  have iX4 : ∀ w ∈ wsX40, w ∈ wsX4_bo := by decide +kernel
  have hl : lv_has ls 3 [(0, .ref mo), (1, .int (nI b)), (2, .int (nI k))] := hl
  refine lv_aload_n hx hb dX4_bo_0 rfl (lv_at hl 0 rfl) ?_
  refine va_get (D := D) (ci := 5) (v := .ref mf) (C := RX4) (T := TX4) (N := 8) hx hb hts iX4 hown hK hP 0 rfl rfl 6 (by decide) (hts (.fieldLink RX4 20 "ToyRegattaModel" "fleet" "[I") (by decide +kernel)) (fun _ h9 => h9) rfl dX4_bo_1 ?_
  refine lv_bipush (v := 10) hx hb dX4_bo_4 (by decide) ?_
  refine lv_iload_n hx hb dX4_bo_6 rfl (lv_at hl 1 rfl) ?_
  refine lv_imul hx hb dX4_bo_7 ?_
  refine lv_iload_n hx hb dX4_bo_8 rfl (lv_at hl 2 rfl) ?_
  refine lv_iadd hx hb dX4_bo_9 ?_
  refine W.eq (g2 := F0 m 10 ls [.int (nI (10 * b + k)), .ref mf]) (by rw [q_bk]) ?_
  refine va_iald (D := D) hx hb hK hP 1 0 rfl rfl (vp_in_nI (by omega) (by omega)) dX4_bo_10 ?_
  rw [show ((nI (10 * b + k)) : Int32).toNatClampNeg = (10 * b + k) from (pk_cl (10 * b + k) rfl (by omega))]
  exact q_iret hx hb hr hlocks hP hK hD hS (Nat.le_of_ble_eq_true rfl) (Nat.le_of_ble_eq_true rfl) dX4_bo_11 ⟨by rw [q_flat_at G hk, er], rfl⟩
abbrev rmX4_put : Room := { frames := 0, cells := 0, slots := 0, locals := 0 }
set_option maxHeartbeats 4000000 in
set_option maxRecDepth 100000 in
theorem c_X4_put (l : Launch) (D : va_G) (T : Nat → ClassId) (mo mw me mf mn nb nj : Nat) (th len : Int32) (G G2 : Nat → Nat → Int32) (b k : Nat) (v : Int32) (r : Nat → Int32) (hb : b < 8) (hk : k < 10) (er : G b = r) (e2 : va_up G b (upd r k v) = G2) : q_M l D (q_ty T) yX4_put wsX4_put rmX4_put [.ref mo, .int (nI b), .int (nI k), .int v] [q_mc mo th nb nj len mw me mf mn, q_fa T mf G] q_no (q_is none [q_mc mo th nb nj len mw me mf mn, q_fa T mf G2]) := by
  refine q_start (cc := cX4_put) (maxL := 4) (ret := none) (by decide) rfl (Nat.le_of_ble_eq_true rfl) ?_
  intro p e s m args below meth c A H locs hx hb hr hts hown hlocks hml hnm hP hK hD hS hA hG ls hl
  have hown : s.vm.findClass RX4 = some m.cls := hown
  have hC : CallFix p m c cX4_put 4 s args wsX4_put RX4 := ⟨hx, hb, hml, hown, hts⟩
  have iX4 : ∀ w ∈ wsX40, w ∈ wsX4_put := by decide +kernel
  have hl : lv_has ls 4 [(0, .ref mo), (1, .int (nI b)), (2, .int (nI k)), (3, .int v)] := hl
  refine lv_aload_n hx hb dX4_put_0 rfl (lv_at hl 0 rfl) ?_
  refine va_get (D := D) (ci := 5) (v := .ref mf) (C := RX4) (T := TX4) (N := 8) hx hb hts iX4 hown hK hP 0 rfl rfl 6 (by decide) (hts (.fieldLink RX4 20 "ToyRegattaModel" "fleet" "[I") (by decide +kernel)) (fun _ h9 => h9) rfl dX4_put_1 ?_
  refine lv_bipush (v := 10) hx hb dX4_put_4 (by decide) ?_
  refine lv_iload_n hx hb dX4_put_6 rfl (lv_at hl 1 rfl) ?_
  refine lv_imul hx hb dX4_put_7 ?_
  refine lv_iload_n hx hb dX4_put_8 rfl (lv_at hl 2 rfl) ?_
  refine lv_iadd hx hb dX4_put_9 ?_
  refine W.eq (g2 := F0 m 10 ls [.int (nI (10 * b + k)), .ref mf]) (by rw [q_bk]) ?_
  refine lv_iload_n hx hb dX4_put_10 rfl (lv_at hl 3 rfl) ?_
  refine va_iast (D := D) hx hb hK hP hD hS 1 0 rfl rfl (vp_in_nI (by omega) (by omega)) dX4_put_11 (fun H locs hP hD hS => ?_)
  rw [show ((nI (10 * b + k)) : Int32).toNatClampNeg = (10 * b + k) from (pk_cl (10 * b + k) rfl (by omega))] at hP hD
  have hP : va_P D vwCl [q_mc mo th nb nj len mw me mf mn, q_ia T mf 80 (upd (q_flat G) (10 * b + k) v)] H := hP
  have hD : va_D A [q_mc mo th nb nj len mw me mf mn, q_ia T mf 80 (upd (q_flat G) (10 * b + k) v)] := hD
  exact q_vret hx hb hr hlocks hP hK hD hS (Nat.le_of_ble_eq_true rfl) (Nat.le_of_ble_eq_true rfl) dX4_put_12 ⟨rfl, by rw [← e2, ← er, q_flat_upd G hk]⟩
abbrev rmX4_wind : Room := { frames := 0, cells := 0, slots := 0, locals := 0 }
set_option maxHeartbeats 4000000 in
set_option maxRecDepth 100000 in
theorem c_X4_wind (l : Launch) (D : va_G) (T : Nat → ClassId) (mo mw me mf mn nb nj : Nat) (th len : Int32) (wf nu : Nat → Int32) (mk : Nat) (hm : nu 0 = nI mk) (hmk : mk < 2 ^ 31) : q_M l D (q_ty T) yX4_wind wsX4_wind rmX4_wind [.ref mo] [q_mc mo th nb nj len mw me mf mn, q_ia T mw 10 wf, q_ia T mn 4 nu] q_no (q_is (some (.int (wf (mk % 10)))) [q_mc mo th nb nj len mw me mf mn, q_ia T mw 10 wf, q_ia T mn 4 nu]) := by
  refine q_start (cc := cX4_wind) (maxL := 1) (ret := (some .int)) (by decide) rfl (Nat.le_of_ble_eq_true rfl) ?_
  intro p e s m args below meth c A H locs hx hb hr hts hown hlocks hml hnm hP hK hD hS hA hG ls hl
  have hown : s.vm.findClass RX4 = some m.cls := hown
  have hC : CallFix p m c cX4_wind 1 s args wsX4_wind RX4 := ⟨hx, hb, hml, hown, hts⟩
  have iX4 : ∀ w ∈ wsX40, w ∈ wsX4_wind := by decide +kernel
  have hl : lv_has ls 1 [(0, .ref mo)] := hl
  refine lv_aload_n hx hb dX4_wind_0 rfl (lv_at hl 0 rfl) ?_
  refine va_get (D := D) (ci := 5) (v := .ref mw) (C := RX4) (T := TX4) (N := 8) hx hb hts iX4 hown hK hP 0 rfl rfl 4 (by decide) (hts (.fieldLink RX4 13 "ToyRegattaModel" "winds" "[I") (by decide +kernel)) (fun _ h9 => h9) rfl dX4_wind_1 ?_
  refine lv_aload_n hx hb dX4_wind_4 rfl (lv_at hl 0 rfl) ?_
  refine va_get (D := D) (ci := 5) (v := .ref mn) (C := RX4) (T := TX4) (N := 8) hx hb hts iX4 hown hK hP 0 rfl rfl 7 (by decide) (hts (.fieldLink RX4 23 "ToyRegattaModel" "numbers" "[I") (by decide +kernel)) (fun _ h9 => h9) rfl dX4_wind_5 ?_
  refine lv_iconst (v := 0) hx hb dX4_wind_8 (by decide) ?_
  refine va_iald (D := D) hx hb hK hP 2 0 rfl rfl (by unfold vp_in; decide) dX4_wind_9 ?_
  rw [show (0 : Int32).toNatClampNeg = 0 from (by decide)]
  refine lv_bipush (v := 10) hx hb dX4_wind_10 (by decide) ?_
  refine lv_irem hx hb dX4_wind_12 (by decide) ?_
  refine W.eq (g2 := F0 m 13 ls [.int (nI (mk % 10)), .ref mw]) (by rw [hm, show (10 : Int32) = nI 10 from rfl, pk_rem hmk (by omega) (by omega)]) ?_
  refine va_iald (D := D) hx hb hK hP 1 0 rfl rfl (vp_in_nI (by omega) (by omega)) dX4_wind_13 ?_
  rw [show ((nI (mk % 10)) : Int32).toNatClampNeg = (mk % 10) from (pk_cl (mk % 10) rfl (by omega))]
  exact q_iret hx hb hr hlocks hP hK hD hS (Nat.le_of_ble_eq_true rfl) (Nat.le_of_ble_eq_true rfl) dX4_wind_14 ⟨rfl, rfl⟩
abbrev rmX4_pull : Room := { frames := 1, cells := 0, slots := 0, locals := 22 }
set_option maxHeartbeats 4000000 in
set_option maxRecDepth 100000 in
theorem c_X4_pull (l : Launch) (D : va_G) (T : Nat → ClassId) (mo mw me mf mn nb nj : Nat) (th len : Int32) (G : Nat → Nat → Int32) (b : Nat) (x : Int32) (r : Nat → Int32) (hb : b < 8) (er : G b = r) : q_M l D (q_ty T) yX4_pull wsX4_pull rmX4_pull [.ref mo, .int (nI b), .int x] [q_mc mo th nb nj len mw me mf mn, q_fa T mf G] q_no (q_is (some (.int (bPull (r 1) x))) [q_mc mo th nb nj len mw me mf mn, q_fa T mf G]) := by
  refine q_start (cc := cX4_pull) (maxL := 3) (ret := (some .int)) (by decide) rfl (Nat.le_of_ble_eq_true rfl) ?_
  intro p e s m args below meth c A H locs hx hb hr hts hown hlocks hml hnm hP hK hD hS hA hG ls hl
  have hown : s.vm.findClass RX4 = some m.cls := hown
  have hC : CallFix p m c cX4_pull 3 s args wsX4_pull RX4 := ⟨hx, hb, hml, hown, hts⟩
  have hl : lv_has ls 3 [(0, .ref mo), (1, .int (nI b)), (2, .int x)] := hl
  refine lv_aload_n hx hb dX4_pull_0 rfl (lv_at hl 0 rfl) ?_
  refine lv_iload_n hx hb dX4_pull_1 rfl (lv_at hl 1 rfl) ?_
  refine lv_iconst (v := 1) hx hb dX4_pull_2 (by decide) ?_
  refine q_callV (As := [.int (nI b), .int 1]) (rs := []) hC (c_X4_bo l D T mo mw me mf mn nb nj th len G b 1 r (by omega) (by omega) er) q_no_st q_no_at (cwV 2 hts gX4_pull_X4_bo rfl rfl rfl (by decide +kernel) ⟨Nat.le_of_ble_eq_true rfl, Nat.le_of_ble_eq_true rfl⟩) (va_recv hK hP (ci := 5) (q0 := 0) rfl rfl) hK hP hD hS hA (q_mask [true, true] _) rfl hl.1 rfl (Nat.le_of_ble_eq_true rfl) dX4_pull_3 ⟨(Nat.le_of_ble_eq_true rfl), (Nat.le_of_ble_eq_true rfl)⟩ (fun v9 C9 H locs hp hP hD hS => ?_)
  obtain ⟨rfl, rfl⟩ := hp
  have hP : va_P D vwCl [q_mc mo th nb nj len mw me mf mn, q_fa T mf G] H := q_P_perm (q_mrg_perm [true, true] _ _) hP
  have hD : va_D A [q_mc mo th nb nj len mw me mf mn, q_fa T mf G] := q_D_perm (q_mrg_perm [true, true] _ _) hD
  refine lv_if_ne (tgt := 15) hx hb dX4_pull_6 (by decide) (fun c_6 => ?_) (fun c_6 => ?_)
  · refine lv_aload_n hx hb dX4_pull_15 rfl (lv_at hl 0 rfl) ?_
    refine lv_iload_n hx hb dX4_pull_16 rfl (lv_at hl 1 rfl) ?_
    refine lv_iconst (v := 1) hx hb dX4_pull_17 (by decide) ?_
    refine q_callV (As := [.int (nI b), .int 1]) (rs := []) hC (c_X4_bo l D T mo mw me mf mn nb nj th len G b 1 r (by omega) (by omega) er) q_no_st q_no_at (cwV 2 hts gX4_pull_X4_bo rfl rfl rfl (by decide +kernel) ⟨Nat.le_of_ble_eq_true rfl, Nat.le_of_ble_eq_true rfl⟩) (va_recv hK hP (ci := 5) (q0 := 0) rfl rfl) hK hP hD hS hA (q_mask [true, true] _) rfl hl.1 rfl (Nat.le_of_ble_eq_true rfl) dX4_pull_18 ⟨(Nat.le_of_ble_eq_true rfl), (Nat.le_of_ble_eq_true rfl)⟩ (fun v9 C9 H locs hp hP hD hS => ?_)
    obtain ⟨rfl, rfl⟩ := hp
    have hP : va_P D vwCl [q_mc mo th nb nj len mw me mf mn, q_fa T mf G] H := q_P_perm (q_mrg_perm [true, true] _ _) hP
    have hD : va_D A [q_mc mo th nb nj len mw me mf mn, q_fa T mf G] := q_D_perm (q_mrg_perm [true, true] _ _) hD
    refine lv_iconst (v := 1) hx hb dX4_pull_21 (by decide) ?_
    refine lv_icmp_ne (tgt := 33) hx hb dX4_pull_22 (by decide) (fun c_22 => ?_) (fun c_22 => ?_)
    · refine lv_iload_n hx hb dX4_pull_33 rfl (lv_at hl 2 rfl) ?_
      refine lv_if_ne (tgt := 41) hx hb dX4_pull_34 (by decide) (fun c_34 => ?_) (fun c_34 => ?_)
      · refine lv_iconst (v := 5) hx hb dX4_pull_41 (by decide) ?_
        refine lv_iload_n hx hb dX4_pull_42 rfl (lv_at hl 2 rfl) ?_
        refine lv_iadd hx hb dX4_pull_43 ?_
        exact q_iret hx hb hr hlocks hP hK hD hS (Nat.le_of_ble_eq_true rfl) (Nat.le_of_ble_eq_true rfl) dX4_pull_44 ⟨by simp only [bPull, if_neg c_6, if_neg c_22, if_neg c_34], rfl⟩
      · refine lv_iconst (v := 0) hx hb dX4_pull_37 (by decide) ?_
        refine lv_goto (tgt := 44) hx hb dX4_pull_38 (by decide) ?_
        exact q_iret hx hb hr hlocks hP hK hD hS (Nat.le_of_ble_eq_true rfl) (Nat.le_of_ble_eq_true rfl) dX4_pull_44 ⟨by simp only [bPull, if_neg c_6, if_neg c_22, if_pos c_34], rfl⟩
    · refine lv_iload_n hx hb dX4_pull_25 rfl (lv_at hl 2 rfl) ?_
      refine lv_iload_n hx hb dX4_pull_26 rfl (lv_at hl 2 rfl) ?_
      refine lv_imul hx hb dX4_pull_27 ?_
      refine lv_iconst (v := 2) hx hb dX4_pull_28 (by decide) ?_
      refine lv_idiv hx hb dX4_pull_29 (by decide) ?_
      refine lv_goto (tgt := 44) hx hb dX4_pull_30 (by decide) ?_
      exact q_iret hx hb hr hlocks hP hK hD hS (Nat.le_of_ble_eq_true rfl) (Nat.le_of_ble_eq_true rfl) dX4_pull_44 ⟨by simp only [bPull, if_neg c_6, if_pos c_22], rfl⟩
  · refine lv_iconst (v := 3) hx hb dX4_pull_9 (by decide) ?_
    refine lv_iload_n hx hb dX4_pull_10 rfl (lv_at hl 2 rfl) ?_
    refine lv_imul hx hb dX4_pull_11 ?_
    refine lv_goto (tgt := 44) hx hb dX4_pull_12 (by decide) ?_
    exact q_iret hx hb hr hlocks hP hK hD hS (Nat.le_of_ble_eq_true rfl) (Nat.le_of_ble_eq_true rfl) dX4_pull_44 ⟨by simp only [bPull, if_pos c_6], rfl⟩
abbrev rmX4_heel : Room := { frames := 2, cells := 0, slots := 0, locals := 44 }
set_option maxHeartbeats 4000000 in
set_option maxRecDepth 100000 in
theorem c_X4_heel (l : Launch) (D : va_G) (T : Nat → ClassId) (mo mw me mf mn nb nj : Nat) (th len : Int32) (G : Nat → Nat → Int32) (b : Nat) (x : Int32) (r : Nat → Int32) (hb : b < 8) (er : G b = r) : q_M l D (q_ty T) yX4_heel wsX4_heel rmX4_heel [.ref mo, .int (nI b), .int x] [q_mc mo th nb nj len mw me mf mn, q_fa T mf G] q_no (q_is (some (.int (bHeel r x))) [q_mc mo th nb nj len mw me mf mn, q_fa T mf G]) := by
  refine q_start (cc := cX4_heel) (maxL := 3) (ret := (some .int)) (by decide) rfl (Nat.le_of_ble_eq_true rfl) ?_
  intro p e s m args below meth c A H locs hx hb hr hts hown hlocks hml hnm hP hK hD hS hA hG ls hl
  have hown : s.vm.findClass RX4 = some m.cls := hown
  have hC : CallFix p m c cX4_heel 3 s args wsX4_heel RX4 := ⟨hx, hb, hml, hown, hts⟩
  have hl : lv_has ls 3 [(0, .ref mo), (1, .int (nI b)), (2, .int x)] := hl
  refine lv_iconst (v := 0) hx hb dX4_heel_0 (by decide) ?_
  refine lv_iconst (v := 4) hx hb dX4_heel_1 (by decide) ?_
  refine lv_aload_n hx hb dX4_heel_2 rfl (lv_at hl 0 rfl) ?_
  refine lv_iload_n hx hb dX4_heel_3 rfl (lv_at hl 1 rfl) ?_
  refine lv_iload_n hx hb dX4_heel_4 rfl (lv_at hl 2 rfl) ?_
  refine q_callV (As := [.int (nI b), .int x]) (rs := [.int 4, .int 0]) hC (c_X4_pull l D T mo mw me mf mn nb nj th len G b x r (by omega) er ) q_no_st q_no_at (cwV 2 hts gX4_heel_X4_pull rfl rfl rfl (by decide +kernel) ⟨Nat.le_of_ble_eq_true rfl, Nat.le_of_ble_eq_true rfl⟩) (va_recv hK hP (ci := 5) (q0 := 0) rfl rfl) hK hP hD hS hA (q_mask [true, true] _) rfl hl.1 rfl (Nat.le_of_ble_eq_true rfl) dX4_heel_5 ⟨(Nat.le_of_ble_eq_true rfl), (Nat.le_of_ble_eq_true rfl)⟩ (fun v9 C9 H locs hp hP hD hS => ?_)
  obtain ⟨rfl, rfl⟩ := hp
  have hP : va_P D vwCl [q_mc mo th nb nj len mw me mf mn, q_fa T mf G] H := q_P_perm (q_mrg_perm [true, true] _ _) hP
  have hD : va_D A [q_mc mo th nb nj len mw me mf mn, q_fa T mf G] := q_D_perm (q_mrg_perm [true, true] _ _) hD
  refine lv_imul hx hb dX4_heel_8 ?_
  refine lv_iconst (v := 5) hx hb dX4_heel_9 (by decide) ?_
  refine lv_aload_n hx hb dX4_heel_10 rfl (lv_at hl 0 rfl) ?_
  refine lv_iload_n hx hb dX4_heel_11 rfl (lv_at hl 1 rfl) ?_
  refine lv_iconst (v := 2) hx hb dX4_heel_12 (by decide) ?_
  refine q_callV (As := [.int (nI b), .int 2]) (rs := [.int 5, .int (4 * (bPull (r 1) x)), .int 0]) hC (c_X4_bo l D T mo mw me mf mn nb nj th len G b 2 r (by omega) (by omega) er) q_no_st q_no_at (cwV 2 hts gX4_heel_X4_bo rfl rfl rfl (by decide +kernel) ⟨Nat.le_of_ble_eq_true rfl, Nat.le_of_ble_eq_true rfl⟩) (va_recv hK hP (ci := 5) (q0 := 0) rfl rfl) hK hP hD hS hA (q_mask [true, true] _) rfl hl.1 rfl (Nat.le_of_ble_eq_true rfl) dX4_heel_13 ⟨(Nat.le_of_ble_eq_true rfl), (Nat.le_of_ble_eq_true rfl)⟩ (fun v9 C9 H locs hp hP hD hS => ?_)
  obtain ⟨rfl, rfl⟩ := hp
  have hP : va_P D vwCl [q_mc mo th nb nj len mw me mf mn, q_fa T mf G] H := q_P_perm (q_mrg_perm [true, true] _ _) hP
  have hD : va_D A [q_mc mo th nb nj len mw me mf mn, q_fa T mf G] := q_D_perm (q_mrg_perm [true, true] _ _) hD
  refine lv_imul hx hb dX4_heel_16 ?_
  refine lv_isub hx hb dX4_heel_17 ?_
  refine lv_iconst (v := 2) hx hb dX4_heel_18 (by decide) ?_
  refine lv_aload_n hx hb dX4_heel_19 rfl (lv_at hl 0 rfl) ?_
  refine lv_iload_n hx hb dX4_heel_20 rfl (lv_at hl 1 rfl) ?_
  refine lv_iconst (v := 0) hx hb dX4_heel_21 (by decide) ?_
  refine q_callV (As := [.int (nI b), .int 0]) (rs := [.int 2, .int ((4 * (bPull (r 1) x)) - (5 * (r 2))), .int 0]) hC (c_X4_bo l D T mo mw me mf mn nb nj th len G b 0 r (by omega) (by omega) er) q_no_st q_no_at (cwV 2 hts gX4_heel_X4_bo rfl rfl rfl (by decide +kernel) ⟨Nat.le_of_ble_eq_true rfl, Nat.le_of_ble_eq_true rfl⟩) (va_recv hK hP (ci := 5) (q0 := 0) rfl rfl) hK hP hD hS hA (q_mask [true, true] _) rfl hl.1 rfl (Nat.le_of_ble_eq_true rfl) dX4_heel_22 ⟨(Nat.le_of_ble_eq_true rfl), (Nat.le_of_ble_eq_true rfl)⟩ (fun v9 C9 H locs hp hP hD hS => ?_)
  obtain ⟨rfl, rfl⟩ := hp
  have hP : va_P D vwCl [q_mc mo th nb nj len mw me mf mn, q_fa T mf G] H := q_P_perm (q_mrg_perm [true, true] _ _) hP
  have hD : va_D A [q_mc mo th nb nj len mw me mf mn, q_fa T mf G] := q_D_perm (q_mrg_perm [true, true] _ _) hD
  refine lv_imul hx hb dX4_heel_25 ?_
  refine lv_isub hx hb dX4_heel_26 ?_
  refine va_mmax hx hb (hml.trans hl.1.symm) hown (hts (.methodLink RX4 68 Lib.Math.max.name) (by decide +kernel)) (hts (.static Lib.Math.max.name) (by decide +kernel)) (hts (.initialized "java/lang/Math") (by decide +kernel)) (hts (.code Lib.Math.max.name Lib.Math.max.code 2 (some .int)) (by decide +kernel)) (Nat.le_of_ble_eq_true rfl) (Nat.le_of_ble_eq_true rfl) (Nat.le_of_ble_eq_true rfl) (Nat.le_of_ble_eq_true rfl) dX4_heel_27 ?_
  exact q_iret hx hb hr hlocks hP hK hD hS (Nat.le_of_ble_eq_true rfl) (Nat.le_of_ble_eq_true rfl) dX4_heel_30 ⟨rfl, rfl⟩
abbrev rmX4_speed : Room := { frames := 2, cells := 0, slots := 0, locals := 44 }
set_option maxHeartbeats 4000000 in
set_option maxRecDepth 100000 in
theorem c_X4_speed (l : Launch) (D : va_G) (T : Nat → ClassId) (mo mw me mf mn nb nj : Nat) (th len : Int32) (G : Nat → Nat → Int32) (b : Nat) (x : Int32) (r : Nat → Int32) (hb : b < 8) (er : G b = r) (hz : 0 < 2 + r 0 + r 2 / 2) : q_M l D (q_ty T) yX4_speed wsX4_speed rmX4_speed [.ref mo, .int (nI b), .int x] [q_mc mo th nb nj len mw me mf mn, q_fa T mf G] q_no (q_is (some (.int (bSpeed r x))) [q_mc mo th nb nj len mw me mf mn, q_fa T mf G]) := by
  refine q_start (cc := cX4_speed) (maxL := 3) (ret := (some .int)) (by decide) rfl (Nat.le_of_ble_eq_true rfl) ?_
  intro p e s m args below meth c A H locs hx hb hr hts hown hlocks hml hnm hP hK hD hS hA hG ls hl
  have hown : s.vm.findClass RX4 = some m.cls := hown
  have hC : CallFix p m c cX4_speed 3 s args wsX4_speed RX4 := ⟨hx, hb, hml, hown, hts⟩
  have hl : lv_has ls 3 [(0, .ref mo), (1, .int (nI b)), (2, .int x)] := hl
  refine lv_bipush (v := 20) hx hb dX4_speed_0 (by decide) ?_
  refine lv_iconst (v := 4) hx hb dX4_speed_2 (by decide) ?_
  refine lv_aload_n hx hb dX4_speed_3 rfl (lv_at hl 0 rfl) ?_
  refine lv_iload_n hx hb dX4_speed_4 rfl (lv_at hl 1 rfl) ?_
  refine lv_iload_n hx hb dX4_speed_5 rfl (lv_at hl 2 rfl) ?_
  refine q_callV (As := [.int (nI b), .int x]) (rs := [.int 4, .int 20]) hC (c_X4_pull l D T mo mw me mf mn nb nj th len G b x r (by omega) er ) q_no_st q_no_at (cwV 2 hts gX4_speed_X4_pull rfl rfl rfl (by decide +kernel) ⟨Nat.le_of_ble_eq_true rfl, Nat.le_of_ble_eq_true rfl⟩) (va_recv hK hP (ci := 5) (q0 := 0) rfl rfl) hK hP hD hS hA (q_mask [true, true] _) rfl hl.1 rfl (Nat.le_of_ble_eq_true rfl) dX4_speed_6 ⟨(Nat.le_of_ble_eq_true rfl), (Nat.le_of_ble_eq_true rfl)⟩ (fun v9 C9 H locs hp hP hD hS => ?_)
  obtain ⟨rfl, rfl⟩ := hp
  have hP : va_P D vwCl [q_mc mo th nb nj len mw me mf mn, q_fa T mf G] H := q_P_perm (q_mrg_perm [true, true] _ _) hP
  have hD : va_D A [q_mc mo th nb nj len mw me mf mn, q_fa T mf G] := q_D_perm (q_mrg_perm [true, true] _ _) hD
  refine lv_imul hx hb dX4_speed_9 ?_
  refine lv_iconst (v := 2) hx hb dX4_speed_10 (by decide) ?_
  refine lv_aload_n hx hb dX4_speed_11 rfl (lv_at hl 0 rfl) ?_
  refine lv_iload_n hx hb dX4_speed_12 rfl (lv_at hl 1 rfl) ?_
  refine lv_iconst (v := 0) hx hb dX4_speed_13 (by decide) ?_
  refine q_callV (As := [.int (nI b), .int 0]) (rs := [.int 2, .int (4 * (bPull (r 1) x)), .int 20]) hC (c_X4_bo l D T mo mw me mf mn nb nj th len G b 0 r (by omega) (by omega) er) q_no_st q_no_at (cwV 2 hts gX4_speed_X4_bo rfl rfl rfl (by decide +kernel) ⟨Nat.le_of_ble_eq_true rfl, Nat.le_of_ble_eq_true rfl⟩) (va_recv hK hP (ci := 5) (q0 := 0) rfl rfl) hK hP hD hS hA (q_mask [true, true] _) rfl hl.1 rfl (Nat.le_of_ble_eq_true rfl) dX4_speed_14 ⟨(Nat.le_of_ble_eq_true rfl), (Nat.le_of_ble_eq_true rfl)⟩ (fun v9 C9 H locs hp hP hD hS => ?_)
  obtain ⟨rfl, rfl⟩ := hp
  have hP : va_P D vwCl [q_mc mo th nb nj len mw me mf mn, q_fa T mf G] H := q_P_perm (q_mrg_perm [true, true] _ _) hP
  have hD : va_D A [q_mc mo th nb nj len mw me mf mn, q_fa T mf G] := q_D_perm (q_mrg_perm [true, true] _ _) hD
  refine lv_iadd hx hb dX4_speed_17 ?_
  refine lv_aload_n hx hb dX4_speed_18 rfl (lv_at hl 0 rfl) ?_
  refine lv_iload_n hx hb dX4_speed_19 rfl (lv_at hl 1 rfl) ?_
  refine lv_iconst (v := 2) hx hb dX4_speed_20 (by decide) ?_
  refine q_callV (As := [.int (nI b), .int 2]) (rs := [.int (2 + (r 0)), .int (4 * (bPull (r 1) x)), .int 20]) hC (c_X4_bo l D T mo mw me mf mn nb nj th len G b 2 r (by omega) (by omega) er) q_no_st q_no_at (cwV 2 hts gX4_speed_X4_bo rfl rfl rfl (by decide +kernel) ⟨Nat.le_of_ble_eq_true rfl, Nat.le_of_ble_eq_true rfl⟩) (va_recv hK hP (ci := 5) (q0 := 0) rfl rfl) hK hP hD hS hA (q_mask [true, true] _) rfl hl.1 rfl (Nat.le_of_ble_eq_true rfl) dX4_speed_21 ⟨(Nat.le_of_ble_eq_true rfl), (Nat.le_of_ble_eq_true rfl)⟩ (fun v9 C9 H locs hp hP hD hS => ?_)
  obtain ⟨rfl, rfl⟩ := hp
  have hP : va_P D vwCl [q_mc mo th nb nj len mw me mf mn, q_fa T mf G] H := q_P_perm (q_mrg_perm [true, true] _ _) hP
  have hD : va_D A [q_mc mo th nb nj len mw me mf mn, q_fa T mf G] := q_D_perm (q_mrg_perm [true, true] _ _) hD
  refine lv_iconst (v := 2) hx hb dX4_speed_24 (by decide) ?_
  refine lv_idiv hx hb dX4_speed_25 (by decide) ?_
  refine lv_iadd hx hb dX4_speed_26 ?_
  refine lv_idiv hx hb dX4_speed_27 (q_ne0 hz) ?_
  refine va_mmin hx hb (hml.trans hl.1.symm) hown (hts (.methodLink RX4 73 Lib.Math.min.name) (by decide +kernel)) (hts (.static Lib.Math.min.name) (by decide +kernel)) (hts (.initialized "java/lang/Math") (by decide +kernel)) (hts (.code Lib.Math.min.name Lib.Math.min.code 2 (some .int)) (by decide +kernel)) (Nat.le_of_ble_eq_true rfl) (Nat.le_of_ble_eq_true rfl) (Nat.le_of_ble_eq_true rfl) (Nat.le_of_ble_eq_true rfl) dX4_speed_28 ?_
  exact q_iret hx hb hr hlocks hP hK hD hS (Nat.le_of_ble_eq_true rfl) (Nat.le_of_ble_eq_true rfl) dX4_speed_31 ⟨rfl, rfl⟩
abbrev rmX4_sailing : Room := { frames := 1, cells := 0, slots := 0, locals := 22 }
set_option maxHeartbeats 4000000 in
set_option maxRecDepth 100000 in
theorem c_X4_sailing (l : Launch) (D : va_G) (T : Nat → ClassId) (mo mw me mf mn nb nj : Nat) (th len : Int32) (G : Nat → Nat → Int32) (hn : nb ≤ 8) : q_M l D (q_ty T) yX4_sailing wsX4_sailing rmX4_sailing [.ref mo] [q_mc mo th nb nj len mw me mf mn, q_fa T mf G] q_no (q_is (some (.int (q_sum (dSt G 1) nb))) [q_mc mo th nb nj len mw me mf mn, q_fa T mf G]) := by
  refine q_start (cc := cX4_sailing) (maxL := 3) (ret := (some .int)) (by decide) rfl (Nat.le_of_ble_eq_true rfl) ?_
  intro p e s m args below meth c A H locs hx hb hr hts hown hlocks hml hnm hP hK hD hS hA hG ls hl
  have hown : s.vm.findClass RX4 = some m.cls := hown
  have hC : CallFix p m c cX4_sailing 3 s args wsX4_sailing RX4 := ⟨hx, hb, hml, hown, hts⟩
  have iX4 : ∀ w ∈ wsX40, w ∈ wsX4_sailing := by decide +kernel
  have hl : lv_has ls 3 [(0, .ref mo)] := hl
  refine lv_iconst (v := 0) hx hb dX4_sailing_0 (by decide) ?_
  refine lv_istore_n (lv' := [(1, .int 0), (0, .ref mo)]) hx hb dX4_sailing_1 rfl hl (by decide) rfl (fun ls hl => ?_)
  refine lv_iconst (v := 0) hx hb dX4_sailing_2 (by decide) ?_
  refine lv_istore_n (lv' := [(2, .int 0), (1, .int 0), (0, .ref mo)]) hx hb dX4_sailing_3 rfl hl (by decide) rfl (fun ls hl => ?_)
  have L4 : ∀ (f9 b : Nat) (h9a : nb < b + f9) (h9b : b ≤ nb) (H : Heap) (locs : List Loc) (ls : Array Slot), va_P D vwCl [q_mc mo th nb nj len mw me mf mn, q_fa T mf G] H → va_D A [q_mc mo th nb nj len mw me mf mn, q_fa T mf G] → va_S A s.heap H locs → lv_has ls 3 [(0, .ref mo), (1, .int (q_sum (dSt G 1) b)), (2, .int (nI b))] → W p l e rmX4_sailing s m args below meth c H locs 0 0 (q_E below D (q_ty T) (q_is (some (.int (q_sum (dSt G 1) nb))) [q_mc mo th nb nj len mw me mf mn, q_fa T mf G]) A args s rmX4_sailing) (F0 m 4 ls []) := by
    intro f9
    induction f9 with
    | zero => intro b h9a h9b; exact absurd h9a (by omega)
    | succ f9 ih =>
      intro b h9a h9b   H locs ls hP hD hS hl
      refine lv_iload_n hx hb dX4_sailing_4 rfl (lv_at hl 2 rfl) ?_
      refine lv_aload_n hx hb dX4_sailing_5 rfl (lv_at hl 0 rfl) ?_
      refine va_get (D := D) (ci := 5) (v := .int (nI nb)) (C := RX4) (T := TX4) (N := 8) hx hb hts iX4 hown hK hP 0 rfl rfl 1 (by decide) (hts (.fieldLink RX4 29 "ToyRegattaModel" "boats" "I") (by decide +kernel)) (fun _ h9 => h9) rfl dX4_sailing_6 ?_
      refine lv_icmp_ge (tgt := 37) hx hb dX4_sailing_9 (by decide) (fun c_9 => ?_) (fun c_9 => ?_)
      · have h9d := (q_exit c_9 h9b (by omega)).symm
        subst h9d
        refine lv_iload_n hx hb dX4_sailing_37 rfl (lv_at hl 1 rfl) ?_
        exact q_iret hx hb hr hlocks hP hK hD hS (Nat.le_of_ble_eq_true rfl) (Nat.le_of_ble_eq_true rfl) dX4_sailing_38 ⟨rfl, rfl⟩
      · have h9d := q_goon c_9 (by omega)
        refine lv_iload_n hx hb dX4_sailing_12 rfl (lv_at hl 1 rfl) ?_
        refine lv_aload_n hx hb dX4_sailing_13 rfl (lv_at hl 0 rfl) ?_
        refine lv_iload_n hx hb dX4_sailing_14 rfl (lv_at hl 2 rfl) ?_
        refine lv_bipush (v := 9) hx hb dX4_sailing_15 (by decide) ?_
        refine q_callV (As := [.int (nI b), .int 9]) (rs := [.int (q_sum (dSt G 1) b)]) hC (c_X4_bo l D T mo mw me mf mn nb nj th len G b 9 (G b) (by omega) (by omega) rfl) q_no_st q_no_at (cwV 2 hts gX4_sailing_X4_bo rfl rfl rfl (by decide +kernel) ⟨Nat.le_of_ble_eq_true rfl, Nat.le_of_ble_eq_true rfl⟩) (va_recv hK hP (ci := 5) (q0 := 0) rfl rfl) hK hP hD hS hA (q_mask [true, true] _) rfl hl.1 rfl (Nat.le_of_ble_eq_true rfl) dX4_sailing_17 ⟨(Nat.le_of_ble_eq_true rfl), (Nat.le_of_ble_eq_true rfl)⟩ (fun v9 C9 H locs hp hP hD hS => ?_)
        obtain ⟨rfl, rfl⟩ := hp
        have hP : va_P D vwCl [q_mc mo th nb nj len mw me mf mn, q_fa T mf G] H := q_P_perm (q_mrg_perm [true, true] _ _) hP
        have hD : va_D A [q_mc mo th nb nj len mw me mf mn, q_fa T mf G] := q_D_perm (q_mrg_perm [true, true] _ _) hD
        refine lv_iconst (v := 1) hx hb dX4_sailing_20 (by decide) ?_
        refine lv_icmp_ne (tgt := 28) hx hb dX4_sailing_21 (by decide) (fun c_21 => ?_) (fun c_21 => ?_)
        · refine lv_iconst (v := 0) hx hb dX4_sailing_28 (by decide) ?_
          refine lv_iadd hx hb dX4_sailing_29 ?_
          refine lv_istore_n (lv' := [(1, .int ((q_sum (dSt G 1) b) + 0)), (0, .ref mo), (2, .int (nI b))]) hx hb dX4_sailing_30 rfl hl (by decide) rfl (fun ls hl => ?_)
          refine lv_iinc (v := (nI (b + 1))) (lv' := [(2, .int (nI (b + 1))), (1, .int ((q_sum (dSt G 1) b) + 0)), (0, .ref mo)]) hx hb dX4_sailing_31 hl (k := 2) rfl (nI_1 b) (by decide) rfl (fun ls hl => ?_)
          refine lv_goto (tgt := 4) hx hb dX4_sailing_34 (by decide) ?_
          have e9 : q_sum (dSt G 1) (b + 1) = ((q_sum (dSt G 1) b) + 0) := by simp only [q_sum, dSt, if_neg c_21, Int32.add_zero]
          rw [← e9] at hl
          exact ih (b + 1) (by omega) (by omega)   _ _ ls hP hD hS (lv_sub hl [2, 1, 0] rfl)
        · refine lv_iconst (v := 1) hx hb dX4_sailing_24 (by decide) ?_
          refine lv_goto (tgt := 29) hx hb dX4_sailing_25 (by decide) ?_
          refine lv_iadd hx hb dX4_sailing_29 ?_
          refine lv_istore_n (lv' := [(1, .int ((q_sum (dSt G 1) b) + 1)), (0, .ref mo), (2, .int (nI b))]) hx hb dX4_sailing_30 rfl hl (by decide) rfl (fun ls hl => ?_)
          refine lv_iinc (v := (nI (b + 1))) (lv' := [(2, .int (nI (b + 1))), (1, .int ((q_sum (dSt G 1) b) + 1)), (0, .ref mo)]) hx hb dX4_sailing_31 hl (k := 2) rfl (nI_1 b) (by decide) rfl (fun ls hl => ?_)
          refine lv_goto (tgt := 4) hx hb dX4_sailing_34 (by decide) ?_
          have e9 : q_sum (dSt G 1) (b + 1) = ((q_sum (dSt G 1) b) + 1) := by simp only [q_sum, dSt, if_pos c_21, Int32.add_zero]
          rw [← e9] at hl
          exact ih (b + 1) (by omega) (by omega)   _ _ ls hP hD hS (lv_sub hl [2, 1, 0] rfl)
  exact L4 (nb + 1) 0 (by omega) (by omega)   _ _ ls hP hD hS (lv_sub hl [2, 1, 0] rfl)
abbrev rmX4_ready : Room := { frames := 1, cells := 0, slots := 0, locals := 22 }
set_option maxHeartbeats 4000000 in
set_option maxRecDepth 100000 in
theorem c_X4_ready (l : Launch) (D : va_G) (T : Nat → ClassId) (mo mw me mf mn nb nj : Nat) (th len : Int32) (G : Nat → Nat → Int32) (hn : nb ≤ 8) : q_M l D (q_ty T) yX4_ready wsX4_ready rmX4_ready [.ref mo] [q_mc mo th nb nj len mw me mf mn, q_fa T mf G] q_no (q_is (some (.int (q_sum (rRdy G) nb))) [q_mc mo th nb nj len mw me mf mn, q_fa T mf G]) := by
  refine q_start (cc := cX4_ready) (maxL := 3) (ret := (some .int)) (by decide) rfl (Nat.le_of_ble_eq_true rfl) ?_
  intro p e s m args below meth c A H locs hx hb hr hts hown hlocks hml hnm hP hK hD hS hA hG ls hl
  have hown : s.vm.findClass RX4 = some m.cls := hown
  have hC : CallFix p m c cX4_ready 3 s args wsX4_ready RX4 := ⟨hx, hb, hml, hown, hts⟩
  have iX4 : ∀ w ∈ wsX40, w ∈ wsX4_ready := by decide +kernel
  have hl : lv_has ls 3 [(0, .ref mo)] := hl
  refine lv_iconst (v := 0) hx hb dX4_ready_0 (by decide) ?_
  refine lv_istore_n (lv' := [(1, .int 0), (0, .ref mo)]) hx hb dX4_ready_1 rfl hl (by decide) rfl (fun ls hl => ?_)
  refine lv_iconst (v := 0) hx hb dX4_ready_2 (by decide) ?_
  refine lv_istore_n (lv' := [(2, .int 0), (1, .int 0), (0, .ref mo)]) hx hb dX4_ready_3 rfl hl (by decide) rfl (fun ls hl => ?_)
  have L4 : ∀ (f9 b : Nat) (h9a : nb < b + f9) (h9b : b ≤ nb) (H : Heap) (locs : List Loc) (ls : Array Slot), va_P D vwCl [q_mc mo th nb nj len mw me mf mn, q_fa T mf G] H → va_D A [q_mc mo th nb nj len mw me mf mn, q_fa T mf G] → va_S A s.heap H locs → lv_has ls 3 [(0, .ref mo), (1, .int (q_sum (rRdy G) b)), (2, .int (nI b))] → W p l e rmX4_ready s m args below meth c H locs 0 0 (q_E below D (q_ty T) (q_is (some (.int (q_sum (rRdy G) nb))) [q_mc mo th nb nj len mw me mf mn, q_fa T mf G]) A args s rmX4_ready) (F0 m 4 ls []) := by
    intro f9
    induction f9 with
    | zero => intro b h9a h9b; exact absurd h9a (by omega)
    | succ f9 ih =>
      intro b h9a h9b   H locs ls hP hD hS hl
      refine lv_iload_n hx hb dX4_ready_4 rfl (lv_at hl 2 rfl) ?_
      refine lv_aload_n hx hb dX4_ready_5 rfl (lv_at hl 0 rfl) ?_
      refine va_get (D := D) (ci := 5) (v := .int (nI nb)) (C := RX4) (T := TX4) (N := 8) hx hb hts iX4 hown hK hP 0 rfl rfl 1 (by decide) (hts (.fieldLink RX4 29 "ToyRegattaModel" "boats" "I") (by decide +kernel)) (fun _ h9 => h9) rfl dX4_ready_6 ?_
      refine lv_icmp_ge (tgt := 37) hx hb dX4_ready_9 (by decide) (fun c_9 => ?_) (fun c_9 => ?_)
      · have h9d := (q_exit c_9 h9b (by omega)).symm
        subst h9d
        refine lv_iload_n hx hb dX4_ready_37 rfl (lv_at hl 1 rfl) ?_
        exact q_iret hx hb hr hlocks hP hK hD hS (Nat.le_of_ble_eq_true rfl) (Nat.le_of_ble_eq_true rfl) dX4_ready_38 ⟨rfl, rfl⟩
      · have h9d := q_goon c_9 (by omega)
        refine lv_iload_n hx hb dX4_ready_12 rfl (lv_at hl 1 rfl) ?_
        refine lv_aload_n hx hb dX4_ready_13 rfl (lv_at hl 0 rfl) ?_
        refine lv_iload_n hx hb dX4_ready_14 rfl (lv_at hl 2 rfl) ?_
        refine lv_iconst (v := 4) hx hb dX4_ready_15 (by decide) ?_
        refine q_callV (As := [.int (nI b), .int 4]) (rs := [.int (q_sum (rRdy G) b)]) hC (c_X4_bo l D T mo mw me mf mn nb nj th len G b 4 (G b) (by omega) (by omega) rfl) q_no_st q_no_at (cwV 2 hts gX4_ready_X4_bo rfl rfl rfl (by decide +kernel) ⟨Nat.le_of_ble_eq_true rfl, Nat.le_of_ble_eq_true rfl⟩) (va_recv hK hP (ci := 5) (q0 := 0) rfl rfl) hK hP hD hS hA (q_mask [true, true] _) rfl hl.1 rfl (Nat.le_of_ble_eq_true rfl) dX4_ready_16 ⟨(Nat.le_of_ble_eq_true rfl), (Nat.le_of_ble_eq_true rfl)⟩ (fun v9 C9 H locs hp hP hD hS => ?_)
        obtain ⟨rfl, rfl⟩ := hp
        have hP : va_P D vwCl [q_mc mo th nb nj len mw me mf mn, q_fa T mf G] H := q_P_perm (q_mrg_perm [true, true] _ _) hP
        have hD : va_D A [q_mc mo th nb nj len mw me mf mn, q_fa T mf G] := q_D_perm (q_mrg_perm [true, true] _ _) hD
        refine lv_bipush (v := 9) hx hb dX4_ready_19 (by decide) ?_
        refine lv_icmp_ge (tgt := 28) hx hb dX4_ready_21 (by decide) (fun c_21 => ?_) (fun c_21 => ?_)
        · refine lv_iconst (v := 0) hx hb dX4_ready_28 (by decide) ?_
          refine lv_iadd hx hb dX4_ready_29 ?_
          refine lv_istore_n (lv' := [(1, .int ((q_sum (rRdy G) b) + 0)), (0, .ref mo), (2, .int (nI b))]) hx hb dX4_ready_30 rfl hl (by decide) rfl (fun ls hl => ?_)
          refine lv_iinc (v := (nI (b + 1))) (lv' := [(2, .int (nI (b + 1))), (1, .int ((q_sum (rRdy G) b) + 0)), (0, .ref mo)]) hx hb dX4_ready_31 hl (k := 2) rfl (nI_1 b) (by decide) rfl (fun ls hl => ?_)
          refine lv_goto (tgt := 4) hx hb dX4_ready_34 (by decide) ?_
          have e9 : q_sum (rRdy G) (b + 1) = ((q_sum (rRdy G) b) + 0) := by simp only [q_sum, rRdy, if_pos c_21, Int32.add_zero]
          rw [← e9] at hl
          exact ih (b + 1) (by omega) (by omega)   _ _ ls hP hD hS (lv_sub hl [2, 1, 0] rfl)
        · refine lv_iconst (v := 1) hx hb dX4_ready_24 (by decide) ?_
          refine lv_goto (tgt := 29) hx hb dX4_ready_25 (by decide) ?_
          refine lv_iadd hx hb dX4_ready_29 ?_
          refine lv_istore_n (lv' := [(1, .int ((q_sum (rRdy G) b) + 1)), (0, .ref mo), (2, .int (nI b))]) hx hb dX4_ready_30 rfl hl (by decide) rfl (fun ls hl => ?_)
          refine lv_iinc (v := (nI (b + 1))) (lv' := [(2, .int (nI (b + 1))), (1, .int ((q_sum (rRdy G) b) + 1)), (0, .ref mo)]) hx hb dX4_ready_31 hl (k := 2) rfl (nI_1 b) (by decide) rfl (fun ls hl => ?_)
          refine lv_goto (tgt := 4) hx hb dX4_ready_34 (by decide) ?_
          have e9 : q_sum (rRdy G) (b + 1) = ((q_sum (rRdy G) b) + 1) := by simp only [q_sum, rRdy, if_neg c_21, Int32.add_zero]
          rw [← e9] at hl
          exact ih (b + 1) (by omega) (by omega)   _ _ ls hP hD hS (lv_sub hl [2, 1, 0] rfl)
  exact L4 (nb + 1) 0 (by omega) (by omega)   _ _ ls hP hD hS (lv_sub hl [2, 1, 0] rfl)
abbrev rmX4_allIn : Room := { frames := 1, cells := 0, slots := 0, locals := 22 }
set_option maxHeartbeats 4000000 in
set_option maxRecDepth 100000 in
theorem c_X4_allIn (l : Launch) (D : va_G) (T : Nat → ClassId) (mo mw me mf mn nb nj : Nat) (th len : Int32) (G : Nat → Nat → Int32) (hn : nb ≤ 8) : q_M l D (q_ty T) yX4_allIn wsX4_allIn rmX4_allIn [.ref mo] [q_mc mo th nb nj len mw me mf mn, q_fa T mf G] q_no (q_is (some (.int (q_sum (dSt G 2) nb))) [q_mc mo th nb nj len mw me mf mn, q_fa T mf G]) := by
  refine q_start (cc := cX4_allIn) (maxL := 3) (ret := (some .int)) (by decide) rfl (Nat.le_of_ble_eq_true rfl) ?_
  intro p e s m args below meth c A H locs hx hb hr hts hown hlocks hml hnm hP hK hD hS hA hG ls hl
  have hown : s.vm.findClass RX4 = some m.cls := hown
  have hC : CallFix p m c cX4_allIn 3 s args wsX4_allIn RX4 := ⟨hx, hb, hml, hown, hts⟩
  have iX4 : ∀ w ∈ wsX40, w ∈ wsX4_allIn := by decide +kernel
  have hl : lv_has ls 3 [(0, .ref mo)] := hl
  refine lv_iconst (v := 0) hx hb dX4_allIn_0 (by decide) ?_
  refine lv_istore_n (lv' := [(1, .int 0), (0, .ref mo)]) hx hb dX4_allIn_1 rfl hl (by decide) rfl (fun ls hl => ?_)
  refine lv_iconst (v := 0) hx hb dX4_allIn_2 (by decide) ?_
  refine lv_istore_n (lv' := [(2, .int 0), (1, .int 0), (0, .ref mo)]) hx hb dX4_allIn_3 rfl hl (by decide) rfl (fun ls hl => ?_)
  have L4 : ∀ (f9 b : Nat) (h9a : nb < b + f9) (h9b : b ≤ nb) (H : Heap) (locs : List Loc) (ls : Array Slot), va_P D vwCl [q_mc mo th nb nj len mw me mf mn, q_fa T mf G] H → va_D A [q_mc mo th nb nj len mw me mf mn, q_fa T mf G] → va_S A s.heap H locs → lv_has ls 3 [(0, .ref mo), (1, .int (q_sum (dSt G 2) b)), (2, .int (nI b))] → W p l e rmX4_allIn s m args below meth c H locs 0 0 (q_E below D (q_ty T) (q_is (some (.int (q_sum (dSt G 2) nb))) [q_mc mo th nb nj len mw me mf mn, q_fa T mf G]) A args s rmX4_allIn) (F0 m 4 ls []) := by
    intro f9
    induction f9 with
    | zero => intro b h9a h9b; exact absurd h9a (by omega)
    | succ f9 ih =>
      intro b h9a h9b   H locs ls hP hD hS hl
      refine lv_iload_n hx hb dX4_allIn_4 rfl (lv_at hl 2 rfl) ?_
      refine lv_aload_n hx hb dX4_allIn_5 rfl (lv_at hl 0 rfl) ?_
      refine va_get (D := D) (ci := 5) (v := .int (nI nb)) (C := RX4) (T := TX4) (N := 8) hx hb hts iX4 hown hK hP 0 rfl rfl 1 (by decide) (hts (.fieldLink RX4 29 "ToyRegattaModel" "boats" "I") (by decide +kernel)) (fun _ h9 => h9) rfl dX4_allIn_6 ?_
      refine lv_icmp_ge (tgt := 37) hx hb dX4_allIn_9 (by decide) (fun c_9 => ?_) (fun c_9 => ?_)
      · have h9d := (q_exit c_9 h9b (by omega)).symm
        subst h9d
        refine lv_iload_n hx hb dX4_allIn_37 rfl (lv_at hl 1 rfl) ?_
        exact q_iret hx hb hr hlocks hP hK hD hS (Nat.le_of_ble_eq_true rfl) (Nat.le_of_ble_eq_true rfl) dX4_allIn_38 ⟨rfl, rfl⟩
      · have h9d := q_goon c_9 (by omega)
        refine lv_iload_n hx hb dX4_allIn_12 rfl (lv_at hl 1 rfl) ?_
        refine lv_aload_n hx hb dX4_allIn_13 rfl (lv_at hl 0 rfl) ?_
        refine lv_iload_n hx hb dX4_allIn_14 rfl (lv_at hl 2 rfl) ?_
        refine lv_bipush (v := 9) hx hb dX4_allIn_15 (by decide) ?_
        refine q_callV (As := [.int (nI b), .int 9]) (rs := [.int (q_sum (dSt G 2) b)]) hC (c_X4_bo l D T mo mw me mf mn nb nj th len G b 9 (G b) (by omega) (by omega) rfl) q_no_st q_no_at (cwV 2 hts gX4_allIn_X4_bo rfl rfl rfl (by decide +kernel) ⟨Nat.le_of_ble_eq_true rfl, Nat.le_of_ble_eq_true rfl⟩) (va_recv hK hP (ci := 5) (q0 := 0) rfl rfl) hK hP hD hS hA (q_mask [true, true] _) rfl hl.1 rfl (Nat.le_of_ble_eq_true rfl) dX4_allIn_17 ⟨(Nat.le_of_ble_eq_true rfl), (Nat.le_of_ble_eq_true rfl)⟩ (fun v9 C9 H locs hp hP hD hS => ?_)
        obtain ⟨rfl, rfl⟩ := hp
        have hP : va_P D vwCl [q_mc mo th nb nj len mw me mf mn, q_fa T mf G] H := q_P_perm (q_mrg_perm [true, true] _ _) hP
        have hD : va_D A [q_mc mo th nb nj len mw me mf mn, q_fa T mf G] := q_D_perm (q_mrg_perm [true, true] _ _) hD
        refine lv_iconst (v := 2) hx hb dX4_allIn_20 (by decide) ?_
        refine lv_icmp_ne (tgt := 28) hx hb dX4_allIn_21 (by decide) (fun c_21 => ?_) (fun c_21 => ?_)
        · refine lv_iconst (v := 0) hx hb dX4_allIn_28 (by decide) ?_
          refine lv_iadd hx hb dX4_allIn_29 ?_
          refine lv_istore_n (lv' := [(1, .int ((q_sum (dSt G 2) b) + 0)), (0, .ref mo), (2, .int (nI b))]) hx hb dX4_allIn_30 rfl hl (by decide) rfl (fun ls hl => ?_)
          refine lv_iinc (v := (nI (b + 1))) (lv' := [(2, .int (nI (b + 1))), (1, .int ((q_sum (dSt G 2) b) + 0)), (0, .ref mo)]) hx hb dX4_allIn_31 hl (k := 2) rfl (nI_1 b) (by decide) rfl (fun ls hl => ?_)
          refine lv_goto (tgt := 4) hx hb dX4_allIn_34 (by decide) ?_
          have e9 : q_sum (dSt G 2) (b + 1) = ((q_sum (dSt G 2) b) + 0) := by simp only [q_sum, dSt, if_neg c_21, Int32.add_zero]
          rw [← e9] at hl
          exact ih (b + 1) (by omega) (by omega)   _ _ ls hP hD hS (lv_sub hl [2, 1, 0] rfl)
        · refine lv_iconst (v := 1) hx hb dX4_allIn_24 (by decide) ?_
          refine lv_goto (tgt := 29) hx hb dX4_allIn_25 (by decide) ?_
          refine lv_iadd hx hb dX4_allIn_29 ?_
          refine lv_istore_n (lv' := [(1, .int ((q_sum (dSt G 2) b) + 1)), (0, .ref mo), (2, .int (nI b))]) hx hb dX4_allIn_30 rfl hl (by decide) rfl (fun ls hl => ?_)
          refine lv_iinc (v := (nI (b + 1))) (lv' := [(2, .int (nI (b + 1))), (1, .int ((q_sum (dSt G 2) b) + 1)), (0, .ref mo)]) hx hb dX4_allIn_31 hl (k := 2) rfl (nI_1 b) (by decide) rfl (fun ls hl => ?_)
          refine lv_goto (tgt := 4) hx hb dX4_allIn_34 (by decide) ?_
          have e9 : q_sum (dSt G 2) (b + 1) = ((q_sum (dSt G 2) b) + 1) := by simp only [q_sum, dSt, if_pos c_21, Int32.add_zero]
          rw [← e9] at hl
          exact ih (b + 1) (by omega) (by omega)   _ _ ls hP hD hS (lv_sub hl [2, 1, 0] rfl)
  exact L4 (nb + 1) 0 (by omega) (by omega)   _ _ ls hP hD hS (lv_sub hl [2, 1, 0] rfl)
def rEnters (G : Nat → Nat → Int32) : Nat → Nat → Int32 := fun b => rEnter (G b)
def rBegU (nu : Nat → Int32) : Nat → Int32 := upd (upd nu 2 1) 3 0
abbrev rmX4_begin : Room := { frames := 2, cells := 0, slots := 0, locals := 44 }
set_option maxHeartbeats 4000000 in
set_option maxRecDepth 100000 in
theorem c_X4_begin (l : Launch) (D : va_G) (T : Nat → ClassId) (mo mw me mf mn nb nj : Nat) (th len : Int32) (G : Nat → Nat → Int32) (nu : Nat → Int32) (hn : nb ≤ 8) : q_M l D (q_ty T) yX4_begin wsX4_begin rmX4_begin [.ref mo] [q_mc mo th nb nj len mw me mf mn, q_fa T mf G, q_ia T mn 4 nu] q_no (q_is (some (.int (q_sum (dSt (q_upto nb (rEnters G) G) 1) nb))) [q_mc mo th nb nj len mw me mf mn, q_fa T mf (q_upto nb (rEnters G) G), q_ia T mn 4 (rBegU nu)]) := by
  refine q_start (cc := cX4_begin) (maxL := 2) (ret := (some .int)) (by decide) rfl (Nat.le_of_ble_eq_true rfl) ?_
  intro p e s m args below meth c A H locs hx hb hr hts hown hlocks hml hnm hP hK hD hS hA hG ls hl
  have hown : s.vm.findClass RX4 = some m.cls := hown
  have hC : CallFix p m c cX4_begin 2 s args wsX4_begin RX4 := ⟨hx, hb, hml, hown, hts⟩
  have iX4 : ∀ w ∈ wsX40, w ∈ wsX4_begin := by decide +kernel
  have hl : lv_has ls 2 [(0, .ref mo)] := hl
  refine lv_iconst (v := 0) hx hb dX4_begin_0 (by decide) ?_
  refine lv_istore_n (lv' := [(1, .int 0), (0, .ref mo)]) hx hb dX4_begin_1 rfl hl (by decide) rfl (fun ls hl => ?_)
  have hP : va_P D vwCl [q_mc mo th nb nj len mw me mf mn, q_fa T mf (q_upto 0 (rEnters G) G), q_ia T mn 4 nu] H := by rw [q_upto_0]; exact hP
  have hD : va_D A [q_mc mo th nb nj len mw me mf mn, q_fa T mf (q_upto 0 (rEnters G) G), q_ia T mn 4 nu] := by rw [q_upto_0]; exact hD
  have L2 : ∀ (f9 b : Nat) (h9a : nb < b + f9) (h9b : b ≤ nb) (H : Heap) (locs : List Loc) (ls : Array Slot), va_P D vwCl [q_mc mo th nb nj len mw me mf mn, q_fa T mf (q_upto b (rEnters G) G), q_ia T mn 4 nu] H → va_D A [q_mc mo th nb nj len mw me mf mn, q_fa T mf (q_upto b (rEnters G) G), q_ia T mn 4 nu] → va_S A s.heap H locs → lv_has ls 2 [(0, .ref mo), (1, .int (nI b))] → W p l e rmX4_begin s m args below meth c H locs 0 0 (q_E below D (q_ty T) (q_is (some (.int (q_sum (dSt (q_upto nb (rEnters G) G) 1) nb))) [q_mc mo th nb nj len mw me mf mn, q_fa T mf (q_upto nb (rEnters G) G), q_ia T mn 4 (rBegU nu)]) A args s rmX4_begin) (F0 m 2 ls []) := by
    intro f9
    induction f9 with
    | zero => intro b h9a h9b; exact absurd h9a (by omega)
    | succ f9 ih =>
      intro b h9a h9b   H locs ls hP hD hS hl
      refine lv_iload_n hx hb dX4_begin_2 rfl (lv_at hl 1 rfl) ?_
      refine lv_aload_n hx hb dX4_begin_3 rfl (lv_at hl 0 rfl) ?_
      refine va_get (D := D) (ci := 5) (v := .int (nI nb)) (C := RX4) (T := TX4) (N := 8) hx hb hts iX4 hown hK hP 0 rfl rfl 1 (by decide) (hts (.fieldLink RX4 29 "ToyRegattaModel" "boats" "I") (by decide +kernel)) (fun _ h9 => h9) rfl dX4_begin_4 ?_
      refine lv_icmp_ge (tgt := 70) hx hb dX4_begin_7 (by decide) (fun c_7 => ?_) (fun c_7 => ?_)
      · have h9d := (q_exit c_7 h9b (by omega)).symm
        subst h9d
        refine lv_aload_n hx hb dX4_begin_70 rfl (lv_at hl 0 rfl) ?_
        refine va_get (D := D) (ci := 5) (v := .ref mn) (C := RX4) (T := TX4) (N := 8) hx hb hts iX4 hown hK hP 0 rfl rfl 7 (by decide) (hts (.fieldLink RX4 23 "ToyRegattaModel" "numbers" "[I") (by decide +kernel)) (fun _ h9 => h9) rfl dX4_begin_71 ?_
        refine lv_iconst (v := 2) hx hb dX4_begin_74 (by decide) ?_
        refine lv_iconst (v := 1) hx hb dX4_begin_75 (by decide) ?_
        refine va_iast (D := D) hx hb hK hP hD hS 2 0 rfl rfl (by unfold vp_in; decide) dX4_begin_76 (fun H locs hP hD hS => ?_)
        rw [show (2 : Int32).toNatClampNeg = 2 from (by decide)] at hP hD
        have hP : va_P D vwCl [q_mc mo th nb nj len mw me mf mn, q_fa T mf (q_upto nb (rEnters G) G), q_ia T mn 4 (upd nu 2 1)] H := hP
        have hD : va_D A [q_mc mo th nb nj len mw me mf mn, q_fa T mf (q_upto nb (rEnters G) G), q_ia T mn 4 (upd nu 2 1)] := hD
        refine lv_aload_n hx hb dX4_begin_77 rfl (lv_at hl 0 rfl) ?_
        refine va_get (D := D) (ci := 5) (v := .ref mn) (C := RX4) (T := TX4) (N := 8) hx hb hts iX4 hown hK hP 0 rfl rfl 7 (by decide) (hts (.fieldLink RX4 23 "ToyRegattaModel" "numbers" "[I") (by decide +kernel)) (fun _ h9 => h9) rfl dX4_begin_78 ?_
        refine lv_iconst (v := 3) hx hb dX4_begin_81 (by decide) ?_
        refine lv_iconst (v := 0) hx hb dX4_begin_82 (by decide) ?_
        refine va_iast (D := D) hx hb hK hP hD hS 2 0 rfl rfl (by unfold vp_in; decide) dX4_begin_83 (fun H locs hP hD hS => ?_)
        rw [show (3 : Int32).toNatClampNeg = 3 from (by decide)] at hP hD
        have hP : va_P D vwCl [q_mc mo th nb nj len mw me mf mn, q_fa T mf (q_upto nb (rEnters G) G), q_ia T mn 4 (upd (upd nu 2 1) 3 0)] H := hP
        have hD : va_D A [q_mc mo th nb nj len mw me mf mn, q_fa T mf (q_upto nb (rEnters G) G), q_ia T mn 4 (upd (upd nu 2 1) 3 0)] := hD
        refine lv_aload_n hx hb dX4_begin_84 rfl (lv_at hl 0 rfl) ?_
        refine q_callV (As := []) (rs := []) hC (c_X4_sailing l D T mo mw me mf mn nb nj th len (q_upto nb (rEnters G) G) hn) q_no_st q_no_at (cwV 0 hts gX4_begin_X4_sailing rfl rfl rfl (by decide +kernel) ⟨Nat.le_of_ble_eq_true rfl, Nat.le_of_ble_eq_true rfl⟩) (va_recv hK hP (ci := 5) (q0 := 0) rfl rfl) hK hP hD hS hA (q_mask [true, true, false] _) rfl hl.1 rfl (Nat.le_of_ble_eq_true rfl) dX4_begin_85 ⟨(Nat.le_of_ble_eq_true rfl), (Nat.le_of_ble_eq_true rfl)⟩ (fun v9 C9 H locs hp hP hD hS => ?_)
        obtain ⟨rfl, rfl⟩ := hp
        have hP : va_P D vwCl [q_mc mo th nb nj len mw me mf mn, q_fa T mf (q_upto nb (rEnters G) G), q_ia T mn 4 (upd (upd nu 2 1) 3 0)] H := q_P_perm (q_mrg_perm [true, true, false] _ _) hP
        have hD : va_D A [q_mc mo th nb nj len mw me mf mn, q_fa T mf (q_upto nb (rEnters G) G), q_ia T mn 4 (upd (upd nu 2 1) 3 0)] := q_D_perm (q_mrg_perm [true, true, false] _ _) hD
        exact q_iret hx hb hr hlocks hP hK hD hS (Nat.le_of_ble_eq_true rfl) (Nat.le_of_ble_eq_true rfl) dX4_begin_88 ⟨rfl, rfl⟩
      · have h9d := q_goon c_7 (by omega)
        refine lv_aload_n hx hb dX4_begin_10 rfl (lv_at hl 0 rfl) ?_
        refine lv_iload_n hx hb dX4_begin_11 rfl (lv_at hl 1 rfl) ?_
        refine lv_iconst (v := 5) hx hb dX4_begin_12 (by decide) ?_
        refine lv_iconst (v := 0) hx hb dX4_begin_13 (by decide) ?_
        refine q_callV (As := [.int (nI b), .int 5, .int 0]) (rs := []) hC (c_X4_put l D T mo mw me mf mn nb nj th len (q_upto b (rEnters G) G) (va_up (q_upto b (rEnters G) G) b (upd (G b) 5 0)) b 5 0 (G b) (by omega) (by omega) (q_upto_at b (rEnters G) G) rfl) q_no_st q_no_at (cwV 3 hts gX4_begin_X4_put rfl rfl rfl (by decide +kernel) ⟨Nat.le_of_ble_eq_true rfl, Nat.le_of_ble_eq_true rfl⟩) (va_recv hK hP (ci := 5) (q0 := 0) rfl rfl) hK hP hD hS hA (q_mask [true, true, false] _) rfl hl.1 rfl (Nat.le_of_ble_eq_true rfl) dX4_begin_14 ⟨(Nat.le_of_ble_eq_true rfl), (Nat.le_of_ble_eq_true rfl)⟩ (fun v9 C9 H locs hp hP hD hS => ?_)
        obtain ⟨rfl, rfl⟩ := hp
        have hP : va_P D vwCl [q_mc mo th nb nj len mw me mf mn, q_fa T mf (va_up (q_upto b (rEnters G) G) b (upd (G b) 5 0)), q_ia T mn 4 nu] H := q_P_perm (q_mrg_perm [true, true, false] _ _) hP
        have hD : va_D A [q_mc mo th nb nj len mw me mf mn, q_fa T mf (va_up (q_upto b (rEnters G) G) b (upd (G b) 5 0)), q_ia T mn 4 nu] := q_D_perm (q_mrg_perm [true, true, false] _ _) hD
        refine lv_aload_n hx hb dX4_begin_17 rfl (lv_at hl 0 rfl) ?_
        refine lv_iload_n hx hb dX4_begin_18 rfl (lv_at hl 1 rfl) ?_
        refine lv_bipush (v := 6) hx hb dX4_begin_19 (by decide) ?_
        refine lv_iconst (v := (-1)) hx hb dX4_begin_21 (by decide) ?_
        refine q_callV (As := [.int (nI b), .int 6, .int (-1)]) (rs := []) hC (c_X4_put l D T mo mw me mf mn nb nj th len (va_up (q_upto b (rEnters G) G) b (upd (G b) 5 0)) (va_up (q_upto b (rEnters G) G) b (upd (upd (G b) 5 0) 6 (-1))) b 6 (-1) (upd (G b) 5 0) (by omega) (by omega) (va_up_self _ _ _) q_up_up) q_no_st q_no_at (cwV 3 hts gX4_begin_X4_put rfl rfl rfl (by decide +kernel) ⟨Nat.le_of_ble_eq_true rfl, Nat.le_of_ble_eq_true rfl⟩) (va_recv hK hP (ci := 5) (q0 := 0) rfl rfl) hK hP hD hS hA (q_mask [true, true, false] _) rfl hl.1 rfl (Nat.le_of_ble_eq_true rfl) dX4_begin_22 ⟨(Nat.le_of_ble_eq_true rfl), (Nat.le_of_ble_eq_true rfl)⟩ (fun v9 C9 H locs hp hP hD hS => ?_)
        obtain ⟨rfl, rfl⟩ := hp
        have hP : va_P D vwCl [q_mc mo th nb nj len mw me mf mn, q_fa T mf (va_up (q_upto b (rEnters G) G) b (upd (upd (G b) 5 0) 6 (-1))), q_ia T mn 4 nu] H := q_P_perm (q_mrg_perm [true, true, false] _ _) hP
        have hD : va_D A [q_mc mo th nb nj len mw me mf mn, q_fa T mf (va_up (q_upto b (rEnters G) G) b (upd (upd (G b) 5 0) 6 (-1))), q_ia T mn 4 nu] := q_D_perm (q_mrg_perm [true, true, false] _ _) hD
        refine lv_aload_n hx hb dX4_begin_25 rfl (lv_at hl 0 rfl) ?_
        refine lv_iload_n hx hb dX4_begin_26 rfl (lv_at hl 1 rfl) ?_
        refine lv_bipush (v := 7) hx hb dX4_begin_27 (by decide) ?_
        refine lv_iconst (v := 0) hx hb dX4_begin_29 (by decide) ?_
        refine q_callV (As := [.int (nI b), .int 7, .int 0]) (rs := []) hC (c_X4_put l D T mo mw me mf mn nb nj th len (va_up (q_upto b (rEnters G) G) b (upd (upd (G b) 5 0) 6 (-1))) (va_up (q_upto b (rEnters G) G) b (upd (upd (upd (G b) 5 0) 6 (-1)) 7 0)) b 7 0 (upd (upd (G b) 5 0) 6 (-1)) (by omega) (by omega) (va_up_self _ _ _) q_up_up) q_no_st q_no_at (cwV 3 hts gX4_begin_X4_put rfl rfl rfl (by decide +kernel) ⟨Nat.le_of_ble_eq_true rfl, Nat.le_of_ble_eq_true rfl⟩) (va_recv hK hP (ci := 5) (q0 := 0) rfl rfl) hK hP hD hS hA (q_mask [true, true, false] _) rfl hl.1 rfl (Nat.le_of_ble_eq_true rfl) dX4_begin_30 ⟨(Nat.le_of_ble_eq_true rfl), (Nat.le_of_ble_eq_true rfl)⟩ (fun v9 C9 H locs hp hP hD hS => ?_)
        obtain ⟨rfl, rfl⟩ := hp
        have hP : va_P D vwCl [q_mc mo th nb nj len mw me mf mn, q_fa T mf (va_up (q_upto b (rEnters G) G) b (upd (upd (upd (G b) 5 0) 6 (-1)) 7 0)), q_ia T mn 4 nu] H := q_P_perm (q_mrg_perm [true, true, false] _ _) hP
        have hD : va_D A [q_mc mo th nb nj len mw me mf mn, q_fa T mf (va_up (q_upto b (rEnters G) G) b (upd (upd (upd (G b) 5 0) 6 (-1)) 7 0)), q_ia T mn 4 nu] := q_D_perm (q_mrg_perm [true, true, false] _ _) hD
        refine lv_aload_n hx hb dX4_begin_33 rfl (lv_at hl 0 rfl) ?_
        refine lv_iload_n hx hb dX4_begin_34 rfl (lv_at hl 1 rfl) ?_
        refine lv_bipush (v := 8) hx hb dX4_begin_35 (by decide) ?_
        refine lv_iconst (v := 0) hx hb dX4_begin_37 (by decide) ?_
        refine q_callV (As := [.int (nI b), .int 8, .int 0]) (rs := []) hC (c_X4_put l D T mo mw me mf mn nb nj th len (va_up (q_upto b (rEnters G) G) b (upd (upd (upd (G b) 5 0) 6 (-1)) 7 0)) (va_up (q_upto b (rEnters G) G) b (upd (upd (upd (upd (G b) 5 0) 6 (-1)) 7 0) 8 0)) b 8 0 (upd (upd (upd (G b) 5 0) 6 (-1)) 7 0) (by omega) (by omega) (va_up_self _ _ _) q_up_up) q_no_st q_no_at (cwV 3 hts gX4_begin_X4_put rfl rfl rfl (by decide +kernel) ⟨Nat.le_of_ble_eq_true rfl, Nat.le_of_ble_eq_true rfl⟩) (va_recv hK hP (ci := 5) (q0 := 0) rfl rfl) hK hP hD hS hA (q_mask [true, true, false] _) rfl hl.1 rfl (Nat.le_of_ble_eq_true rfl) dX4_begin_38 ⟨(Nat.le_of_ble_eq_true rfl), (Nat.le_of_ble_eq_true rfl)⟩ (fun v9 C9 H locs hp hP hD hS => ?_)
        obtain ⟨rfl, rfl⟩ := hp
        have hP : va_P D vwCl [q_mc mo th nb nj len mw me mf mn, q_fa T mf (va_up (q_upto b (rEnters G) G) b (upd (upd (upd (upd (G b) 5 0) 6 (-1)) 7 0) 8 0)), q_ia T mn 4 nu] H := q_P_perm (q_mrg_perm [true, true, false] _ _) hP
        have hD : va_D A [q_mc mo th nb nj len mw me mf mn, q_fa T mf (va_up (q_upto b (rEnters G) G) b (upd (upd (upd (upd (G b) 5 0) 6 (-1)) 7 0) 8 0)), q_ia T mn 4 nu] := q_D_perm (q_mrg_perm [true, true, false] _ _) hD
        refine lv_aload_n hx hb dX4_begin_41 rfl (lv_at hl 0 rfl) ?_
        refine lv_iload_n hx hb dX4_begin_42 rfl (lv_at hl 1 rfl) ?_
        refine lv_bipush (v := 9) hx hb dX4_begin_43 (by decide) ?_
        refine lv_aload_n hx hb dX4_begin_45 rfl (lv_at hl 0 rfl) ?_
        refine lv_iload_n hx hb dX4_begin_46 rfl (lv_at hl 1 rfl) ?_
        refine lv_iconst (v := 4) hx hb dX4_begin_47 (by decide) ?_
        refine q_callV (As := [.int (nI b), .int 4]) (rs := [.int 9, .int (nI b), .ref mo]) hC (c_X4_bo l D T mo mw me mf mn nb nj th len (va_up (q_upto b (rEnters G) G) b (upd (upd (upd (upd (G b) 5 0) 6 (-1)) 7 0) 8 0)) b 4 (upd (upd (upd (upd (G b) 5 0) 6 (-1)) 7 0) 8 0) (by omega) (by omega) (va_up_self _ _ _)) q_no_st q_no_at (cwV 2 hts gX4_begin_X4_bo rfl rfl rfl (by decide +kernel) ⟨Nat.le_of_ble_eq_true rfl, Nat.le_of_ble_eq_true rfl⟩) (va_recv hK hP (ci := 5) (q0 := 0) rfl rfl) hK hP hD hS hA (q_mask [true, true, false] _) rfl hl.1 rfl (Nat.le_of_ble_eq_true rfl) dX4_begin_48 ⟨(Nat.le_of_ble_eq_true rfl), (Nat.le_of_ble_eq_true rfl)⟩ (fun v9 C9 H locs hp hP hD hS => ?_)
        obtain ⟨rfl, rfl⟩ := hp
        have hP : va_P D vwCl [q_mc mo th nb nj len mw me mf mn, q_fa T mf (va_up (q_upto b (rEnters G) G) b (upd (upd (upd (upd (G b) 5 0) 6 (-1)) 7 0) 8 0)), q_ia T mn 4 nu] H := q_P_perm (q_mrg_perm [true, true, false] _ _) hP
        have hD : va_D A [q_mc mo th nb nj len mw me mf mn, q_fa T mf (va_up (q_upto b (rEnters G) G) b (upd (upd (upd (upd (G b) 5 0) 6 (-1)) 7 0) 8 0)), q_ia T mn 4 nu] := q_D_perm (q_mrg_perm [true, true, false] _ _) hD
        refine W.eq (g2 := F0 m 51 ls [.int ((G b) 4), .int 9, .int (nI b), .ref mo]) rfl ?_
        refine lv_bipush (v := 9) hx hb dX4_begin_51 (by decide) ?_
        refine lv_icmp_ge (tgt := 60) hx hb dX4_begin_53 (by decide) (fun c_53 => ?_) (fun c_53 => ?_)
        · refine lv_iconst (v := 0) hx hb dX4_begin_60 (by decide) ?_
          refine q_callV (As := [.int (nI b), .int 9, .int 0]) (rs := []) hC (c_X4_put l D T mo mw me mf mn nb nj th len (va_up (q_upto b (rEnters G) G) b (upd (upd (upd (upd (G b) 5 0) 6 (-1)) 7 0) 8 0)) (va_up (q_upto b (rEnters G) G) b (upd (upd (upd (upd (upd (G b) 5 0) 6 (-1)) 7 0) 8 0) 9 0)) b 9 0 (upd (upd (upd (upd (G b) 5 0) 6 (-1)) 7 0) 8 0) (by omega) (by omega) (va_up_self _ _ _) q_up_up) q_no_st q_no_at (cwV 3 hts gX4_begin_X4_put rfl rfl rfl (by decide +kernel) ⟨Nat.le_of_ble_eq_true rfl, Nat.le_of_ble_eq_true rfl⟩) (va_recv hK hP (ci := 5) (q0 := 0) rfl rfl) hK hP hD hS hA (q_mask [true, true, false] _) rfl hl.1 rfl (Nat.le_of_ble_eq_true rfl) dX4_begin_61 ⟨(Nat.le_of_ble_eq_true rfl), (Nat.le_of_ble_eq_true rfl)⟩ (fun v9 C9 H locs hp hP hD hS => ?_)
          obtain ⟨rfl, rfl⟩ := hp
          have hP : va_P D vwCl [q_mc mo th nb nj len mw me mf mn, q_fa T mf (va_up (q_upto b (rEnters G) G) b (upd (upd (upd (upd (upd (G b) 5 0) 6 (-1)) 7 0) 8 0) 9 0)), q_ia T mn 4 nu] H := q_P_perm (q_mrg_perm [true, true, false] _ _) hP
          have hD : va_D A [q_mc mo th nb nj len mw me mf mn, q_fa T mf (va_up (q_upto b (rEnters G) G) b (upd (upd (upd (upd (upd (G b) 5 0) 6 (-1)) 7 0) 8 0) 9 0)), q_ia T mn 4 nu] := q_D_perm (q_mrg_perm [true, true, false] _ _) hD
          refine lv_iinc (v := (nI (b + 1))) (lv' := [(1, .int (nI (b + 1))), (0, .ref mo)]) hx hb dX4_begin_64 hl (k := 1) rfl (nI_1 b) (by decide) rfl (fun ls hl => ?_)
          refine lv_goto (tgt := 2) hx hb dX4_begin_67 (by decide) ?_
          have e8 : (rEnters G) b = (upd (upd (upd (upd (upd (G b) 5 0) 6 (-1)) 7 0) 8 0) 9 0) := by simp only [rEnters, rEnter, if_pos c_53]
          have hP : va_P D vwCl [q_mc mo th nb nj len mw me mf mn, q_fa T mf (q_upto (b + 1) (rEnters G) G), q_ia T mn 4 nu] H := by rw [show q_upto (b + 1) (rEnters G) G = (va_up (q_upto b (rEnters G) G) b (upd (upd (upd (upd (upd (G b) 5 0) 6 (-1)) 7 0) 8 0) 9 0)) from by rw [← q_upto_s, e8]]; exact hP
          have hD : va_D A [q_mc mo th nb nj len mw me mf mn, q_fa T mf (q_upto (b + 1) (rEnters G) G), q_ia T mn 4 nu] := by rw [show q_upto (b + 1) (rEnters G) G = (va_up (q_upto b (rEnters G) G) b (upd (upd (upd (upd (upd (G b) 5 0) 6 (-1)) 7 0) 8 0) 9 0)) from by rw [← q_upto_s, e8]]; exact hD
          exact ih (b + 1) (by omega) (by omega)   _ _ ls hP hD hS (lv_sub hl [1, 0] rfl)
        · refine lv_iconst (v := 1) hx hb dX4_begin_56 (by decide) ?_
          refine lv_goto (tgt := 61) hx hb dX4_begin_57 (by decide) ?_
          refine q_callV (As := [.int (nI b), .int 9, .int 1]) (rs := []) hC (c_X4_put l D T mo mw me mf mn nb nj th len (va_up (q_upto b (rEnters G) G) b (upd (upd (upd (upd (G b) 5 0) 6 (-1)) 7 0) 8 0)) (va_up (q_upto b (rEnters G) G) b (upd (upd (upd (upd (upd (G b) 5 0) 6 (-1)) 7 0) 8 0) 9 1)) b 9 1 (upd (upd (upd (upd (G b) 5 0) 6 (-1)) 7 0) 8 0) (by omega) (by omega) (va_up_self _ _ _) q_up_up) q_no_st q_no_at (cwV 3 hts gX4_begin_X4_put rfl rfl rfl (by decide +kernel) ⟨Nat.le_of_ble_eq_true rfl, Nat.le_of_ble_eq_true rfl⟩) (va_recv hK hP (ci := 5) (q0 := 0) rfl rfl) hK hP hD hS hA (q_mask [true, true, false] _) rfl hl.1 rfl (Nat.le_of_ble_eq_true rfl) dX4_begin_61 ⟨(Nat.le_of_ble_eq_true rfl), (Nat.le_of_ble_eq_true rfl)⟩ (fun v9 C9 H locs hp hP hD hS => ?_)
          obtain ⟨rfl, rfl⟩ := hp
          have hP : va_P D vwCl [q_mc mo th nb nj len mw me mf mn, q_fa T mf (va_up (q_upto b (rEnters G) G) b (upd (upd (upd (upd (upd (G b) 5 0) 6 (-1)) 7 0) 8 0) 9 1)), q_ia T mn 4 nu] H := q_P_perm (q_mrg_perm [true, true, false] _ _) hP
          have hD : va_D A [q_mc mo th nb nj len mw me mf mn, q_fa T mf (va_up (q_upto b (rEnters G) G) b (upd (upd (upd (upd (upd (G b) 5 0) 6 (-1)) 7 0) 8 0) 9 1)), q_ia T mn 4 nu] := q_D_perm (q_mrg_perm [true, true, false] _ _) hD
          refine lv_iinc (v := (nI (b + 1))) (lv' := [(1, .int (nI (b + 1))), (0, .ref mo)]) hx hb dX4_begin_64 hl (k := 1) rfl (nI_1 b) (by decide) rfl (fun ls hl => ?_)
          refine lv_goto (tgt := 2) hx hb dX4_begin_67 (by decide) ?_
          have e8 : (rEnters G) b = (upd (upd (upd (upd (upd (G b) 5 0) 6 (-1)) 7 0) 8 0) 9 1) := by simp only [rEnters, rEnter, if_neg c_53]
          have hP : va_P D vwCl [q_mc mo th nb nj len mw me mf mn, q_fa T mf (q_upto (b + 1) (rEnters G) G), q_ia T mn 4 nu] H := by rw [show q_upto (b + 1) (rEnters G) G = (va_up (q_upto b (rEnters G) G) b (upd (upd (upd (upd (upd (G b) 5 0) 6 (-1)) 7 0) 8 0) 9 1)) from by rw [← q_upto_s, e8]]; exact hP
          have hD : va_D A [q_mc mo th nb nj len mw me mf mn, q_fa T mf (q_upto (b + 1) (rEnters G) G), q_ia T mn 4 nu] := by rw [show q_upto (b + 1) (rEnters G) G = (va_up (q_upto b (rEnters G) G) b (upd (upd (upd (upd (upd (G b) 5 0) 6 (-1)) 7 0) 8 0) 9 1)) from by rw [← q_upto_s, e8]]; exact hD
          exact ih (b + 1) (by omega) (by omega)   _ _ ls hP hD hS (lv_sub hl [1, 0] rfl)
  exact L2 (nb + 1) 0 (by omega) (by omega)   _ _ ls hP hD hS (lv_sub hl [1, 0] rfl)
abbrev rmX4_sail : Room := { frames := 3, cells := 0, slots := 0, locals := 66 }
set_option maxHeartbeats 4000000 in
set_option maxRecDepth 100000 in
theorem c_X4_sail (l : Launch) (D : va_G) (T : Nat → ClassId) (mo mw me mf mn nb nj : Nat) (th len : Int32) (G G2 : Nat → Nat → Int32) (wf nu : Nat → Int32) (mk : Nat) (hm : nu 0 = nI mk) (hmk : mk < 2 ^ 31) (b : Nat) (r : Nat → Int32) (hb : b < 8) (er : G b = r) (hz : 0 < 2 + r 0 + r 2 / 2) (e9 : va_up G b (rSail r (wf (mk % 10))) = G2) : q_M l D (q_ty T) yX4_sail wsX4_sail rmX4_sail [.ref mo, .int (nI b)] [q_mc mo th nb nj len mw me mf mn, q_ia T mw 10 wf, q_fa T mf G, q_ia T mn 4 nu] q_no (q_is (some (.int (rWent r (wf (mk % 10))))) [q_mc mo th nb nj len mw me mf mn, q_ia T mw 10 wf, q_fa T mf G2, q_ia T mn 4 nu]) := by
  refine q_start (cc := cX4_sail) (maxL := 2) (ret := (some .boolean)) (by decide) rfl (Nat.le_of_ble_eq_true rfl) ?_
  intro p e s m args below meth c A H locs hx hb hr hts hown hlocks hml hnm hP hK hD hS hA hG ls hl
  have hown : s.vm.findClass RX4 = some m.cls := hown
  have hC : CallFix p m c cX4_sail 2 s args wsX4_sail RX4 := ⟨hx, hb, hml, hown, hts⟩
  have hl : lv_has ls 2 [(0, .ref mo), (1, .int (nI b))] := hl
  refine lv_aload_n hx hb dX4_sail_0 rfl (lv_at hl 0 rfl) ?_
  refine lv_iload_n hx hb dX4_sail_1 rfl (lv_at hl 1 rfl) ?_
  refine lv_bipush (v := 9) hx hb dX4_sail_2 (by decide) ?_
  refine q_callV (As := [.int (nI b), .int 9]) (rs := []) hC (c_X4_bo l D T mo mw me mf mn nb nj th len G b 9 r (by omega) (by omega) er) q_no_st q_no_at (cwV 2 hts gX4_sail_X4_bo rfl rfl rfl (by decide +kernel) ⟨Nat.le_of_ble_eq_true rfl, Nat.le_of_ble_eq_true rfl⟩) (va_recv hK hP (ci := 5) (q0 := 0) rfl rfl) hK hP hD hS hA (q_mask [true, false, true, false] _) rfl hl.1 rfl (Nat.le_of_ble_eq_true rfl) dX4_sail_4 ⟨(Nat.le_of_ble_eq_true rfl), (Nat.le_of_ble_eq_true rfl)⟩ (fun v9 C9 H locs hp hP hD hS => ?_)
  obtain ⟨rfl, rfl⟩ := hp
  have hP : va_P D vwCl [q_mc mo th nb nj len mw me mf mn, q_ia T mw 10 wf, q_fa T mf G, q_ia T mn 4 nu] H := q_P_perm (q_mrg_perm [true, false, true, false] _ _) hP
  have hD : va_D A [q_mc mo th nb nj len mw me mf mn, q_ia T mw 10 wf, q_fa T mf G, q_ia T mn 4 nu] := q_D_perm (q_mrg_perm [true, false, true, false] _ _) hD
  refine lv_iconst (v := 1) hx hb dX4_sail_7 (by decide) ?_
  refine lv_icmp_eq (tgt := 13) hx hb dX4_sail_8 (by decide) (fun c_8 => ?_) (fun c_8 => ?_)
  · refine lv_aload_n hx hb dX4_sail_13 rfl (lv_at hl 0 rfl) ?_
    refine lv_iload_n hx hb dX4_sail_14 rfl (lv_at hl 1 rfl) ?_
    refine lv_bipush (v := 8) hx hb dX4_sail_15 (by decide) ?_
    refine q_callV (As := [.int (nI b), .int 8]) (rs := []) hC (c_X4_bo l D T mo mw me mf mn nb nj th len G b 8 r (by omega) (by omega) er) q_no_st q_no_at (cwV 2 hts gX4_sail_X4_bo rfl rfl rfl (by decide +kernel) ⟨Nat.le_of_ble_eq_true rfl, Nat.le_of_ble_eq_true rfl⟩) (va_recv hK hP (ci := 5) (q0 := 0) rfl rfl) hK hP hD hS hA (q_mask [true, false, true, false] _) rfl hl.1 rfl (Nat.le_of_ble_eq_true rfl) dX4_sail_17 ⟨(Nat.le_of_ble_eq_true rfl), (Nat.le_of_ble_eq_true rfl)⟩ (fun v9 C9 H locs hp hP hD hS => ?_)
    obtain ⟨rfl, rfl⟩ := hp
    have hP : va_P D vwCl [q_mc mo th nb nj len mw me mf mn, q_ia T mw 10 wf, q_fa T mf G, q_ia T mn 4 nu] H := q_P_perm (q_mrg_perm [true, false, true, false] _ _) hP
    have hD : va_D A [q_mc mo th nb nj len mw me mf mn, q_ia T mw 10 wf, q_fa T mf G, q_ia T mn 4 nu] := q_D_perm (q_mrg_perm [true, false, true, false] _ _) hD
    refine lv_if_le (tgt := 41) hx hb dX4_sail_20 (by decide) (fun c_20 => ?_) (fun c_20 => ?_)
    · refine lv_aload_n hx hb dX4_sail_41 rfl (lv_at hl 0 rfl) ?_
      refine lv_iload_n hx hb dX4_sail_42 rfl (lv_at hl 1 rfl) ?_
      refine lv_aload_n hx hb dX4_sail_43 rfl (lv_at hl 0 rfl) ?_
      refine q_callV (As := []) (rs := [.int (nI b), .ref mo]) hC (c_X4_wind l D T mo mw me mf mn nb nj th len wf nu mk hm hmk) q_no_st q_no_at (cwV 0 hts gX4_sail_X4_wind rfl rfl rfl (by decide +kernel) ⟨Nat.le_of_ble_eq_true rfl, Nat.le_of_ble_eq_true rfl⟩) (va_recv hK hP (ci := 5) (q0 := 0) rfl rfl) hK hP hD hS hA (q_mask [true, true, false, true] _) rfl hl.1 rfl (Nat.le_of_ble_eq_true rfl) dX4_sail_44 ⟨(Nat.le_of_ble_eq_true rfl), (Nat.le_of_ble_eq_true rfl)⟩ (fun v9 C9 H locs hp hP hD hS => ?_)
      obtain ⟨rfl, rfl⟩ := hp
      have hP : va_P D vwCl [q_mc mo th nb nj len mw me mf mn, q_ia T mw 10 wf, q_fa T mf G, q_ia T mn 4 nu] H := q_P_perm (q_mrg_perm [true, true, false, true] _ _) hP
      have hD : va_D A [q_mc mo th nb nj len mw me mf mn, q_ia T mw 10 wf, q_fa T mf G, q_ia T mn 4 nu] := q_D_perm (q_mrg_perm [true, true, false, true] _ _) hD
      refine q_callV (As := [.int (nI b), .int (wf (mk % 10))]) (rs := []) hC (c_X4_heel l D T mo mw me mf mn nb nj th len G b (wf (mk % 10)) r (by omega) er ) q_no_st q_no_at (cwV 2 hts gX4_sail_X4_heel rfl rfl rfl (by decide +kernel) ⟨Nat.le_of_ble_eq_true rfl, Nat.le_of_ble_eq_true rfl⟩) (va_recv hK hP (ci := 5) (q0 := 0) rfl rfl) hK hP hD hS hA (q_mask [true, false, true, false] _) rfl hl.1 rfl (Nat.le_of_ble_eq_true rfl) dX4_sail_47 ⟨(Nat.le_of_ble_eq_true rfl), (Nat.le_of_ble_eq_true rfl)⟩ (fun v9 C9 H locs hp hP hD hS => ?_)
      obtain ⟨rfl, rfl⟩ := hp
      have hP : va_P D vwCl [q_mc mo th nb nj len mw me mf mn, q_ia T mw 10 wf, q_fa T mf G, q_ia T mn 4 nu] H := q_P_perm (q_mrg_perm [true, false, true, false] _ _) hP
      have hD : va_D A [q_mc mo th nb nj len mw me mf mn, q_ia T mw 10 wf, q_fa T mf G, q_ia T mn 4 nu] := q_D_perm (q_mrg_perm [true, false, true, false] _ _) hD
      refine lv_bipush (v := 30) hx hb dX4_sail_50 (by decide) ?_
      refine lv_icmp_gt (tgt := 79) hx hb dX4_sail_52 (by decide) (fun c_52 => ?_) (fun c_52 => ?_)
      · refine lv_aload_n hx hb dX4_sail_79 rfl (lv_at hl 0 rfl) ?_
        refine lv_iload_n hx hb dX4_sail_80 rfl (lv_at hl 1 rfl) ?_
        refine lv_bipush (v := 8) hx hb dX4_sail_81 (by decide) ?_
        refine lv_iconst (v := 2) hx hb dX4_sail_83 (by decide) ?_
        refine q_callV (As := [.int (nI b), .int 8, .int 2]) (rs := []) hC (c_X4_put l D T mo mw me mf mn nb nj th len G (va_up G b (upd r 8 2)) b 8 2 r (by omega) (by omega) er rfl) q_no_st q_no_at (cwV 3 hts gX4_sail_X4_put rfl rfl rfl (by decide +kernel) ⟨Nat.le_of_ble_eq_true rfl, Nat.le_of_ble_eq_true rfl⟩) (va_recv hK hP (ci := 5) (q0 := 0) rfl rfl) hK hP hD hS hA (q_mask [true, false, true, false] _) rfl hl.1 rfl (Nat.le_of_ble_eq_true rfl) dX4_sail_84 ⟨(Nat.le_of_ble_eq_true rfl), (Nat.le_of_ble_eq_true rfl)⟩ (fun v9 C9 H locs hp hP hD hS => ?_)
        obtain ⟨rfl, rfl⟩ := hp
        have hP : va_P D vwCl [q_mc mo th nb nj len mw me mf mn, q_ia T mw 10 wf, q_fa T mf (va_up G b (upd r 8 2)), q_ia T mn 4 nu] H := q_P_perm (q_mrg_perm [true, false, true, false] _ _) hP
        have hD : va_D A [q_mc mo th nb nj len mw me mf mn, q_ia T mw 10 wf, q_fa T mf (va_up G b (upd r 8 2)), q_ia T mn 4 nu] := q_D_perm (q_mrg_perm [true, false, true, false] _ _) hD
        refine lv_aload_n hx hb dX4_sail_87 rfl (lv_at hl 0 rfl) ?_
        refine lv_iload_n hx hb dX4_sail_88 rfl (lv_at hl 1 rfl) ?_
        refine lv_iconst (v := 4) hx hb dX4_sail_89 (by decide) ?_
        refine lv_bipush (v := 9) hx hb dX4_sail_90 (by decide) ?_
        refine lv_aload_n hx hb dX4_sail_92 rfl (lv_at hl 0 rfl) ?_
        refine lv_iload_n hx hb dX4_sail_93 rfl (lv_at hl 1 rfl) ?_
        refine lv_iconst (v := 4) hx hb dX4_sail_94 (by decide) ?_
        refine q_callV (As := [.int (nI b), .int 4]) (rs := [.int 9, .int 4, .int (nI b), .ref mo]) hC (c_X4_bo l D T mo mw me mf mn nb nj th len (va_up G b (upd r 8 2)) b 4 (upd r 8 2) (by omega) (by omega) (va_up_self _ _ _)) q_no_st q_no_at (cwV 2 hts gX4_sail_X4_bo rfl rfl rfl (by decide +kernel) ⟨Nat.le_of_ble_eq_true rfl, Nat.le_of_ble_eq_true rfl⟩) (va_recv hK hP (ci := 5) (q0 := 0) rfl rfl) hK hP hD hS hA (q_mask [true, false, true, false] _) rfl hl.1 rfl (Nat.le_of_ble_eq_true rfl) dX4_sail_95 ⟨(Nat.le_of_ble_eq_true rfl), (Nat.le_of_ble_eq_true rfl)⟩ (fun v9 C9 H locs hp hP hD hS => ?_)
        obtain ⟨rfl, rfl⟩ := hp
        have hP : va_P D vwCl [q_mc mo th nb nj len mw me mf mn, q_ia T mw 10 wf, q_fa T mf (va_up G b (upd r 8 2)), q_ia T mn 4 nu] H := q_P_perm (q_mrg_perm [true, false, true, false] _ _) hP
        have hD : va_D A [q_mc mo th nb nj len mw me mf mn, q_ia T mw 10 wf, q_fa T mf (va_up G b (upd r 8 2)), q_ia T mn 4 nu] := q_D_perm (q_mrg_perm [true, false, true, false] _ _) hD
        refine W.eq (g2 := F0 m 98 ls [.int (r 4), .int 9, .int 4, .int (nI b), .ref mo]) rfl ?_
        refine lv_iconst (v := 2) hx hb dX4_sail_98 (by decide) ?_
        refine lv_iadd hx hb dX4_sail_99 ?_
        refine va_mmin hx hb (hml.trans hl.1.symm) hown (hts (.methodLink RX4 73 Lib.Math.min.name) (by decide +kernel)) (hts (.static Lib.Math.min.name) (by decide +kernel)) (hts (.initialized "java/lang/Math") (by decide +kernel)) (hts (.code Lib.Math.min.name Lib.Math.min.code 2 (some .int)) (by decide +kernel)) (Nat.le_of_ble_eq_true rfl) (Nat.le_of_ble_eq_true rfl) (Nat.le_of_ble_eq_true rfl) (Nat.le_of_ble_eq_true rfl) dX4_sail_100 ?_
        refine q_callV (As := [.int (nI b), .int 4, .int (bWet r)]) (rs := []) hC (c_X4_put l D T mo mw me mf mn nb nj th len (va_up G b (upd r 8 2)) (va_up G b (upd (upd r 8 2) 4 (bWet r))) b 4 (bWet r) (upd r 8 2) (by omega) (by omega) (va_up_self _ _ _) q_up_up) q_no_st q_no_at (cwV 3 hts gX4_sail_X4_put rfl rfl rfl (by decide +kernel) ⟨Nat.le_of_ble_eq_true rfl, Nat.le_of_ble_eq_true rfl⟩) (va_recv hK hP (ci := 5) (q0 := 0) rfl rfl) hK hP hD hS hA (q_mask [true, false, true, false] _) rfl hl.1 rfl (Nat.le_of_ble_eq_true rfl) dX4_sail_103 ⟨(Nat.le_of_ble_eq_true rfl), (Nat.le_of_ble_eq_true rfl)⟩ (fun v9 C9 H locs hp hP hD hS => ?_)
        obtain ⟨rfl, rfl⟩ := hp
        have hP : va_P D vwCl [q_mc mo th nb nj len mw me mf mn, q_ia T mw 10 wf, q_fa T mf (va_up G b (upd (upd r 8 2) 4 (bWet r))), q_ia T mn 4 nu] H := q_P_perm (q_mrg_perm [true, false, true, false] _ _) hP
        have hD : va_D A [q_mc mo th nb nj len mw me mf mn, q_ia T mw 10 wf, q_fa T mf (va_up G b (upd (upd r 8 2) 4 (bWet r))), q_ia T mn 4 nu] := q_D_perm (q_mrg_perm [true, false, true, false] _ _) hD
        refine lv_aload_n hx hb dX4_sail_106 rfl (lv_at hl 0 rfl) ?_
        refine lv_iload_n hx hb dX4_sail_107 rfl (lv_at hl 1 rfl) ?_
        refine lv_iconst (v := 4) hx hb dX4_sail_108 (by decide) ?_
        refine q_callV (As := [.int (nI b), .int 4]) (rs := []) hC (c_X4_bo l D T mo mw me mf mn nb nj th len (va_up G b (upd (upd r 8 2) 4 (bWet r))) b 4 (upd (upd r 8 2) 4 (bWet r)) (by omega) (by omega) (va_up_self _ _ _)) q_no_st q_no_at (cwV 2 hts gX4_sail_X4_bo rfl rfl rfl (by decide +kernel) ⟨Nat.le_of_ble_eq_true rfl, Nat.le_of_ble_eq_true rfl⟩) (va_recv hK hP (ci := 5) (q0 := 0) rfl rfl) hK hP hD hS hA (q_mask [true, false, true, false] _) rfl hl.1 rfl (Nat.le_of_ble_eq_true rfl) dX4_sail_109 ⟨(Nat.le_of_ble_eq_true rfl), (Nat.le_of_ble_eq_true rfl)⟩ (fun v9 C9 H locs hp hP hD hS => ?_)
        obtain ⟨rfl, rfl⟩ := hp
        have hP : va_P D vwCl [q_mc mo th nb nj len mw me mf mn, q_ia T mw 10 wf, q_fa T mf (va_up G b (upd (upd r 8 2) 4 (bWet r))), q_ia T mn 4 nu] H := q_P_perm (q_mrg_perm [true, false, true, false] _ _) hP
        have hD : va_D A [q_mc mo th nb nj len mw me mf mn, q_ia T mw 10 wf, q_fa T mf (va_up G b (upd (upd r 8 2) 4 (bWet r))), q_ia T mn 4 nu] := q_D_perm (q_mrg_perm [true, false, true, false] _ _) hD
        refine W.eq (g2 := F0 m 112 ls [.int (bWet r)]) rfl ?_
        refine lv_bipush (v := 9) hx hb dX4_sail_112 (by decide) ?_
        refine lv_icmp_ne (tgt := 125) hx hb dX4_sail_114 (by decide) (fun c_114 => ?_) (fun c_114 => ?_)
        · refine lv_iconst (v := 0) hx hb dX4_sail_125 (by decide) ?_
          exact q_zret hx hb hr hlocks hP hK hD hS rfl (Nat.le_of_ble_eq_true rfl) (Nat.le_of_ble_eq_true rfl) dX4_sail_126 ⟨by simp only [rWent, if_pos c_8, if_pos c_20, if_pos c_52, if_neg c_114], by rw [← e9, show rSail r (wf (mk % 10)) = (upd (upd r 8 2) 4 (bWet r)) from by simp only [rSail, rWet, if_pos c_8, if_pos c_20, if_pos c_52, if_neg c_114]]⟩
        · refine lv_aload_n hx hb dX4_sail_117 rfl (lv_at hl 0 rfl) ?_
          refine lv_iload_n hx hb dX4_sail_118 rfl (lv_at hl 1 rfl) ?_
          refine lv_bipush (v := 9) hx hb dX4_sail_119 (by decide) ?_
          refine lv_iconst (v := 3) hx hb dX4_sail_121 (by decide) ?_
          refine q_callV (As := [.int (nI b), .int 9, .int 3]) (rs := []) hC (c_X4_put l D T mo mw me mf mn nb nj th len (va_up G b (upd (upd r 8 2) 4 (bWet r))) (va_up G b (upd (upd (upd r 8 2) 4 (bWet r)) 9 3)) b 9 3 (upd (upd r 8 2) 4 (bWet r)) (by omega) (by omega) (va_up_self _ _ _) q_up_up) q_no_st q_no_at (cwV 3 hts gX4_sail_X4_put rfl rfl rfl (by decide +kernel) ⟨Nat.le_of_ble_eq_true rfl, Nat.le_of_ble_eq_true rfl⟩) (va_recv hK hP (ci := 5) (q0 := 0) rfl rfl) hK hP hD hS hA (q_mask [true, false, true, false] _) rfl hl.1 rfl (Nat.le_of_ble_eq_true rfl) dX4_sail_122 ⟨(Nat.le_of_ble_eq_true rfl), (Nat.le_of_ble_eq_true rfl)⟩ (fun v9 C9 H locs hp hP hD hS => ?_)
          obtain ⟨rfl, rfl⟩ := hp
          have hP : va_P D vwCl [q_mc mo th nb nj len mw me mf mn, q_ia T mw 10 wf, q_fa T mf (va_up G b (upd (upd (upd r 8 2) 4 (bWet r)) 9 3)), q_ia T mn 4 nu] H := q_P_perm (q_mrg_perm [true, false, true, false] _ _) hP
          have hD : va_D A [q_mc mo th nb nj len mw me mf mn, q_ia T mw 10 wf, q_fa T mf (va_up G b (upd (upd (upd r 8 2) 4 (bWet r)) 9 3)), q_ia T mn 4 nu] := q_D_perm (q_mrg_perm [true, false, true, false] _ _) hD
          refine lv_iconst (v := 0) hx hb dX4_sail_125 (by decide) ?_
          exact q_zret hx hb hr hlocks hP hK hD hS rfl (Nat.le_of_ble_eq_true rfl) (Nat.le_of_ble_eq_true rfl) dX4_sail_126 ⟨by simp only [rWent, if_pos c_8, if_pos c_20, if_pos c_52, if_pos c_114], by rw [← e9, show rSail r (wf (mk % 10)) = (upd (upd (upd r 8 2) 4 (bWet r)) 9 3) from by simp only [rSail, rWet, if_pos c_8, if_pos c_20, if_pos c_52, if_pos c_114]]⟩
      · refine lv_aload_n hx hb dX4_sail_55 rfl (lv_at hl 0 rfl) ?_
        refine lv_iload_n hx hb dX4_sail_56 rfl (lv_at hl 1 rfl) ?_
        refine lv_iconst (v := 5) hx hb dX4_sail_57 (by decide) ?_
        refine lv_aload_n hx hb dX4_sail_58 rfl (lv_at hl 0 rfl) ?_
        refine lv_iload_n hx hb dX4_sail_59 rfl (lv_at hl 1 rfl) ?_
        refine lv_iconst (v := 5) hx hb dX4_sail_60 (by decide) ?_
        refine q_callV (As := [.int (nI b), .int 5]) (rs := [.int 5, .int (nI b), .ref mo]) hC (c_X4_bo l D T mo mw me mf mn nb nj th len G b 5 r (by omega) (by omega) er) q_no_st q_no_at (cwV 2 hts gX4_sail_X4_bo rfl rfl rfl (by decide +kernel) ⟨Nat.le_of_ble_eq_true rfl, Nat.le_of_ble_eq_true rfl⟩) (va_recv hK hP (ci := 5) (q0 := 0) rfl rfl) hK hP hD hS hA (q_mask [true, false, true, false] _) rfl hl.1 rfl (Nat.le_of_ble_eq_true rfl) dX4_sail_61 ⟨(Nat.le_of_ble_eq_true rfl), (Nat.le_of_ble_eq_true rfl)⟩ (fun v9 C9 H locs hp hP hD hS => ?_)
        obtain ⟨rfl, rfl⟩ := hp
        have hP : va_P D vwCl [q_mc mo th nb nj len mw me mf mn, q_ia T mw 10 wf, q_fa T mf G, q_ia T mn 4 nu] H := q_P_perm (q_mrg_perm [true, false, true, false] _ _) hP
        have hD : va_D A [q_mc mo th nb nj len mw me mf mn, q_ia T mw 10 wf, q_fa T mf G, q_ia T mn 4 nu] := q_D_perm (q_mrg_perm [true, false, true, false] _ _) hD
        refine lv_aload_n hx hb dX4_sail_64 rfl (lv_at hl 0 rfl) ?_
        refine lv_iload_n hx hb dX4_sail_65 rfl (lv_at hl 1 rfl) ?_
        refine lv_aload_n hx hb dX4_sail_66 rfl (lv_at hl 0 rfl) ?_
        refine q_callV (As := []) (rs := [.int (nI b), .ref mo, .int (r 5), .int 5, .int (nI b), .ref mo]) hC (c_X4_wind l D T mo mw me mf mn nb nj th len wf nu mk hm hmk) q_no_st q_no_at (cwV 0 hts gX4_sail_X4_wind rfl rfl rfl (by decide +kernel) ⟨Nat.le_of_ble_eq_true rfl, Nat.le_of_ble_eq_true rfl⟩) (va_recv hK hP (ci := 5) (q0 := 0) rfl rfl) hK hP hD hS hA (q_mask [true, true, false, true] _) rfl hl.1 rfl (Nat.le_of_ble_eq_true rfl) dX4_sail_67 ⟨(Nat.le_of_ble_eq_true rfl), (Nat.le_of_ble_eq_true rfl)⟩ (fun v9 C9 H locs hp hP hD hS => ?_)
        obtain ⟨rfl, rfl⟩ := hp
        have hP : va_P D vwCl [q_mc mo th nb nj len mw me mf mn, q_ia T mw 10 wf, q_fa T mf G, q_ia T mn 4 nu] H := q_P_perm (q_mrg_perm [true, true, false, true] _ _) hP
        have hD : va_D A [q_mc mo th nb nj len mw me mf mn, q_ia T mw 10 wf, q_fa T mf G, q_ia T mn 4 nu] := q_D_perm (q_mrg_perm [true, true, false, true] _ _) hD
        refine q_callV (As := [.int (nI b), .int (wf (mk % 10))]) (rs := [.int (r 5), .int 5, .int (nI b), .ref mo]) hC (c_X4_speed l D T mo mw me mf mn nb nj th len G b (wf (mk % 10)) r (by omega) er hz) q_no_st q_no_at (cwV 2 hts gX4_sail_X4_speed rfl rfl rfl (by decide +kernel) ⟨Nat.le_of_ble_eq_true rfl, Nat.le_of_ble_eq_true rfl⟩) (va_recv hK hP (ci := 5) (q0 := 0) rfl rfl) hK hP hD hS hA (q_mask [true, false, true, false] _) rfl hl.1 rfl (Nat.le_of_ble_eq_true rfl) dX4_sail_70 ⟨(Nat.le_of_ble_eq_true rfl), (Nat.le_of_ble_eq_true rfl)⟩ (fun v9 C9 H locs hp hP hD hS => ?_)
        obtain ⟨rfl, rfl⟩ := hp
        have hP : va_P D vwCl [q_mc mo th nb nj len mw me mf mn, q_ia T mw 10 wf, q_fa T mf G, q_ia T mn 4 nu] H := q_P_perm (q_mrg_perm [true, false, true, false] _ _) hP
        have hD : va_D A [q_mc mo th nb nj len mw me mf mn, q_ia T mw 10 wf, q_fa T mf G, q_ia T mn 4 nu] := q_D_perm (q_mrg_perm [true, false, true, false] _ _) hD
        refine lv_iadd hx hb dX4_sail_73 ?_
        refine q_callV (As := [.int (nI b), .int 5, .int ((r 5) + (bSpeed r (wf (mk % 10))))]) (rs := []) hC (c_X4_put l D T mo mw me mf mn nb nj th len G (va_up G b (upd r 5 ((r 5) + (bSpeed r (wf (mk % 10)))))) b 5 ((r 5) + (bSpeed r (wf (mk % 10)))) r (by omega) (by omega) er rfl) q_no_st q_no_at (cwV 3 hts gX4_sail_X4_put rfl rfl rfl (by decide +kernel) ⟨Nat.le_of_ble_eq_true rfl, Nat.le_of_ble_eq_true rfl⟩) (va_recv hK hP (ci := 5) (q0 := 0) rfl rfl) hK hP hD hS hA (q_mask [true, false, true, false] _) rfl hl.1 rfl (Nat.le_of_ble_eq_true rfl) dX4_sail_74 ⟨(Nat.le_of_ble_eq_true rfl), (Nat.le_of_ble_eq_true rfl)⟩ (fun v9 C9 H locs hp hP hD hS => ?_)
        obtain ⟨rfl, rfl⟩ := hp
        have hP : va_P D vwCl [q_mc mo th nb nj len mw me mf mn, q_ia T mw 10 wf, q_fa T mf (va_up G b (upd r 5 ((r 5) + (bSpeed r (wf (mk % 10)))))), q_ia T mn 4 nu] H := q_P_perm (q_mrg_perm [true, false, true, false] _ _) hP
        have hD : va_D A [q_mc mo th nb nj len mw me mf mn, q_ia T mw 10 wf, q_fa T mf (va_up G b (upd r 5 ((r 5) + (bSpeed r (wf (mk % 10)))))), q_ia T mn 4 nu] := q_D_perm (q_mrg_perm [true, false, true, false] _ _) hD
        refine lv_iconst (v := 1) hx hb dX4_sail_77 (by decide) ?_
        exact q_zret hx hb hr hlocks hP hK hD hS rfl (Nat.le_of_ble_eq_true rfl) (Nat.le_of_ble_eq_true rfl) dX4_sail_78 ⟨by simp only [rWent, if_pos c_8, if_pos c_20, if_neg c_52], by rw [← e9, show rSail r (wf (mk % 10)) = (upd r 5 ((r 5) + (bSpeed r (wf (mk % 10))))) from by simp only [rSail, rWet, if_pos c_8, if_pos c_20, if_neg c_52]]⟩
    · refine lv_aload_n hx hb dX4_sail_23 rfl (lv_at hl 0 rfl) ?_
      refine lv_iload_n hx hb dX4_sail_24 rfl (lv_at hl 1 rfl) ?_
      refine lv_bipush (v := 8) hx hb dX4_sail_25 (by decide) ?_
      refine lv_aload_n hx hb dX4_sail_27 rfl (lv_at hl 0 rfl) ?_
      refine lv_iload_n hx hb dX4_sail_28 rfl (lv_at hl 1 rfl) ?_
      refine lv_bipush (v := 8) hx hb dX4_sail_29 (by decide) ?_
      refine q_callV (As := [.int (nI b), .int 8]) (rs := [.int 8, .int (nI b), .ref mo]) hC (c_X4_bo l D T mo mw me mf mn nb nj th len G b 8 r (by omega) (by omega) er) q_no_st q_no_at (cwV 2 hts gX4_sail_X4_bo rfl rfl rfl (by decide +kernel) ⟨Nat.le_of_ble_eq_true rfl, Nat.le_of_ble_eq_true rfl⟩) (va_recv hK hP (ci := 5) (q0 := 0) rfl rfl) hK hP hD hS hA (q_mask [true, false, true, false] _) rfl hl.1 rfl (Nat.le_of_ble_eq_true rfl) dX4_sail_31 ⟨(Nat.le_of_ble_eq_true rfl), (Nat.le_of_ble_eq_true rfl)⟩ (fun v9 C9 H locs hp hP hD hS => ?_)
      obtain ⟨rfl, rfl⟩ := hp
      have hP : va_P D vwCl [q_mc mo th nb nj len mw me mf mn, q_ia T mw 10 wf, q_fa T mf G, q_ia T mn 4 nu] H := q_P_perm (q_mrg_perm [true, false, true, false] _ _) hP
      have hD : va_D A [q_mc mo th nb nj len mw me mf mn, q_ia T mw 10 wf, q_fa T mf G, q_ia T mn 4 nu] := q_D_perm (q_mrg_perm [true, false, true, false] _ _) hD
      refine lv_iconst (v := 1) hx hb dX4_sail_34 (by decide) ?_
      refine lv_isub hx hb dX4_sail_35 ?_
      refine q_callV (As := [.int (nI b), .int 8, .int ((r 8) - 1)]) (rs := []) hC (c_X4_put l D T mo mw me mf mn nb nj th len G (va_up G b (upd r 8 ((r 8) - 1))) b 8 ((r 8) - 1) r (by omega) (by omega) er rfl) q_no_st q_no_at (cwV 3 hts gX4_sail_X4_put rfl rfl rfl (by decide +kernel) ⟨Nat.le_of_ble_eq_true rfl, Nat.le_of_ble_eq_true rfl⟩) (va_recv hK hP (ci := 5) (q0 := 0) rfl rfl) hK hP hD hS hA (q_mask [true, false, true, false] _) rfl hl.1 rfl (Nat.le_of_ble_eq_true rfl) dX4_sail_36 ⟨(Nat.le_of_ble_eq_true rfl), (Nat.le_of_ble_eq_true rfl)⟩ (fun v9 C9 H locs hp hP hD hS => ?_)
      obtain ⟨rfl, rfl⟩ := hp
      have hP : va_P D vwCl [q_mc mo th nb nj len mw me mf mn, q_ia T mw 10 wf, q_fa T mf (va_up G b (upd r 8 ((r 8) - 1))), q_ia T mn 4 nu] H := q_P_perm (q_mrg_perm [true, false, true, false] _ _) hP
      have hD : va_D A [q_mc mo th nb nj len mw me mf mn, q_ia T mw 10 wf, q_fa T mf (va_up G b (upd r 8 ((r 8) - 1))), q_ia T mn 4 nu] := q_D_perm (q_mrg_perm [true, false, true, false] _ _) hD
      refine lv_iconst (v := 0) hx hb dX4_sail_39 (by decide) ?_
      exact q_zret hx hb hr hlocks hP hK hD hS rfl (Nat.le_of_ble_eq_true rfl) (Nat.le_of_ble_eq_true rfl) dX4_sail_40 ⟨by simp only [rWent, if_pos c_8, if_neg c_20], by rw [← e9, show rSail r (wf (mk % 10)) = (upd r 8 ((r 8) - 1)) from by simp only [rSail, rWet, if_pos c_8, if_neg c_20]]⟩
  · refine lv_iconst (v := 0) hx hb dX4_sail_11 (by decide) ?_
    exact q_zret hx hb hr hlocks hP hK hD hS rfl (Nat.le_of_ble_eq_true rfl) (Nat.le_of_ble_eq_true rfl) dX4_sail_12 ⟨by simp only [rWent, if_neg c_8], by rw [← e9, show rSail r (wf (mk % 10)) = r from by simp only [rSail, rWet, if_neg c_8], q_up_id_at er]⟩
def rSee (ey : Nat → Int32) (k : Nat) (x : Int32) : Int32 := if q_any (fun j => decide (bAbs (ey j - x) ≤ 10)) k = true then 1 else 0
abbrev rmX4_isSeen : Room := { frames := 1, cells := 0, slots := 0, locals := 21 }
set_option maxHeartbeats 4000000 in
set_option maxRecDepth 100000 in
theorem c_X4_isSeen (l : Launch) (D : va_G) (T : Nat → ClassId) (mo mw me mf mn nb nj : Nat) (th len : Int32) (ey : Nat → Int32) (x : Int32) (hj : nj ≤ 3) : q_M l D (q_ty T) yX4_isSeen wsX4_isSeen rmX4_isSeen [.ref mo, .int x] [q_mc mo th nb nj len mw me mf mn, q_ia T me 3 ey] q_no (q_is (some (.int (rSee ey nj x))) [q_mc mo th nb nj len mw me mf mn, q_ia T me 3 ey]) := by
  refine q_start (cc := cX4_isSeen) (maxL := 3) (ret := (some .boolean)) (by decide) rfl (Nat.le_of_ble_eq_true rfl) ?_
  intro p e s m args below meth c A H locs hx hb hr hts hown hlocks hml hnm hP hK hD hS hA hG ls hl
  have hown : s.vm.findClass RX4 = some m.cls := hown
  have hC : CallFix p m c cX4_isSeen 3 s args wsX4_isSeen RX4 := ⟨hx, hb, hml, hown, hts⟩
  have iX4 : ∀ w ∈ wsX40, w ∈ wsX4_isSeen := by decide +kernel
  have hl : lv_has ls 3 [(0, .ref mo), (1, .int x)] := hl
  refine lv_iconst (v := 0) hx hb dX4_isSeen_0 (by decide) ?_
  refine lv_istore_n (lv' := [(2, .int 0), (0, .ref mo), (1, .int x)]) hx hb dX4_isSeen_1 rfl hl (by decide) rfl (fun ls hl => ?_)
  have L2 : ∀ (f9 j : Nat) (h9a : nj < j + f9) (h9b : j ≤ nj) (h9c : q_any (fun j => decide (bAbs (ey j - x) ≤ 10)) j = false) (H : Heap) (locs : List Loc) (ls : Array Slot), va_P D vwCl [q_mc mo th nb nj len mw me mf mn, q_ia T me 3 ey] H → va_D A [q_mc mo th nb nj len mw me mf mn, q_ia T me 3 ey] → va_S A s.heap H locs → lv_has ls 3 [(0, .ref mo), (1, .int x), (2, .int (nI j))] → W p l e rmX4_isSeen s m args below meth c H locs 0 0 (q_E below D (q_ty T) (q_is (some (.int (rSee ey nj x))) [q_mc mo th nb nj len mw me mf mn, q_ia T me 3 ey]) A args s rmX4_isSeen) (F0 m 2 ls []) := by
    intro f9
    induction f9 with
    | zero => intro j h9a h9b; exact absurd h9a (by omega)
    | succ f9 ih =>
      intro j h9a h9b  h9c H locs ls hP hD hS hl
      refine lv_iload_n hx hb dX4_isSeen_2 rfl (lv_at hl 2 rfl) ?_
      refine lv_aload_n hx hb dX4_isSeen_3 rfl (lv_at hl 0 rfl) ?_
      refine va_get (D := D) (ci := 5) (v := .int (nI nj)) (C := RX4) (T := TX4) (N := 8) hx hb hts iX4 hown hK hP 0 rfl rfl 2 (by decide) (hts (.fieldLink RX4 62 "ToyRegattaModel" "judges" "I") (by decide +kernel)) (fun _ h9 => h9) rfl dX4_isSeen_4 ?_
      refine lv_icmp_ge (tgt := 34) hx hb dX4_isSeen_7 (by decide) (fun c_7 => ?_) (fun c_7 => ?_)
      · have h9d := (q_exit c_7 h9b (by omega)).symm
        rw [← h9d] at h9c
        refine lv_iconst (v := 0) hx hb dX4_isSeen_34 (by decide) ?_
        exact q_zret hx hb hr hlocks hP hK hD hS rfl (Nat.le_of_ble_eq_true rfl) (Nat.le_of_ble_eq_true rfl) dX4_isSeen_35 ⟨by simp [rSee, h9c], rfl⟩
      · have h9d := q_goon c_7 (by omega)
        refine lv_aload_n hx hb dX4_isSeen_10 rfl (lv_at hl 0 rfl) ?_
        refine va_get (D := D) (ci := 5) (v := .ref me) (C := RX4) (T := TX4) (N := 8) hx hb hts iX4 hown hK hP 0 rfl rfl 5 (by decide) (hts (.fieldLink RX4 17 "ToyRegattaModel" "eyes" "[I") (by decide +kernel)) (fun _ h9 => h9) rfl dX4_isSeen_11 ?_
        refine lv_iload_n hx hb dX4_isSeen_14 rfl (lv_at hl 2 rfl) ?_
        refine va_iald (D := D) hx hb hK hP 1 0 rfl rfl (vp_in_nI (by omega) (by omega)) dX4_isSeen_15 ?_
        rw [show ((nI j) : Int32).toNatClampNeg = j from (pk_cl j rfl (by omega))]
        refine lv_iload_n hx hb dX4_isSeen_16 rfl (lv_at hl 1 rfl) ?_
        refine lv_isub hx hb dX4_isSeen_17 ?_
        refine va_mabs hx hb (hml.trans hl.1.symm) hown (hts (.methodLink RX4 95 Lib.Math.abs.name) (by decide +kernel)) (hts (.static Lib.Math.abs.name) (by decide +kernel)) (hts (.initialized "java/lang/Math") (by decide +kernel)) (hts (.code Lib.Math.abs.name Lib.Math.abs.code 1 (some .int)) (by decide +kernel)) (Nat.le_of_ble_eq_true rfl) (Nat.le_of_ble_eq_true rfl) (Nat.le_of_ble_eq_true rfl) (Nat.le_of_ble_eq_true rfl) dX4_isSeen_18 ?_
        refine lv_bipush (v := 10) hx hb dX4_isSeen_21 (by decide) ?_
        refine lv_icmp_gt (tgt := 28) hx hb dX4_isSeen_23 (by decide) (fun c_23 => ?_) (fun c_23 => ?_)
        · refine lv_iinc (v := (nI (j + 1))) (lv' := [(2, .int (nI (j + 1))), (0, .ref mo), (1, .int x)]) hx hb dX4_isSeen_28 hl (k := 2) rfl (nI_1 j) (by decide) rfl (fun ls hl => ?_)
          refine lv_goto (tgt := 2) hx hb dX4_isSeen_31 (by decide) ?_
          exact ih (j + 1) (by omega) (by omega)  (by simp only [q_any, h9c, Bool.false_or, decide_eq_false_iff_not]; exact fun q => absurd q (Int32.not_le.mpr c_23)) _ _ ls hP hD hS (lv_sub hl [1, 2, 0] rfl)
        · refine lv_iconst (v := 1) hx hb dX4_isSeen_26 (by decide) ?_
          exact q_zret hx hb hr hlocks hP hK hD hS rfl (Nat.le_of_ble_eq_true rfl) (Nat.le_of_ble_eq_true rfl) dX4_isSeen_27 ⟨by rw [rSee, if_pos (q_any_hit h9d (decide_eq_true (Int32.not_lt.mp c_23)))], rfl⟩
  exact L2 (nj + 1) 0 (by omega) (by omega)  rfl _ _ ls hP hD hS (lv_sub hl [1, 2, 0] rfl)
