abbrev rmX4_ranked : Room := { frames := 1, cells := 0, slots := 0, locals := 22 }
set_option maxHeartbeats 4000000 in
set_option maxRecDepth 100000 in
theorem c_X4_ranked (l : Launch) (D : va_G) (T : Nat → ClassId) (mo mw me mf mn nb nj : Nat) (th len : Int32) (G : Nat → Nat → Int32) (b : Nat) (r : Nat → Int32) (hb : b < 8) (er : G b = r) : q_M l D (q_ty T) yX4_ranked wsX4_ranked rmX4_ranked [.ref mo, .int (nI b)] [q_mc mo th nb nj len mw me mf mn, q_fa T mf G] q_no (q_is (some (.int (bRes r))) [q_mc mo th nb nj len mw me mf mn, q_fa T mf G]) := by
  refine q_start (cc := cX4_ranked) (maxL := 2) (ret := (some .int)) (by decide) rfl (Nat.le_of_ble_eq_true rfl) ?_
  intro p e s m args below meth c A H locs hx hb hr hts hown hlocks hml hnm hP hK hD hS hA hG ls hl
  have hown : s.vm.findClass RX4 = some m.cls := hown
  have hC : CallFix p m c cX4_ranked 2 s args wsX4_ranked RX4 := ⟨hx, hb, hml, hown, hts⟩
  have hl : lv_has ls 2 [(0, .ref mo), (1, .int (nI b))] := hl
  refine lv_aload_n hx hb dX4_ranked_0 rfl (lv_at hl 0 rfl) ?_
  refine lv_iload_n hx hb dX4_ranked_1 rfl (lv_at hl 1 rfl) ?_
  refine lv_bipush (v := 6) hx hb dX4_ranked_2 (by decide) ?_
  refine q_callV (As := [.int (nI b), .int 6]) (rs := []) hC (c_X4_bo l D T mo mw me mf mn nb nj th len G b 6 r (by omega) (by omega) er) q_no_st q_no_at (cwV 2 hts gX4_ranked_X4_bo rfl rfl rfl (by decide +kernel) ⟨Nat.le_of_ble_eq_true rfl, Nat.le_of_ble_eq_true rfl⟩) (va_recv hK hP (ci := 5) (q0 := 0) rfl rfl) hK hP hD hS hA (q_mask [true, true] _) rfl hl.1 rfl (Nat.le_of_ble_eq_true rfl) dX4_ranked_4 ⟨(Nat.le_of_ble_eq_true rfl), (Nat.le_of_ble_eq_true rfl)⟩ (fun v9 C9 H locs hp hP hD hS => ?_)
  obtain ⟨rfl, rfl⟩ := hp
  have hP : va_P D vwCl [q_mc mo th nb nj len mw me mf mn, q_fa T mf G] H := q_P_perm (q_mrg_perm [true, true] _ _) hP
  have hD : va_D A [q_mc mo th nb nj len mw me mf mn, q_fa T mf G] := q_D_perm (q_mrg_perm [true, true] _ _) hD
  refine lv_iconst (v := 3) hx hb dX4_ranked_7 (by decide) ?_
  refine lv_aload_n hx hb dX4_ranked_8 rfl (lv_at hl 0 rfl) ?_
  refine lv_iload_n hx hb dX4_ranked_9 rfl (lv_at hl 1 rfl) ?_
  refine lv_bipush (v := 7) hx hb dX4_ranked_10 (by decide) ?_
  refine q_callV (As := [.int (nI b), .int 7]) (rs := [.int 3, .int (r 6)]) hC (c_X4_bo l D T mo mw me mf mn nb nj th len G b 7 r (by omega) (by omega) er) q_no_st q_no_at (cwV 2 hts gX4_ranked_X4_bo rfl rfl rfl (by decide +kernel) ⟨Nat.le_of_ble_eq_true rfl, Nat.le_of_ble_eq_true rfl⟩) (va_recv hK hP (ci := 5) (q0 := 0) rfl rfl) hK hP hD hS hA (q_mask [true, true] _) rfl hl.1 rfl (Nat.le_of_ble_eq_true rfl) dX4_ranked_12 ⟨(Nat.le_of_ble_eq_true rfl), (Nat.le_of_ble_eq_true rfl)⟩ (fun v9 C9 H locs hp hP hD hS => ?_)
  obtain ⟨rfl, rfl⟩ := hp
  have hP : va_P D vwCl [q_mc mo th nb nj len mw me mf mn, q_fa T mf G] H := q_P_perm (q_mrg_perm [true, true] _ _) hP
  have hD : va_D A [q_mc mo th nb nj len mw me mf mn, q_fa T mf G] := q_D_perm (q_mrg_perm [true, true] _ _) hD
  refine lv_imul hx hb dX4_ranked_15 ?_
  refine lv_iadd hx hb dX4_ranked_16 ?_
  exact q_iret hx hb hr hlocks hP hK hD hS (Nat.le_of_ble_eq_true rfl) (Nat.le_of_ble_eq_true rfl) dX4_ranked_17 ⟨rfl, rfl⟩
abbrev rmX4_placeOf : Room := { frames := 2, cells := 0, slots := 0, locals := 43 }
set_option maxHeartbeats 4000000 in
set_option maxRecDepth 100000 in
theorem c_X4_placeOf (l : Launch) (D : va_G) (T : Nat → ClassId) (mo mw me mf mn nb nj : Nat) (th len : Int32) (G : Nat → Nat → Int32) (i : Nat) (hi : i < nb) (hn : nb ≤ 8) : q_M l D (q_ty T) yX4_placeOf wsX4_placeOf rmX4_placeOf [.ref mo, .int (nI i)] [q_mc mo th nb nj len mw me mf mn, q_fa T mf G] q_no (q_is (some (.int (dRank G nb i))) [q_mc mo th nb nj len mw me mf mn, q_fa T mf G]) := by
  refine q_start (cc := cX4_placeOf) (maxL := 4) (ret := (some .int)) (by decide) rfl (Nat.le_of_ble_eq_true rfl) ?_
  intro p e s m args below meth c A H locs hx hb hr hts hown hlocks hml hnm hP hK hD hS hA hG ls hl
  have hown : s.vm.findClass RX4 = some m.cls := hown
  have hC : CallFix p m c cX4_placeOf 4 s args wsX4_placeOf RX4 := ⟨hx, hb, hml, hown, hts⟩
  have iX4 : ∀ w ∈ wsX40, w ∈ wsX4_placeOf := by decide +kernel
  have hl : lv_has ls 4 [(0, .ref mo), (1, .int (nI i))] := hl
  refine lv_iconst (v := 0) hx hb dX4_placeOf_0 (by decide) ?_
  refine lv_istore_n (lv' := [(2, .int 0), (0, .ref mo), (1, .int (nI i))]) hx hb dX4_placeOf_1 rfl hl (by decide) rfl (fun ls hl => ?_)
  refine lv_iconst (v := 0) hx hb dX4_placeOf_2 (by decide) ?_
  refine lv_istore_n (lv' := [(3, .int 0), (2, .int 0), (0, .ref mo), (1, .int (nI i))]) hx hb dX4_placeOf_3 rfl hl (by decide) rfl (fun ls hl => ?_)
  have L4 : ∀ (f9 j : Nat) (h9a : nb < j + f9) (h9b : j ≤ nb) (H : Heap) (locs : List Loc) (ls : Array Slot), va_P D vwCl [q_mc mo th nb nj len mw me mf mn, q_fa T mf G] H → va_D A [q_mc mo th nb nj len mw me mf mn, q_fa T mf G] → va_S A s.heap H locs → lv_has ls 4 [(0, .ref mo), (1, .int (nI i)), (2, .int (q_sum (dAh G i) j)), (3, .int (nI j))] → W p l e rmX4_placeOf s m args below meth c H locs 0 0 (q_E below D (q_ty T) (q_is (some (.int (dRank G nb i))) [q_mc mo th nb nj len mw me mf mn, q_fa T mf G]) A args s rmX4_placeOf) (F0 m 4 ls []) := by
    intro f9
    induction f9 with
    | zero => intro j h9a h9b; exact absurd h9a (by omega)
    | succ f9 ih4 =>
      intro j h9a h9b   H locs ls hP hD hS hl
      refine lv_iload_n hx hb dX4_placeOf_4 rfl (lv_at hl 3 rfl) ?_
      refine lv_aload_n hx hb dX4_placeOf_5 rfl (lv_at hl 0 rfl) ?_
      refine va_get (D := D) (ci := 5) (v := .int (nI nb)) (C := RX4) (T := TX4) (N := 8) hx hb hts iX4 hown hK hP 0 rfl rfl 1 (by decide) (hts (.fieldLink RX4 29 "ToyRegattaModel" "boats" "I") (by decide +kernel)) (fun _ h9 => h9) rfl dX4_placeOf_6 ?_
      refine lv_icmp_ge (tgt := 63) hx hb dX4_placeOf_9 (by decide) (fun c_9 => ?_) (fun c_9 => ?_)
      · have h9d := (q_exit c_9 h9b (by omega)).symm
        subst h9d
        refine lv_iload_n hx hb dX4_placeOf_63 rfl (lv_at hl 2 rfl) ?_
        exact q_iret hx hb hr hlocks hP hK hD hS (Nat.le_of_ble_eq_true rfl) (Nat.le_of_ble_eq_true rfl) dX4_placeOf_64 ⟨rfl, rfl⟩
      · have h9d := q_goon c_9 (by omega)
        refine lv_aload_n hx hb dX4_placeOf_12 rfl (lv_at hl 0 rfl) ?_
        refine lv_iload_n hx hb dX4_placeOf_13 rfl (lv_at hl 3 rfl) ?_
        refine lv_bipush (v := 9) hx hb dX4_placeOf_14 (by decide) ?_
        refine q_callV (As := [.int (nI j), .int 9]) (rs := []) hC (c_X4_bo l D T mo mw me mf mn nb nj th len G j 9 (G j) (by omega) (by omega) rfl) q_no_st q_no_at (cwV 2 hts gX4_placeOf_X4_bo rfl rfl rfl (by decide +kernel) ⟨Nat.le_of_ble_eq_true rfl, Nat.le_of_ble_eq_true rfl⟩) (va_recv hK hP (ci := 5) (q0 := 0) rfl rfl) hK hP hD hS hA (q_mask [true, true] _) rfl hl.1 rfl (Nat.le_of_ble_eq_true rfl) dX4_placeOf_16 ⟨(Nat.le_of_ble_eq_true rfl), (Nat.le_of_ble_eq_true rfl)⟩ (fun v9 C9 H locs hp hP hD hS => ?_)
        obtain ⟨rfl, rfl⟩ := hp
        have hP : va_P D vwCl [q_mc mo th nb nj len mw me mf mn, q_fa T mf G] H := q_P_perm (q_mrg_perm [true, true] _ _) hP
        have hD : va_D A [q_mc mo th nb nj len mw me mf mn, q_fa T mf G] := q_D_perm (q_mrg_perm [true, true] _ _) hD
        refine lv_iconst (v := 2) hx hb dX4_placeOf_19 (by decide) ?_
        refine lv_icmp_ne (tgt := 57) hx hb dX4_placeOf_20 (by decide) (fun c_20 => ?_) (fun c_20 => ?_)
        · refine lv_iinc (v := (nI (j + 1))) (lv' := [(3, .int (nI (j + 1))), (0, .ref mo), (1, .int (nI i)), (2, .int (q_sum (dAh G i) j))]) hx hb dX4_placeOf_57 hl (k := 3) rfl (nI_1 j) (by decide) rfl (fun ls hl => ?_)
          refine lv_goto (tgt := 4) hx hb dX4_placeOf_60 (by decide) ?_
          have e9 : q_sum (dAh G i) (j + 1) = (q_sum (dAh G i) j) := by simp only [q_sum, dAh, dBet, if_neg c_20, Int32.add_zero]
          rw [← e9] at hl
          exact ih4 (j + 1) (by omega) (by omega)   _ _ ls hP hD hS (lv_sub hl [1, 2, 3, 0] rfl)
        · refine lv_aload_n hx hb dX4_placeOf_23 rfl (lv_at hl 0 rfl) ?_
          refine lv_iload_n hx hb dX4_placeOf_24 rfl (lv_at hl 3 rfl) ?_
          refine q_callV (As := [.int (nI j)]) (rs := []) hC (c_X4_ranked l D T mo mw me mf mn nb nj th len G j (G j) (by omega) rfl) q_no_st q_no_at (cwV 1 hts gX4_placeOf_X4_ranked rfl rfl rfl (by decide +kernel) ⟨Nat.le_of_ble_eq_true rfl, Nat.le_of_ble_eq_true rfl⟩) (va_recv hK hP (ci := 5) (q0 := 0) rfl rfl) hK hP hD hS hA (q_mask [true, true] _) rfl hl.1 rfl (Nat.le_of_ble_eq_true rfl) dX4_placeOf_25 ⟨(Nat.le_of_ble_eq_true rfl), (Nat.le_of_ble_eq_true rfl)⟩ (fun v9 C9 H locs hp hP hD hS => ?_)
          obtain ⟨rfl, rfl⟩ := hp
          have hP : va_P D vwCl [q_mc mo th nb nj len mw me mf mn, q_fa T mf G] H := q_P_perm (q_mrg_perm [true, true] _ _) hP
          have hD : va_D A [q_mc mo th nb nj len mw me mf mn, q_fa T mf G] := q_D_perm (q_mrg_perm [true, true] _ _) hD
          refine lv_aload_n hx hb dX4_placeOf_28 rfl (lv_at hl 0 rfl) ?_
          refine lv_iload_n hx hb dX4_placeOf_29 rfl (lv_at hl 1 rfl) ?_
          refine q_callV (As := [.int (nI i)]) (rs := [.int (bRes (G j))]) hC (c_X4_ranked l D T mo mw me mf mn nb nj th len G i (G i) (by omega) rfl) q_no_st q_no_at (cwV 1 hts gX4_placeOf_X4_ranked rfl rfl rfl (by decide +kernel) ⟨Nat.le_of_ble_eq_true rfl, Nat.le_of_ble_eq_true rfl⟩) (va_recv hK hP (ci := 5) (q0 := 0) rfl rfl) hK hP hD hS hA (q_mask [true, true] _) rfl hl.1 rfl (Nat.le_of_ble_eq_true rfl) dX4_placeOf_30 ⟨(Nat.le_of_ble_eq_true rfl), (Nat.le_of_ble_eq_true rfl)⟩ (fun v9 C9 H locs hp hP hD hS => ?_)
          obtain ⟨rfl, rfl⟩ := hp
          have hP : va_P D vwCl [q_mc mo th nb nj len mw me mf mn, q_fa T mf G] H := q_P_perm (q_mrg_perm [true, true] _ _) hP
          have hD : va_D A [q_mc mo th nb nj len mw me mf mn, q_fa T mf G] := q_D_perm (q_mrg_perm [true, true] _ _) hD
          refine lv_icmp_lt (tgt := 54) hx hb dX4_placeOf_33 (by decide) (fun c_33 => ?_) (fun c_33 => ?_)
          · refine lv_iinc (v := ((q_sum (dAh G i) j) + 1)) (lv' := [(2, .int ((q_sum (dAh G i) j) + 1)), (0, .ref mo), (1, .int (nI i)), (3, .int (nI j))]) hx hb dX4_placeOf_54 hl (k := 2) rfl rfl (by decide) rfl (fun ls hl => ?_)
            refine lv_iinc (v := (nI (j + 1))) (lv' := [(3, .int (nI (j + 1))), (2, .int ((q_sum (dAh G i) j) + 1)), (0, .ref mo), (1, .int (nI i))]) hx hb dX4_placeOf_57 hl (k := 3) rfl (nI_1 j) (by decide) rfl (fun ls hl => ?_)
            refine lv_goto (tgt := 4) hx hb dX4_placeOf_60 (by decide) ?_
            have e9 : q_sum (dAh G i) (j + 1) = ((q_sum (dAh G i) j) + 1) := by simp only [q_sum, dAh, dBet, if_pos c_20, if_pos c_33, Int32.add_zero]
            rw [← e9] at hl
            exact ih4 (j + 1) (by omega) (by omega)   _ _ ls hP hD hS (lv_sub hl [2, 3, 1, 0] rfl)
          · refine lv_aload_n hx hb dX4_placeOf_36 rfl (lv_at hl 0 rfl) ?_
            refine lv_iload_n hx hb dX4_placeOf_37 rfl (lv_at hl 3 rfl) ?_
            refine q_callV (As := [.int (nI j)]) (rs := []) hC (c_X4_ranked l D T mo mw me mf mn nb nj th len G j (G j) (by omega) rfl) q_no_st q_no_at (cwV 1 hts gX4_placeOf_X4_ranked rfl rfl rfl (by decide +kernel) ⟨Nat.le_of_ble_eq_true rfl, Nat.le_of_ble_eq_true rfl⟩) (va_recv hK hP (ci := 5) (q0 := 0) rfl rfl) hK hP hD hS hA (q_mask [true, true] _) rfl hl.1 rfl (Nat.le_of_ble_eq_true rfl) dX4_placeOf_38 ⟨(Nat.le_of_ble_eq_true rfl), (Nat.le_of_ble_eq_true rfl)⟩ (fun v9 C9 H locs hp hP hD hS => ?_)
            obtain ⟨rfl, rfl⟩ := hp
            have hP : va_P D vwCl [q_mc mo th nb nj len mw me mf mn, q_fa T mf G] H := q_P_perm (q_mrg_perm [true, true] _ _) hP
            have hD : va_D A [q_mc mo th nb nj len mw me mf mn, q_fa T mf G] := q_D_perm (q_mrg_perm [true, true] _ _) hD
            refine lv_aload_n hx hb dX4_placeOf_41 rfl (lv_at hl 0 rfl) ?_
            refine lv_iload_n hx hb dX4_placeOf_42 rfl (lv_at hl 1 rfl) ?_
            refine q_callV (As := [.int (nI i)]) (rs := [.int (bRes (G j))]) hC (c_X4_ranked l D T mo mw me mf mn nb nj th len G i (G i) (by omega) rfl) q_no_st q_no_at (cwV 1 hts gX4_placeOf_X4_ranked rfl rfl rfl (by decide +kernel) ⟨Nat.le_of_ble_eq_true rfl, Nat.le_of_ble_eq_true rfl⟩) (va_recv hK hP (ci := 5) (q0 := 0) rfl rfl) hK hP hD hS hA (q_mask [true, true] _) rfl hl.1 rfl (Nat.le_of_ble_eq_true rfl) dX4_placeOf_43 ⟨(Nat.le_of_ble_eq_true rfl), (Nat.le_of_ble_eq_true rfl)⟩ (fun v9 C9 H locs hp hP hD hS => ?_)
            obtain ⟨rfl, rfl⟩ := hp
            have hP : va_P D vwCl [q_mc mo th nb nj len mw me mf mn, q_fa T mf G] H := q_P_perm (q_mrg_perm [true, true] _ _) hP
            have hD : va_D A [q_mc mo th nb nj len mw me mf mn, q_fa T mf G] := q_D_perm (q_mrg_perm [true, true] _ _) hD
            refine lv_icmp_ne (tgt := 57) hx hb dX4_placeOf_46 (by decide) (fun c_46 => ?_) (fun c_46 => ?_)
            · refine lv_iinc (v := (nI (j + 1))) (lv' := [(3, .int (nI (j + 1))), (0, .ref mo), (1, .int (nI i)), (2, .int (q_sum (dAh G i) j))]) hx hb dX4_placeOf_57 hl (k := 3) rfl (nI_1 j) (by decide) rfl (fun ls hl => ?_)
              refine lv_goto (tgt := 4) hx hb dX4_placeOf_60 (by decide) ?_
              have e9 : q_sum (dAh G i) (j + 1) = (q_sum (dAh G i) j) := by simp only [q_sum, dAh, dBet, if_pos c_20, if_neg c_33, if_neg c_46, Int32.add_zero]
              rw [← e9] at hl
              exact ih4 (j + 1) (by omega) (by omega)   _ _ ls hP hD hS (lv_sub hl [1, 2, 3, 0] rfl)
            · refine lv_iload_n hx hb dX4_placeOf_49 rfl (lv_at hl 3 rfl) ?_
              refine lv_iload_n hx hb dX4_placeOf_50 rfl (lv_at hl 1 rfl) ?_
              refine lv_icmp_ge (tgt := 57) hx hb dX4_placeOf_51 (by decide) (fun c_51 => ?_) (fun c_51 => ?_)
              · refine lv_iinc (v := (nI (j + 1))) (lv' := [(3, .int (nI (j + 1))), (0, .ref mo), (1, .int (nI i)), (2, .int (q_sum (dAh G i) j))]) hx hb dX4_placeOf_57 hl (k := 3) rfl (nI_1 j) (by decide) rfl (fun ls hl => ?_)
                refine lv_goto (tgt := 4) hx hb dX4_placeOf_60 (by decide) ?_
                have e9 : q_sum (dAh G i) (j + 1) = (q_sum (dAh G i) j) := by simp only [q_sum, dAh, dBet, if_pos c_20, if_neg c_33, if_pos c_46, if_pos c_51, Int32.add_zero]
                rw [← e9] at hl
                exact ih4 (j + 1) (by omega) (by omega)   _ _ ls hP hD hS (lv_sub hl [1, 2, 3, 0] rfl)
              · refine lv_iinc (v := ((q_sum (dAh G i) j) + 1)) (lv' := [(2, .int ((q_sum (dAh G i) j) + 1)), (0, .ref mo), (1, .int (nI i)), (3, .int (nI j))]) hx hb dX4_placeOf_54 hl (k := 2) rfl rfl (by decide) rfl (fun ls hl => ?_)
                refine lv_iinc (v := (nI (j + 1))) (lv' := [(3, .int (nI (j + 1))), (2, .int ((q_sum (dAh G i) j) + 1)), (0, .ref mo), (1, .int (nI i))]) hx hb dX4_placeOf_57 hl (k := 3) rfl (nI_1 j) (by decide) rfl (fun ls hl => ?_)
                refine lv_goto (tgt := 4) hx hb dX4_placeOf_60 (by decide) ?_
                have e9 : q_sum (dAh G i) (j + 1) = ((q_sum (dAh G i) j) + 1) := by simp only [q_sum, dAh, dBet, if_pos c_20, if_neg c_33, if_pos c_46, if_neg c_51, Int32.add_zero]
                rw [← e9] at hl
                exact ih4 (j + 1) (by omega) (by omega)   _ _ ls hP hD hS (lv_sub hl [2, 3, 1, 0] rfl)
  exact L4 (nb + 1) 0 (by omega) (by omega)   _ _ ls hP hD hS (lv_sub hl [2, 3, 1, 0] rfl)

def q_gv : Nat → Int32 := upd (upd (upd (upd (fun _ => 0) 0 8) 1 5) 2 3) 3 1
theorem q_gv_at {m : Nat} (h : m ≤ 8) : q_gv (if m < 3 then m else 3) = bPts (nI m) := by
  match m, h with
  | 0, _ => rfl
  | 1, _ => rfl
  | 2, _ => rfl
  | m + 3, h =>
    rw [if_neg (by omega), q_pts3 (by rw [nI_toInt (by omega)]; omega)]
    rfl
theorem q_min3 {m : Nat} (h : m ≤ 8) : (if nI m < 3 then nI m else 3) = nI (if m < 3 then m else 3) := by
  by_cases h3 : m < 3
  · rw [if_pos h3, if_pos (show nI m < (3 : Int32) from nI_lt (b := 3) h3 (by omega))]
  · rw [if_neg h3, if_neg (show ¬ nI m < (3 : Int32) from nI_nlt (b := 3) (by omega) (by omega))]; rfl

abbrev rmX4_finish : Room := { frames := 3, cells := 1, slots := 4, locals := 66 }
set_option maxHeartbeats 4000000 in
set_option maxRecDepth 100000 in
theorem c_X4_finish (l : Launch) (D : va_G) (T : Nat → ClassId) (mo mw me mf mn nb nj : Nat) (th len : Int32) (G : Nat → Nat → Int32) (nu : Nat → Int32) (hn : nb ≤ 8) : q_M l D (q_ty T) yX4_finish wsX4_finish rmX4_finish [.ref mo] [q_mc mo th nb nj len mw me mf mn, q_fa T mf G, q_ia T mn 4 nu] q_no (q_is none [q_mc mo th nb nj len mw me mf mn, q_fa T mf (q_upto nb (dEnd G nb) G), q_ia T mn 4 (upd nu 2 0)]) := by
  refine q_start (cc := cX4_finish) (maxL := 3) (ret := none) (by decide) rfl (Nat.le_of_ble_eq_true rfl) ?_
  intro p e s m args below meth c A H locs hx hb hr hts hown hlocks hml hnm hP hK hD hS hA hG ls hl
  have hown : s.vm.findClass RX4 = some m.cls := hown
  have hC : CallFix p m c cX4_finish 3 s args wsX4_finish RX4 := ⟨hx, hb, hml, hown, hts⟩
  have iX4 : ∀ w ∈ wsX40, w ∈ wsX4_finish := by decide +kernel
  have hl : lv_has ls 3 [(0, .ref mo)] := hl
  refine lv_aload_n hx hb dX4_finish_0 rfl (lv_at hl 0 rfl) ?_
  refine va_get (D := D) (ci := 5) (v := .ref mn) (C := RX4) (T := TX4) (N := 8) hx hb hts iX4 hown hK hP 0 rfl rfl 7 (by decide) (hts (.fieldLink RX4 23 "ToyRegattaModel" "numbers" "[I") (by decide +kernel)) (fun _ h9 => h9) rfl dX4_finish_1 ?_
  refine lv_iconst (v := 2) hx hb dX4_finish_4 (by decide) ?_
  refine lv_iconst (v := 0) hx hb dX4_finish_5 (by decide) ?_
  refine va_iast (D := D) hx hb hK hP hD hS 2 0 rfl rfl (by unfold vp_in; decide) dX4_finish_6 (fun H locs hP hD hS => ?_)
  rw [show (2 : Int32).toNatClampNeg = 2 from (by decide)] at hP hD
  have hP : va_P D vwCl [q_mc mo th nb nj len mw me mf mn, q_fa T mf G, q_ia T mn 4 (upd nu 2 0)] H := hP
  have hD : va_D A [q_mc mo th nb nj len mw me mf mn, q_fa T mf G, q_ia T mn 4 (upd nu 2 0)] := hD
  refine lv_iconst (v := 4) hx hb dX4_finish_7 (by decide) ?_
  refine q_newaI (N := 4) hx hb (hts (.arrayClass .int) (by decide +kernel)) hK hP hD hS hA (by decide) (by decide) (by omega) (Nat.le_of_ble_eq_true rfl) (Nat.le_of_ble_eq_true rfl) dX4_finish_8 (fun q8 H hP hD hS => ?_)
  have hP : va_P D vwCl [q_mc mo th nb nj len mw me mf mn, q_fa T mf G, q_ia T mn 4 (upd nu 2 0), (q8, .inl (T 0, 4, .inl (fun _ => 0)))] H := hP
  have hD : va_D A [q_mc mo th nb nj len mw me mf mn, q_fa T mf G, q_ia T mn 4 (upd nu 2 0), (q8, .inl (T 0, 4, .inl (fun _ => 0)))] := hD
  refine lv_dup hx hb dX4_finish_10 rfl ?_
  refine lv_iconst (v := 0) hx hb dX4_finish_11 (by decide) ?_
  refine lv_bipush (v := 8) hx hb dX4_finish_12 (by decide) ?_
  refine va_iast (D := D) hx hb hK hP hD hS 3 0 rfl rfl (by unfold vp_in; decide) dX4_finish_14 (fun H locs hP hD hS => ?_)
  rw [show (0 : Int32).toNatClampNeg = 0 from (by decide)] at hP hD
  have hP : va_P D vwCl [q_mc mo th nb nj len mw me mf mn, q_fa T mf G, q_ia T mn 4 (upd nu 2 0), (q8, .inl (T 0, 4, .inl (upd (fun _ => 0) 0 8)))] H := hP
  have hD : va_D A [q_mc mo th nb nj len mw me mf mn, q_fa T mf G, q_ia T mn 4 (upd nu 2 0), (q8, .inl (T 0, 4, .inl (upd (fun _ => 0) 0 8)))] := hD
  refine lv_dup hx hb dX4_finish_15 rfl ?_
  refine lv_iconst (v := 1) hx hb dX4_finish_16 (by decide) ?_
  refine lv_iconst (v := 5) hx hb dX4_finish_17 (by decide) ?_
  refine va_iast (D := D) hx hb hK hP hD hS 3 0 rfl rfl (by unfold vp_in; decide) dX4_finish_18 (fun H locs hP hD hS => ?_)
  rw [show (1 : Int32).toNatClampNeg = 1 from (by decide)] at hP hD
  have hP : va_P D vwCl [q_mc mo th nb nj len mw me mf mn, q_fa T mf G, q_ia T mn 4 (upd nu 2 0), (q8, .inl (T 0, 4, .inl (upd (upd (fun _ => 0) 0 8) 1 5)))] H := hP
  have hD : va_D A [q_mc mo th nb nj len mw me mf mn, q_fa T mf G, q_ia T mn 4 (upd nu 2 0), (q8, .inl (T 0, 4, .inl (upd (upd (fun _ => 0) 0 8) 1 5)))] := hD
  refine lv_dup hx hb dX4_finish_19 rfl ?_
  refine lv_iconst (v := 2) hx hb dX4_finish_20 (by decide) ?_
  refine lv_iconst (v := 3) hx hb dX4_finish_21 (by decide) ?_
  refine va_iast (D := D) hx hb hK hP hD hS 3 0 rfl rfl (by unfold vp_in; decide) dX4_finish_22 (fun H locs hP hD hS => ?_)
  rw [show (2 : Int32).toNatClampNeg = 2 from (by decide)] at hP hD
  have hP : va_P D vwCl [q_mc mo th nb nj len mw me mf mn, q_fa T mf G, q_ia T mn 4 (upd nu 2 0), (q8, .inl (T 0, 4, .inl (upd (upd (upd (fun _ => 0) 0 8) 1 5) 2 3)))] H := hP
  have hD : va_D A [q_mc mo th nb nj len mw me mf mn, q_fa T mf G, q_ia T mn 4 (upd nu 2 0), (q8, .inl (T 0, 4, .inl (upd (upd (upd (fun _ => 0) 0 8) 1 5) 2 3)))] := hD
  refine lv_dup hx hb dX4_finish_23 rfl ?_
  refine lv_iconst (v := 3) hx hb dX4_finish_24 (by decide) ?_
  refine lv_iconst (v := 1) hx hb dX4_finish_25 (by decide) ?_
  refine va_iast (D := D) hx hb hK hP hD hS 3 0 rfl rfl (by unfold vp_in; decide) dX4_finish_26 (fun H locs hP hD hS => ?_)
  rw [show (3 : Int32).toNatClampNeg = 3 from (by decide)] at hP hD
  have hP : va_P D vwCl [q_mc mo th nb nj len mw me mf mn, q_fa T mf G, q_ia T mn 4 (upd nu 2 0), (q8, .inl (T 0, 4, .inl (upd (upd (upd (upd (fun _ => 0) 0 8) 1 5) 2 3) 3 1)))] H := hP
  have hD : va_D A [q_mc mo th nb nj len mw me mf mn, q_fa T mf G, q_ia T mn 4 (upd nu 2 0), (q8, .inl (T 0, 4, .inl (upd (upd (upd (upd (fun _ => 0) 0 8) 1 5) 2 3) 3 1)))] := hD
  refine lv_astore_n (lv' := [(1, .ref q8), (0, .ref mo)]) hx hb dX4_finish_27 rfl hl (by decide) rfl (fun ls hl => ?_)
  refine lv_iconst (v := 0) hx hb dX4_finish_28 (by decide) ?_
  refine lv_istore_n (lv' := [(2, .int 0), (1, .ref q8), (0, .ref mo)]) hx hb dX4_finish_29 rfl hl (by decide) rfl (fun ls hl => ?_)
  have hP : va_P D vwCl [q_mc mo th nb nj len mw me mf mn, q_fa T mf (q_upto 0 (dEnd G nb) G), q_ia T mn 4 (upd nu 2 0), (q8, .inl (T 0, 4, .inl (upd (upd (upd (upd (fun _ => 0) 0 8) 1 5) 2 3) 3 1)))] H := by rw [q_upto_0]; exact hP
  have hD : va_D A [q_mc mo th nb nj len mw me mf mn, q_fa T mf (q_upto 0 (dEnd G nb) G), q_ia T mn 4 (upd nu 2 0), (q8, .inl (T 0, 4, .inl (upd (upd (upd (upd (fun _ => 0) 0 8) 1 5) 2 3) 3 1)))] := by rw [q_upto_0]; exact hD
  have L30 : ∀ (f9 b : Nat) (h9a : nb < b + f9) (h9b : b ≤ nb) (H : Heap) (locs : List Loc) (ls : Array Slot), va_P D vwCl [q_mc mo th nb nj len mw me mf mn, q_fa T mf (q_upto b (dEnd G nb) G), q_ia T mn 4 (upd nu 2 0), (q8, .inl (T 0, 4, .inl (upd (upd (upd (upd (fun _ => 0) 0 8) 1 5) 2 3) 3 1)))] H → va_D A [q_mc mo th nb nj len mw me mf mn, q_fa T mf (q_upto b (dEnd G nb) G), q_ia T mn 4 (upd nu 2 0), (q8, .inl (T 0, 4, .inl (upd (upd (upd (upd (fun _ => 0) 0 8) 1 5) 2 3) 3 1)))] → va_S A s.heap H locs → lv_has ls 3 [(0, .ref mo), (1, .ref q8), (2, .int (nI b))] → W p l e rmX4_finish s m args below meth c H locs (0 + 1) (0 + 4) (q_E below D (q_ty T) (q_is none [q_mc mo th nb nj len mw me mf mn, q_fa T mf (q_upto nb (dEnd G nb) G), q_ia T mn 4 (upd nu 2 0)]) A args s rmX4_finish) (F0 m 30 ls []) := by
    intro f9
    induction f9 with
    | zero => intro b h9a h9b; exact absurd h9a (by omega)
    | succ f9 ih30 =>
      intro b h9a h9b   H locs ls hP hD hS hl
      refine lv_iload_n hx hb dX4_finish_30 rfl (lv_at hl 2 rfl) ?_
      refine lv_aload_n hx hb dX4_finish_31 rfl (lv_at hl 0 rfl) ?_
      refine va_get (D := D) (ci := 5) (v := .int (nI nb)) (C := RX4) (T := TX4) (N := 8) hx hb hts iX4 hown hK hP 0 rfl rfl 1 (by decide) (hts (.fieldLink RX4 29 "ToyRegattaModel" "boats" "I") (by decide +kernel)) (fun _ h9 => h9) rfl dX4_finish_32 ?_
      refine lv_icmp_ge (tgt := 79) hx hb dX4_finish_35 (by decide) (fun c_35 => ?_) (fun c_35 => ?_)
      · have h9d := (q_exit c_35 h9b (by omega)).symm
        subst h9d
        have hP : va_P D vwCl [q_mc mo th nb nj len mw me mf mn, q_fa T mf (q_upto nb (dEnd G nb) G), q_ia T mn 4 (upd nu 2 0)] H := hP.sub [0, 1, 2] rfl
        have hD : va_D A [q_mc mo th nb nj len mw me mf mn, q_fa T mf (q_upto nb (dEnd G nb) G), q_ia T mn 4 (upd nu 2 0)] := hD.sub [0, 1, 2] (by decide) rfl
        exact q_vret hx hb hr hlocks hP hK hD hS (Nat.le_of_ble_eq_true rfl) (Nat.le_of_ble_eq_true rfl) dX4_finish_79 ⟨rfl, rfl⟩
      · have h9d := q_goon c_35 (by omega)
        refine lv_aload_n hx hb dX4_finish_38 rfl (lv_at hl 0 rfl) ?_
        refine lv_iload_n hx hb dX4_finish_39 rfl (lv_at hl 2 rfl) ?_
        refine lv_bipush (v := 9) hx hb dX4_finish_40 (by decide) ?_
        refine q_callV (As := [.int (nI b), .int 9]) (rs := []) hC (c_X4_bo l D T mo mw me mf mn nb nj th len (q_upto b (dEnd G nb) G) b 9 (G b) (by omega) (by omega) (q_upto_at b (dEnd G nb) G)) q_no_st q_no_at (cwV 2 hts gX4_finish_X4_bo rfl rfl rfl (by decide +kernel) ⟨Nat.le_of_ble_eq_true rfl, Nat.le_of_ble_eq_true rfl⟩) (va_recv hK hP (ci := 5) (q0 := 0) rfl rfl) hK hP hD hS hA (q_mask [true, true, false, false] _) rfl hl.1 rfl (Nat.le_of_ble_eq_true rfl) dX4_finish_42 ⟨(Nat.le_of_ble_eq_true rfl), (Nat.le_of_ble_eq_true rfl)⟩ (fun v9 C9 H locs hp hP hD hS => ?_)
        obtain ⟨rfl, rfl⟩ := hp
        have hP : va_P D vwCl [q_mc mo th nb nj len mw me mf mn, q_fa T mf (q_upto b (dEnd G nb) G), q_ia T mn 4 (upd nu 2 0), (q8, .inl (T 0, 4, .inl (upd (upd (upd (upd (fun _ => 0) 0 8) 1 5) 2 3) 3 1)))] H := q_P_perm (q_mrg_perm [true, true, false, false] _ _) hP
        have hD : va_D A [q_mc mo th nb nj len mw me mf mn, q_fa T mf (q_upto b (dEnd G nb) G), q_ia T mn 4 (upd nu 2 0), (q8, .inl (T 0, 4, .inl (upd (upd (upd (upd (fun _ => 0) 0 8) 1 5) 2 3) 3 1)))] := q_D_perm (q_mrg_perm [true, true, false, false] _ _) hD
        refine lv_iconst (v := 2) hx hb dX4_finish_45 (by decide) ?_
        refine lv_icmp_ne (tgt := 73) hx hb dX4_finish_46 (by decide) (fun c_46 => ?_) (fun c_46 => ?_)
        · refine lv_iinc (v := (nI (b + 1))) (lv' := [(2, .int (nI (b + 1))), (0, .ref mo), (1, .ref q8)]) hx hb dX4_finish_73 hl (k := 2) rfl (nI_1 b) (by decide) rfl (fun ls hl => ?_)
          refine lv_goto (tgt := 30) hx hb dX4_finish_76 (by decide) ?_
          have e8 : (dEnd G nb) b = (G b) := by simp only [dEnd, if_neg c_46] <;> rfl
          have hP : va_P D vwCl [q_mc mo th nb nj len mw me mf mn, q_fa T mf (q_upto (b + 1) (dEnd G nb) G), q_ia T mn 4 (upd nu 2 0), (q8, .inl (T 0, 4, .inl (upd (upd (upd (upd (fun _ => 0) 0 8) 1 5) 2 3) 3 1)))] H := by rw [show q_upto (b + 1) (dEnd G nb) G = (q_upto b (dEnd G nb) G) from by rw [← q_upto_s, e8]; exact q_up_id_at (q_upto_at b (dEnd G nb) G)]; exact hP
          have hD : va_D A [q_mc mo th nb nj len mw me mf mn, q_fa T mf (q_upto (b + 1) (dEnd G nb) G), q_ia T mn 4 (upd nu 2 0), (q8, .inl (T 0, 4, .inl (upd (upd (upd (upd (fun _ => 0) 0 8) 1 5) 2 3) 3 1)))] := by rw [show q_upto (b + 1) (dEnd G nb) G = (q_upto b (dEnd G nb) G) from by rw [← q_upto_s, e8]; exact q_up_id_at (q_upto_at b (dEnd G nb) G)]; exact hD
          exact ih30 (b + 1) (by omega) (by omega)   _ _ ls hP hD hS (lv_sub hl [1, 2, 0] rfl)
        · refine lv_aload_n hx hb dX4_finish_49 rfl (lv_at hl 0 rfl) ?_
          refine lv_iload_n hx hb dX4_finish_50 rfl (lv_at hl 2 rfl) ?_
          refine lv_iconst (v := 3) hx hb dX4_finish_51 (by decide) ?_
          refine lv_aload_n hx hb dX4_finish_52 rfl (lv_at hl 0 rfl) ?_
          refine lv_iload_n hx hb dX4_finish_53 rfl (lv_at hl 2 rfl) ?_
          refine lv_iconst (v := 3) hx hb dX4_finish_54 (by decide) ?_
          refine q_callV (As := [.int (nI b), .int 3]) (rs := [.int 3, .int (nI b), .ref mo]) hC (c_X4_bo l D T mo mw me mf mn nb nj th len (q_upto b (dEnd G nb) G) b 3 (G b) (by omega) (by omega) (q_upto_at b (dEnd G nb) G)) q_no_st q_no_at (cwV 2 hts gX4_finish_X4_bo rfl rfl rfl (by decide +kernel) ⟨Nat.le_of_ble_eq_true rfl, Nat.le_of_ble_eq_true rfl⟩) (va_recv hK hP (ci := 5) (q0 := 0) rfl rfl) hK hP hD hS hA (q_mask [true, true, false, false] _) rfl hl.1 rfl (Nat.le_of_ble_eq_true rfl) dX4_finish_55 ⟨(Nat.le_of_ble_eq_true rfl), (Nat.le_of_ble_eq_true rfl)⟩ (fun v9 C9 H locs hp hP hD hS => ?_)
          obtain ⟨rfl, rfl⟩ := hp
          have hP : va_P D vwCl [q_mc mo th nb nj len mw me mf mn, q_fa T mf (q_upto b (dEnd G nb) G), q_ia T mn 4 (upd nu 2 0), (q8, .inl (T 0, 4, .inl (upd (upd (upd (upd (fun _ => 0) 0 8) 1 5) 2 3) 3 1)))] H := q_P_perm (q_mrg_perm [true, true, false, false] _ _) hP
          have hD : va_D A [q_mc mo th nb nj len mw me mf mn, q_fa T mf (q_upto b (dEnd G nb) G), q_ia T mn 4 (upd nu 2 0), (q8, .inl (T 0, 4, .inl (upd (upd (upd (upd (fun _ => 0) 0 8) 1 5) 2 3) 3 1)))] := q_D_perm (q_mrg_perm [true, true, false, false] _ _) hD
          refine lv_aload_n hx hb dX4_finish_58 rfl (lv_at hl 1 rfl) ?_
          refine lv_iconst (v := 3) hx hb dX4_finish_59 (by decide) ?_
          refine lv_aload_n hx hb dX4_finish_60 rfl (lv_at hl 0 rfl) ?_
          refine lv_iload_n hx hb dX4_finish_61 rfl (lv_at hl 2 rfl) ?_
          refine q_callV (As := [.int (nI b)]) (rs := [.int 3, .ref q8, .int ((G b) 3), .int 3, .int (nI b), .ref mo]) hC (c_X4_placeOf l D T mo mw me mf mn nb nj th len (q_upto b (dEnd G nb) G) b h9d hn) q_no_st q_no_at (cwV 1 hts gX4_finish_X4_placeOf rfl rfl rfl (by decide +kernel) ⟨Nat.le_of_ble_eq_true rfl, Nat.le_of_ble_eq_true rfl⟩) (va_recv hK hP (ci := 5) (q0 := 0) rfl rfl) hK hP hD hS hA (q_mask [true, true, false, false] _) rfl hl.1 rfl (Nat.le_of_ble_eq_true rfl) dX4_finish_62 ⟨(Nat.le_of_ble_eq_true rfl), (Nat.le_of_ble_eq_true rfl)⟩ (fun v9 C9 H locs hp hP hD hS => ?_)
          obtain ⟨rfl, rfl⟩ := hp
          have hP : va_P D vwCl [q_mc mo th nb nj len mw me mf mn, q_fa T mf (q_upto b (dEnd G nb) G), q_ia T mn 4 (upd nu 2 0), (q8, .inl (T 0, 4, .inl (upd (upd (upd (upd (fun _ => 0) 0 8) 1 5) 2 3) 3 1)))] H := q_P_perm (q_mrg_perm [true, true, false, false] _ _) hP
          have hD : va_D A [q_mc mo th nb nj len mw me mf mn, q_fa T mf (q_upto b (dEnd G nb) G), q_ia T mn 4 (upd nu 2 0), (q8, .inl (T 0, 4, .inl (upd (upd (upd (upd (fun _ => 0) 0 8) 1 5) 2 3) 3 1)))] := q_D_perm (q_mrg_perm [true, true, false, false] _ _) hD
          obtain ⟨m9, hm9, em9⟩ := q_sum01 (dAh01 G b) nb
          have em9 : dRank G nb b = nI m9 := em9
          have h9g : (if m9 < 3 then m9 else 3) < 4 := by split <;> omega
          refine W.eq (g2 := F0 m 65 ls [.int (nI m9), .int 3, .ref q8, .int ((G b) 3), .int 3, .int (nI b), .ref mo]) (by rw [dEnd_rank, em9] <;> rfl) ?_
          refine va_mmin hx hb (hml.trans hl.1.symm) hown (hts (.methodLink RX4 73 Lib.Math.min.name) (by decide +kernel)) (hts (.static Lib.Math.min.name) (by decide +kernel)) (hts (.initialized "java/lang/Math") (by decide +kernel)) (hts (.code Lib.Math.min.name Lib.Math.min.code 2 (some .int)) (by decide +kernel)) (Nat.le_of_ble_eq_true rfl) (Nat.le_of_ble_eq_true rfl) (Nat.le_of_ble_eq_true rfl) (Nat.le_of_ble_eq_true rfl) dX4_finish_65 ?_
          refine W.eq (g2 := F0 m 68 ls [.int (nI (if m9 < 3 then m9 else 3)), .ref q8, .int ((G b) 3), .int 3, .int (nI b), .ref mo]) (by rw [q_min3 (by omega)] <;> rfl) ?_
          refine va_iald (D := D) hx hb hK hP 3 0 rfl rfl (vp_in_nI h9g (by omega)) dX4_finish_68 ?_
          rw [show ((nI (if m9 < 3 then m9 else 3)) : Int32).toNatClampNeg = (if m9 < 3 then m9 else 3) from (nI_clamp (by omega))]
          refine W.eq (g2 := F0 m 69 ls [.int (bPts (dRank G nb b)), .int ((G b) 3), .int 3, .int (nI b), .ref mo]) (by rw [em9, ← q_gv_at (show m9 ≤ 8 by omega)] <;> rfl) ?_
          refine lv_iadd hx hb dX4_finish_69 ?_
          refine q_callV (As := [.int (nI b), .int 3, .int (((G b) 3) + (bPts (dRank G nb b)))]) (rs := []) hC (c_X4_put l D T mo mw me mf mn nb nj th len (q_upto b (dEnd G nb) G) (va_up (q_upto b (dEnd G nb) G) b (upd (G b) 3 (((G b) 3) + (bPts (dRank G nb b))))) b 3 (((G b) 3) + (bPts (dRank G nb b))) (G b) (by omega) (by omega) (q_upto_at b (dEnd G nb) G) rfl) q_no_st q_no_at (cwV 3 hts gX4_finish_X4_put rfl rfl rfl (by decide +kernel) ⟨Nat.le_of_ble_eq_true rfl, Nat.le_of_ble_eq_true rfl⟩) (va_recv hK hP (ci := 5) (q0 := 0) rfl rfl) hK hP hD hS hA (q_mask [true, true, false, false] _) rfl hl.1 rfl (Nat.le_of_ble_eq_true rfl) dX4_finish_70 ⟨(Nat.le_of_ble_eq_true rfl), (Nat.le_of_ble_eq_true rfl)⟩ (fun v9 C9 H locs hp hP hD hS => ?_)
          obtain ⟨rfl, rfl⟩ := hp
          have hP : va_P D vwCl [q_mc mo th nb nj len mw me mf mn, q_fa T mf (va_up (q_upto b (dEnd G nb) G) b (upd (G b) 3 (((G b) 3) + (bPts (dRank G nb b))))), q_ia T mn 4 (upd nu 2 0), (q8, .inl (T 0, 4, .inl (upd (upd (upd (upd (fun _ => 0) 0 8) 1 5) 2 3) 3 1)))] H := q_P_perm (q_mrg_perm [true, true, false, false] _ _) hP
          have hD : va_D A [q_mc mo th nb nj len mw me mf mn, q_fa T mf (va_up (q_upto b (dEnd G nb) G) b (upd (G b) 3 (((G b) 3) + (bPts (dRank G nb b))))), q_ia T mn 4 (upd nu 2 0), (q8, .inl (T 0, 4, .inl (upd (upd (upd (upd (fun _ => 0) 0 8) 1 5) 2 3) 3 1)))] := q_D_perm (q_mrg_perm [true, true, false, false] _ _) hD
          refine lv_iinc (v := (nI (b + 1))) (lv' := [(2, .int (nI (b + 1))), (0, .ref mo), (1, .ref q8)]) hx hb dX4_finish_73 hl (k := 2) rfl (nI_1 b) (by decide) rfl (fun ls hl => ?_)
          refine lv_goto (tgt := 30) hx hb dX4_finish_76 (by decide) ?_
          have e8 : (dEnd G nb) b = (upd (G b) 3 (((G b) 3) + (bPts (dRank G nb b)))) := by simp only [dEnd, if_pos c_46] <;> rfl
          have hP : va_P D vwCl [q_mc mo th nb nj len mw me mf mn, q_fa T mf (q_upto (b + 1) (dEnd G nb) G), q_ia T mn 4 (upd nu 2 0), (q8, .inl (T 0, 4, .inl (upd (upd (upd (upd (fun _ => 0) 0 8) 1 5) 2 3) 3 1)))] H := by rw [show q_upto (b + 1) (dEnd G nb) G = (va_up (q_upto b (dEnd G nb) G) b (upd (G b) 3 (((G b) 3) + (bPts (dRank G nb b))))) from by rw [← q_upto_s, e8]]; exact hP
          have hD : va_D A [q_mc mo th nb nj len mw me mf mn, q_fa T mf (q_upto (b + 1) (dEnd G nb) G), q_ia T mn 4 (upd nu 2 0), (q8, .inl (T 0, 4, .inl (upd (upd (upd (upd (fun _ => 0) 0 8) 1 5) 2 3) 3 1)))] := by rw [show q_upto (b + 1) (dEnd G nb) G = (va_up (q_upto b (dEnd G nb) G) b (upd (G b) 3 (((G b) 3) + (bPts (dRank G nb b))))) from by rw [← q_upto_s, e8]]; exact hD
          exact ih30 (b + 1) (by omega) (by omega)   _ _ ls hP hD hS (lv_sub hl [1, 2, 0] rfl)
  exact L30 (nb + 1) 0 (by omega) (by omega)   _ _ ls hP hD hS (lv_sub hl [2, 1, 0] rfl)

def rSails (G : Nat → Nat → Int32) (w : Int32) : Nat → Nat → Int32 := fun b => rSail (G b) w
def rWents (G : Nat → Nat → Int32) (w : Int32) : Nat → Int32 := fun b => rWent (G b) w
def rFl (P wv : Nat → Int32) (x : Int32) : Nat → Int32
  | 0 => 0
  | a + 1 => if rFl P wv x a = 0 then (if wv a = 0 then 0 else if P a = x then 1 else 0) else 1
theorem rFl_congr {P P' wv : Nat → Int32} {x : Int32} : ∀ {n : Nat}, (∀ a, a < n → P a = P' a) → rFl P wv x n = rFl P' wv x n
  | 0, _ => rfl
  | n + 1, h => by rw [rFl, rFl, rFl_congr (fun a ha => h a (by omega)), h n (by omega)]
def rFouls (G : Nat → Nat → Int32) (wv ey : Nat → Int32) (nj : Nat) : Nat → Nat → Int32 := fun b =>
  if wv b = 0 then G b else if rFl (fun a => G a 5) wv (G b 5) b = 0 then G b else if G b 5 ≤ 0 then G b else if rSee ey nj (G b 5) = 0 then G b else upd (G b) 7 (G b 7 + 1)
theorem rFouls_5 (G : Nat → Nat → Int32) (wv ey : Nat → Int32) (nj b : Nat) : rFouls G wv ey nj b 5 = G b 5 := by
  unfold rFouls
  split
  · rfl
  · split
    · rfl
    · split
      · rfl
      · split
        · rfl
        · simp [upd]
theorem rFl_upto (G : Nat → Nat → Int32) (wv ey : Nat → Int32) (nj b : Nat) (x : Int32) : rFl (fun a => q_upto b (rFouls G wv ey nj) G a 5) wv x b = rFl (fun a => G a 5) wv x b :=
  rFl_congr fun a ha => by
    show q_upto b (rFouls G wv ey nj) G a 5 = G a 5
    rw [q_upto_lt _ _ ha, rFouls_5]
def rG1 (G : Nat → Nat → Int32) (w : Int32) (nb : Nat) : Nat → Nat → Int32 := q_upto nb (rSails G w) G
def rWv (G : Nat → Nat → Int32) (w : Int32) (nb : Nat) : Nat → Int32 := q_upto nb (rWents G w) (fun _ => 0)
def rG2 (G : Nat → Nat → Int32) (w : Int32) (ey : Nat → Int32) (nj nb : Nat) : Nat → Nat → Int32 := q_upto nb (rFouls (rG1 G w nb) (rWv G w nb) ey nj) (rG1 G w nb)
def rRace (G : Nat → Nat → Int32) (w : Int32) (ey : Nat → Int32) (nj : Nat) (len t : Int32) (nb : Nat) : Nat → Nat → Int32 := q_upto nb (dInF (rG2 G w ey nj nb) len t) (rG2 G w ey nj nb)
theorem rWent01 (r : Nat → Int32) (w : Int32) : rWent r w = 0 ∨ rWent r w = 1 := by
  unfold rWent
  split
  · split
    · split
      · exact Or.inl rfl
      · exact Or.inr rfl
    · exact Or.inl rfl
  · exact Or.inl rfl
theorem q_nar01 {x : Int32} (h : x = 0 ∨ x = 1) : vp_nar .boolean x = x := by rcases h with rfl | rfl <;> rfl
theorem q_upto_su {i : Nat} {g F : Nat → Int32} : upd (q_upto i g F) i (g i) = q_upto (i + 1) g F := q_upto_s i g F

abbrev rmX4_raceOn : Room := { frames := 4, cells := 1, slots := 8, locals := 87 }
set_option maxHeartbeats 4000000 in
set_option maxRecDepth 100000 in
theorem c_X4_raceOn (l : Launch) (D : va_G) (T : Nat → ClassId) (mo mw me mf mn nb nj : Nat) (th len : Int32) (G : Nat → Nat → Int32) (wf ey nu : Nat → Int32) (mk : Nat) (hm : nu 0 = nI mk) (hmk : mk < 2 ^ 31) (hn : nb ≤ 8) (hj : nj ≤ 3) (hz : ∀ b, b < nb → 0 < 2 + G b 0 + G b 2 / 2) : q_M l D (q_ty T) yX4_raceOn wsX4_raceOn rmX4_raceOn [.ref mo] [q_mc mo th nb nj len mw me mf mn, q_ia T mw 10 wf, q_ia T me 3 ey, q_fa T mf G, q_ia T mn 4 nu] q_no (q_is none [q_mc mo th nb nj len mw me mf mn, q_ia T mw 10 wf, q_ia T me 3 ey, q_fa T mf (rRace G (wf (mk % 10)) ey nj len (nu 3 + 1) nb), q_ia T mn 4 (upd nu 3 (nu 3 + 1))]) := by
  refine q_start (cc := cX4_raceOn) (maxL := 5) (ret := none) (by decide) rfl (Nat.le_of_ble_eq_true rfl) ?_
  intro p e s m args below meth c A H locs hx hb hr hts hown hlocks hml hnm hP hK hD hS hA hG ls hl
  have hown : s.vm.findClass RX4 = some m.cls := hown
  have hC : CallFix p m c cX4_raceOn 5 s args wsX4_raceOn RX4 := ⟨hx, hb, hml, hown, hts⟩
  have iX4 : ∀ w ∈ wsX40, w ∈ wsX4_raceOn := by decide +kernel
  have hl : lv_has ls 5 [(0, .ref mo)] := hl
  refine lv_aload_n hx hb dX4_raceOn_0 rfl (lv_at hl 0 rfl) ?_
  refine va_get (D := D) (ci := 5) (v := .int (nI nb)) (C := RX4) (T := TX4) (N := 8) hx hb hts iX4 hown hK hP 0 rfl rfl 1 (by decide) (hts (.fieldLink RX4 29 "ToyRegattaModel" "boats" "I") (by decide +kernel)) (fun _ h9 => h9) rfl dX4_raceOn_1 ?_
  refine q_newaZ (N := nb) hx hb (hts (.arrayClass .boolean) (by decide +kernel)) hK hP hD hS hA (nI_pos (by omega)) (nI_clamp (by omega)) (by omega) (Nat.le_of_ble_eq_true rfl) (by show 0 + nb ≤ 8; omega) dX4_raceOn_4 (fun q4 H hP hD hS => ?_)
  have hP : va_P D vwCl [q_mc mo th nb nj len mw me mf mn, q_ia T mw 10 wf, q_ia T me 3 ey, q_fa T mf G, q_ia T mn 4 nu, (q4, .inl (T 2, nb, .inl (fun _ => 0)))] H := hP
  have hD : va_D A [q_mc mo th nb nj len mw me mf mn, q_ia T mw 10 wf, q_ia T me 3 ey, q_fa T mf G, q_ia T mn 4 nu, (q4, .inl (T 2, nb, .inl (fun _ => 0)))] := hD
  refine lv_astore_n (lv' := [(1, .ref q4), (0, .ref mo)]) hx hb dX4_raceOn_6 rfl hl (by decide) rfl (fun ls hl => ?_)
  refine lv_iconst (v := 0) hx hb dX4_raceOn_7 (by decide) ?_
  refine lv_istore_n (lv' := [(2, .int 0), (1, .ref q4), (0, .ref mo)]) hx hb dX4_raceOn_8 rfl hl (by decide) rfl (fun ls hl => ?_)
  have hP : va_P D vwCl [q_mc mo th nb nj len mw me mf mn, q_ia T mw 10 wf, q_ia T me 3 ey, q_fa T mf (q_upto 0 (rSails G (wf (mk % 10))) G), q_ia T mn 4 nu, (q4, .inl (T 2, nb, .inl (q_upto 0 (rWents G (wf (mk % 10))) (fun _ => 0))))] H := by rw [q_upto_0, q_upto_0]; exact hP
  have hD : va_D A [q_mc mo th nb nj len mw me mf mn, q_ia T mw 10 wf, q_ia T me 3 ey, q_fa T mf (q_upto 0 (rSails G (wf (mk % 10))) G), q_ia T mn 4 nu, (q4, .inl (T 2, nb, .inl (q_upto 0 (rWents G (wf (mk % 10))) (fun _ => 0))))] := by rw [q_upto_0, q_upto_0]; exact hD
  have L9 : ∀ (f9 b : Nat) (h9a : nb < b + f9) (h9b : b ≤ nb) (H : Heap) (locs : List Loc) (ls : Array Slot), va_P D vwCl [q_mc mo th nb nj len mw me mf mn, q_ia T mw 10 wf, q_ia T me 3 ey, q_fa T mf (q_upto b (rSails G (wf (mk % 10))) G), q_ia T mn 4 nu, (q4, .inl (T 2, nb, .inl (q_upto b (rWents G (wf (mk % 10))) (fun _ => 0))))] H → va_D A [q_mc mo th nb nj len mw me mf mn, q_ia T mw 10 wf, q_ia T me 3 ey, q_fa T mf (q_upto b (rSails G (wf (mk % 10))) G), q_ia T mn 4 nu, (q4, .inl (T 2, nb, .inl (q_upto b (rWents G (wf (mk % 10))) (fun _ => 0))))] → va_S A s.heap H locs → lv_has ls 5 [(0, .ref mo), (1, .ref q4), (2, .int (nI b))] → W p l e rmX4_raceOn s m args below meth c H locs (0 + 1) (0 + nb) (q_E below D (q_ty T) (q_is none [q_mc mo th nb nj len mw me mf mn, q_ia T mw 10 wf, q_ia T me 3 ey, q_fa T mf (rRace G (wf (mk % 10)) ey nj len (nu 3 + 1) nb), q_ia T mn 4 (upd nu 3 (nu 3 + 1))]) A args s rmX4_raceOn) (F0 m 9 ls []) := by
    intro f9
    induction f9 with
    | zero => intro b h9a h9b; exact absurd h9a (by omega)
    | succ f9 ih9 =>
      intro b h9a h9b   H locs ls hP hD hS hl
      refine lv_iload_n hx hb dX4_raceOn_9 rfl (lv_at hl 2 rfl) ?_
      refine lv_aload_n hx hb dX4_raceOn_10 rfl (lv_at hl 0 rfl) ?_
      refine va_get (D := D) (ci := 5) (v := .int (nI nb)) (C := RX4) (T := TX4) (N := 8) hx hb hts iX4 hown hK hP 0 rfl rfl 1 (by decide) (hts (.fieldLink RX4 29 "ToyRegattaModel" "boats" "I") (by decide +kernel)) (fun _ h9 => h9) rfl dX4_raceOn_11 ?_
      refine lv_icmp_ge (tgt := 31) hx hb dX4_raceOn_14 (by decide) (fun c_14 => ?_) (fun c_14 => ?_)
      · have h9d := (q_exit c_14 h9b (by omega)).symm
        subst h9d
        have hP : va_P D vwCl [q_mc mo th nb nj len mw me mf mn, q_ia T mw 10 wf, q_ia T me 3 ey, q_fa T mf (rG1 G (wf (mk % 10)) nb), q_ia T mn 4 nu, (q4, .inl (T 2, nb, .inl (rWv G (wf (mk % 10)) nb)))] H := hP
        have hD : va_D A [q_mc mo th nb nj len mw me mf mn, q_ia T mw 10 wf, q_ia T me 3 ey, q_fa T mf (rG1 G (wf (mk % 10)) nb), q_ia T mn 4 nu, (q4, .inl (T 2, nb, .inl (rWv G (wf (mk % 10)) nb)))] := hD
        refine lv_iconst (v := 0) hx hb dX4_raceOn_31 (by decide) ?_
        refine lv_istore_n (lv' := [(2, .int 0), (0, .ref mo), (1, .ref q4)]) hx hb dX4_raceOn_32 rfl hl (by decide) rfl (fun ls hl => ?_)
        have hP : va_P D vwCl [q_mc mo th nb nj len mw me mf mn, q_ia T mw 10 wf, q_ia T me 3 ey, q_fa T mf (q_upto 0 (rFouls (rG1 G (wf (mk % 10)) nb) (rWv G (wf (mk % 10)) nb) ey nj) (rG1 G (wf (mk % 10)) nb)), q_ia T mn 4 nu, (q4, .inl (T 2, nb, .inl (rWv G (wf (mk % 10)) nb)))] H := by rw [q_upto_0]; exact hP
        have hD : va_D A [q_mc mo th nb nj len mw me mf mn, q_ia T mw 10 wf, q_ia T me 3 ey, q_fa T mf (q_upto 0 (rFouls (rG1 G (wf (mk % 10)) nb) (rWv G (wf (mk % 10)) nb) ey nj) (rG1 G (wf (mk % 10)) nb)), q_ia T mn 4 nu, (q4, .inl (T 2, nb, .inl (rWv G (wf (mk % 10)) nb)))] := by rw [q_upto_0]; exact hD
        have L33 : ∀ (f9 b : Nat) (h9a : nb < b + f9) (h9b : b ≤ nb) (H : Heap) (locs : List Loc) (ls : Array Slot), va_P D vwCl [q_mc mo th nb nj len mw me mf mn, q_ia T mw 10 wf, q_ia T me 3 ey, q_fa T mf (q_upto b (rFouls (rG1 G (wf (mk % 10)) nb) (rWv G (wf (mk % 10)) nb) ey nj) (rG1 G (wf (mk % 10)) nb)), q_ia T mn 4 nu, (q4, .inl (T 2, nb, .inl (rWv G (wf (mk % 10)) nb)))] H → va_D A [q_mc mo th nb nj len mw me mf mn, q_ia T mw 10 wf, q_ia T me 3 ey, q_fa T mf (q_upto b (rFouls (rG1 G (wf (mk % 10)) nb) (rWv G (wf (mk % 10)) nb) ey nj) (rG1 G (wf (mk % 10)) nb)), q_ia T mn 4 nu, (q4, .inl (T 2, nb, .inl (rWv G (wf (mk % 10)) nb)))] → va_S A s.heap H locs → lv_has ls 5 [(0, .ref mo), (1, .ref q4), (2, .int (nI b))] → W p l e rmX4_raceOn s m args below meth c H locs (0 + 1) (0 + nb) (q_E below D (q_ty T) (q_is none [q_mc mo th nb nj len mw me mf mn, q_ia T mw 10 wf, q_ia T me 3 ey, q_fa T mf (rRace G (wf (mk % 10)) ey nj len (nu 3 + 1) nb), q_ia T mn 4 (upd nu 3 (nu 3 + 1))]) A args s rmX4_raceOn) (F0 m 33 ls []) := by
          intro f9
          induction f9 with
          | zero => intro b h9a h9b; exact absurd h9a (by omega)
          | succ f9 ih33 =>
            intro b h9a h9b   H locs ls hP hD hS hl
            refine lv_iload_n hx hb dX4_raceOn_33 rfl (lv_at hl 2 rfl) ?_
            refine lv_aload_n hx hb dX4_raceOn_34 rfl (lv_at hl 0 rfl) ?_
            refine va_get (D := D) (ci := 5) (v := .int (nI nb)) (C := RX4) (T := TX4) (N := 8) hx hb hts iX4 hown hK hP 0 rfl rfl 1 (by decide) (hts (.fieldLink RX4 29 "ToyRegattaModel" "boats" "I") (by decide +kernel)) (fun _ h9 => h9) rfl dX4_raceOn_35 ?_
            refine lv_icmp_ge (tgt := 145) hx hb dX4_raceOn_38 (by decide) (fun c_38 => ?_) (fun c_38 => ?_)
            · have h9d := (q_exit c_38 h9b (by omega)).symm
              subst h9d
              have hP : va_P D vwCl [q_mc mo th nb nj len mw me mf mn, q_ia T mw 10 wf, q_ia T me 3 ey, q_fa T mf (rG2 G (wf (mk % 10)) ey nj nb), q_ia T mn 4 nu] H := hP.sub [0, 1, 2, 3, 4] rfl
              have hD : va_D A [q_mc mo th nb nj len mw me mf mn, q_ia T mw 10 wf, q_ia T me 3 ey, q_fa T mf (rG2 G (wf (mk % 10)) ey nj nb), q_ia T mn 4 nu] := hD.sub [0, 1, 2, 3, 4] (by decide) rfl
              refine lv_aload_n hx hb dX4_raceOn_145 rfl (lv_at hl 0 rfl) ?_
              refine va_get (D := D) (ci := 5) (v := .ref mn) (C := RX4) (T := TX4) (N := 8) hx hb hts iX4 hown hK hP 0 rfl rfl 7 (by decide) (hts (.fieldLink RX4 23 "ToyRegattaModel" "numbers" "[I") (by decide +kernel)) (fun _ h9 => h9) rfl dX4_raceOn_146 ?_
              refine lv_iconst (v := 3) hx hb dX4_raceOn_149 (by decide) ?_
              refine lv_dup2_11 hx hb dX4_raceOn_150 rfl rfl ?_
              refine va_iald (D := D) hx hb hK hP 4 0 rfl rfl (by unfold vp_in; decide) dX4_raceOn_151 ?_
              rw [show (3 : Int32).toNatClampNeg = 3 from (by decide)]
              refine lv_iconst (v := 1) hx hb dX4_raceOn_152 (by decide) ?_
              refine lv_iadd hx hb dX4_raceOn_153 ?_
              refine va_iast (D := D) hx hb hK hP hD hS 4 0 rfl rfl (by unfold vp_in; decide) dX4_raceOn_154 (fun H locs hP hD hS => ?_)
              rw [show (3 : Int32).toNatClampNeg = 3 from (by decide)] at hP hD
              have hP : va_P D vwCl [q_mc mo th nb nj len mw me mf mn, q_ia T mw 10 wf, q_ia T me 3 ey, q_fa T mf (rG2 G (wf (mk % 10)) ey nj nb), q_ia T mn 4 (upd nu 3 ((nu 3) + 1))] H := hP
              have hD : va_D A [q_mc mo th nb nj len mw me mf mn, q_ia T mw 10 wf, q_ia T me 3 ey, q_fa T mf (rG2 G (wf (mk % 10)) ey nj nb), q_ia T mn 4 (upd nu 3 ((nu 3) + 1))] := hD
              refine lv_iconst (v := 0) hx hb dX4_raceOn_155 (by decide) ?_
              refine lv_istore_n (lv' := [(2, .int 0), (0, .ref mo), (1, .ref q4)]) hx hb dX4_raceOn_156 rfl hl (by decide) rfl (fun ls hl => ?_)
              have hP : va_P D vwCl [q_mc mo th nb nj len mw me mf mn, q_ia T mw 10 wf, q_ia T me 3 ey, q_fa T mf (q_upto 0 (dInF (rG2 G (wf (mk % 10)) ey nj nb) len (nu 3 + 1)) (rG2 G (wf (mk % 10)) ey nj nb)), q_ia T mn 4 (upd nu 3 ((nu 3) + 1))] H := by rw [q_upto_0]; exact hP
              have hD : va_D A [q_mc mo th nb nj len mw me mf mn, q_ia T mw 10 wf, q_ia T me 3 ey, q_fa T mf (q_upto 0 (dInF (rG2 G (wf (mk % 10)) ey nj nb) len (nu 3 + 1)) (rG2 G (wf (mk % 10)) ey nj nb)), q_ia T mn 4 (upd nu 3 ((nu 3) + 1))] := by rw [q_upto_0]; exact hD
              have L157 : ∀ (f9 b : Nat) (h9a : nb < b + f9) (h9b : b ≤ nb) (H : Heap) (locs : List Loc) (ls : Array Slot), va_P D vwCl [q_mc mo th nb nj len mw me mf mn, q_ia T mw 10 wf, q_ia T me 3 ey, q_fa T mf (q_upto b (dInF (rG2 G (wf (mk % 10)) ey nj nb) len (nu 3 + 1)) (rG2 G (wf (mk % 10)) ey nj nb)), q_ia T mn 4 (upd nu 3 ((nu 3) + 1))] H → va_D A [q_mc mo th nb nj len mw me mf mn, q_ia T mw 10 wf, q_ia T me 3 ey, q_fa T mf (q_upto b (dInF (rG2 G (wf (mk % 10)) ey nj nb) len (nu 3 + 1)) (rG2 G (wf (mk % 10)) ey nj nb)), q_ia T mn 4 (upd nu 3 ((nu 3) + 1))] → va_S A s.heap H locs → lv_has ls 5 [(0, .ref mo), (2, .int (nI b))] → W p l e rmX4_raceOn s m args below meth c H locs (0 + 1) (0 + nb) (q_E below D (q_ty T) (q_is none [q_mc mo th nb nj len mw me mf mn, q_ia T mw 10 wf, q_ia T me 3 ey, q_fa T mf (rRace G (wf (mk % 10)) ey nj len (nu 3 + 1) nb), q_ia T mn 4 (upd nu 3 (nu 3 + 1))]) A args s rmX4_raceOn) (F0 m 157 ls []) := by
                intro f9
                induction f9 with
                | zero => intro b h9a h9b; exact absurd h9a (by omega)
                | succ f9 ih157 =>
                  intro b h9a h9b   H locs ls hP hD hS hl
                  refine lv_iload_n hx hb dX4_raceOn_157 rfl (lv_at hl 1 rfl) ?_
                  refine lv_aload_n hx hb dX4_raceOn_158 rfl (lv_at hl 0 rfl) ?_
                  refine va_get (D := D) (ci := 5) (v := .int (nI nb)) (C := RX4) (T := TX4) (N := 8) hx hb hts iX4 hown hK hP 0 rfl rfl 1 (by decide) (hts (.fieldLink RX4 29 "ToyRegattaModel" "boats" "I") (by decide +kernel)) (fun _ h9 => h9) rfl dX4_raceOn_159 ?_
                  refine lv_icmp_ge (tgt := 219) hx hb dX4_raceOn_162 (by decide) (fun c_162 => ?_) (fun c_162 => ?_)
                  · have h9d := (q_exit c_162 h9b (by omega)).symm
                    subst h9d
                    exact q_vret hx hb hr hlocks hP hK hD hS (Nat.le_of_ble_eq_true rfl) (by show (0 + nb) ≤ 8; omega) dX4_raceOn_219 ⟨rfl, rfl⟩
                  · have h9d := q_goon c_162 (by omega)
                    refine lv_aload_n hx hb dX4_raceOn_165 rfl (lv_at hl 0 rfl) ?_
                    refine lv_iload_n hx hb dX4_raceOn_166 rfl (lv_at hl 1 rfl) ?_
                    refine lv_bipush (v := 9) hx hb dX4_raceOn_167 (by decide) ?_
                    refine q_callV (As := [.int (nI b), .int 9]) (rs := []) hC (c_X4_bo l D T mo mw me mf mn nb nj th len (q_upto b (dInF (rG2 G (wf (mk % 10)) ey nj nb) len (nu 3 + 1)) (rG2 G (wf (mk % 10)) ey nj nb)) b 9 ((rG2 G (wf (mk % 10)) ey nj nb) b) (by omega) (by omega) (q_upto_at b (dInF (rG2 G (wf (mk % 10)) ey nj nb) len (nu 3 + 1)) (rG2 G (wf (mk % 10)) ey nj nb))) q_no_st q_no_at (cwV 2 hts gX4_raceOn_X4_bo rfl rfl rfl (by decide +kernel) ⟨Nat.le_of_ble_eq_true rfl, Nat.le_of_ble_eq_true rfl⟩) (va_recv hK hP (ci := 5) (q0 := 0) rfl rfl) hK hP hD hS hA (q_mask [true, false, false, true, false] _) rfl hl.1 rfl (Nat.le_of_ble_eq_true rfl) dX4_raceOn_169 ⟨(Nat.le_of_ble_eq_true rfl), (by show (0 + nb) + 0 ≤ 8; omega)⟩ (fun v9 C9 H locs hp hP hD hS => ?_)
                    obtain ⟨rfl, rfl⟩ := hp
                    have hP : va_P D vwCl [q_mc mo th nb nj len mw me mf mn, q_ia T mw 10 wf, q_ia T me 3 ey, q_fa T mf (q_upto b (dInF (rG2 G (wf (mk % 10)) ey nj nb) len (nu 3 + 1)) (rG2 G (wf (mk % 10)) ey nj nb)), q_ia T mn 4 (upd nu 3 ((nu 3) + 1))] H := q_P_perm (q_mrg_perm [true, false, false, true, false] _ _) hP
                    have hD : va_D A [q_mc mo th nb nj len mw me mf mn, q_ia T mw 10 wf, q_ia T me 3 ey, q_fa T mf (q_upto b (dInF (rG2 G (wf (mk % 10)) ey nj nb) len (nu 3 + 1)) (rG2 G (wf (mk % 10)) ey nj nb)), q_ia T mn 4 (upd nu 3 ((nu 3) + 1))] := q_D_perm (q_mrg_perm [true, false, false, true, false] _ _) hD
                    refine lv_iconst (v := 1) hx hb dX4_raceOn_172 (by decide) ?_
                    refine lv_icmp_ne (tgt := 213) hx hb dX4_raceOn_173 (by decide) (fun c_173 => ?_) (fun c_173 => ?_)
                    · refine lv_iinc (v := (nI (b + 1))) (lv' := [(2, .int (nI (b + 1))), (0, .ref mo)]) hx hb dX4_raceOn_213 hl (k := 1) rfl (nI_1 b) (by decide) rfl (fun ls hl => ?_)
                      refine lv_goto (tgt := 157) hx hb dX4_raceOn_216 (by decide) ?_
                      have e8 : (dInF (rG2 G (wf (mk % 10)) ey nj nb) len (nu 3 + 1)) b = ((rG2 G (wf (mk % 10)) ey nj nb) b) := by simp only [dInF, bIn, if_neg c_173] <;> rfl
                      have hP : va_P D vwCl [q_mc mo th nb nj len mw me mf mn, q_ia T mw 10 wf, q_ia T me 3 ey, q_fa T mf (q_upto (b + 1) (dInF (rG2 G (wf (mk % 10)) ey nj nb) len (nu 3 + 1)) (rG2 G (wf (mk % 10)) ey nj nb)), q_ia T mn 4 (upd nu 3 ((nu 3) + 1))] H := by rw [show q_upto (b + 1) (dInF (rG2 G (wf (mk % 10)) ey nj nb) len (nu 3 + 1)) (rG2 G (wf (mk % 10)) ey nj nb) = (q_upto b (dInF (rG2 G (wf (mk % 10)) ey nj nb) len (nu 3 + 1)) (rG2 G (wf (mk % 10)) ey nj nb)) from by rw [← q_upto_s, e8]; exact q_up_id_at (q_upto_at b (dInF (rG2 G (wf (mk % 10)) ey nj nb) len (nu 3 + 1)) (rG2 G (wf (mk % 10)) ey nj nb))]; exact hP
                      have hD : va_D A [q_mc mo th nb nj len mw me mf mn, q_ia T mw 10 wf, q_ia T me 3 ey, q_fa T mf (q_upto (b + 1) (dInF (rG2 G (wf (mk % 10)) ey nj nb) len (nu 3 + 1)) (rG2 G (wf (mk % 10)) ey nj nb)), q_ia T mn 4 (upd nu 3 ((nu 3) + 1))] := by rw [show q_upto (b + 1) (dInF (rG2 G (wf (mk % 10)) ey nj nb) len (nu 3 + 1)) (rG2 G (wf (mk % 10)) ey nj nb) = (q_upto b (dInF (rG2 G (wf (mk % 10)) ey nj nb) len (nu 3 + 1)) (rG2 G (wf (mk % 10)) ey nj nb)) from by rw [← q_upto_s, e8]; exact q_up_id_at (q_upto_at b (dInF (rG2 G (wf (mk % 10)) ey nj nb) len (nu 3 + 1)) (rG2 G (wf (mk % 10)) ey nj nb))]; exact hD
                      exact ih157 (b + 1) (by omega) (by omega)   _ _ ls hP hD hS (lv_sub hl [1, 0] rfl)
                    · refine lv_aload_n hx hb dX4_raceOn_176 rfl (lv_at hl 0 rfl) ?_
                      refine lv_iload_n hx hb dX4_raceOn_177 rfl (lv_at hl 1 rfl) ?_
                      refine lv_iconst (v := 5) hx hb dX4_raceOn_178 (by decide) ?_
                      refine q_callV (As := [.int (nI b), .int 5]) (rs := []) hC (c_X4_bo l D T mo mw me mf mn nb nj th len (q_upto b (dInF (rG2 G (wf (mk % 10)) ey nj nb) len (nu 3 + 1)) (rG2 G (wf (mk % 10)) ey nj nb)) b 5 ((rG2 G (wf (mk % 10)) ey nj nb) b) (by omega) (by omega) (q_upto_at b (dInF (rG2 G (wf (mk % 10)) ey nj nb) len (nu 3 + 1)) (rG2 G (wf (mk % 10)) ey nj nb))) q_no_st q_no_at (cwV 2 hts gX4_raceOn_X4_bo rfl rfl rfl (by decide +kernel) ⟨Nat.le_of_ble_eq_true rfl, Nat.le_of_ble_eq_true rfl⟩) (va_recv hK hP (ci := 5) (q0 := 0) rfl rfl) hK hP hD hS hA (q_mask [true, false, false, true, false] _) rfl hl.1 rfl (Nat.le_of_ble_eq_true rfl) dX4_raceOn_179 ⟨(Nat.le_of_ble_eq_true rfl), (by show (0 + nb) + 0 ≤ 8; omega)⟩ (fun v9 C9 H locs hp hP hD hS => ?_)
                      obtain ⟨rfl, rfl⟩ := hp
                      have hP : va_P D vwCl [q_mc mo th nb nj len mw me mf mn, q_ia T mw 10 wf, q_ia T me 3 ey, q_fa T mf (q_upto b (dInF (rG2 G (wf (mk % 10)) ey nj nb) len (nu 3 + 1)) (rG2 G (wf (mk % 10)) ey nj nb)), q_ia T mn 4 (upd nu 3 ((nu 3) + 1))] H := q_P_perm (q_mrg_perm [true, false, false, true, false] _ _) hP
                      have hD : va_D A [q_mc mo th nb nj len mw me mf mn, q_ia T mw 10 wf, q_ia T me 3 ey, q_fa T mf (q_upto b (dInF (rG2 G (wf (mk % 10)) ey nj nb) len (nu 3 + 1)) (rG2 G (wf (mk % 10)) ey nj nb)), q_ia T mn 4 (upd nu 3 ((nu 3) + 1))] := q_D_perm (q_mrg_perm [true, false, false, true, false] _ _) hD
                      refine lv_aload_n hx hb dX4_raceOn_182 rfl (lv_at hl 0 rfl) ?_
                      refine va_get (D := D) (ci := 5) (v := .int len) (C := RX4) (T := TX4) (N := 8) hx hb hts iX4 hown hK hP 0 rfl rfl 3 (by decide) (hts (.fieldLink RX4 7 "ToyRegattaModel" "length" "I") (by decide +kernel)) (fun _ h9 => h9) rfl dX4_raceOn_183 ?_
                      refine lv_icmp_ge (tgt := 192) hx hb dX4_raceOn_186 (by decide) (fun c_186 => ?_) (fun c_186 => ?_)
                      · refine lv_aload_n hx hb dX4_raceOn_192 rfl (lv_at hl 0 rfl) ?_
                        refine lv_iload_n hx hb dX4_raceOn_193 rfl (lv_at hl 1 rfl) ?_
                        refine lv_bipush (v := 9) hx hb dX4_raceOn_194 (by decide) ?_
                        refine lv_iconst (v := 2) hx hb dX4_raceOn_196 (by decide) ?_
                        refine q_callV (As := [.int (nI b), .int 9, .int 2]) (rs := []) hC (c_X4_put l D T mo mw me mf mn nb nj th len (q_upto b (dInF (rG2 G (wf (mk % 10)) ey nj nb) len (nu 3 + 1)) (rG2 G (wf (mk % 10)) ey nj nb)) (va_up (q_upto b (dInF (rG2 G (wf (mk % 10)) ey nj nb) len (nu 3 + 1)) (rG2 G (wf (mk % 10)) ey nj nb)) b (upd ((rG2 G (wf (mk % 10)) ey nj nb) b) 9 2)) b 9 2 ((rG2 G (wf (mk % 10)) ey nj nb) b) (by omega) (by omega) (q_upto_at b (dInF (rG2 G (wf (mk % 10)) ey nj nb) len (nu 3 + 1)) (rG2 G (wf (mk % 10)) ey nj nb)) rfl) q_no_st q_no_at (cwV 3 hts gX4_raceOn_X4_put rfl rfl rfl (by decide +kernel) ⟨Nat.le_of_ble_eq_true rfl, Nat.le_of_ble_eq_true rfl⟩) (va_recv hK hP (ci := 5) (q0 := 0) rfl rfl) hK hP hD hS hA (q_mask [true, false, false, true, false] _) rfl hl.1 rfl (Nat.le_of_ble_eq_true rfl) dX4_raceOn_197 ⟨(Nat.le_of_ble_eq_true rfl), (by show (0 + nb) + 0 ≤ 8; omega)⟩ (fun v9 C9 H locs hp hP hD hS => ?_)
                        obtain ⟨rfl, rfl⟩ := hp
                        have hP : va_P D vwCl [q_mc mo th nb nj len mw me mf mn, q_ia T mw 10 wf, q_ia T me 3 ey, q_fa T mf (va_up (q_upto b (dInF (rG2 G (wf (mk % 10)) ey nj nb) len (nu 3 + 1)) (rG2 G (wf (mk % 10)) ey nj nb)) b (upd ((rG2 G (wf (mk % 10)) ey nj nb) b) 9 2)), q_ia T mn 4 (upd nu 3 ((nu 3) + 1))] H := q_P_perm (q_mrg_perm [true, false, false, true, false] _ _) hP
                        have hD : va_D A [q_mc mo th nb nj len mw me mf mn, q_ia T mw 10 wf, q_ia T me 3 ey, q_fa T mf (va_up (q_upto b (dInF (rG2 G (wf (mk % 10)) ey nj nb) len (nu 3 + 1)) (rG2 G (wf (mk % 10)) ey nj nb)) b (upd ((rG2 G (wf (mk % 10)) ey nj nb) b) 9 2)), q_ia T mn 4 (upd nu 3 ((nu 3) + 1))] := q_D_perm (q_mrg_perm [true, false, false, true, false] _ _) hD
                        refine lv_aload_n hx hb dX4_raceOn_200 rfl (lv_at hl 0 rfl) ?_
                        refine lv_iload_n hx hb dX4_raceOn_201 rfl (lv_at hl 1 rfl) ?_
                        refine lv_bipush (v := 6) hx hb dX4_raceOn_202 (by decide) ?_
                        refine lv_aload_n hx hb dX4_raceOn_204 rfl (lv_at hl 0 rfl) ?_
                        refine va_get (D := D) (ci := 5) (v := .ref mn) (C := RX4) (T := TX4) (N := 8) hx hb hts iX4 hown hK hP 0 rfl rfl 7 (by decide) (hts (.fieldLink RX4 23 "ToyRegattaModel" "numbers" "[I") (by decide +kernel)) (fun _ h9 => h9) rfl dX4_raceOn_205 ?_
                        refine lv_iconst (v := 3) hx hb dX4_raceOn_208 (by decide) ?_
                        refine va_iald (D := D) hx hb hK hP 4 0 rfl rfl (by unfold vp_in; decide) dX4_raceOn_209 ?_
                        rw [show (3 : Int32).toNatClampNeg = 3 from (by decide)]
                        refine q_callV (As := [.int (nI b), .int 6, .int ((upd nu 3 ((nu 3) + 1)) 3)]) (rs := []) hC (c_X4_put l D T mo mw me mf mn nb nj th len (va_up (q_upto b (dInF (rG2 G (wf (mk % 10)) ey nj nb) len (nu 3 + 1)) (rG2 G (wf (mk % 10)) ey nj nb)) b (upd ((rG2 G (wf (mk % 10)) ey nj nb) b) 9 2)) (va_up (q_upto b (dInF (rG2 G (wf (mk % 10)) ey nj nb) len (nu 3 + 1)) (rG2 G (wf (mk % 10)) ey nj nb)) b (upd (upd ((rG2 G (wf (mk % 10)) ey nj nb) b) 9 2) 6 ((upd nu 3 ((nu 3) + 1)) 3))) b 6 ((upd nu 3 ((nu 3) + 1)) 3) (upd ((rG2 G (wf (mk % 10)) ey nj nb) b) 9 2) (by omega) (by omega) (va_up_self _ _ _) q_up_up) q_no_st q_no_at (cwV 3 hts gX4_raceOn_X4_put rfl rfl rfl (by decide +kernel) ⟨Nat.le_of_ble_eq_true rfl, Nat.le_of_ble_eq_true rfl⟩) (va_recv hK hP (ci := 5) (q0 := 0) rfl rfl) hK hP hD hS hA (q_mask [true, false, false, true, false] _) rfl hl.1 rfl (Nat.le_of_ble_eq_true rfl) dX4_raceOn_210 ⟨(Nat.le_of_ble_eq_true rfl), (by show (0 + nb) + 0 ≤ 8; omega)⟩ (fun v9 C9 H locs hp hP hD hS => ?_)
                        obtain ⟨rfl, rfl⟩ := hp
                        have hP : va_P D vwCl [q_mc mo th nb nj len mw me mf mn, q_ia T mw 10 wf, q_ia T me 3 ey, q_fa T mf (va_up (q_upto b (dInF (rG2 G (wf (mk % 10)) ey nj nb) len (nu 3 + 1)) (rG2 G (wf (mk % 10)) ey nj nb)) b (upd (upd ((rG2 G (wf (mk % 10)) ey nj nb) b) 9 2) 6 ((upd nu 3 ((nu 3) + 1)) 3))), q_ia T mn 4 (upd nu 3 ((nu 3) + 1))] H := q_P_perm (q_mrg_perm [true, false, false, true, false] _ _) hP
                        have hD : va_D A [q_mc mo th nb nj len mw me mf mn, q_ia T mw 10 wf, q_ia T me 3 ey, q_fa T mf (va_up (q_upto b (dInF (rG2 G (wf (mk % 10)) ey nj nb) len (nu 3 + 1)) (rG2 G (wf (mk % 10)) ey nj nb)) b (upd (upd ((rG2 G (wf (mk % 10)) ey nj nb) b) 9 2) 6 ((upd nu 3 ((nu 3) + 1)) 3))), q_ia T mn 4 (upd nu 3 ((nu 3) + 1))] := q_D_perm (q_mrg_perm [true, false, false, true, false] _ _) hD
                        refine lv_iinc (v := (nI (b + 1))) (lv' := [(2, .int (nI (b + 1))), (0, .ref mo)]) hx hb dX4_raceOn_213 hl (k := 1) rfl (nI_1 b) (by decide) rfl (fun ls hl => ?_)
                        refine lv_goto (tgt := 157) hx hb dX4_raceOn_216 (by decide) ?_
                        have e8 : (dInF (rG2 G (wf (mk % 10)) ey nj nb) len (nu 3 + 1)) b = (upd (upd ((rG2 G (wf (mk % 10)) ey nj nb) b) 9 2) 6 ((upd nu 3 ((nu 3) + 1)) 3)) := by simp only [dInF, bIn, if_pos c_173, if_pos c_186] <;> rfl
                        have hP : va_P D vwCl [q_mc mo th nb nj len mw me mf mn, q_ia T mw 10 wf, q_ia T me 3 ey, q_fa T mf (q_upto (b + 1) (dInF (rG2 G (wf (mk % 10)) ey nj nb) len (nu 3 + 1)) (rG2 G (wf (mk % 10)) ey nj nb)), q_ia T mn 4 (upd nu 3 ((nu 3) + 1))] H := by rw [show q_upto (b + 1) (dInF (rG2 G (wf (mk % 10)) ey nj nb) len (nu 3 + 1)) (rG2 G (wf (mk % 10)) ey nj nb) = (va_up (q_upto b (dInF (rG2 G (wf (mk % 10)) ey nj nb) len (nu 3 + 1)) (rG2 G (wf (mk % 10)) ey nj nb)) b (upd (upd ((rG2 G (wf (mk % 10)) ey nj nb) b) 9 2) 6 ((upd nu 3 ((nu 3) + 1)) 3))) from by rw [← q_upto_s, e8]]; exact hP
                        have hD : va_D A [q_mc mo th nb nj len mw me mf mn, q_ia T mw 10 wf, q_ia T me 3 ey, q_fa T mf (q_upto (b + 1) (dInF (rG2 G (wf (mk % 10)) ey nj nb) len (nu 3 + 1)) (rG2 G (wf (mk % 10)) ey nj nb)), q_ia T mn 4 (upd nu 3 ((nu 3) + 1))] := by rw [show q_upto (b + 1) (dInF (rG2 G (wf (mk % 10)) ey nj nb) len (nu 3 + 1)) (rG2 G (wf (mk % 10)) ey nj nb) = (va_up (q_upto b (dInF (rG2 G (wf (mk % 10)) ey nj nb) len (nu 3 + 1)) (rG2 G (wf (mk % 10)) ey nj nb)) b (upd (upd ((rG2 G (wf (mk % 10)) ey nj nb) b) 9 2) 6 ((upd nu 3 ((nu 3) + 1)) 3))) from by rw [← q_upto_s, e8]]; exact hD
                        exact ih157 (b + 1) (by omega) (by omega)   _ _ ls hP hD hS (lv_sub hl [1, 0] rfl)
                      · refine lv_goto (tgt := 213) hx hb dX4_raceOn_189 (by decide) ?_
                        refine lv_iinc (v := (nI (b + 1))) (lv' := [(2, .int (nI (b + 1))), (0, .ref mo)]) hx hb dX4_raceOn_213 hl (k := 1) rfl (nI_1 b) (by decide) rfl (fun ls hl => ?_)
                        refine lv_goto (tgt := 157) hx hb dX4_raceOn_216 (by decide) ?_
                        have e8 : (dInF (rG2 G (wf (mk % 10)) ey nj nb) len (nu 3 + 1)) b = ((rG2 G (wf (mk % 10)) ey nj nb) b) := by simp only [dInF, bIn, if_pos c_173, if_neg c_186] <;> rfl
                        have hP : va_P D vwCl [q_mc mo th nb nj len mw me mf mn, q_ia T mw 10 wf, q_ia T me 3 ey, q_fa T mf (q_upto (b + 1) (dInF (rG2 G (wf (mk % 10)) ey nj nb) len (nu 3 + 1)) (rG2 G (wf (mk % 10)) ey nj nb)), q_ia T mn 4 (upd nu 3 ((nu 3) + 1))] H := by rw [show q_upto (b + 1) (dInF (rG2 G (wf (mk % 10)) ey nj nb) len (nu 3 + 1)) (rG2 G (wf (mk % 10)) ey nj nb) = (q_upto b (dInF (rG2 G (wf (mk % 10)) ey nj nb) len (nu 3 + 1)) (rG2 G (wf (mk % 10)) ey nj nb)) from by rw [← q_upto_s, e8]; exact q_up_id_at (q_upto_at b (dInF (rG2 G (wf (mk % 10)) ey nj nb) len (nu 3 + 1)) (rG2 G (wf (mk % 10)) ey nj nb))]; exact hP
                        have hD : va_D A [q_mc mo th nb nj len mw me mf mn, q_ia T mw 10 wf, q_ia T me 3 ey, q_fa T mf (q_upto (b + 1) (dInF (rG2 G (wf (mk % 10)) ey nj nb) len (nu 3 + 1)) (rG2 G (wf (mk % 10)) ey nj nb)), q_ia T mn 4 (upd nu 3 ((nu 3) + 1))] := by rw [show q_upto (b + 1) (dInF (rG2 G (wf (mk % 10)) ey nj nb) len (nu 3 + 1)) (rG2 G (wf (mk % 10)) ey nj nb) = (q_upto b (dInF (rG2 G (wf (mk % 10)) ey nj nb) len (nu 3 + 1)) (rG2 G (wf (mk % 10)) ey nj nb)) from by rw [← q_upto_s, e8]; exact q_up_id_at (q_upto_at b (dInF (rG2 G (wf (mk % 10)) ey nj nb) len (nu 3 + 1)) (rG2 G (wf (mk % 10)) ey nj nb))]; exact hD
                        exact ih157 (b + 1) (by omega) (by omega)   _ _ ls hP hD hS (lv_sub hl [1, 0] rfl)
              exact L157 (nb + 1) 0 (by omega) (by omega)   _ _ ls hP hD hS (lv_sub hl [1, 0] rfl)
            · have h9d := q_goon c_38 (by omega)
              refine lv_iconst (v := 0) hx hb dX4_raceOn_41 (by decide) ?_
              refine lv_istore_n (lv' := [(3, .int 0), (0, .ref mo), (1, .ref q4), (2, .int (nI b))]) hx hb dX4_raceOn_42 rfl hl (by decide) rfl (fun ls hl => ?_)
              refine lv_iconst (v := 0) hx hb dX4_raceOn_43 (by decide) ?_
              refine lv_istore (lv' := [(4, .int 0), (3, .int 0), (0, .ref mo), (1, .ref q4), (2, .int (nI b))]) hx hb dX4_raceOn_44 hl (by decide) rfl (fun ls hl => ?_)
              have L46 : ∀ (f9 a : Nat) (h9a : b < a + f9) (h9b : a ≤ b) (H : Heap) (locs : List Loc) (ls : Array Slot), va_P D vwCl [q_mc mo th nb nj len mw me mf mn, q_ia T mw 10 wf, q_ia T me 3 ey, q_fa T mf (q_upto b (rFouls (rG1 G (wf (mk % 10)) nb) (rWv G (wf (mk % 10)) nb) ey nj) (rG1 G (wf (mk % 10)) nb)), q_ia T mn 4 nu, (q4, .inl (T 2, nb, .inl (rWv G (wf (mk % 10)) nb)))] H → va_D A [q_mc mo th nb nj len mw me mf mn, q_ia T mw 10 wf, q_ia T me 3 ey, q_fa T mf (q_upto b (rFouls (rG1 G (wf (mk % 10)) nb) (rWv G (wf (mk % 10)) nb) ey nj) (rG1 G (wf (mk % 10)) nb)), q_ia T mn 4 nu, (q4, .inl (T 2, nb, .inl (rWv G (wf (mk % 10)) nb)))] → va_S A s.heap H locs → lv_has ls 5 [(0, .ref mo), (1, .ref q4), (2, .int (nI b)), (3, .int (rFl (fun a9 => (q_upto b (rFouls (rG1 G (wf (mk % 10)) nb) (rWv G (wf (mk % 10)) nb) ey nj) (rG1 G (wf (mk % 10)) nb)) a9 5) (rWv G (wf (mk % 10)) nb) ((rG1 G (wf (mk % 10)) nb) b 5) a)), (4, .int (nI a))] → W p l e rmX4_raceOn s m args below meth c H locs (0 + 1) (0 + nb) (q_E below D (q_ty T) (q_is none [q_mc mo th nb nj len mw me mf mn, q_ia T mw 10 wf, q_ia T me 3 ey, q_fa T mf (rRace G (wf (mk % 10)) ey nj len (nu 3 + 1) nb), q_ia T mn 4 (upd nu 3 (nu 3 + 1))]) A args s rmX4_raceOn) (F0 m 46 ls []) := by
                intro f9
                induction f9 with
                | zero => intro a h9a h9b; exact absurd h9a (by omega)
                | succ f9 ih46 =>
                  intro a h9a h9b   H locs ls hP hD hS hl
                  refine lv_iload hx hb dX4_raceOn_46 (lv_at hl 4 rfl) ?_
                  refine lv_iload_n hx hb dX4_raceOn_48 rfl (lv_at hl 2 rfl) ?_
                  refine lv_icmp_ge (tgt := 91) hx hb dX4_raceOn_49 (by decide) (fun c_49 => ?_) (fun c_49 => ?_)
                  · have h9e := (q_exit c_49 h9b (by omega)).symm
                    rw [← h9e] at hl
                    rw [rFl_upto] at hl
                    have hl : lv_has ls 5 [(0, .ref mo), (1, .ref q4), (2, .int (nI b)), (3, .int (rFl (fun a => (rG1 G (wf (mk % 10)) nb) a 5) (rWv G (wf (mk % 10)) nb) ((rG1 G (wf (mk % 10)) nb) b 5) b)), (4, .int (nI b))] := hl
                    refine lv_aload_n hx hb dX4_raceOn_91 rfl (lv_at hl 1 rfl) ?_
                    refine lv_iload_n hx hb dX4_raceOn_92 rfl (lv_at hl 2 rfl) ?_
                    refine va_zald (D := D) hx hb hK hP 5 2 rfl rfl (vp_in_nI (by omega) (by omega)) dX4_raceOn_93 ?_
                    rw [show ((nI b) : Int32).toNatClampNeg = b from (pk_cl b rfl (by omega))]
                    refine lv_if_eq (tgt := 139) hx hb dX4_raceOn_94 (by decide) (fun c_94 => ?_) (fun c_94 => ?_)
                    · refine lv_iinc (v := (nI (b + 1))) (lv' := [(2, .int (nI (b + 1))), (0, .ref mo), (1, .ref q4), (3, .int (rFl (fun a => (rG1 G (wf (mk % 10)) nb) a 5) (rWv G (wf (mk % 10)) nb) ((rG1 G (wf (mk % 10)) nb) b 5) b)), (4, .int (nI b))]) hx hb dX4_raceOn_139 hl (k := 2) rfl (nI_1 b) (by decide) rfl (fun ls hl => ?_)
                      refine lv_goto (tgt := 33) hx hb dX4_raceOn_142 (by decide) ?_
                      have e8 : (rFouls (rG1 G (wf (mk % 10)) nb) (rWv G (wf (mk % 10)) nb) ey nj) b = ((rG1 G (wf (mk % 10)) nb) b) := by simp only [rFouls, if_pos c_94]
                      have hP : va_P D vwCl [q_mc mo th nb nj len mw me mf mn, q_ia T mw 10 wf, q_ia T me 3 ey, q_fa T mf (q_upto (b + 1) (rFouls (rG1 G (wf (mk % 10)) nb) (rWv G (wf (mk % 10)) nb) ey nj) (rG1 G (wf (mk % 10)) nb)), q_ia T mn 4 nu, (q4, .inl (T 2, nb, .inl (rWv G (wf (mk % 10)) nb)))] H := by rw [show q_upto (b + 1) (rFouls (rG1 G (wf (mk % 10)) nb) (rWv G (wf (mk % 10)) nb) ey nj) (rG1 G (wf (mk % 10)) nb) = (q_upto b (rFouls (rG1 G (wf (mk % 10)) nb) (rWv G (wf (mk % 10)) nb) ey nj) (rG1 G (wf (mk % 10)) nb)) from by rw [← q_upto_s, e8]; exact q_up_id_at (q_upto_at b (rFouls (rG1 G (wf (mk % 10)) nb) (rWv G (wf (mk % 10)) nb) ey nj) (rG1 G (wf (mk % 10)) nb))]; exact hP
                      have hD : va_D A [q_mc mo th nb nj len mw me mf mn, q_ia T mw 10 wf, q_ia T me 3 ey, q_fa T mf (q_upto (b + 1) (rFouls (rG1 G (wf (mk % 10)) nb) (rWv G (wf (mk % 10)) nb) ey nj) (rG1 G (wf (mk % 10)) nb)), q_ia T mn 4 nu, (q4, .inl (T 2, nb, .inl (rWv G (wf (mk % 10)) nb)))] := by rw [show q_upto (b + 1) (rFouls (rG1 G (wf (mk % 10)) nb) (rWv G (wf (mk % 10)) nb) ey nj) (rG1 G (wf (mk % 10)) nb) = (q_upto b (rFouls (rG1 G (wf (mk % 10)) nb) (rWv G (wf (mk % 10)) nb) ey nj) (rG1 G (wf (mk % 10)) nb)) from by rw [← q_upto_s, e8]; exact q_up_id_at (q_upto_at b (rFouls (rG1 G (wf (mk % 10)) nb) (rWv G (wf (mk % 10)) nb) ey nj) (rG1 G (wf (mk % 10)) nb))]; exact hD
                      exact ih33 (b + 1) (by omega) (by omega)   _ _ ls hP hD hS (lv_sub hl [1, 2, 0] rfl)
                    · refine lv_iload_n hx hb dX4_raceOn_97 rfl (lv_at hl 3 rfl) ?_
                      refine lv_if_eq (tgt := 139) hx hb dX4_raceOn_98 (by decide) (fun c_98 => ?_) (fun c_98 => ?_)
                      · refine lv_iinc (v := (nI (b + 1))) (lv' := [(2, .int (nI (b + 1))), (0, .ref mo), (1, .ref q4), (3, .int (rFl (fun a => (rG1 G (wf (mk % 10)) nb) a 5) (rWv G (wf (mk % 10)) nb) ((rG1 G (wf (mk % 10)) nb) b 5) b)), (4, .int (nI b))]) hx hb dX4_raceOn_139 hl (k := 2) rfl (nI_1 b) (by decide) rfl (fun ls hl => ?_)
                        refine lv_goto (tgt := 33) hx hb dX4_raceOn_142 (by decide) ?_
                        have e8 : (rFouls (rG1 G (wf (mk % 10)) nb) (rWv G (wf (mk % 10)) nb) ey nj) b = ((rG1 G (wf (mk % 10)) nb) b) := by simp only [rFouls, if_neg c_94, if_pos c_98]
                        have hP : va_P D vwCl [q_mc mo th nb nj len mw me mf mn, q_ia T mw 10 wf, q_ia T me 3 ey, q_fa T mf (q_upto (b + 1) (rFouls (rG1 G (wf (mk % 10)) nb) (rWv G (wf (mk % 10)) nb) ey nj) (rG1 G (wf (mk % 10)) nb)), q_ia T mn 4 nu, (q4, .inl (T 2, nb, .inl (rWv G (wf (mk % 10)) nb)))] H := by rw [show q_upto (b + 1) (rFouls (rG1 G (wf (mk % 10)) nb) (rWv G (wf (mk % 10)) nb) ey nj) (rG1 G (wf (mk % 10)) nb) = (q_upto b (rFouls (rG1 G (wf (mk % 10)) nb) (rWv G (wf (mk % 10)) nb) ey nj) (rG1 G (wf (mk % 10)) nb)) from by rw [← q_upto_s, e8]; exact q_up_id_at (q_upto_at b (rFouls (rG1 G (wf (mk % 10)) nb) (rWv G (wf (mk % 10)) nb) ey nj) (rG1 G (wf (mk % 10)) nb))]; exact hP
                        have hD : va_D A [q_mc mo th nb nj len mw me mf mn, q_ia T mw 10 wf, q_ia T me 3 ey, q_fa T mf (q_upto (b + 1) (rFouls (rG1 G (wf (mk % 10)) nb) (rWv G (wf (mk % 10)) nb) ey nj) (rG1 G (wf (mk % 10)) nb)), q_ia T mn 4 nu, (q4, .inl (T 2, nb, .inl (rWv G (wf (mk % 10)) nb)))] := by rw [show q_upto (b + 1) (rFouls (rG1 G (wf (mk % 10)) nb) (rWv G (wf (mk % 10)) nb) ey nj) (rG1 G (wf (mk % 10)) nb) = (q_upto b (rFouls (rG1 G (wf (mk % 10)) nb) (rWv G (wf (mk % 10)) nb) ey nj) (rG1 G (wf (mk % 10)) nb)) from by rw [← q_upto_s, e8]; exact q_up_id_at (q_upto_at b (rFouls (rG1 G (wf (mk % 10)) nb) (rWv G (wf (mk % 10)) nb) ey nj) (rG1 G (wf (mk % 10)) nb))]; exact hD
                        exact ih33 (b + 1) (by omega) (by omega)   _ _ ls hP hD hS (lv_sub hl [1, 2, 0] rfl)
                      · refine lv_aload_n hx hb dX4_raceOn_101 rfl (lv_at hl 0 rfl) ?_
                        refine lv_iload_n hx hb dX4_raceOn_102 rfl (lv_at hl 2 rfl) ?_
                        refine lv_iconst (v := 5) hx hb dX4_raceOn_103 (by decide) ?_
                        refine q_callV (As := [.int (nI b), .int 5]) (rs := []) hC (c_X4_bo l D T mo mw me mf mn nb nj th len (q_upto b (rFouls (rG1 G (wf (mk % 10)) nb) (rWv G (wf (mk % 10)) nb) ey nj) (rG1 G (wf (mk % 10)) nb)) b 5 ((rG1 G (wf (mk % 10)) nb) b) (by omega) (by omega) (q_upto_at b (rFouls (rG1 G (wf (mk % 10)) nb) (rWv G (wf (mk % 10)) nb) ey nj) (rG1 G (wf (mk % 10)) nb))) q_no_st q_no_at (cwV 2 hts gX4_raceOn_X4_bo rfl rfl rfl (by decide +kernel) ⟨Nat.le_of_ble_eq_true rfl, Nat.le_of_ble_eq_true rfl⟩) (va_recv hK hP (ci := 5) (q0 := 0) rfl rfl) hK hP hD hS hA (q_mask [true, false, false, true, false, false] _) rfl hl.1 rfl (Nat.le_of_ble_eq_true rfl) dX4_raceOn_104 ⟨(Nat.le_of_ble_eq_true rfl), (by show (0 + nb) + 0 ≤ 8; omega)⟩ (fun v9 C9 H locs hp hP hD hS => ?_)
                        obtain ⟨rfl, rfl⟩ := hp
                        have hP : va_P D vwCl [q_mc mo th nb nj len mw me mf mn, q_ia T mw 10 wf, q_ia T me 3 ey, q_fa T mf (q_upto b (rFouls (rG1 G (wf (mk % 10)) nb) (rWv G (wf (mk % 10)) nb) ey nj) (rG1 G (wf (mk % 10)) nb)), q_ia T mn 4 nu, (q4, .inl (T 2, nb, .inl (rWv G (wf (mk % 10)) nb)))] H := q_P_perm (q_mrg_perm [true, false, false, true, false, false] _ _) hP
                        have hD : va_D A [q_mc mo th nb nj len mw me mf mn, q_ia T mw 10 wf, q_ia T me 3 ey, q_fa T mf (q_upto b (rFouls (rG1 G (wf (mk % 10)) nb) (rWv G (wf (mk % 10)) nb) ey nj) (rG1 G (wf (mk % 10)) nb)), q_ia T mn 4 nu, (q4, .inl (T 2, nb, .inl (rWv G (wf (mk % 10)) nb)))] := q_D_perm (q_mrg_perm [true, false, false, true, false, false] _ _) hD
                        refine lv_if_le (tgt := 139) hx hb dX4_raceOn_107 (by decide) (fun c_107 => ?_) (fun c_107 => ?_)
                        · refine lv_iinc (v := (nI (b + 1))) (lv' := [(2, .int (nI (b + 1))), (0, .ref mo), (1, .ref q4), (3, .int (rFl (fun a => (rG1 G (wf (mk % 10)) nb) a 5) (rWv G (wf (mk % 10)) nb) ((rG1 G (wf (mk % 10)) nb) b 5) b)), (4, .int (nI b))]) hx hb dX4_raceOn_139 hl (k := 2) rfl (nI_1 b) (by decide) rfl (fun ls hl => ?_)
                          refine lv_goto (tgt := 33) hx hb dX4_raceOn_142 (by decide) ?_
                          have e8 : (rFouls (rG1 G (wf (mk % 10)) nb) (rWv G (wf (mk % 10)) nb) ey nj) b = ((rG1 G (wf (mk % 10)) nb) b) := by simp only [rFouls, if_neg c_94, if_neg c_98, if_pos c_107]
                          have hP : va_P D vwCl [q_mc mo th nb nj len mw me mf mn, q_ia T mw 10 wf, q_ia T me 3 ey, q_fa T mf (q_upto (b + 1) (rFouls (rG1 G (wf (mk % 10)) nb) (rWv G (wf (mk % 10)) nb) ey nj) (rG1 G (wf (mk % 10)) nb)), q_ia T mn 4 nu, (q4, .inl (T 2, nb, .inl (rWv G (wf (mk % 10)) nb)))] H := by rw [show q_upto (b + 1) (rFouls (rG1 G (wf (mk % 10)) nb) (rWv G (wf (mk % 10)) nb) ey nj) (rG1 G (wf (mk % 10)) nb) = (q_upto b (rFouls (rG1 G (wf (mk % 10)) nb) (rWv G (wf (mk % 10)) nb) ey nj) (rG1 G (wf (mk % 10)) nb)) from by rw [← q_upto_s, e8]; exact q_up_id_at (q_upto_at b (rFouls (rG1 G (wf (mk % 10)) nb) (rWv G (wf (mk % 10)) nb) ey nj) (rG1 G (wf (mk % 10)) nb))]; exact hP
                          have hD : va_D A [q_mc mo th nb nj len mw me mf mn, q_ia T mw 10 wf, q_ia T me 3 ey, q_fa T mf (q_upto (b + 1) (rFouls (rG1 G (wf (mk % 10)) nb) (rWv G (wf (mk % 10)) nb) ey nj) (rG1 G (wf (mk % 10)) nb)), q_ia T mn 4 nu, (q4, .inl (T 2, nb, .inl (rWv G (wf (mk % 10)) nb)))] := by rw [show q_upto (b + 1) (rFouls (rG1 G (wf (mk % 10)) nb) (rWv G (wf (mk % 10)) nb) ey nj) (rG1 G (wf (mk % 10)) nb) = (q_upto b (rFouls (rG1 G (wf (mk % 10)) nb) (rWv G (wf (mk % 10)) nb) ey nj) (rG1 G (wf (mk % 10)) nb)) from by rw [← q_upto_s, e8]; exact q_up_id_at (q_upto_at b (rFouls (rG1 G (wf (mk % 10)) nb) (rWv G (wf (mk % 10)) nb) ey nj) (rG1 G (wf (mk % 10)) nb))]; exact hD
                          exact ih33 (b + 1) (by omega) (by omega)   _ _ ls hP hD hS (lv_sub hl [1, 2, 0] rfl)
                        · refine lv_aload_n hx hb dX4_raceOn_110 rfl (lv_at hl 0 rfl) ?_
                          refine lv_aload_n hx hb dX4_raceOn_111 rfl (lv_at hl 0 rfl) ?_
                          refine lv_iload_n hx hb dX4_raceOn_112 rfl (lv_at hl 2 rfl) ?_
                          refine lv_iconst (v := 5) hx hb dX4_raceOn_113 (by decide) ?_
                          refine q_callV (As := [.int (nI b), .int 5]) (rs := [.ref mo]) hC (c_X4_bo l D T mo mw me mf mn nb nj th len (q_upto b (rFouls (rG1 G (wf (mk % 10)) nb) (rWv G (wf (mk % 10)) nb) ey nj) (rG1 G (wf (mk % 10)) nb)) b 5 ((rG1 G (wf (mk % 10)) nb) b) (by omega) (by omega) (q_upto_at b (rFouls (rG1 G (wf (mk % 10)) nb) (rWv G (wf (mk % 10)) nb) ey nj) (rG1 G (wf (mk % 10)) nb))) q_no_st q_no_at (cwV 2 hts gX4_raceOn_X4_bo rfl rfl rfl (by decide +kernel) ⟨Nat.le_of_ble_eq_true rfl, Nat.le_of_ble_eq_true rfl⟩) (va_recv hK hP (ci := 5) (q0 := 0) rfl rfl) hK hP hD hS hA (q_mask [true, false, false, true, false, false] _) rfl hl.1 rfl (Nat.le_of_ble_eq_true rfl) dX4_raceOn_114 ⟨(Nat.le_of_ble_eq_true rfl), (by show (0 + nb) + 0 ≤ 8; omega)⟩ (fun v9 C9 H locs hp hP hD hS => ?_)
                          obtain ⟨rfl, rfl⟩ := hp
                          have hP : va_P D vwCl [q_mc mo th nb nj len mw me mf mn, q_ia T mw 10 wf, q_ia T me 3 ey, q_fa T mf (q_upto b (rFouls (rG1 G (wf (mk % 10)) nb) (rWv G (wf (mk % 10)) nb) ey nj) (rG1 G (wf (mk % 10)) nb)), q_ia T mn 4 nu, (q4, .inl (T 2, nb, .inl (rWv G (wf (mk % 10)) nb)))] H := q_P_perm (q_mrg_perm [true, false, false, true, false, false] _ _) hP
                          have hD : va_D A [q_mc mo th nb nj len mw me mf mn, q_ia T mw 10 wf, q_ia T me 3 ey, q_fa T mf (q_upto b (rFouls (rG1 G (wf (mk % 10)) nb) (rWv G (wf (mk % 10)) nb) ey nj) (rG1 G (wf (mk % 10)) nb)), q_ia T mn 4 nu, (q4, .inl (T 2, nb, .inl (rWv G (wf (mk % 10)) nb)))] := q_D_perm (q_mrg_perm [true, false, false, true, false, false] _ _) hD
                          refine q_callV (As := [.int (((rG1 G (wf (mk % 10)) nb) b) 5)]) (rs := []) hC (c_X4_isSeen l D T mo mw me mf mn nb nj th len ey (((rG1 G (wf (mk % 10)) nb) b) 5) hj) q_no_st q_no_at (cwV 1 hts gX4_raceOn_X4_isSeen rfl rfl rfl (by decide +kernel) ⟨Nat.le_of_ble_eq_true rfl, Nat.le_of_ble_eq_true rfl⟩) (va_recv hK hP (ci := 5) (q0 := 0) rfl rfl) hK hP hD hS hA (q_mask [true, false, true, false, false, false] _) rfl hl.1 rfl (Nat.le_of_ble_eq_true rfl) dX4_raceOn_117 ⟨(Nat.le_of_ble_eq_true rfl), (by show (0 + nb) + 0 ≤ 8; omega)⟩ (fun v9 C9 H locs hp hP hD hS => ?_)
                          obtain ⟨rfl, rfl⟩ := hp
                          have hP : va_P D vwCl [q_mc mo th nb nj len mw me mf mn, q_ia T mw 10 wf, q_ia T me 3 ey, q_fa T mf (q_upto b (rFouls (rG1 G (wf (mk % 10)) nb) (rWv G (wf (mk % 10)) nb) ey nj) (rG1 G (wf (mk % 10)) nb)), q_ia T mn 4 nu, (q4, .inl (T 2, nb, .inl (rWv G (wf (mk % 10)) nb)))] H := q_P_perm (q_mrg_perm [true, false, true, false, false, false] _ _) hP
                          have hD : va_D A [q_mc mo th nb nj len mw me mf mn, q_ia T mw 10 wf, q_ia T me 3 ey, q_fa T mf (q_upto b (rFouls (rG1 G (wf (mk % 10)) nb) (rWv G (wf (mk % 10)) nb) ey nj) (rG1 G (wf (mk % 10)) nb)), q_ia T mn 4 nu, (q4, .inl (T 2, nb, .inl (rWv G (wf (mk % 10)) nb)))] := q_D_perm (q_mrg_perm [true, false, true, false, false, false] _ _) hD
                          refine lv_if_eq (tgt := 139) hx hb dX4_raceOn_120 (by decide) (fun c_120 => ?_) (fun c_120 => ?_)
                          · refine lv_iinc (v := (nI (b + 1))) (lv' := [(2, .int (nI (b + 1))), (0, .ref mo), (1, .ref q4), (3, .int (rFl (fun a => (rG1 G (wf (mk % 10)) nb) a 5) (rWv G (wf (mk % 10)) nb) ((rG1 G (wf (mk % 10)) nb) b 5) b)), (4, .int (nI b))]) hx hb dX4_raceOn_139 hl (k := 2) rfl (nI_1 b) (by decide) rfl (fun ls hl => ?_)
                            refine lv_goto (tgt := 33) hx hb dX4_raceOn_142 (by decide) ?_
                            have e8 : (rFouls (rG1 G (wf (mk % 10)) nb) (rWv G (wf (mk % 10)) nb) ey nj) b = ((rG1 G (wf (mk % 10)) nb) b) := by simp only [rFouls, if_neg c_94, if_neg c_98, if_neg c_107, if_pos c_120]
                            have hP : va_P D vwCl [q_mc mo th nb nj len mw me mf mn, q_ia T mw 10 wf, q_ia T me 3 ey, q_fa T mf (q_upto (b + 1) (rFouls (rG1 G (wf (mk % 10)) nb) (rWv G (wf (mk % 10)) nb) ey nj) (rG1 G (wf (mk % 10)) nb)), q_ia T mn 4 nu, (q4, .inl (T 2, nb, .inl (rWv G (wf (mk % 10)) nb)))] H := by rw [show q_upto (b + 1) (rFouls (rG1 G (wf (mk % 10)) nb) (rWv G (wf (mk % 10)) nb) ey nj) (rG1 G (wf (mk % 10)) nb) = (q_upto b (rFouls (rG1 G (wf (mk % 10)) nb) (rWv G (wf (mk % 10)) nb) ey nj) (rG1 G (wf (mk % 10)) nb)) from by rw [← q_upto_s, e8]; exact q_up_id_at (q_upto_at b (rFouls (rG1 G (wf (mk % 10)) nb) (rWv G (wf (mk % 10)) nb) ey nj) (rG1 G (wf (mk % 10)) nb))]; exact hP
                            have hD : va_D A [q_mc mo th nb nj len mw me mf mn, q_ia T mw 10 wf, q_ia T me 3 ey, q_fa T mf (q_upto (b + 1) (rFouls (rG1 G (wf (mk % 10)) nb) (rWv G (wf (mk % 10)) nb) ey nj) (rG1 G (wf (mk % 10)) nb)), q_ia T mn 4 nu, (q4, .inl (T 2, nb, .inl (rWv G (wf (mk % 10)) nb)))] := by rw [show q_upto (b + 1) (rFouls (rG1 G (wf (mk % 10)) nb) (rWv G (wf (mk % 10)) nb) ey nj) (rG1 G (wf (mk % 10)) nb) = (q_upto b (rFouls (rG1 G (wf (mk % 10)) nb) (rWv G (wf (mk % 10)) nb) ey nj) (rG1 G (wf (mk % 10)) nb)) from by rw [← q_upto_s, e8]; exact q_up_id_at (q_upto_at b (rFouls (rG1 G (wf (mk % 10)) nb) (rWv G (wf (mk % 10)) nb) ey nj) (rG1 G (wf (mk % 10)) nb))]; exact hD
                            exact ih33 (b + 1) (by omega) (by omega)   _ _ ls hP hD hS (lv_sub hl [1, 2, 0] rfl)
                          · refine lv_aload_n hx hb dX4_raceOn_123 rfl (lv_at hl 0 rfl) ?_
                            refine lv_iload_n hx hb dX4_raceOn_124 rfl (lv_at hl 2 rfl) ?_
                            refine lv_bipush (v := 7) hx hb dX4_raceOn_125 (by decide) ?_
                            refine lv_aload_n hx hb dX4_raceOn_127 rfl (lv_at hl 0 rfl) ?_
                            refine lv_iload_n hx hb dX4_raceOn_128 rfl (lv_at hl 2 rfl) ?_
                            refine lv_bipush (v := 7) hx hb dX4_raceOn_129 (by decide) ?_
                            refine q_callV (As := [.int (nI b), .int 7]) (rs := [.int 7, .int (nI b), .ref mo]) hC (c_X4_bo l D T mo mw me mf mn nb nj th len (q_upto b (rFouls (rG1 G (wf (mk % 10)) nb) (rWv G (wf (mk % 10)) nb) ey nj) (rG1 G (wf (mk % 10)) nb)) b 7 ((rG1 G (wf (mk % 10)) nb) b) (by omega) (by omega) (q_upto_at b (rFouls (rG1 G (wf (mk % 10)) nb) (rWv G (wf (mk % 10)) nb) ey nj) (rG1 G (wf (mk % 10)) nb))) q_no_st q_no_at (cwV 2 hts gX4_raceOn_X4_bo rfl rfl rfl (by decide +kernel) ⟨Nat.le_of_ble_eq_true rfl, Nat.le_of_ble_eq_true rfl⟩) (va_recv hK hP (ci := 5) (q0 := 0) rfl rfl) hK hP hD hS hA (q_mask [true, false, false, true, false, false] _) rfl hl.1 rfl (Nat.le_of_ble_eq_true rfl) dX4_raceOn_131 ⟨(Nat.le_of_ble_eq_true rfl), (by show (0 + nb) + 0 ≤ 8; omega)⟩ (fun v9 C9 H locs hp hP hD hS => ?_)
                            obtain ⟨rfl, rfl⟩ := hp
                            have hP : va_P D vwCl [q_mc mo th nb nj len mw me mf mn, q_ia T mw 10 wf, q_ia T me 3 ey, q_fa T mf (q_upto b (rFouls (rG1 G (wf (mk % 10)) nb) (rWv G (wf (mk % 10)) nb) ey nj) (rG1 G (wf (mk % 10)) nb)), q_ia T mn 4 nu, (q4, .inl (T 2, nb, .inl (rWv G (wf (mk % 10)) nb)))] H := q_P_perm (q_mrg_perm [true, false, false, true, false, false] _ _) hP
                            have hD : va_D A [q_mc mo th nb nj len mw me mf mn, q_ia T mw 10 wf, q_ia T me 3 ey, q_fa T mf (q_upto b (rFouls (rG1 G (wf (mk % 10)) nb) (rWv G (wf (mk % 10)) nb) ey nj) (rG1 G (wf (mk % 10)) nb)), q_ia T mn 4 nu, (q4, .inl (T 2, nb, .inl (rWv G (wf (mk % 10)) nb)))] := q_D_perm (q_mrg_perm [true, false, false, true, false, false] _ _) hD
                            refine lv_iconst (v := 1) hx hb dX4_raceOn_134 (by decide) ?_
                            refine lv_iadd hx hb dX4_raceOn_135 ?_
                            refine q_callV (As := [.int (nI b), .int 7, .int ((((rG1 G (wf (mk % 10)) nb) b) 7) + 1)]) (rs := []) hC (c_X4_put l D T mo mw me mf mn nb nj th len (q_upto b (rFouls (rG1 G (wf (mk % 10)) nb) (rWv G (wf (mk % 10)) nb) ey nj) (rG1 G (wf (mk % 10)) nb)) (va_up (q_upto b (rFouls (rG1 G (wf (mk % 10)) nb) (rWv G (wf (mk % 10)) nb) ey nj) (rG1 G (wf (mk % 10)) nb)) b (upd ((rG1 G (wf (mk % 10)) nb) b) 7 ((((rG1 G (wf (mk % 10)) nb) b) 7) + 1))) b 7 ((((rG1 G (wf (mk % 10)) nb) b) 7) + 1) ((rG1 G (wf (mk % 10)) nb) b) (by omega) (by omega) (q_upto_at b (rFouls (rG1 G (wf (mk % 10)) nb) (rWv G (wf (mk % 10)) nb) ey nj) (rG1 G (wf (mk % 10)) nb)) rfl) q_no_st q_no_at (cwV 3 hts gX4_raceOn_X4_put rfl rfl rfl (by decide +kernel) ⟨Nat.le_of_ble_eq_true rfl, Nat.le_of_ble_eq_true rfl⟩) (va_recv hK hP (ci := 5) (q0 := 0) rfl rfl) hK hP hD hS hA (q_mask [true, false, false, true, false, false] _) rfl hl.1 rfl (Nat.le_of_ble_eq_true rfl) dX4_raceOn_136 ⟨(Nat.le_of_ble_eq_true rfl), (by show (0 + nb) + 0 ≤ 8; omega)⟩ (fun v9 C9 H locs hp hP hD hS => ?_)
                            obtain ⟨rfl, rfl⟩ := hp
                            have hP : va_P D vwCl [q_mc mo th nb nj len mw me mf mn, q_ia T mw 10 wf, q_ia T me 3 ey, q_fa T mf (va_up (q_upto b (rFouls (rG1 G (wf (mk % 10)) nb) (rWv G (wf (mk % 10)) nb) ey nj) (rG1 G (wf (mk % 10)) nb)) b (upd ((rG1 G (wf (mk % 10)) nb) b) 7 ((((rG1 G (wf (mk % 10)) nb) b) 7) + 1))), q_ia T mn 4 nu, (q4, .inl (T 2, nb, .inl (rWv G (wf (mk % 10)) nb)))] H := q_P_perm (q_mrg_perm [true, false, false, true, false, false] _ _) hP
                            have hD : va_D A [q_mc mo th nb nj len mw me mf mn, q_ia T mw 10 wf, q_ia T me 3 ey, q_fa T mf (va_up (q_upto b (rFouls (rG1 G (wf (mk % 10)) nb) (rWv G (wf (mk % 10)) nb) ey nj) (rG1 G (wf (mk % 10)) nb)) b (upd ((rG1 G (wf (mk % 10)) nb) b) 7 ((((rG1 G (wf (mk % 10)) nb) b) 7) + 1))), q_ia T mn 4 nu, (q4, .inl (T 2, nb, .inl (rWv G (wf (mk % 10)) nb)))] := q_D_perm (q_mrg_perm [true, false, false, true, false, false] _ _) hD
                            refine lv_iinc (v := (nI (b + 1))) (lv' := [(2, .int (nI (b + 1))), (0, .ref mo), (1, .ref q4), (3, .int (rFl (fun a => (rG1 G (wf (mk % 10)) nb) a 5) (rWv G (wf (mk % 10)) nb) ((rG1 G (wf (mk % 10)) nb) b 5) b)), (4, .int (nI b))]) hx hb dX4_raceOn_139 hl (k := 2) rfl (nI_1 b) (by decide) rfl (fun ls hl => ?_)
                            refine lv_goto (tgt := 33) hx hb dX4_raceOn_142 (by decide) ?_
                            have e8 : (rFouls (rG1 G (wf (mk % 10)) nb) (rWv G (wf (mk % 10)) nb) ey nj) b = (upd ((rG1 G (wf (mk % 10)) nb) b) 7 ((((rG1 G (wf (mk % 10)) nb) b) 7) + 1)) := by simp only [rFouls, if_neg c_94, if_neg c_98, if_neg c_107, if_neg c_120]
                            have hP : va_P D vwCl [q_mc mo th nb nj len mw me mf mn, q_ia T mw 10 wf, q_ia T me 3 ey, q_fa T mf (q_upto (b + 1) (rFouls (rG1 G (wf (mk % 10)) nb) (rWv G (wf (mk % 10)) nb) ey nj) (rG1 G (wf (mk % 10)) nb)), q_ia T mn 4 nu, (q4, .inl (T 2, nb, .inl (rWv G (wf (mk % 10)) nb)))] H := by rw [show q_upto (b + 1) (rFouls (rG1 G (wf (mk % 10)) nb) (rWv G (wf (mk % 10)) nb) ey nj) (rG1 G (wf (mk % 10)) nb) = (va_up (q_upto b (rFouls (rG1 G (wf (mk % 10)) nb) (rWv G (wf (mk % 10)) nb) ey nj) (rG1 G (wf (mk % 10)) nb)) b (upd ((rG1 G (wf (mk % 10)) nb) b) 7 ((((rG1 G (wf (mk % 10)) nb) b) 7) + 1))) from by rw [← q_upto_s, e8]]; exact hP
                            have hD : va_D A [q_mc mo th nb nj len mw me mf mn, q_ia T mw 10 wf, q_ia T me 3 ey, q_fa T mf (q_upto (b + 1) (rFouls (rG1 G (wf (mk % 10)) nb) (rWv G (wf (mk % 10)) nb) ey nj) (rG1 G (wf (mk % 10)) nb)), q_ia T mn 4 nu, (q4, .inl (T 2, nb, .inl (rWv G (wf (mk % 10)) nb)))] := by rw [show q_upto (b + 1) (rFouls (rG1 G (wf (mk % 10)) nb) (rWv G (wf (mk % 10)) nb) ey nj) (rG1 G (wf (mk % 10)) nb) = (va_up (q_upto b (rFouls (rG1 G (wf (mk % 10)) nb) (rWv G (wf (mk % 10)) nb) ey nj) (rG1 G (wf (mk % 10)) nb)) b (upd ((rG1 G (wf (mk % 10)) nb) b) 7 ((((rG1 G (wf (mk % 10)) nb) b) 7) + 1))) from by rw [← q_upto_s, e8]]; exact hD
                            exact ih33 (b + 1) (by omega) (by omega)   _ _ ls hP hD hS (lv_sub hl [1, 2, 0] rfl)
                  · have h9e := q_goon c_49 (by omega)
                    refine lv_iload_n hx hb dX4_raceOn_52 rfl (lv_at hl 3 rfl) ?_
                    refine lv_if_ne (tgt := 79) hx hb dX4_raceOn_53 (by decide) (fun c_53 => ?_) (fun c_53 => ?_)
                    · refine lv_iconst (v := 1) hx hb dX4_raceOn_79 (by decide) ?_
                      refine lv_goto (tgt := 84) hx hb dX4_raceOn_80 (by decide) ?_
                      refine lv_istore_n (lv' := [(3, .int 1), (0, .ref mo), (1, .ref q4), (2, .int (nI b)), (4, .int (nI a))]) hx hb dX4_raceOn_84 rfl hl (by decide) rfl (fun ls hl => ?_)
                      refine lv_iinc (v := (nI (a + 1))) (lv' := [(4, .int (nI (a + 1))), (3, .int 1), (0, .ref mo), (1, .ref q4), (2, .int (nI b))]) hx hb dX4_raceOn_85 hl (k := 4) rfl (nI_1 a) (by decide) rfl (fun ls hl => ?_)
                      refine lv_goto (tgt := 46) hx hb dX4_raceOn_88 (by decide) ?_
                      have e9 : (rFl (fun a9 => (q_upto b (rFouls (rG1 G (wf (mk % 10)) nb) (rWv G (wf (mk % 10)) nb) ey nj) (rG1 G (wf (mk % 10)) nb)) a9 5) (rWv G (wf (mk % 10)) nb) ((rG1 G (wf (mk % 10)) nb) b 5) (a + 1)) = 1 := by simp only [rFl, if_neg c_53]
                      have hl : lv_has ls 5 [(4, .int (nI (a + 1))), (3, .int (rFl (fun a9 => (q_upto b (rFouls (rG1 G (wf (mk % 10)) nb) (rWv G (wf (mk % 10)) nb) ey nj) (rG1 G (wf (mk % 10)) nb)) a9 5) (rWv G (wf (mk % 10)) nb) ((rG1 G (wf (mk % 10)) nb) b 5) (a + 1))), (0, .ref mo), (1, .ref q4), (2, .int (nI b))] := by rw [e9]; exact hl
                      exact ih46 (a + 1) (by omega) (by omega)   _ _ ls hP hD hS (lv_sub hl [2, 3, 4, 1, 0] rfl)
                    · refine lv_aload_n hx hb dX4_raceOn_56 rfl (lv_at hl 1 rfl) ?_
                      refine lv_iload hx hb dX4_raceOn_57 (lv_at hl 4 rfl) ?_
                      refine va_zald (D := D) hx hb hK hP 5 2 rfl rfl (vp_in_nI (by omega) (by omega)) dX4_raceOn_59 ?_
                      rw [show ((nI a) : Int32).toNatClampNeg = a from (pk_cl a rfl (by omega))]
                      refine lv_if_eq (tgt := 83) hx hb dX4_raceOn_60 (by decide) (fun c_60 => ?_) (fun c_60 => ?_)
                      · refine lv_iconst (v := 0) hx hb dX4_raceOn_83 (by decide) ?_
                        refine lv_istore_n (lv' := [(3, .int 0), (0, .ref mo), (1, .ref q4), (2, .int (nI b)), (4, .int (nI a))]) hx hb dX4_raceOn_84 rfl hl (by decide) rfl (fun ls hl => ?_)
                        refine lv_iinc (v := (nI (a + 1))) (lv' := [(4, .int (nI (a + 1))), (3, .int 0), (0, .ref mo), (1, .ref q4), (2, .int (nI b))]) hx hb dX4_raceOn_85 hl (k := 4) rfl (nI_1 a) (by decide) rfl (fun ls hl => ?_)
                        refine lv_goto (tgt := 46) hx hb dX4_raceOn_88 (by decide) ?_
                        have e9 : (rFl (fun a9 => (q_upto b (rFouls (rG1 G (wf (mk % 10)) nb) (rWv G (wf (mk % 10)) nb) ey nj) (rG1 G (wf (mk % 10)) nb)) a9 5) (rWv G (wf (mk % 10)) nb) ((rG1 G (wf (mk % 10)) nb) b 5) (a + 1)) = 0 := by simp only [rFl, if_pos c_53, if_pos c_60]
                        have hl : lv_has ls 5 [(4, .int (nI (a + 1))), (3, .int (rFl (fun a9 => (q_upto b (rFouls (rG1 G (wf (mk % 10)) nb) (rWv G (wf (mk % 10)) nb) ey nj) (rG1 G (wf (mk % 10)) nb)) a9 5) (rWv G (wf (mk % 10)) nb) ((rG1 G (wf (mk % 10)) nb) b 5) (a + 1))), (0, .ref mo), (1, .ref q4), (2, .int (nI b))] := by rw [e9]; exact hl
                        exact ih46 (a + 1) (by omega) (by omega)   _ _ ls hP hD hS (lv_sub hl [2, 3, 4, 1, 0] rfl)
                      · refine lv_aload_n hx hb dX4_raceOn_63 rfl (lv_at hl 0 rfl) ?_
                        refine lv_iload hx hb dX4_raceOn_64 (lv_at hl 4 rfl) ?_
                        refine lv_iconst (v := 5) hx hb dX4_raceOn_66 (by decide) ?_
                        refine q_callV (As := [.int (nI a), .int 5]) (rs := []) hC (c_X4_bo l D T mo mw me mf mn nb nj th len (q_upto b (rFouls (rG1 G (wf (mk % 10)) nb) (rWv G (wf (mk % 10)) nb) ey nj) (rG1 G (wf (mk % 10)) nb)) a 5 ((q_upto b (rFouls (rG1 G (wf (mk % 10)) nb) (rWv G (wf (mk % 10)) nb) ey nj) (rG1 G (wf (mk % 10)) nb)) a) (by omega) (by omega) rfl) q_no_st q_no_at (cwV 2 hts gX4_raceOn_X4_bo rfl rfl rfl (by decide +kernel) ⟨Nat.le_of_ble_eq_true rfl, Nat.le_of_ble_eq_true rfl⟩) (va_recv hK hP (ci := 5) (q0 := 0) rfl rfl) hK hP hD hS hA (q_mask [true, false, false, true, false, false] _) rfl hl.1 rfl (Nat.le_of_ble_eq_true rfl) dX4_raceOn_67 ⟨(Nat.le_of_ble_eq_true rfl), (by show (0 + nb) + 0 ≤ 8; omega)⟩ (fun v9 C9 H locs hp hP hD hS => ?_)
                        obtain ⟨rfl, rfl⟩ := hp
                        have hP : va_P D vwCl [q_mc mo th nb nj len mw me mf mn, q_ia T mw 10 wf, q_ia T me 3 ey, q_fa T mf (q_upto b (rFouls (rG1 G (wf (mk % 10)) nb) (rWv G (wf (mk % 10)) nb) ey nj) (rG1 G (wf (mk % 10)) nb)), q_ia T mn 4 nu, (q4, .inl (T 2, nb, .inl (rWv G (wf (mk % 10)) nb)))] H := q_P_perm (q_mrg_perm [true, false, false, true, false, false] _ _) hP
                        have hD : va_D A [q_mc mo th nb nj len mw me mf mn, q_ia T mw 10 wf, q_ia T me 3 ey, q_fa T mf (q_upto b (rFouls (rG1 G (wf (mk % 10)) nb) (rWv G (wf (mk % 10)) nb) ey nj) (rG1 G (wf (mk % 10)) nb)), q_ia T mn 4 nu, (q4, .inl (T 2, nb, .inl (rWv G (wf (mk % 10)) nb)))] := q_D_perm (q_mrg_perm [true, false, false, true, false, false] _ _) hD
                        refine lv_aload_n hx hb dX4_raceOn_70 rfl (lv_at hl 0 rfl) ?_
                        refine lv_iload_n hx hb dX4_raceOn_71 rfl (lv_at hl 2 rfl) ?_
                        refine lv_iconst (v := 5) hx hb dX4_raceOn_72 (by decide) ?_
                        refine q_callV (As := [.int (nI b), .int 5]) (rs := [.int ((q_upto b (rFouls (rG1 G (wf (mk % 10)) nb) (rWv G (wf (mk % 10)) nb) ey nj) (rG1 G (wf (mk % 10)) nb)) a 5)]) hC (c_X4_bo l D T mo mw me mf mn nb nj th len (q_upto b (rFouls (rG1 G (wf (mk % 10)) nb) (rWv G (wf (mk % 10)) nb) ey nj) (rG1 G (wf (mk % 10)) nb)) b 5 ((rG1 G (wf (mk % 10)) nb) b) (by omega) (by omega) (q_upto_at b (rFouls (rG1 G (wf (mk % 10)) nb) (rWv G (wf (mk % 10)) nb) ey nj) (rG1 G (wf (mk % 10)) nb))) q_no_st q_no_at (cwV 2 hts gX4_raceOn_X4_bo rfl rfl rfl (by decide +kernel) ⟨Nat.le_of_ble_eq_true rfl, Nat.le_of_ble_eq_true rfl⟩) (va_recv hK hP (ci := 5) (q0 := 0) rfl rfl) hK hP hD hS hA (q_mask [true, false, false, true, false, false] _) rfl hl.1 rfl (Nat.le_of_ble_eq_true rfl) dX4_raceOn_73 ⟨(Nat.le_of_ble_eq_true rfl), (by show (0 + nb) + 0 ≤ 8; omega)⟩ (fun v9 C9 H locs hp hP hD hS => ?_)
                        obtain ⟨rfl, rfl⟩ := hp
                        have hP : va_P D vwCl [q_mc mo th nb nj len mw me mf mn, q_ia T mw 10 wf, q_ia T me 3 ey, q_fa T mf (q_upto b (rFouls (rG1 G (wf (mk % 10)) nb) (rWv G (wf (mk % 10)) nb) ey nj) (rG1 G (wf (mk % 10)) nb)), q_ia T mn 4 nu, (q4, .inl (T 2, nb, .inl (rWv G (wf (mk % 10)) nb)))] H := q_P_perm (q_mrg_perm [true, false, false, true, false, false] _ _) hP
                        have hD : va_D A [q_mc mo th nb nj len mw me mf mn, q_ia T mw 10 wf, q_ia T me 3 ey, q_fa T mf (q_upto b (rFouls (rG1 G (wf (mk % 10)) nb) (rWv G (wf (mk % 10)) nb) ey nj) (rG1 G (wf (mk % 10)) nb)), q_ia T mn 4 nu, (q4, .inl (T 2, nb, .inl (rWv G (wf (mk % 10)) nb)))] := q_D_perm (q_mrg_perm [true, false, false, true, false, false] _ _) hD
                        refine lv_icmp_ne (tgt := 83) hx hb dX4_raceOn_76 (by decide) (fun c_76 => ?_) (fun c_76 => ?_)
                        · refine lv_iconst (v := 0) hx hb dX4_raceOn_83 (by decide) ?_
                          refine lv_istore_n (lv' := [(3, .int 0), (0, .ref mo), (1, .ref q4), (2, .int (nI b)), (4, .int (nI a))]) hx hb dX4_raceOn_84 rfl hl (by decide) rfl (fun ls hl => ?_)
                          refine lv_iinc (v := (nI (a + 1))) (lv' := [(4, .int (nI (a + 1))), (3, .int 0), (0, .ref mo), (1, .ref q4), (2, .int (nI b))]) hx hb dX4_raceOn_85 hl (k := 4) rfl (nI_1 a) (by decide) rfl (fun ls hl => ?_)
                          refine lv_goto (tgt := 46) hx hb dX4_raceOn_88 (by decide) ?_
                          have e9 : (rFl (fun a9 => (q_upto b (rFouls (rG1 G (wf (mk % 10)) nb) (rWv G (wf (mk % 10)) nb) ey nj) (rG1 G (wf (mk % 10)) nb)) a9 5) (rWv G (wf (mk % 10)) nb) ((rG1 G (wf (mk % 10)) nb) b 5) (a + 1)) = 0 := by simp only [rFl, if_pos c_53, if_neg c_60, if_neg c_76]
                          have hl : lv_has ls 5 [(4, .int (nI (a + 1))), (3, .int (rFl (fun a9 => (q_upto b (rFouls (rG1 G (wf (mk % 10)) nb) (rWv G (wf (mk % 10)) nb) ey nj) (rG1 G (wf (mk % 10)) nb)) a9 5) (rWv G (wf (mk % 10)) nb) ((rG1 G (wf (mk % 10)) nb) b 5) (a + 1))), (0, .ref mo), (1, .ref q4), (2, .int (nI b))] := by rw [e9]; exact hl
                          exact ih46 (a + 1) (by omega) (by omega)   _ _ ls hP hD hS (lv_sub hl [2, 3, 4, 1, 0] rfl)
                        · refine lv_iconst (v := 1) hx hb dX4_raceOn_79 (by decide) ?_
                          refine lv_goto (tgt := 84) hx hb dX4_raceOn_80 (by decide) ?_
                          refine lv_istore_n (lv' := [(3, .int 1), (0, .ref mo), (1, .ref q4), (2, .int (nI b)), (4, .int (nI a))]) hx hb dX4_raceOn_84 rfl hl (by decide) rfl (fun ls hl => ?_)
                          refine lv_iinc (v := (nI (a + 1))) (lv' := [(4, .int (nI (a + 1))), (3, .int 1), (0, .ref mo), (1, .ref q4), (2, .int (nI b))]) hx hb dX4_raceOn_85 hl (k := 4) rfl (nI_1 a) (by decide) rfl (fun ls hl => ?_)
                          refine lv_goto (tgt := 46) hx hb dX4_raceOn_88 (by decide) ?_
                          have e9 : (rFl (fun a9 => (q_upto b (rFouls (rG1 G (wf (mk % 10)) nb) (rWv G (wf (mk % 10)) nb) ey nj) (rG1 G (wf (mk % 10)) nb)) a9 5) (rWv G (wf (mk % 10)) nb) ((rG1 G (wf (mk % 10)) nb) b 5) (a + 1)) = 1 := by simp only [rFl, if_pos c_53, if_neg c_60, if_pos c_76]
                          have hl : lv_has ls 5 [(4, .int (nI (a + 1))), (3, .int (rFl (fun a9 => (q_upto b (rFouls (rG1 G (wf (mk % 10)) nb) (rWv G (wf (mk % 10)) nb) ey nj) (rG1 G (wf (mk % 10)) nb)) a9 5) (rWv G (wf (mk % 10)) nb) ((rG1 G (wf (mk % 10)) nb) b 5) (a + 1))), (0, .ref mo), (1, .ref q4), (2, .int (nI b))] := by rw [e9]; exact hl
                          exact ih46 (a + 1) (by omega) (by omega)   _ _ ls hP hD hS (lv_sub hl [2, 3, 4, 1, 0] rfl)
              exact L46 (b + 1) 0 (by omega) (by omega)   _ _ ls hP hD hS (lv_sub hl [2, 3, 4, 1, 0] rfl)
        exact L33 (nb + 1) 0 (by omega) (by omega)   _ _ ls hP hD hS (lv_sub hl [1, 2, 0] rfl)
      · have h9d := q_goon c_14 (by omega)
        refine lv_aload_n hx hb dX4_raceOn_17 rfl (lv_at hl 1 rfl) ?_
        refine lv_iload_n hx hb dX4_raceOn_18 rfl (lv_at hl 2 rfl) ?_
        refine lv_aload_n hx hb dX4_raceOn_19 rfl (lv_at hl 0 rfl) ?_
        refine lv_iload_n hx hb dX4_raceOn_20 rfl (lv_at hl 2 rfl) ?_
        refine q_callV (As := [.int (nI b)]) (rs := [.int (nI b), .ref q4]) hC (c_X4_sail l D T mo mw me mf mn nb nj th len (q_upto b (rSails G (wf (mk % 10))) G) (va_up (q_upto b (rSails G (wf (mk % 10))) G) b (rSail (G b) (wf (mk % 10)))) wf nu mk hm hmk b (G b) (by omega) (q_upto_at b (rSails G (wf (mk % 10))) G) (hz b h9d) rfl) q_no_st q_no_at (cwV 1 hts gX4_raceOn_X4_sail rfl rfl rfl (by decide +kernel) ⟨Nat.le_of_ble_eq_true rfl, Nat.le_of_ble_eq_true rfl⟩) (va_recv hK hP (ci := 5) (q0 := 0) rfl rfl) hK hP hD hS hA (q_mask [true, true, false, true, true, false] _) rfl hl.1 rfl (Nat.le_of_ble_eq_true rfl) dX4_raceOn_21 ⟨(Nat.le_of_ble_eq_true rfl), (by show (0 + nb) + 0 ≤ 8; omega)⟩ (fun v9 C9 H locs hp hP hD hS => ?_)
        obtain ⟨rfl, rfl⟩ := hp
        have hP : va_P D vwCl [q_mc mo th nb nj len mw me mf mn, q_ia T mw 10 wf, q_ia T me 3 ey, q_fa T mf (va_up (q_upto b (rSails G (wf (mk % 10))) G) b (rSail (G b) (wf (mk % 10)))), q_ia T mn 4 nu, (q4, .inl (T 2, nb, .inl (q_upto b (rWents G (wf (mk % 10))) (fun _ => 0))))] H := q_P_perm (q_mrg_perm [true, true, false, true, true, false] _ _) hP
        have hD : va_D A [q_mc mo th nb nj len mw me mf mn, q_ia T mw 10 wf, q_ia T me 3 ey, q_fa T mf (va_up (q_upto b (rSails G (wf (mk % 10))) G) b (rSail (G b) (wf (mk % 10)))), q_ia T mn 4 nu, (q4, .inl (T 2, nb, .inl (q_upto b (rWents G (wf (mk % 10))) (fun _ => 0))))] := q_D_perm (q_mrg_perm [true, true, false, true, true, false] _ _) hD
        refine va_zast (D := D) hx hb hK hP hD hS 5 2 rfl rfl (vp_in_nI h9d (by omega)) dX4_raceOn_24 (fun H locs hP hD hS => ?_)
        rw [show (nI b : Int32).toNatClampNeg = b from nI_clamp (by omega), q_nar01 (rWent01 _ _)] at hP hD
        have hP : va_P D vwCl [q_mc mo th nb nj len mw me mf mn, q_ia T mw 10 wf, q_ia T me 3 ey, q_fa T mf (va_up (q_upto b (rSails G (wf (mk % 10))) G) b (rSail (G b) (wf (mk % 10)))), q_ia T mn 4 nu, (q4, .inl (T 2, nb, .inl (upd (q_upto b (rWents G (wf (mk % 10))) (fun _ => 0)) b (rWent (G b) (wf (mk % 10))))))] H := hP
        have hD : va_D A [q_mc mo th nb nj len mw me mf mn, q_ia T mw 10 wf, q_ia T me 3 ey, q_fa T mf (va_up (q_upto b (rSails G (wf (mk % 10))) G) b (rSail (G b) (wf (mk % 10)))), q_ia T mn 4 nu, (q4, .inl (T 2, nb, .inl (upd (q_upto b (rWents G (wf (mk % 10))) (fun _ => 0)) b (rWent (G b) (wf (mk % 10))))))] := hD
        refine lv_iinc (v := (nI (b + 1))) (lv' := [(2, .int (nI (b + 1))), (0, .ref mo), (1, .ref q4)]) hx hb dX4_raceOn_25 hl (k := 2) rfl (nI_1 b) (by decide) rfl (fun ls hl => ?_)
        refine lv_goto (tgt := 9) hx hb dX4_raceOn_28 (by decide) ?_
        have hP : va_P D vwCl [q_mc mo th nb nj len mw me mf mn, q_ia T mw 10 wf, q_ia T me 3 ey, q_fa T mf (q_upto (b + 1) (rSails G (wf (mk % 10))) G), q_ia T mn 4 nu, (q4, .inl (T 2, nb, .inl (q_upto (b + 1) (rWents G (wf (mk % 10))) (fun _ => 0))))] H := by rw [show q_upto (b + 1) (rSails G (wf (mk % 10))) G = va_up (q_upto b (rSails G (wf (mk % 10))) G) b (rSail (G b) (wf (mk % 10))) from (q_upto_s b (rSails G (wf (mk % 10))) G).symm, show q_upto (b + 1) (rWents G (wf (mk % 10))) (fun _ => 0) = upd (q_upto b (rWents G (wf (mk % 10))) (fun _ => 0)) b (rWent (G b) (wf (mk % 10))) from q_upto_su.symm]; exact hP
        have hD : va_D A [q_mc mo th nb nj len mw me mf mn, q_ia T mw 10 wf, q_ia T me 3 ey, q_fa T mf (q_upto (b + 1) (rSails G (wf (mk % 10))) G), q_ia T mn 4 nu, (q4, .inl (T 2, nb, .inl (q_upto (b + 1) (rWents G (wf (mk % 10))) (fun _ => 0))))] := by rw [show q_upto (b + 1) (rSails G (wf (mk % 10))) G = va_up (q_upto b (rSails G (wf (mk % 10))) G) b (rSail (G b) (wf (mk % 10))) from (q_upto_s b (rSails G (wf (mk % 10))) G).symm, show q_upto (b + 1) (rWents G (wf (mk % 10))) (fun _ => 0) = upd (q_upto b (rWents G (wf (mk % 10))) (fun _ => 0)) b (rWent (G b) (wf (mk % 10))) from q_upto_su.symm]; exact hD
        exact ih9 (b + 1) (by omega) (by omega)   _ _ ls hP hD hS (lv_sub hl [1, 2, 0] rfl)
  exact L9 (nb + 1) 0 (by omega) (by omega)   _ _ ls hP hD hS (lv_sub hl [2, 1, 0] rfl)
