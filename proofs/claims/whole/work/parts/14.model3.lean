
def rU1 (nu : Nat → Int32) : Nat → Int32 := if bOn nu = 0 then nu else upd nu 3 (nu 3 + 1)
def rA1 (G : Nat → Nat → Int32) (nu : Nat → Int32) (w : Int32) (ey : Nat → Int32) (nj : Nat) (len : Int32) (nb : Nat) : Nat → Nat → Int32 := if bOn nu = 0 then G else rRace G w ey nj len (nu 3 + 1) nb
def rDryF (G : Nat → Nat → Int32) (nu : Nat → Int32) : Nat → Nat → Int32 := fun b => if nu 0 - nu 0 / 5 * 5 = 0 then (if bOn nu = 0 then bDry (G b) else if G b 9 = 0 then bDry (G b) else G b) else G b
def rA2 (G : Nat → Nat → Int32) (nu : Nat → Int32) (nb : Nat) : Nat → Nat → Int32 := q_upto nb (rDryF G nu) G
def rU2 (nu : Nat → Int32) : Nat → Int32 := upd nu 0 (nu 0 + 1)
def rA3 (G : Nat → Nat → Int32) (nu : Nat → Int32) (nb : Nat) : Nat → Nat → Int32 := if bOn nu = 0 then G else if q_sum (dSt G 1) nb = 0 then q_upto nb (dEnd G nb) G else if nu 3 = 60 then q_upto nb (dEnd G nb) G else G
def rU3 (G : Nat → Nat → Int32) (nu : Nat → Int32) (nb : Nat) : Nat → Int32 := if bOn nu = 0 then rU2 nu else if q_sum (dSt G 1) nb = 0 then upd (rU2 nu) 2 0 else if nu 3 = 60 then upd (rU2 nu) 2 0 else rU2 nu
def rG (G : Nat → Nat → Int32) (nu : Nat → Int32) (w : Int32) (ey : Nat → Int32) (nj : Nat) (len : Int32) (nb : Nat) : Nat → Nat → Int32 := rA3 (rA2 (rA1 G nu w ey nj len nb) (rU1 nu) nb) (rU1 nu) nb
def rU (G : Nat → Nat → Int32) (nu : Nat → Int32) (w : Int32) (ey : Nat → Int32) (nj : Nat) (len : Int32) (nb : Nat) : Nat → Int32 := rU3 (rA2 (rA1 G nu w ey nj len nb) (rU1 nu) nb) (rU1 nu) nb
theorem rU1_0 (nu : Nat → Int32) : rU1 nu 0 = nu 0 := by
  unfold rU1
  split
  · rfl
  · simp [upd]

abbrev rmX4_minuteOn : Room := { frames := 5, cells := 2, slots := 12, locals := 111 }
set_option maxHeartbeats 4000000 in
set_option maxRecDepth 100000 in
theorem c_X4_minuteOn (l : Launch) (D : va_G) (T : Nat → ClassId) (mo mw me mf mn nb nj : Nat) (th len : Int32) (G : Nat → Nat → Int32) (wf ey nu : Nat → Int32) (mk : Nat) (hm : nu 0 = nI mk) (hmk : mk < 2 ^ 31) (hn : nb ≤ 8) (hj : nj ≤ 3) (hz : ∀ b, b < nb → 0 < 2 + G b 0 + G b 2 / 2) : q_M l D (q_ty T) yX4_minuteOn wsX4_minuteOn rmX4_minuteOn [.ref mo] [q_mc mo th nb nj len mw me mf mn, q_ia T mw 10 wf, q_ia T me 3 ey, q_fa T mf G, q_ia T mn 4 nu] q_no (q_is none [q_mc mo th nb nj len mw me mf mn, q_ia T mw 10 wf, q_ia T me 3 ey, q_fa T mf (rG G nu (wf (mk % 10)) ey nj len nb), q_ia T mn 4 (rU G nu (wf (mk % 10)) ey nj len nb)]) := by
  refine q_start (cc := cX4_minuteOn) (maxL := 2) (ret := none) (by decide) rfl (Nat.le_of_ble_eq_true rfl) ?_
  intro p e s m args below meth c A H locs hx hb hr hts hown hlocks hml hnm hP hK hD hS hA hG ls hl
  have hown : s.vm.findClass RX4 = some m.cls := hown
  have hC : CallFix p m c cX4_minuteOn 2 s args wsX4_minuteOn RX4 := ⟨hx, hb, hml, hown, hts⟩
  have iX4 : ∀ w ∈ wsX40, w ∈ wsX4_minuteOn := by decide +kernel
  have hl : lv_has ls 2 [(0, .ref mo)] := hl
  have J11 : ∀ (H : Heap) (locs : List Loc) (ls : Array Slot), va_P D vwCl [q_mc mo th nb nj len mw me mf mn, q_ia T mw 10 wf, q_ia T me 3 ey, q_fa T mf (rA1 G nu (wf (mk % 10)) ey nj len nb), q_ia T mn 4 (rU1 nu)] H → va_D A [q_mc mo th nb nj len mw me mf mn, q_ia T mw 10 wf, q_ia T me 3 ey, q_fa T mf (rA1 G nu (wf (mk % 10)) ey nj len nb), q_ia T mn 4 (rU1 nu)] → va_S A s.heap H locs → lv_has ls 2 [(0, .ref mo)] → W p l e rmX4_minuteOn s m args below meth c H locs 1 8 (q_E below D (q_ty T) (q_is none [q_mc mo th nb nj len mw me mf mn, q_ia T mw 10 wf, q_ia T me 3 ey, q_fa T mf (rG G nu (wf (mk % 10)) ey nj len nb), q_ia T mn 4 (rU G nu (wf (mk % 10)) ey nj len nb)]) A args s rmX4_minuteOn) (F0 m 11 ls []) := by
    intro H locs ls hP hD hS hl
    refine lv_iconst (v := 0) hx hb dX4_minuteOn_11 (by decide) ?_
    refine lv_istore_n (lv' := [(1, .int 0), (0, .ref mo)]) hx hb dX4_minuteOn_12 rfl hl (by decide) rfl (fun ls hl => ?_)
    have hP : va_P D vwCl [q_mc mo th nb nj len mw me mf mn, q_ia T mw 10 wf, q_ia T me 3 ey, q_fa T mf (q_upto 0 (rDryF (rA1 G nu (wf (mk % 10)) ey nj len nb) (rU1 nu)) (rA1 G nu (wf (mk % 10)) ey nj len nb)), q_ia T mn 4 (rU1 nu)] H := by rw [q_upto_0]; exact hP
    have hD : va_D A [q_mc mo th nb nj len mw me mf mn, q_ia T mw 10 wf, q_ia T me 3 ey, q_fa T mf (q_upto 0 (rDryF (rA1 G nu (wf (mk % 10)) ey nj len nb) (rU1 nu)) (rA1 G nu (wf (mk % 10)) ey nj len nb)), q_ia T mn 4 (rU1 nu)] := by rw [q_upto_0]; exact hD
    have L13 : ∀ (f9 b : Nat) (h9a : nb < b + f9) (h9b : b ≤ nb) (H : Heap) (locs : List Loc) (ls : Array Slot), va_P D vwCl [q_mc mo th nb nj len mw me mf mn, q_ia T mw 10 wf, q_ia T me 3 ey, q_fa T mf (q_upto b (rDryF (rA1 G nu (wf (mk % 10)) ey nj len nb) (rU1 nu)) (rA1 G nu (wf (mk % 10)) ey nj len nb)), q_ia T mn 4 (rU1 nu)] H → va_D A [q_mc mo th nb nj len mw me mf mn, q_ia T mw 10 wf, q_ia T me 3 ey, q_fa T mf (q_upto b (rDryF (rA1 G nu (wf (mk % 10)) ey nj len nb) (rU1 nu)) (rA1 G nu (wf (mk % 10)) ey nj len nb)), q_ia T mn 4 (rU1 nu)] → va_S A s.heap H locs → lv_has ls 2 [(0, .ref mo), (1, .int (nI b))] → W p l e rmX4_minuteOn s m args below meth c H locs 1 8 (q_E below D (q_ty T) (q_is none [q_mc mo th nb nj len mw me mf mn, q_ia T mw 10 wf, q_ia T me 3 ey, q_fa T mf (rG G nu (wf (mk % 10)) ey nj len nb), q_ia T mn 4 (rU G nu (wf (mk % 10)) ey nj len nb)]) A args s rmX4_minuteOn) (F0 m 13 ls []) := by
      intro f9
      induction f9 with
      | zero => intro b h9a h9b; exact absurd h9a (by omega)
      | succ f9 ih13 =>
        intro b h9a h9b   H locs ls hP hD hS hl
        refine lv_iload_n hx hb dX4_minuteOn_13 rfl (lv_at hl 1 rfl) ?_
        refine lv_aload_n hx hb dX4_minuteOn_14 rfl (lv_at hl 0 rfl) ?_
        refine va_get (D := D) (ci := 5) (v := .int (nI nb)) (C := RX4) (T := TX4) (N := 8) hx hb hts iX4 hown hK hP 0 rfl rfl 1 (by decide) (hts (.fieldLink RX4 29 "ToyRegattaModel" "boats" "I") (by decide +kernel)) (fun _ h9 => h9) rfl dX4_minuteOn_15 ?_
        refine lv_icmp_ge (tgt := 73) hx hb dX4_minuteOn_18 (by decide) (fun c_18 => ?_) (fun c_18 => ?_)
        · have h9d := (q_exit c_18 h9b (by omega)).symm
          subst h9d
          have hP : va_P D vwCl [q_mc mo th nb nj len mw me mf mn, q_ia T mw 10 wf, q_ia T me 3 ey, q_fa T mf (rA2 (rA1 G nu (wf (mk % 10)) ey nj len nb) (rU1 nu) nb), q_ia T mn 4 (rU1 nu)] H := hP
          have hD : va_D A [q_mc mo th nb nj len mw me mf mn, q_ia T mw 10 wf, q_ia T me 3 ey, q_fa T mf (rA2 (rA1 G nu (wf (mk % 10)) ey nj len nb) (rU1 nu) nb), q_ia T mn 4 (rU1 nu)] := hD
          refine lv_aload_n hx hb dX4_minuteOn_73 rfl (lv_at hl 0 rfl) ?_
          refine va_get (D := D) (ci := 5) (v := .ref mn) (C := RX4) (T := TX4) (N := 8) hx hb hts iX4 hown hK hP 0 rfl rfl 7 (by decide) (hts (.fieldLink RX4 23 "ToyRegattaModel" "numbers" "[I") (by decide +kernel)) (fun _ h9 => h9) rfl dX4_minuteOn_74 ?_
          refine lv_iconst (v := 0) hx hb dX4_minuteOn_77 (by decide) ?_
          refine lv_dup2_11 hx hb dX4_minuteOn_78 rfl rfl ?_
          refine va_iald (D := D) hx hb hK hP 4 0 rfl rfl (by unfold vp_in; decide) dX4_minuteOn_79 ?_
          rw [show (0 : Int32).toNatClampNeg = 0 from (by decide)]
          refine lv_iconst (v := 1) hx hb dX4_minuteOn_80 (by decide) ?_
          refine lv_iadd hx hb dX4_minuteOn_81 ?_
          refine va_iast (D := D) hx hb hK hP hD hS 4 0 rfl rfl (by unfold vp_in; decide) dX4_minuteOn_82 (fun H locs hP hD hS => ?_)
          rw [show (0 : Int32).toNatClampNeg = 0 from (by decide)] at hP hD
          have hP : va_P D vwCl [q_mc mo th nb nj len mw me mf mn, q_ia T mw 10 wf, q_ia T me 3 ey, q_fa T mf (rA2 (rA1 G nu (wf (mk % 10)) ey nj len nb) (rU1 nu) nb), q_ia T mn 4 (upd (rU1 nu) 0 (((rU1 nu) 0) + 1))] H := hP
          have hD : va_D A [q_mc mo th nb nj len mw me mf mn, q_ia T mw 10 wf, q_ia T me 3 ey, q_fa T mf (rA2 (rA1 G nu (wf (mk % 10)) ey nj len nb) (rU1 nu) nb), q_ia T mn 4 (upd (rU1 nu) 0 (((rU1 nu) 0) + 1))] := hD
          refine lv_aload_n hx hb dX4_minuteOn_83 rfl (lv_at hl 0 rfl) ?_
          refine q_callV (As := []) (rs := []) hC (c_X4_isRace l D T mo mw me mf mn nb nj th len (upd (rU1 nu) 0 (((rU1 nu) 0) + 1))) q_no_st q_no_at (cwV 0 hts gX4_minuteOn_X4_isRace rfl rfl rfl (by decide +kernel) ⟨Nat.le_of_ble_eq_true rfl, Nat.le_of_ble_eq_true rfl⟩) (va_recv hK hP (ci := 5) (q0 := 0) rfl rfl) hK hP hD hS hA (q_mask [true, false, false, false, true] _) rfl hl.1 rfl (Nat.le_of_ble_eq_true rfl) dX4_minuteOn_84 ⟨(Nat.le_of_ble_eq_true rfl), (Nat.le_of_ble_eq_true rfl)⟩ (fun v9 C9 H locs hp hP hD hS => ?_)
          obtain ⟨rfl, rfl⟩ := hp
          have hP : va_P D vwCl [q_mc mo th nb nj len mw me mf mn, q_ia T mw 10 wf, q_ia T me 3 ey, q_fa T mf (rA2 (rA1 G nu (wf (mk % 10)) ey nj len nb) (rU1 nu) nb), q_ia T mn 4 (upd (rU1 nu) 0 (((rU1 nu) 0) + 1))] H := q_P_perm (q_mrg_perm [true, false, false, false, true] _ _) hP
          have hD : va_D A [q_mc mo th nb nj len mw me mf mn, q_ia T mw 10 wf, q_ia T me 3 ey, q_fa T mf (rA2 (rA1 G nu (wf (mk % 10)) ey nj len nb) (rU1 nu) nb), q_ia T mn 4 (upd (rU1 nu) 0 (((rU1 nu) 0) + 1))] := q_D_perm (q_mrg_perm [true, false, false, false, true] _ _) hD
          refine W.eq (g2 := F0 m 87 ls [.int (bOn (rU1 nu))]) rfl ?_
          refine lv_if_eq (tgt := 112) hx hb dX4_minuteOn_87 (by decide) (fun c_87 => ?_) (fun c_87 => ?_)
          · exact q_vret hx hb hr hlocks hP hK hD hS (Nat.le_of_ble_eq_true rfl) (Nat.le_of_ble_eq_true rfl) dX4_minuteOn_112 ⟨rfl, by rw [show rG G nu (wf (mk % 10)) ey nj len nb = (rA2 (rA1 G nu (wf (mk % 10)) ey nj len nb) (rU1 nu) nb) from by simp only [rG, rA3, if_pos c_87], show rU G nu (wf (mk % 10)) ey nj len nb = (upd (rU1 nu) 0 (((rU1 nu) 0) + 1)) from by simp only [rU, rU3, rU2, if_pos c_87]]⟩
          · refine lv_aload_n hx hb dX4_minuteOn_90 rfl (lv_at hl 0 rfl) ?_
            refine q_callV (As := []) (rs := []) hC (c_X4_sailing l D T mo mw me mf mn nb nj th len (rA2 (rA1 G nu (wf (mk % 10)) ey nj len nb) (rU1 nu) nb) hn) q_no_st q_no_at (cwV 0 hts gX4_minuteOn_X4_sailing rfl rfl rfl (by decide +kernel) ⟨Nat.le_of_ble_eq_true rfl, Nat.le_of_ble_eq_true rfl⟩) (va_recv hK hP (ci := 5) (q0 := 0) rfl rfl) hK hP hD hS hA (q_mask [true, false, false, true, false] _) rfl hl.1 rfl (Nat.le_of_ble_eq_true rfl) dX4_minuteOn_91 ⟨(Nat.le_of_ble_eq_true rfl), (Nat.le_of_ble_eq_true rfl)⟩ (fun v9 C9 H locs hp hP hD hS => ?_)
            obtain ⟨rfl, rfl⟩ := hp
            have hP : va_P D vwCl [q_mc mo th nb nj len mw me mf mn, q_ia T mw 10 wf, q_ia T me 3 ey, q_fa T mf (rA2 (rA1 G nu (wf (mk % 10)) ey nj len nb) (rU1 nu) nb), q_ia T mn 4 (upd (rU1 nu) 0 (((rU1 nu) 0) + 1))] H := q_P_perm (q_mrg_perm [true, false, false, true, false] _ _) hP
            have hD : va_D A [q_mc mo th nb nj len mw me mf mn, q_ia T mw 10 wf, q_ia T me 3 ey, q_fa T mf (rA2 (rA1 G nu (wf (mk % 10)) ey nj len nb) (rU1 nu) nb), q_ia T mn 4 (upd (rU1 nu) 0 (((rU1 nu) 0) + 1))] := q_D_perm (q_mrg_perm [true, false, false, true, false] _ _) hD
            refine lv_if_eq (tgt := 108) hx hb dX4_minuteOn_94 (by decide) (fun c_94 => ?_) (fun c_94 => ?_)
            · refine lv_aload_n hx hb dX4_minuteOn_108 rfl (lv_at hl 0 rfl) ?_
              refine q_callV (As := []) (rs := []) hC (c_X4_finish l D T mo mw me mf mn nb nj th len (rA2 (rA1 G nu (wf (mk % 10)) ey nj len nb) (rU1 nu) nb) (upd (rU1 nu) 0 (((rU1 nu) 0) + 1)) hn) q_no_st q_no_at (cwV 0 hts gX4_minuteOn_X4_finish rfl rfl rfl (by decide +kernel) ⟨Nat.le_of_ble_eq_true rfl, Nat.le_of_ble_eq_true rfl⟩) (va_recv hK hP (ci := 5) (q0 := 0) rfl rfl) hK hP hD hS hA (q_mask [true, false, false, true, true] _) rfl hl.1 rfl (Nat.le_of_ble_eq_true rfl) dX4_minuteOn_109 ⟨(Nat.le_of_ble_eq_true rfl), (Nat.le_of_ble_eq_true rfl)⟩ (fun v9 C9 H locs hp hP hD hS => ?_)
              obtain ⟨rfl, rfl⟩ := hp
              have hP : va_P D vwCl [q_mc mo th nb nj len mw me mf mn, q_ia T mw 10 wf, q_ia T me 3 ey, q_fa T mf (q_upto nb (dEnd (rA2 (rA1 G nu (wf (mk % 10)) ey nj len nb) (rU1 nu) nb) nb) (rA2 (rA1 G nu (wf (mk % 10)) ey nj len nb) (rU1 nu) nb)), q_ia T mn 4 (upd (upd (rU1 nu) 0 (((rU1 nu) 0) + 1)) 2 0)] H := q_P_perm (q_mrg_perm [true, false, false, true, true] _ _) hP
              have hD : va_D A [q_mc mo th nb nj len mw me mf mn, q_ia T mw 10 wf, q_ia T me 3 ey, q_fa T mf (q_upto nb (dEnd (rA2 (rA1 G nu (wf (mk % 10)) ey nj len nb) (rU1 nu) nb) nb) (rA2 (rA1 G nu (wf (mk % 10)) ey nj len nb) (rU1 nu) nb)), q_ia T mn 4 (upd (upd (rU1 nu) 0 (((rU1 nu) 0) + 1)) 2 0)] := q_D_perm (q_mrg_perm [true, false, false, true, true] _ _) hD
              exact q_vret hx hb hr hlocks hP hK hD hS (Nat.le_of_ble_eq_true rfl) (Nat.le_of_ble_eq_true rfl) dX4_minuteOn_112 ⟨rfl, by rw [show rG G nu (wf (mk % 10)) ey nj len nb = (q_upto nb (dEnd (rA2 (rA1 G nu (wf (mk % 10)) ey nj len nb) (rU1 nu) nb) nb) (rA2 (rA1 G nu (wf (mk % 10)) ey nj len nb) (rU1 nu) nb)) from by simp only [rG, rA3, if_neg c_87, if_pos c_94], show rU G nu (wf (mk % 10)) ey nj len nb = (upd (upd (rU1 nu) 0 (((rU1 nu) 0) + 1)) 2 0) from by simp only [rU, rU3, rU2, if_neg c_87, if_pos c_94]]⟩
            · refine lv_aload_n hx hb dX4_minuteOn_97 rfl (lv_at hl 0 rfl) ?_
              refine va_get (D := D) (ci := 5) (v := .ref mn) (C := RX4) (T := TX4) (N := 8) hx hb hts iX4 hown hK hP 0 rfl rfl 7 (by decide) (hts (.fieldLink RX4 23 "ToyRegattaModel" "numbers" "[I") (by decide +kernel)) (fun _ h9 => h9) rfl dX4_minuteOn_98 ?_
              refine lv_iconst (v := 3) hx hb dX4_minuteOn_101 (by decide) ?_
              refine va_iald (D := D) hx hb hK hP 4 0 rfl rfl (by unfold vp_in; decide) dX4_minuteOn_102 ?_
              rw [show (3 : Int32).toNatClampNeg = 3 from (by decide)]
              refine lv_bipush (v := 60) hx hb dX4_minuteOn_103 (by decide) ?_
              refine W.eq (g2 := F0 m 105 ls [.int 60, .int ((rU1 nu) 3)]) rfl ?_
              refine lv_icmp_ne (tgt := 112) hx hb dX4_minuteOn_105 (by decide) (fun c_105 => ?_) (fun c_105 => ?_)
              · exact q_vret hx hb hr hlocks hP hK hD hS (Nat.le_of_ble_eq_true rfl) (Nat.le_of_ble_eq_true rfl) dX4_minuteOn_112 ⟨rfl, by rw [show rG G nu (wf (mk % 10)) ey nj len nb = (rA2 (rA1 G nu (wf (mk % 10)) ey nj len nb) (rU1 nu) nb) from by simp only [rG, rA3, if_neg c_87, if_neg c_94, if_neg c_105], show rU G nu (wf (mk % 10)) ey nj len nb = (upd (rU1 nu) 0 (((rU1 nu) 0) + 1)) from by simp only [rU, rU3, rU2, if_neg c_87, if_neg c_94, if_neg c_105]]⟩
              · refine lv_aload_n hx hb dX4_minuteOn_108 rfl (lv_at hl 0 rfl) ?_
                refine q_callV (As := []) (rs := []) hC (c_X4_finish l D T mo mw me mf mn nb nj th len (rA2 (rA1 G nu (wf (mk % 10)) ey nj len nb) (rU1 nu) nb) (upd (rU1 nu) 0 (((rU1 nu) 0) + 1)) hn) q_no_st q_no_at (cwV 0 hts gX4_minuteOn_X4_finish rfl rfl rfl (by decide +kernel) ⟨Nat.le_of_ble_eq_true rfl, Nat.le_of_ble_eq_true rfl⟩) (va_recv hK hP (ci := 5) (q0 := 0) rfl rfl) hK hP hD hS hA (q_mask [true, false, false, true, true] _) rfl hl.1 rfl (Nat.le_of_ble_eq_true rfl) dX4_minuteOn_109 ⟨(Nat.le_of_ble_eq_true rfl), (Nat.le_of_ble_eq_true rfl)⟩ (fun v9 C9 H locs hp hP hD hS => ?_)
                obtain ⟨rfl, rfl⟩ := hp
                have hP : va_P D vwCl [q_mc mo th nb nj len mw me mf mn, q_ia T mw 10 wf, q_ia T me 3 ey, q_fa T mf (q_upto nb (dEnd (rA2 (rA1 G nu (wf (mk % 10)) ey nj len nb) (rU1 nu) nb) nb) (rA2 (rA1 G nu (wf (mk % 10)) ey nj len nb) (rU1 nu) nb)), q_ia T mn 4 (upd (upd (rU1 nu) 0 (((rU1 nu) 0) + 1)) 2 0)] H := q_P_perm (q_mrg_perm [true, false, false, true, true] _ _) hP
                have hD : va_D A [q_mc mo th nb nj len mw me mf mn, q_ia T mw 10 wf, q_ia T me 3 ey, q_fa T mf (q_upto nb (dEnd (rA2 (rA1 G nu (wf (mk % 10)) ey nj len nb) (rU1 nu) nb) nb) (rA2 (rA1 G nu (wf (mk % 10)) ey nj len nb) (rU1 nu) nb)), q_ia T mn 4 (upd (upd (rU1 nu) 0 (((rU1 nu) 0) + 1)) 2 0)] := q_D_perm (q_mrg_perm [true, false, false, true, true] _ _) hD
                exact q_vret hx hb hr hlocks hP hK hD hS (Nat.le_of_ble_eq_true rfl) (Nat.le_of_ble_eq_true rfl) dX4_minuteOn_112 ⟨rfl, by rw [show rG G nu (wf (mk % 10)) ey nj len nb = (q_upto nb (dEnd (rA2 (rA1 G nu (wf (mk % 10)) ey nj len nb) (rU1 nu) nb) nb) (rA2 (rA1 G nu (wf (mk % 10)) ey nj len nb) (rU1 nu) nb)) from by simp only [rG, rA3, if_neg c_87, if_neg c_94, if_pos c_105], show rU G nu (wf (mk % 10)) ey nj len nb = (upd (upd (rU1 nu) 0 (((rU1 nu) 0) + 1)) 2 0) from by simp only [rU, rU3, rU2, if_neg c_87, if_neg c_94, if_pos c_105]]⟩
        · have h9d := q_goon c_18 (by omega)
          refine lv_aload_n hx hb dX4_minuteOn_21 rfl (lv_at hl 0 rfl) ?_
          refine va_get (D := D) (ci := 5) (v := .ref mn) (C := RX4) (T := TX4) (N := 8) hx hb hts iX4 hown hK hP 0 rfl rfl 7 (by decide) (hts (.fieldLink RX4 23 "ToyRegattaModel" "numbers" "[I") (by decide +kernel)) (fun _ h9 => h9) rfl dX4_minuteOn_22 ?_
          refine lv_iconst (v := 0) hx hb dX4_minuteOn_25 (by decide) ?_
          refine va_iald (D := D) hx hb hK hP 4 0 rfl rfl (by unfold vp_in; decide) dX4_minuteOn_26 ?_
          rw [show (0 : Int32).toNatClampNeg = 0 from (by decide)]
          refine lv_iconst (v := 5) hx hb dX4_minuteOn_27 (by decide) ?_
          refine lv_irem hx hb dX4_minuteOn_28 (by decide) ?_
          refine lv_if_ne (tgt := 67) hx hb dX4_minuteOn_29 (by decide) (fun c_29 => ?_) (fun c_29 => ?_)
          · refine lv_iinc (v := (nI (b + 1))) (lv' := [(1, .int (nI (b + 1))), (0, .ref mo)]) hx hb dX4_minuteOn_67 hl (k := 1) rfl (nI_1 b) (by decide) rfl (fun ls hl => ?_)
            refine lv_goto (tgt := 13) hx hb dX4_minuteOn_70 (by decide) ?_
            have e8 : (rDryF (rA1 G nu (wf (mk % 10)) ey nj len nb) (rU1 nu)) b = ((rA1 G nu (wf (mk % 10)) ey nj len nb) b) := by simp only [rDryF, if_neg c_29] <;> rfl
            have hP : va_P D vwCl [q_mc mo th nb nj len mw me mf mn, q_ia T mw 10 wf, q_ia T me 3 ey, q_fa T mf (q_upto (b + 1) (rDryF (rA1 G nu (wf (mk % 10)) ey nj len nb) (rU1 nu)) (rA1 G nu (wf (mk % 10)) ey nj len nb)), q_ia T mn 4 (rU1 nu)] H := by rw [show q_upto (b + 1) (rDryF (rA1 G nu (wf (mk % 10)) ey nj len nb) (rU1 nu)) (rA1 G nu (wf (mk % 10)) ey nj len nb) = (q_upto b (rDryF (rA1 G nu (wf (mk % 10)) ey nj len nb) (rU1 nu)) (rA1 G nu (wf (mk % 10)) ey nj len nb)) from by rw [← q_upto_s, e8]; exact q_up_id_at (q_upto_at b (rDryF (rA1 G nu (wf (mk % 10)) ey nj len nb) (rU1 nu)) (rA1 G nu (wf (mk % 10)) ey nj len nb))]; exact hP
            have hD : va_D A [q_mc mo th nb nj len mw me mf mn, q_ia T mw 10 wf, q_ia T me 3 ey, q_fa T mf (q_upto (b + 1) (rDryF (rA1 G nu (wf (mk % 10)) ey nj len nb) (rU1 nu)) (rA1 G nu (wf (mk % 10)) ey nj len nb)), q_ia T mn 4 (rU1 nu)] := by rw [show q_upto (b + 1) (rDryF (rA1 G nu (wf (mk % 10)) ey nj len nb) (rU1 nu)) (rA1 G nu (wf (mk % 10)) ey nj len nb) = (q_upto b (rDryF (rA1 G nu (wf (mk % 10)) ey nj len nb) (rU1 nu)) (rA1 G nu (wf (mk % 10)) ey nj len nb)) from by rw [← q_upto_s, e8]; exact q_up_id_at (q_upto_at b (rDryF (rA1 G nu (wf (mk % 10)) ey nj len nb) (rU1 nu)) (rA1 G nu (wf (mk % 10)) ey nj len nb))]; exact hD
            exact ih13 (b + 1) (by omega) (by omega)   _ _ ls hP hD hS (lv_sub hl [1, 0] rfl)
          · refine lv_aload_n hx hb dX4_minuteOn_32 rfl (lv_at hl 0 rfl) ?_
            refine q_callV (As := []) (rs := []) hC (c_X4_isRace l D T mo mw me mf mn nb nj th len (rU1 nu)) q_no_st q_no_at (cwV 0 hts gX4_minuteOn_X4_isRace rfl rfl rfl (by decide +kernel) ⟨Nat.le_of_ble_eq_true rfl, Nat.le_of_ble_eq_true rfl⟩) (va_recv hK hP (ci := 5) (q0 := 0) rfl rfl) hK hP hD hS hA (q_mask [true, false, false, false, true] _) rfl hl.1 rfl (Nat.le_of_ble_eq_true rfl) dX4_minuteOn_33 ⟨(Nat.le_of_ble_eq_true rfl), (Nat.le_of_ble_eq_true rfl)⟩ (fun v9 C9 H locs hp hP hD hS => ?_)
            obtain ⟨rfl, rfl⟩ := hp
            have hP : va_P D vwCl [q_mc mo th nb nj len mw me mf mn, q_ia T mw 10 wf, q_ia T me 3 ey, q_fa T mf (q_upto b (rDryF (rA1 G nu (wf (mk % 10)) ey nj len nb) (rU1 nu)) (rA1 G nu (wf (mk % 10)) ey nj len nb)), q_ia T mn 4 (rU1 nu)] H := q_P_perm (q_mrg_perm [true, false, false, false, true] _ _) hP
            have hD : va_D A [q_mc mo th nb nj len mw me mf mn, q_ia T mw 10 wf, q_ia T me 3 ey, q_fa T mf (q_upto b (rDryF (rA1 G nu (wf (mk % 10)) ey nj len nb) (rU1 nu)) (rA1 G nu (wf (mk % 10)) ey nj len nb)), q_ia T mn 4 (rU1 nu)] := q_D_perm (q_mrg_perm [true, false, false, false, true] _ _) hD
            refine lv_if_eq (tgt := 49) hx hb dX4_minuteOn_36 (by decide) (fun c_36 => ?_) (fun c_36 => ?_)
            · refine lv_aload_n hx hb dX4_minuteOn_49 rfl (lv_at hl 0 rfl) ?_
              refine lv_iload_n hx hb dX4_minuteOn_50 rfl (lv_at hl 1 rfl) ?_
              refine lv_iconst (v := 4) hx hb dX4_minuteOn_51 (by decide) ?_
              refine lv_iconst (v := 0) hx hb dX4_minuteOn_52 (by decide) ?_
              refine lv_aload_n hx hb dX4_minuteOn_53 rfl (lv_at hl 0 rfl) ?_
              refine lv_iload_n hx hb dX4_minuteOn_54 rfl (lv_at hl 1 rfl) ?_
              refine lv_iconst (v := 4) hx hb dX4_minuteOn_55 (by decide) ?_
              refine q_callV (As := [.int (nI b), .int 4]) (rs := [.int 0, .int 4, .int (nI b), .ref mo]) hC (c_X4_bo l D T mo mw me mf mn nb nj th len (q_upto b (rDryF (rA1 G nu (wf (mk % 10)) ey nj len nb) (rU1 nu)) (rA1 G nu (wf (mk % 10)) ey nj len nb)) b 4 ((rA1 G nu (wf (mk % 10)) ey nj len nb) b) (by omega) (by omega) (q_upto_at b (rDryF (rA1 G nu (wf (mk % 10)) ey nj len nb) (rU1 nu)) (rA1 G nu (wf (mk % 10)) ey nj len nb))) q_no_st q_no_at (cwV 2 hts gX4_minuteOn_X4_bo rfl rfl rfl (by decide +kernel) ⟨Nat.le_of_ble_eq_true rfl, Nat.le_of_ble_eq_true rfl⟩) (va_recv hK hP (ci := 5) (q0 := 0) rfl rfl) hK hP hD hS hA (q_mask [true, false, false, true, false] _) rfl hl.1 rfl (Nat.le_of_ble_eq_true rfl) dX4_minuteOn_56 ⟨(Nat.le_of_ble_eq_true rfl), (Nat.le_of_ble_eq_true rfl)⟩ (fun v9 C9 H locs hp hP hD hS => ?_)
              obtain ⟨rfl, rfl⟩ := hp
              have hP : va_P D vwCl [q_mc mo th nb nj len mw me mf mn, q_ia T mw 10 wf, q_ia T me 3 ey, q_fa T mf (q_upto b (rDryF (rA1 G nu (wf (mk % 10)) ey nj len nb) (rU1 nu)) (rA1 G nu (wf (mk % 10)) ey nj len nb)), q_ia T mn 4 (rU1 nu)] H := q_P_perm (q_mrg_perm [true, false, false, true, false] _ _) hP
              have hD : va_D A [q_mc mo th nb nj len mw me mf mn, q_ia T mw 10 wf, q_ia T me 3 ey, q_fa T mf (q_upto b (rDryF (rA1 G nu (wf (mk % 10)) ey nj len nb) (rU1 nu)) (rA1 G nu (wf (mk % 10)) ey nj len nb)), q_ia T mn 4 (rU1 nu)] := q_D_perm (q_mrg_perm [true, false, false, true, false] _ _) hD
              refine lv_iconst (v := 1) hx hb dX4_minuteOn_59 (by decide) ?_
              refine lv_isub hx hb dX4_minuteOn_60 ?_
              refine va_mmax hx hb (hml.trans hl.1.symm) hown (hts (.methodLink RX4 68 Lib.Math.max.name) (by decide +kernel)) (hts (.static Lib.Math.max.name) (by decide +kernel)) (hts (.initialized "java/lang/Math") (by decide +kernel)) (hts (.code Lib.Math.max.name Lib.Math.max.code 2 (some .int)) (by decide +kernel)) (Nat.le_of_ble_eq_true rfl) (Nat.le_of_ble_eq_true rfl) (Nat.le_of_ble_eq_true rfl) (Nat.le_of_ble_eq_true rfl) dX4_minuteOn_61 ?_
              refine q_callV (As := [.int (nI b), .int 4, .int (if 0 < ((((rA1 G nu (wf (mk % 10)) ey nj len nb) b) 4) - 1) then ((((rA1 G nu (wf (mk % 10)) ey nj len nb) b) 4) - 1) else 0)]) (rs := []) hC (c_X4_put l D T mo mw me mf mn nb nj th len (q_upto b (rDryF (rA1 G nu (wf (mk % 10)) ey nj len nb) (rU1 nu)) (rA1 G nu (wf (mk % 10)) ey nj len nb)) (va_up (q_upto b (rDryF (rA1 G nu (wf (mk % 10)) ey nj len nb) (rU1 nu)) (rA1 G nu (wf (mk % 10)) ey nj len nb)) b (upd ((rA1 G nu (wf (mk % 10)) ey nj len nb) b) 4 (if 0 < ((((rA1 G nu (wf (mk % 10)) ey nj len nb) b) 4) - 1) then ((((rA1 G nu (wf (mk % 10)) ey nj len nb) b) 4) - 1) else 0))) b 4 (if 0 < ((((rA1 G nu (wf (mk % 10)) ey nj len nb) b) 4) - 1) then ((((rA1 G nu (wf (mk % 10)) ey nj len nb) b) 4) - 1) else 0) ((rA1 G nu (wf (mk % 10)) ey nj len nb) b) (by omega) (by omega) (q_upto_at b (rDryF (rA1 G nu (wf (mk % 10)) ey nj len nb) (rU1 nu)) (rA1 G nu (wf (mk % 10)) ey nj len nb)) rfl) q_no_st q_no_at (cwV 3 hts gX4_minuteOn_X4_put rfl rfl rfl (by decide +kernel) ⟨Nat.le_of_ble_eq_true rfl, Nat.le_of_ble_eq_true rfl⟩) (va_recv hK hP (ci := 5) (q0 := 0) rfl rfl) hK hP hD hS hA (q_mask [true, false, false, true, false] _) rfl hl.1 rfl (Nat.le_of_ble_eq_true rfl) dX4_minuteOn_64 ⟨(Nat.le_of_ble_eq_true rfl), (Nat.le_of_ble_eq_true rfl)⟩ (fun v9 C9 H locs hp hP hD hS => ?_)
              obtain ⟨rfl, rfl⟩ := hp
              have hP : va_P D vwCl [q_mc mo th nb nj len mw me mf mn, q_ia T mw 10 wf, q_ia T me 3 ey, q_fa T mf (va_up (q_upto b (rDryF (rA1 G nu (wf (mk % 10)) ey nj len nb) (rU1 nu)) (rA1 G nu (wf (mk % 10)) ey nj len nb)) b (upd ((rA1 G nu (wf (mk % 10)) ey nj len nb) b) 4 (if 0 < ((((rA1 G nu (wf (mk % 10)) ey nj len nb) b) 4) - 1) then ((((rA1 G nu (wf (mk % 10)) ey nj len nb) b) 4) - 1) else 0))), q_ia T mn 4 (rU1 nu)] H := q_P_perm (q_mrg_perm [true, false, false, true, false] _ _) hP
              have hD : va_D A [q_mc mo th nb nj len mw me mf mn, q_ia T mw 10 wf, q_ia T me 3 ey, q_fa T mf (va_up (q_upto b (rDryF (rA1 G nu (wf (mk % 10)) ey nj len nb) (rU1 nu)) (rA1 G nu (wf (mk % 10)) ey nj len nb)) b (upd ((rA1 G nu (wf (mk % 10)) ey nj len nb) b) 4 (if 0 < ((((rA1 G nu (wf (mk % 10)) ey nj len nb) b) 4) - 1) then ((((rA1 G nu (wf (mk % 10)) ey nj len nb) b) 4) - 1) else 0))), q_ia T mn 4 (rU1 nu)] := q_D_perm (q_mrg_perm [true, false, false, true, false] _ _) hD
              refine lv_iinc (v := (nI (b + 1))) (lv' := [(1, .int (nI (b + 1))), (0, .ref mo)]) hx hb dX4_minuteOn_67 hl (k := 1) rfl (nI_1 b) (by decide) rfl (fun ls hl => ?_)
              refine lv_goto (tgt := 13) hx hb dX4_minuteOn_70 (by decide) ?_
              have e8 : (rDryF (rA1 G nu (wf (mk % 10)) ey nj len nb) (rU1 nu)) b = (upd ((rA1 G nu (wf (mk % 10)) ey nj len nb) b) 4 (if 0 < ((((rA1 G nu (wf (mk % 10)) ey nj len nb) b) 4) - 1) then ((((rA1 G nu (wf (mk % 10)) ey nj len nb) b) 4) - 1) else 0)) := by simp only [rDryF, if_pos c_29, if_pos c_36] <;> rfl
              have hP : va_P D vwCl [q_mc mo th nb nj len mw me mf mn, q_ia T mw 10 wf, q_ia T me 3 ey, q_fa T mf (q_upto (b + 1) (rDryF (rA1 G nu (wf (mk % 10)) ey nj len nb) (rU1 nu)) (rA1 G nu (wf (mk % 10)) ey nj len nb)), q_ia T mn 4 (rU1 nu)] H := by rw [show q_upto (b + 1) (rDryF (rA1 G nu (wf (mk % 10)) ey nj len nb) (rU1 nu)) (rA1 G nu (wf (mk % 10)) ey nj len nb) = (va_up (q_upto b (rDryF (rA1 G nu (wf (mk % 10)) ey nj len nb) (rU1 nu)) (rA1 G nu (wf (mk % 10)) ey nj len nb)) b (upd ((rA1 G nu (wf (mk % 10)) ey nj len nb) b) 4 (if 0 < ((((rA1 G nu (wf (mk % 10)) ey nj len nb) b) 4) - 1) then ((((rA1 G nu (wf (mk % 10)) ey nj len nb) b) 4) - 1) else 0))) from by rw [← q_upto_s, e8]]; exact hP
              have hD : va_D A [q_mc mo th nb nj len mw me mf mn, q_ia T mw 10 wf, q_ia T me 3 ey, q_fa T mf (q_upto (b + 1) (rDryF (rA1 G nu (wf (mk % 10)) ey nj len nb) (rU1 nu)) (rA1 G nu (wf (mk % 10)) ey nj len nb)), q_ia T mn 4 (rU1 nu)] := by rw [show q_upto (b + 1) (rDryF (rA1 G nu (wf (mk % 10)) ey nj len nb) (rU1 nu)) (rA1 G nu (wf (mk % 10)) ey nj len nb) = (va_up (q_upto b (rDryF (rA1 G nu (wf (mk % 10)) ey nj len nb) (rU1 nu)) (rA1 G nu (wf (mk % 10)) ey nj len nb)) b (upd ((rA1 G nu (wf (mk % 10)) ey nj len nb) b) 4 (if 0 < ((((rA1 G nu (wf (mk % 10)) ey nj len nb) b) 4) - 1) then ((((rA1 G nu (wf (mk % 10)) ey nj len nb) b) 4) - 1) else 0))) from by rw [← q_upto_s, e8]]; exact hD
              exact ih13 (b + 1) (by omega) (by omega)   _ _ ls hP hD hS (lv_sub hl [1, 0] rfl)
            · refine lv_aload_n hx hb dX4_minuteOn_39 rfl (lv_at hl 0 rfl) ?_
              refine lv_iload_n hx hb dX4_minuteOn_40 rfl (lv_at hl 1 rfl) ?_
              refine lv_bipush (v := 9) hx hb dX4_minuteOn_41 (by decide) ?_
              refine q_callV (As := [.int (nI b), .int 9]) (rs := []) hC (c_X4_bo l D T mo mw me mf mn nb nj th len (q_upto b (rDryF (rA1 G nu (wf (mk % 10)) ey nj len nb) (rU1 nu)) (rA1 G nu (wf (mk % 10)) ey nj len nb)) b 9 ((rA1 G nu (wf (mk % 10)) ey nj len nb) b) (by omega) (by omega) (q_upto_at b (rDryF (rA1 G nu (wf (mk % 10)) ey nj len nb) (rU1 nu)) (rA1 G nu (wf (mk % 10)) ey nj len nb))) q_no_st q_no_at (cwV 2 hts gX4_minuteOn_X4_bo rfl rfl rfl (by decide +kernel) ⟨Nat.le_of_ble_eq_true rfl, Nat.le_of_ble_eq_true rfl⟩) (va_recv hK hP (ci := 5) (q0 := 0) rfl rfl) hK hP hD hS hA (q_mask [true, false, false, true, false] _) rfl hl.1 rfl (Nat.le_of_ble_eq_true rfl) dX4_minuteOn_43 ⟨(Nat.le_of_ble_eq_true rfl), (Nat.le_of_ble_eq_true rfl)⟩ (fun v9 C9 H locs hp hP hD hS => ?_)
              obtain ⟨rfl, rfl⟩ := hp
              have hP : va_P D vwCl [q_mc mo th nb nj len mw me mf mn, q_ia T mw 10 wf, q_ia T me 3 ey, q_fa T mf (q_upto b (rDryF (rA1 G nu (wf (mk % 10)) ey nj len nb) (rU1 nu)) (rA1 G nu (wf (mk % 10)) ey nj len nb)), q_ia T mn 4 (rU1 nu)] H := q_P_perm (q_mrg_perm [true, false, false, true, false] _ _) hP
              have hD : va_D A [q_mc mo th nb nj len mw me mf mn, q_ia T mw 10 wf, q_ia T me 3 ey, q_fa T mf (q_upto b (rDryF (rA1 G nu (wf (mk % 10)) ey nj len nb) (rU1 nu)) (rA1 G nu (wf (mk % 10)) ey nj len nb)), q_ia T mn 4 (rU1 nu)] := q_D_perm (q_mrg_perm [true, false, false, true, false] _ _) hD
              refine lv_if_ne (tgt := 67) hx hb dX4_minuteOn_46 (by decide) (fun c_46 => ?_) (fun c_46 => ?_)
              · refine lv_iinc (v := (nI (b + 1))) (lv' := [(1, .int (nI (b + 1))), (0, .ref mo)]) hx hb dX4_minuteOn_67 hl (k := 1) rfl (nI_1 b) (by decide) rfl (fun ls hl => ?_)
                refine lv_goto (tgt := 13) hx hb dX4_minuteOn_70 (by decide) ?_
                have e8 : (rDryF (rA1 G nu (wf (mk % 10)) ey nj len nb) (rU1 nu)) b = ((rA1 G nu (wf (mk % 10)) ey nj len nb) b) := by simp only [rDryF, if_pos c_29, if_neg c_36, if_neg c_46] <;> rfl
                have hP : va_P D vwCl [q_mc mo th nb nj len mw me mf mn, q_ia T mw 10 wf, q_ia T me 3 ey, q_fa T mf (q_upto (b + 1) (rDryF (rA1 G nu (wf (mk % 10)) ey nj len nb) (rU1 nu)) (rA1 G nu (wf (mk % 10)) ey nj len nb)), q_ia T mn 4 (rU1 nu)] H := by rw [show q_upto (b + 1) (rDryF (rA1 G nu (wf (mk % 10)) ey nj len nb) (rU1 nu)) (rA1 G nu (wf (mk % 10)) ey nj len nb) = (q_upto b (rDryF (rA1 G nu (wf (mk % 10)) ey nj len nb) (rU1 nu)) (rA1 G nu (wf (mk % 10)) ey nj len nb)) from by rw [← q_upto_s, e8]; exact q_up_id_at (q_upto_at b (rDryF (rA1 G nu (wf (mk % 10)) ey nj len nb) (rU1 nu)) (rA1 G nu (wf (mk % 10)) ey nj len nb))]; exact hP
                have hD : va_D A [q_mc mo th nb nj len mw me mf mn, q_ia T mw 10 wf, q_ia T me 3 ey, q_fa T mf (q_upto (b + 1) (rDryF (rA1 G nu (wf (mk % 10)) ey nj len nb) (rU1 nu)) (rA1 G nu (wf (mk % 10)) ey nj len nb)), q_ia T mn 4 (rU1 nu)] := by rw [show q_upto (b + 1) (rDryF (rA1 G nu (wf (mk % 10)) ey nj len nb) (rU1 nu)) (rA1 G nu (wf (mk % 10)) ey nj len nb) = (q_upto b (rDryF (rA1 G nu (wf (mk % 10)) ey nj len nb) (rU1 nu)) (rA1 G nu (wf (mk % 10)) ey nj len nb)) from by rw [← q_upto_s, e8]; exact q_up_id_at (q_upto_at b (rDryF (rA1 G nu (wf (mk % 10)) ey nj len nb) (rU1 nu)) (rA1 G nu (wf (mk % 10)) ey nj len nb))]; exact hD
                exact ih13 (b + 1) (by omega) (by omega)   _ _ ls hP hD hS (lv_sub hl [1, 0] rfl)
              · refine lv_aload_n hx hb dX4_minuteOn_49 rfl (lv_at hl 0 rfl) ?_
                refine lv_iload_n hx hb dX4_minuteOn_50 rfl (lv_at hl 1 rfl) ?_
                refine lv_iconst (v := 4) hx hb dX4_minuteOn_51 (by decide) ?_
                refine lv_iconst (v := 0) hx hb dX4_minuteOn_52 (by decide) ?_
                refine lv_aload_n hx hb dX4_minuteOn_53 rfl (lv_at hl 0 rfl) ?_
                refine lv_iload_n hx hb dX4_minuteOn_54 rfl (lv_at hl 1 rfl) ?_
                refine lv_iconst (v := 4) hx hb dX4_minuteOn_55 (by decide) ?_
                refine q_callV (As := [.int (nI b), .int 4]) (rs := [.int 0, .int 4, .int (nI b), .ref mo]) hC (c_X4_bo l D T mo mw me mf mn nb nj th len (q_upto b (rDryF (rA1 G nu (wf (mk % 10)) ey nj len nb) (rU1 nu)) (rA1 G nu (wf (mk % 10)) ey nj len nb)) b 4 ((rA1 G nu (wf (mk % 10)) ey nj len nb) b) (by omega) (by omega) (q_upto_at b (rDryF (rA1 G nu (wf (mk % 10)) ey nj len nb) (rU1 nu)) (rA1 G nu (wf (mk % 10)) ey nj len nb))) q_no_st q_no_at (cwV 2 hts gX4_minuteOn_X4_bo rfl rfl rfl (by decide +kernel) ⟨Nat.le_of_ble_eq_true rfl, Nat.le_of_ble_eq_true rfl⟩) (va_recv hK hP (ci := 5) (q0 := 0) rfl rfl) hK hP hD hS hA (q_mask [true, false, false, true, false] _) rfl hl.1 rfl (Nat.le_of_ble_eq_true rfl) dX4_minuteOn_56 ⟨(Nat.le_of_ble_eq_true rfl), (Nat.le_of_ble_eq_true rfl)⟩ (fun v9 C9 H locs hp hP hD hS => ?_)
                obtain ⟨rfl, rfl⟩ := hp
                have hP : va_P D vwCl [q_mc mo th nb nj len mw me mf mn, q_ia T mw 10 wf, q_ia T me 3 ey, q_fa T mf (q_upto b (rDryF (rA1 G nu (wf (mk % 10)) ey nj len nb) (rU1 nu)) (rA1 G nu (wf (mk % 10)) ey nj len nb)), q_ia T mn 4 (rU1 nu)] H := q_P_perm (q_mrg_perm [true, false, false, true, false] _ _) hP
                have hD : va_D A [q_mc mo th nb nj len mw me mf mn, q_ia T mw 10 wf, q_ia T me 3 ey, q_fa T mf (q_upto b (rDryF (rA1 G nu (wf (mk % 10)) ey nj len nb) (rU1 nu)) (rA1 G nu (wf (mk % 10)) ey nj len nb)), q_ia T mn 4 (rU1 nu)] := q_D_perm (q_mrg_perm [true, false, false, true, false] _ _) hD
                refine lv_iconst (v := 1) hx hb dX4_minuteOn_59 (by decide) ?_
                refine lv_isub hx hb dX4_minuteOn_60 ?_
                refine va_mmax hx hb (hml.trans hl.1.symm) hown (hts (.methodLink RX4 68 Lib.Math.max.name) (by decide +kernel)) (hts (.static Lib.Math.max.name) (by decide +kernel)) (hts (.initialized "java/lang/Math") (by decide +kernel)) (hts (.code Lib.Math.max.name Lib.Math.max.code 2 (some .int)) (by decide +kernel)) (Nat.le_of_ble_eq_true rfl) (Nat.le_of_ble_eq_true rfl) (Nat.le_of_ble_eq_true rfl) (Nat.le_of_ble_eq_true rfl) dX4_minuteOn_61 ?_
                refine q_callV (As := [.int (nI b), .int 4, .int (if 0 < ((((rA1 G nu (wf (mk % 10)) ey nj len nb) b) 4) - 1) then ((((rA1 G nu (wf (mk % 10)) ey nj len nb) b) 4) - 1) else 0)]) (rs := []) hC (c_X4_put l D T mo mw me mf mn nb nj th len (q_upto b (rDryF (rA1 G nu (wf (mk % 10)) ey nj len nb) (rU1 nu)) (rA1 G nu (wf (mk % 10)) ey nj len nb)) (va_up (q_upto b (rDryF (rA1 G nu (wf (mk % 10)) ey nj len nb) (rU1 nu)) (rA1 G nu (wf (mk % 10)) ey nj len nb)) b (upd ((rA1 G nu (wf (mk % 10)) ey nj len nb) b) 4 (if 0 < ((((rA1 G nu (wf (mk % 10)) ey nj len nb) b) 4) - 1) then ((((rA1 G nu (wf (mk % 10)) ey nj len nb) b) 4) - 1) else 0))) b 4 (if 0 < ((((rA1 G nu (wf (mk % 10)) ey nj len nb) b) 4) - 1) then ((((rA1 G nu (wf (mk % 10)) ey nj len nb) b) 4) - 1) else 0) ((rA1 G nu (wf (mk % 10)) ey nj len nb) b) (by omega) (by omega) (q_upto_at b (rDryF (rA1 G nu (wf (mk % 10)) ey nj len nb) (rU1 nu)) (rA1 G nu (wf (mk % 10)) ey nj len nb)) rfl) q_no_st q_no_at (cwV 3 hts gX4_minuteOn_X4_put rfl rfl rfl (by decide +kernel) ⟨Nat.le_of_ble_eq_true rfl, Nat.le_of_ble_eq_true rfl⟩) (va_recv hK hP (ci := 5) (q0 := 0) rfl rfl) hK hP hD hS hA (q_mask [true, false, false, true, false] _) rfl hl.1 rfl (Nat.le_of_ble_eq_true rfl) dX4_minuteOn_64 ⟨(Nat.le_of_ble_eq_true rfl), (Nat.le_of_ble_eq_true rfl)⟩ (fun v9 C9 H locs hp hP hD hS => ?_)
                obtain ⟨rfl, rfl⟩ := hp
                have hP : va_P D vwCl [q_mc mo th nb nj len mw me mf mn, q_ia T mw 10 wf, q_ia T me 3 ey, q_fa T mf (va_up (q_upto b (rDryF (rA1 G nu (wf (mk % 10)) ey nj len nb) (rU1 nu)) (rA1 G nu (wf (mk % 10)) ey nj len nb)) b (upd ((rA1 G nu (wf (mk % 10)) ey nj len nb) b) 4 (if 0 < ((((rA1 G nu (wf (mk % 10)) ey nj len nb) b) 4) - 1) then ((((rA1 G nu (wf (mk % 10)) ey nj len nb) b) 4) - 1) else 0))), q_ia T mn 4 (rU1 nu)] H := q_P_perm (q_mrg_perm [true, false, false, true, false] _ _) hP
                have hD : va_D A [q_mc mo th nb nj len mw me mf mn, q_ia T mw 10 wf, q_ia T me 3 ey, q_fa T mf (va_up (q_upto b (rDryF (rA1 G nu (wf (mk % 10)) ey nj len nb) (rU1 nu)) (rA1 G nu (wf (mk % 10)) ey nj len nb)) b (upd ((rA1 G nu (wf (mk % 10)) ey nj len nb) b) 4 (if 0 < ((((rA1 G nu (wf (mk % 10)) ey nj len nb) b) 4) - 1) then ((((rA1 G nu (wf (mk % 10)) ey nj len nb) b) 4) - 1) else 0))), q_ia T mn 4 (rU1 nu)] := q_D_perm (q_mrg_perm [true, false, false, true, false] _ _) hD
                refine lv_iinc (v := (nI (b + 1))) (lv' := [(1, .int (nI (b + 1))), (0, .ref mo)]) hx hb dX4_minuteOn_67 hl (k := 1) rfl (nI_1 b) (by decide) rfl (fun ls hl => ?_)
                refine lv_goto (tgt := 13) hx hb dX4_minuteOn_70 (by decide) ?_
                have e8 : (rDryF (rA1 G nu (wf (mk % 10)) ey nj len nb) (rU1 nu)) b = (upd ((rA1 G nu (wf (mk % 10)) ey nj len nb) b) 4 (if 0 < ((((rA1 G nu (wf (mk % 10)) ey nj len nb) b) 4) - 1) then ((((rA1 G nu (wf (mk % 10)) ey nj len nb) b) 4) - 1) else 0)) := by simp only [rDryF, if_pos c_29, if_neg c_36, if_pos c_46] <;> rfl
                have hP : va_P D vwCl [q_mc mo th nb nj len mw me mf mn, q_ia T mw 10 wf, q_ia T me 3 ey, q_fa T mf (q_upto (b + 1) (rDryF (rA1 G nu (wf (mk % 10)) ey nj len nb) (rU1 nu)) (rA1 G nu (wf (mk % 10)) ey nj len nb)), q_ia T mn 4 (rU1 nu)] H := by rw [show q_upto (b + 1) (rDryF (rA1 G nu (wf (mk % 10)) ey nj len nb) (rU1 nu)) (rA1 G nu (wf (mk % 10)) ey nj len nb) = (va_up (q_upto b (rDryF (rA1 G nu (wf (mk % 10)) ey nj len nb) (rU1 nu)) (rA1 G nu (wf (mk % 10)) ey nj len nb)) b (upd ((rA1 G nu (wf (mk % 10)) ey nj len nb) b) 4 (if 0 < ((((rA1 G nu (wf (mk % 10)) ey nj len nb) b) 4) - 1) then ((((rA1 G nu (wf (mk % 10)) ey nj len nb) b) 4) - 1) else 0))) from by rw [← q_upto_s, e8]]; exact hP
                have hD : va_D A [q_mc mo th nb nj len mw me mf mn, q_ia T mw 10 wf, q_ia T me 3 ey, q_fa T mf (q_upto (b + 1) (rDryF (rA1 G nu (wf (mk % 10)) ey nj len nb) (rU1 nu)) (rA1 G nu (wf (mk % 10)) ey nj len nb)), q_ia T mn 4 (rU1 nu)] := by rw [show q_upto (b + 1) (rDryF (rA1 G nu (wf (mk % 10)) ey nj len nb) (rU1 nu)) (rA1 G nu (wf (mk % 10)) ey nj len nb) = (va_up (q_upto b (rDryF (rA1 G nu (wf (mk % 10)) ey nj len nb) (rU1 nu)) (rA1 G nu (wf (mk % 10)) ey nj len nb)) b (upd ((rA1 G nu (wf (mk % 10)) ey nj len nb) b) 4 (if 0 < ((((rA1 G nu (wf (mk % 10)) ey nj len nb) b) 4) - 1) then ((((rA1 G nu (wf (mk % 10)) ey nj len nb) b) 4) - 1) else 0))) from by rw [← q_upto_s, e8]]; exact hD
                exact ih13 (b + 1) (by omega) (by omega)   _ _ ls hP hD hS (lv_sub hl [1, 0] rfl)
    exact L13 (nb + 1) 0 (by omega) (by omega)   _ _ ls hP hD hS (lv_sub hl [1, 0] rfl)
  refine lv_aload_n hx hb dX4_minuteOn_0 rfl (lv_at hl 0 rfl) ?_
  refine q_callV (As := []) (rs := []) hC (c_X4_isRace l D T mo mw me mf mn nb nj th len nu) q_no_st q_no_at (cwV 0 hts gX4_minuteOn_X4_isRace rfl rfl rfl (by decide +kernel) ⟨Nat.le_of_ble_eq_true rfl, Nat.le_of_ble_eq_true rfl⟩) (va_recv hK hP (ci := 5) (q0 := 0) rfl rfl) hK hP hD hS hA (q_mask [true, false, false, false, true] _) rfl hl.1 rfl (Nat.le_of_ble_eq_true rfl) dX4_minuteOn_1 ⟨(Nat.le_of_ble_eq_true rfl), (Nat.le_of_ble_eq_true rfl)⟩ (fun v9 C9 H locs hp hP hD hS => ?_)
  obtain ⟨rfl, rfl⟩ := hp
  have hP : va_P D vwCl [q_mc mo th nb nj len mw me mf mn, q_ia T mw 10 wf, q_ia T me 3 ey, q_fa T mf G, q_ia T mn 4 nu] H := q_P_perm (q_mrg_perm [true, false, false, false, true] _ _) hP
  have hD : va_D A [q_mc mo th nb nj len mw me mf mn, q_ia T mw 10 wf, q_ia T me 3 ey, q_fa T mf G, q_ia T mn 4 nu] := q_D_perm (q_mrg_perm [true, false, false, false, true] _ _) hD
  refine lv_if_eq (tgt := 11) hx hb dX4_minuteOn_4 (by decide) (fun c_4 => ?_) (fun c_4 => ?_)
  · have hP : va_P D vwCl [q_mc mo th nb nj len mw me mf mn, q_ia T mw 10 wf, q_ia T me 3 ey, q_fa T mf (rA1 G nu (wf (mk % 10)) ey nj len nb), q_ia T mn 4 (rU1 nu)] H := by rw [show (rA1 G nu (wf (mk % 10)) ey nj len nb) = G from by simp only [rA1, if_pos c_4], show (rU1 nu) = nu from by simp only [rU1, if_pos c_4]]; exact hP
    have hD : va_D A [q_mc mo th nb nj len mw me mf mn, q_ia T mw 10 wf, q_ia T me 3 ey, q_fa T mf (rA1 G nu (wf (mk % 10)) ey nj len nb), q_ia T mn 4 (rU1 nu)] := by rw [show (rA1 G nu (wf (mk % 10)) ey nj len nb) = G from by simp only [rA1, if_pos c_4], show (rU1 nu) = nu from by simp only [rU1, if_pos c_4]]; exact hD
    refine W.widen (k := 1) (n := 8) (by show 0 ≤ 1; omega) (by show 0 ≤ 8; omega) ?_
    exact J11 _ _ ls hP hD hS (lv_sub hl [0] rfl)
  · refine lv_aload_n hx hb dX4_minuteOn_7 rfl (lv_at hl 0 rfl) ?_
    refine q_callV (As := []) (rs := []) hC (c_X4_raceOn l D T mo mw me mf mn nb nj th len G wf ey nu mk hm hmk hn hj hz) q_no_st q_no_at (cwV 0 hts gX4_minuteOn_X4_raceOn rfl rfl rfl (by decide +kernel) ⟨Nat.le_of_ble_eq_true rfl, Nat.le_of_ble_eq_true rfl⟩) (va_recv hK hP (ci := 5) (q0 := 0) rfl rfl) hK hP hD hS hA (q_mask [true, true, true, true, true] _) rfl hl.1 rfl (Nat.le_of_ble_eq_true rfl) dX4_minuteOn_8 ⟨(Nat.le_of_ble_eq_true rfl), (Nat.le_of_ble_eq_true rfl)⟩ (fun v9 C9 H locs hp hP hD hS => ?_)
    obtain ⟨rfl, rfl⟩ := hp
    have hP : va_P D vwCl [q_mc mo th nb nj len mw me mf mn, q_ia T mw 10 wf, q_ia T me 3 ey, q_fa T mf (rRace G (wf (mk % 10)) ey nj len (nu 3 + 1) nb), q_ia T mn 4 (upd nu 3 (nu 3 + 1))] H := q_P_perm (q_mrg_perm [true, true, true, true, true] _ _) hP
    have hD : va_D A [q_mc mo th nb nj len mw me mf mn, q_ia T mw 10 wf, q_ia T me 3 ey, q_fa T mf (rRace G (wf (mk % 10)) ey nj len (nu 3 + 1) nb), q_ia T mn 4 (upd nu 3 (nu 3 + 1))] := q_D_perm (q_mrg_perm [true, true, true, true, true] _ _) hD
    have hP : va_P D vwCl [q_mc mo th nb nj len mw me mf mn, q_ia T mw 10 wf, q_ia T me 3 ey, q_fa T mf (rA1 G nu (wf (mk % 10)) ey nj len nb), q_ia T mn 4 (rU1 nu)] H := by rw [show (rA1 G nu (wf (mk % 10)) ey nj len nb) = (rRace G (wf (mk % 10)) ey nj len (nu 3 + 1) nb) from by simp only [rA1, if_neg c_4], show (rU1 nu) = (upd nu 3 (nu 3 + 1)) from by simp only [rU1, if_neg c_4]]; exact hP
    have hD : va_D A [q_mc mo th nb nj len mw me mf mn, q_ia T mw 10 wf, q_ia T me 3 ey, q_fa T mf (rA1 G nu (wf (mk % 10)) ey nj len nb), q_ia T mn 4 (rU1 nu)] := by rw [show (rA1 G nu (wf (mk % 10)) ey nj len nb) = (rRace G (wf (mk % 10)) ey nj len (nu 3 + 1) nb) from by simp only [rA1, if_neg c_4], show (rU1 nu) = (upd nu 3 (nu 3 + 1)) from by simp only [rU1, if_neg c_4]]; exact hD
    refine W.widen (k := 1) (n := 8) (by show (0 + 1) ≤ 1; omega) (by show (0 + 8) ≤ 8; omega) ?_
    exact J11 _ _ ls hP hD hS (lv_sub hl [0] rfl)

theorem rU2_0 (nu : Nat → Int32) : rU2 nu 0 = nu 0 + 1 := by simp [rU2, upd]
theorem rU3_0 (G : Nat → Nat → Int32) (nu : Nat → Int32) (nb : Nat) : rU3 G nu nb 0 = nu 0 + 1 := by
  unfold rU3
  split
  · exact rU2_0 nu
  · split
    · rw [show upd (rU2 nu) 2 0 0 = rU2 nu 0 from rfl, rU2_0]
    · split
      · rw [show upd (rU2 nu) 2 0 0 = rU2 nu 0 from rfl, rU2_0]
      · exact rU2_0 nu
def rS (wf ey : Nat → Int32) (nj : Nat) (len : Int32) (nb : Nat) (S : (Nat → Nat → Int32) × (Nat → Int32)) : (Nat → Nat → Int32) × (Nat → Int32) := (rG S.1 S.2 (wAt wf (S.2 0)) ey nj len nb, rU S.1 S.2 (wAt wf (S.2 0)) ey nj len nb)
def rRun (wf ey : Nat → Int32) (nj : Nat) (len : Int32) (nb : Nat) : Nat → (Nat → Nat → Int32) × (Nat → Int32) → (Nat → Nat → Int32) × (Nat → Int32)
  | 0, S => S
  | f + 1, S => if bOn S.2 = 0 then S else rRun wf ey nj len nb f (rS wf ey nj len nb S)
theorem rRun_stop {wf ey : Nat → Int32} {nj : Nat} {len : Int32} {nb : Nat} {S : (Nat → Nat → Int32) × (Nat → Int32)} (h : bOn S.2 = 0) : ∀ f, rRun wf ey nj len nb f S = S
  | 0 => rfl
  | f + 1 => by rw [rRun, if_pos h]
theorem rS_0 (wf ey : Nat → Int32) (nj : Nat) (len : Int32) (nb : Nat) (S : (Nat → Nat → Int32) × (Nat → Int32)) : (rS wf ey nj len nb S).2 0 = S.2 0 + 1 := by
  show rU3 _ (rU1 S.2) nb 0 = _
  rw [rU3_0, rU1_0]
theorem q_upto_keep {n : Nat} {F G : Nat → Nat → Int32} (h : mKeep F G) : mKeep F (q_upto n G F) := fun b => by
  by_cases hb : b < n
  · rw [q_upto_lt _ _ hb]; exact h b
  · rw [q_upto_ge _ _ (Nat.le_of_not_lt hb)]; exact ⟨rfl, rfl, rfl⟩
theorem rSail_keep (r : Nat → Int32) (w : Int32) : rSail r w 0 = r 0 ∧ rSail r w 1 = r 1 ∧ rSail r w 2 = r 2 := by
  unfold rSail
  split
  · split
    · split
      · split
        · simp [rWet, upd]
        · simp [rWet, upd]
      · simp [upd]
    · simp [upd]
  · exact ⟨rfl, rfl, rfl⟩
theorem rFouls_keep (G : Nat → Nat → Int32) (wv ey : Nat → Int32) (nj : Nat) : mKeep G (rFouls G wv ey nj) := fun b => by
  unfold rFouls
  split
  · exact ⟨rfl, rfl, rfl⟩
  · split
    · exact ⟨rfl, rfl, rfl⟩
    · split
      · exact ⟨rfl, rfl, rfl⟩
      · split
        · exact ⟨rfl, rfl, rfl⟩
        · simp [upd]
theorem rRace_keep (G : Nat → Nat → Int32) (w : Int32) (ey : Nat → Int32) (nj : Nat) (len t : Int32) (nb : Nat) : mKeep G (rRace G w ey nj len t nb) :=
  (mKeep.tr (mKeep.tr (q_upto_keep (fun b => rSail_keep (G b) w)) (q_upto_keep (rFouls_keep _ _ ey nj))) (q_upto_keep (fun b => bIn_keep _ len t)))
theorem rDryF_keep (G : Nat → Nat → Int32) (nu : Nat → Int32) : mKeep G (rDryF G nu) := fun b => by
  unfold rDryF
  split
  · split
    · exact bDry_keep _
    · split
      · exact bDry_keep _
      · exact ⟨rfl, rfl, rfl⟩
  · exact ⟨rfl, rfl, rfl⟩
theorem rA3_keep (G : Nat → Nat → Int32) (nu : Nat → Int32) (nb : Nat) : mKeep G (rA3 G nu nb) := by
  unfold rA3
  split
  · exact mKeep.rf
  · split
    · exact q_upto_keep (dEnd_keep G nb)
    · split
      · exact q_upto_keep (dEnd_keep G nb)
      · exact mKeep.rf
theorem rG_keep (G : Nat → Nat → Int32) (nu : Nat → Int32) (w : Int32) (ey : Nat → Int32) (nj : Nat) (len : Int32) (nb : Nat) : mKeep G (rG G nu w ey nj len nb) := by
  refine mKeep.tr (mKeep.tr ?_ (q_upto_keep (rDryF_keep _ _))) (rA3_keep _ _ nb)
  unfold rA1
  split
  · exact mKeep.rf
  · exact rRace_keep G w ey nj len _ nb
/-- how far the race is: none, or g of its 60 minutes are gone -/
def rGo (nu : Nat → Int32) (j : Nat) : Prop := bOn nu = 0 ∨ ∃ g, j ≤ g ∧ g < 60 ∧ nu 3 = nI g
theorem rS_go {wf ey : Nat → Int32} {nj : Nat} {len : Int32} {nb j : Nat} {S : (Nat → Nat → Int32) × (Nat → Int32)} (hon : ¬ bOn S.2 = 0) (h : rGo S.2 j) : rGo (rS wf ey nj len nb S).2 (j + 1) := by
  rcases h with h | ⟨g, h1, h2, h3⟩
  · exact absurd h hon
  have e1 : rU1 S.2 = upd S.2 3 (S.2 3 + 1) := if_neg hon
  have e3 : rU1 S.2 3 = nI (g + 1) := by rw [e1, show upd S.2 3 (S.2 3 + 1) 3 = S.2 3 + 1 from rfl, h3]; exact nI_1 g
  show rGo (rU3 _ (rU1 S.2) nb) (j + 1)
  unfold rU3
  split
  · refine Or.inr ?_
    rename_i hb
    exact absurd (show bOn S.2 = 0 by rw [← hb, e1]; rfl) hon
  · split
    · exact Or.inl rfl
    · split
      · exact Or.inl rfl
      · rename_i h60
        have hg : g + 1 < 60 := by
          rcases Nat.lt_or_ge (g + 1) 60 with q | q
          · exact q
          · exact absurd (show rU1 S.2 3 = 60 by rw [e3, show g + 1 = 60 by omega]; rfl) h60
        exact Or.inr ⟨g + 1, by omega, hg, by rw [show rU2 (rU1 S.2) 3 = rU1 S.2 3 from rfl, e3]⟩

abbrev rmX4_sailOut : Room := { frames := 6, cells := 120, slots := 720, locals := 132 }
set_option maxHeartbeats 4000000 in
set_option maxRecDepth 100000 in
theorem c_X4_sailOut (l : Launch) (D : va_G) (T : Nat → ClassId) (mo mw me mf mn nb nj : Nat) (th len : Int32) (G : Nat → Nat → Int32) (wf ey nu : Nat → Int32) (mk : Nat) (hm : nu 0 = nI mk) (hmk : mk < 2 ^ 30) (hn : nb ≤ 8) (hj : nj ≤ 3) (hz : mHz G nb) (hgo : rGo nu 0) : q_M l D (q_ty T) yX4_sailOut wsX4_sailOut rmX4_sailOut [.ref mo] [q_mc mo th nb nj len mw me mf mn, q_ia T mw 10 wf, q_ia T me 3 ey, q_fa T mf G, q_ia T mn 4 nu] q_no (q_is none [q_mc mo th nb nj len mw me mf mn, q_ia T mw 10 wf, q_ia T me 3 ey, q_fa T mf ((rRun wf ey nj len nb 60 (G, nu)).1), q_ia T mn 4 ((rRun wf ey nj len nb 60 (G, nu)).2)]) := by
  refine q_start (cc := cX4_sailOut) (maxL := 1) (ret := none) (by decide) rfl (Nat.le_of_ble_eq_true rfl) ?_
  intro p e s m args below meth c A H locs hx hb hr hts hown hlocks hml hnm hP hK hD hS hA hG ls hl
  have hown : s.vm.findClass RX4 = some m.cls := hown
  have hC : CallFix p m c cX4_sailOut 1 s args wsX4_sailOut RX4 := ⟨hx, hb, hml, hown, hts⟩
  have hl : lv_has ls 1 [(0, .ref mo)] := hl
  refine W.widen (k := 2 * 0) (n := 12 * 0) (Nat.le_refl _) (Nat.le_refl _) ?_
  have L0 : ∀ (f9 j : Nat) (h9a : 60 < j + f9) (h9b : j ≤ 60) (S : (Nat → Nat → Int32) × (Nat → Int32)) (h9c : rRun wf ey nj len nb (60 - j) S = rRun wf ey nj len nb 60 (G, nu)) (h9m : S.2 0 = nI (mk + j)) (h9z : mHz S.1 nb) (h9g : rGo S.2 j) (H : Heap) (locs : List Loc) (ls : Array Slot), va_P D vwCl [q_mc mo th nb nj len mw me mf mn, q_ia T mw 10 wf, q_ia T me 3 ey, q_fa T mf S.1, q_ia T mn 4 S.2] H → va_D A [q_mc mo th nb nj len mw me mf mn, q_ia T mw 10 wf, q_ia T me 3 ey, q_fa T mf S.1, q_ia T mn 4 S.2] → va_S A s.heap H locs → lv_has ls 1 [(0, .ref mo)] → W p l e rmX4_sailOut s m args below meth c H locs (2 * j) (12 * j) (q_E below D (q_ty T) (q_is none [q_mc mo th nb nj len mw me mf mn, q_ia T mw 10 wf, q_ia T me 3 ey, q_fa T mf ((rRun wf ey nj len nb 60 (G, nu)).1), q_ia T mn 4 ((rRun wf ey nj len nb 60 (G, nu)).2)]) A args s rmX4_sailOut) (F0 m 0 ls []) := by
    intro f9
    induction f9 with
    | zero => intro j h9a h9b; exact absurd h9a (by omega)
    | succ f9 ih0 =>
      intro j h9a h9b S h9c h9m h9z h9g H locs ls hP hD hS hl
      refine lv_aload_n hx hb dX4_sailOut_0 rfl (lv_at hl 0 rfl) ?_
      refine q_callV (As := []) (rs := []) hC (c_X4_isRace l D T mo mw me mf mn nb nj th len S.2) q_no_st q_no_at (cwV 0 hts gX4_sailOut_X4_isRace rfl rfl rfl (by decide +kernel) ⟨Nat.le_of_ble_eq_true rfl, Nat.le_of_ble_eq_true rfl⟩) (va_recv hK hP (ci := 5) (q0 := 0) rfl rfl) hK hP hD hS hA (q_mask [true, false, false, false, true] _) rfl hl.1 rfl (Nat.le_of_ble_eq_true rfl) dX4_sailOut_1 ⟨(by show (2 * j) + 0 ≤ 120; omega), (by show (12 * j) + 0 ≤ 720; omega)⟩ (fun v9 C9 H locs hp hP hD hS => ?_)
      obtain ⟨rfl, rfl⟩ := hp
      have hP : va_P D vwCl [q_mc mo th nb nj len mw me mf mn, q_ia T mw 10 wf, q_ia T me 3 ey, q_fa T mf S.1, q_ia T mn 4 S.2] H := q_P_perm (q_mrg_perm [true, false, false, false, true] _ _) hP
      have hD : va_D A [q_mc mo th nb nj len mw me mf mn, q_ia T mw 10 wf, q_ia T me 3 ey, q_fa T mf S.1, q_ia T mn 4 S.2] := q_D_perm (q_mrg_perm [true, false, false, false, true] _ _) hD
      refine lv_if_eq (tgt := 14) hx hb dX4_sailOut_4 (by decide) (fun c_4 => ?_) (fun c_4 => ?_)
      · rw [rRun_stop c_4] at h9c
        exact q_vret hx hb hr hlocks hP hK hD hS (by show (2 * j) ≤ 120; omega) (by show (12 * j) ≤ 720; omega) dX4_sailOut_14 ⟨rfl, by rw [← h9c]⟩
      · have h9j : j < 60 := by rcases h9g with q | ⟨g, q1, q2, q3⟩; exact absurd q c_4; omega
        refine lv_aload_n hx hb dX4_sailOut_7 rfl (lv_at hl 0 rfl) ?_
        refine q_callV (As := []) (rs := []) hC (c_X4_minuteOn l D T mo mw me mf mn nb nj th len S.1 wf ey S.2 (mk + j) h9m (by omega) hn hj h9z) q_no_st q_no_at (cwV 0 hts gX4_sailOut_X4_minuteOn rfl rfl rfl (by decide +kernel) ⟨Nat.le_of_ble_eq_true rfl, Nat.le_of_ble_eq_true rfl⟩) (va_recv hK hP (ci := 5) (q0 := 0) rfl rfl) hK hP hD hS hA (q_mask [true, true, true, true, true] _) rfl hl.1 rfl (Nat.le_of_ble_eq_true rfl) dX4_sailOut_8 ⟨(by show (2 * j) + 2 ≤ 120; omega), (by show (12 * j) + 12 ≤ 720; omega)⟩ (fun v9 C9 H locs hp hP hD hS => ?_)
        obtain ⟨rfl, rfl⟩ := hp
        have hP : va_P D vwCl [q_mc mo th nb nj len mw me mf mn, q_ia T mw 10 wf, q_ia T me 3 ey, q_fa T mf (rG S.1 S.2 (wf ((mk + j) % 10)) ey nj len nb), q_ia T mn 4 (rU S.1 S.2 (wf ((mk + j) % 10)) ey nj len nb)] H := q_P_perm (q_mrg_perm [true, true, true, true, true] _ _) hP
        have hD : va_D A [q_mc mo th nb nj len mw me mf mn, q_ia T mw 10 wf, q_ia T me 3 ey, q_fa T mf (rG S.1 S.2 (wf ((mk + j) % 10)) ey nj len nb), q_ia T mn 4 (rU S.1 S.2 (wf ((mk + j) % 10)) ey nj len nb)] := q_D_perm (q_mrg_perm [true, true, true, true, true] _ _) hD
        refine lv_goto (tgt := 0) hx hb dX4_sailOut_11 (by decide) ?_
        have h9e : (rS wf ey nj len nb S) = (rG S.1 S.2 (wf ((mk + j) % 10)) ey nj len nb, rU S.1 S.2 (wf ((mk + j) % 10)) ey nj len nb) := by rw [rS, wAt_eq h9m (by omega)]
        have hP : va_P D vwCl [q_mc mo th nb nj len mw me mf mn, q_ia T mw 10 wf, q_ia T me 3 ey, q_fa T mf ((rS wf ey nj len nb S).1), q_ia T mn 4 ((rS wf ey nj len nb S).2)] H := by rw [h9e]; exact hP
        have hD : va_D A [q_mc mo th nb nj len mw me mf mn, q_ia T mw 10 wf, q_ia T me 3 ey, q_fa T mf ((rS wf ey nj len nb S).1), q_ia T mn 4 ((rS wf ey nj len nb S).2)] := by rw [h9e]; exact hD
        refine W.widen (k := 2 * (j + 1)) (n := 12 * (j + 1)) (by show ((2 * j) + 2) ≤ 2 * (j + 1); omega) (by show ((12 * j) + 12) ≤ 12 * (j + 1); omega) ?_
        exact ih0 (j + 1) (by omega) (by omega) (rS wf ey nj len nb S) (by rw [← h9c, show 60 - j = (60 - (j + 1)) + 1 from by omega, rRun, if_neg c_4]) (by rw [rS_0, h9m]; exact nI_1 _) (h9z.keep (rG_keep _ _ _ _ _ _ _)) (rS_go c_4 h9g) _ _ ls hP hD hS (lv_sub hl [0] rfl)
  exact L0 (60 + 1) 0 (by omega) (by omega) (G, nu) rfl hm hz hgo _ _ ls hP hD hS (lv_sub hl [0] rfl)
abbrev rmX4_all : Room := { frames := 1, cells := 0, slots := 0, locals := 22 }
set_option maxHeartbeats 4000000 in
set_option maxRecDepth 100000 in
theorem c_X4_all (l : Launch) (D : va_G) (T : Nat → ClassId) (mo mw me mf mn nb nj : Nat) (th len : Int32) (G : Nat → Nat → Int32) (k : Nat) (hk : k < 10) (hn : nb ≤ 8) : q_M l D (q_ty T) yX4_all wsX4_all rmX4_all [.ref mo, .int (nI k)] [q_mc mo th nb nj len mw me mf mn, q_fa T mf G] q_no (q_is (some (.int (q_sum (dCol G k) nb))) [q_mc mo th nb nj len mw me mf mn, q_fa T mf G]) := by
  refine q_start (cc := cX4_all) (maxL := 4) (ret := (some .int)) (by decide) rfl (Nat.le_of_ble_eq_true rfl) ?_
  intro p e s m args below meth c A H locs hx hb hr hts hown hlocks hml hnm hP hK hD hS hA hG ls hl
  have hown : s.vm.findClass RX4 = some m.cls := hown
  have hC : CallFix p m c cX4_all 4 s args wsX4_all RX4 := ⟨hx, hb, hml, hown, hts⟩
  have iX4 : ∀ w ∈ wsX40, w ∈ wsX4_all := by decide +kernel
  have hl : lv_has ls 4 [(0, .ref mo), (1, .int (nI k))] := hl
  refine lv_iconst (v := 0) hx hb dX4_all_0 (by decide) ?_
  refine lv_istore_n (lv' := [(2, .int 0), (0, .ref mo), (1, .int (nI k))]) hx hb dX4_all_1 rfl hl (by decide) rfl (fun ls hl => ?_)
  refine lv_iconst (v := 0) hx hb dX4_all_2 (by decide) ?_
  refine lv_istore_n (lv' := [(3, .int 0), (2, .int 0), (0, .ref mo), (1, .int (nI k))]) hx hb dX4_all_3 rfl hl (by decide) rfl (fun ls hl => ?_)
  have L4 : ∀ (f9 b : Nat) (h9a : nb < b + f9) (h9b : b ≤ nb) (H : Heap) (locs : List Loc) (ls : Array Slot), va_P D vwCl [q_mc mo th nb nj len mw me mf mn, q_fa T mf G] H → va_D A [q_mc mo th nb nj len mw me mf mn, q_fa T mf G] → va_S A s.heap H locs → lv_has ls 4 [(0, .ref mo), (1, .int (nI k)), (2, .int (q_sum (dCol G k) b)), (3, .int (nI b))] → W p l e rmX4_all s m args below meth c H locs 0 0 (q_E below D (q_ty T) (q_is (some (.int (q_sum (dCol G k) nb))) [q_mc mo th nb nj len mw me mf mn, q_fa T mf G]) A args s rmX4_all) (F0 m 4 ls []) := by
    intro f9
    induction f9 with
    | zero => intro b h9a h9b; exact absurd h9a (by omega)
    | succ f9 ih4 =>
      intro b h9a h9b   H locs ls hP hD hS hl
      refine lv_iload_n hx hb dX4_all_4 rfl (lv_at hl 3 rfl) ?_
      refine lv_aload_n hx hb dX4_all_5 rfl (lv_at hl 0 rfl) ?_
      refine va_get (D := D) (ci := 5) (v := .int (nI nb)) (C := RX4) (T := TX4) (N := 8) hx hb hts iX4 hown hK hP 0 rfl rfl 1 (by decide) (hts (.fieldLink RX4 29 "ToyRegattaModel" "boats" "I") (by decide +kernel)) (fun _ h9 => h9) rfl dX4_all_6 ?_
      refine lv_icmp_ge (tgt := 27) hx hb dX4_all_9 (by decide) (fun c_9 => ?_) (fun c_9 => ?_)
      · have h9d := (q_exit c_9 h9b (by omega)).symm
        subst h9d
        refine lv_iload_n hx hb dX4_all_27 rfl (lv_at hl 2 rfl) ?_
        exact q_iret hx hb hr hlocks hP hK hD hS (Nat.le_of_ble_eq_true rfl) (Nat.le_of_ble_eq_true rfl) dX4_all_28 ⟨rfl, rfl⟩
      · have h9d := q_goon c_9 (by omega)
        refine lv_iload_n hx hb dX4_all_12 rfl (lv_at hl 2 rfl) ?_
        refine lv_aload_n hx hb dX4_all_13 rfl (lv_at hl 0 rfl) ?_
        refine lv_iload_n hx hb dX4_all_14 rfl (lv_at hl 3 rfl) ?_
        refine lv_iload_n hx hb dX4_all_15 rfl (lv_at hl 1 rfl) ?_
        refine q_callV (As := [.int (nI b), .int (nI k)]) (rs := [.int (q_sum (dCol G k) b)]) hC (c_X4_bo l D T mo mw me mf mn nb nj th len G b k (G b) (by omega) (by omega) rfl) q_no_st q_no_at (cwV 2 hts gX4_all_X4_bo rfl rfl rfl (by decide +kernel) ⟨Nat.le_of_ble_eq_true rfl, Nat.le_of_ble_eq_true rfl⟩) (va_recv hK hP (ci := 5) (q0 := 0) rfl rfl) hK hP hD hS hA (q_mask [true, true] _) rfl hl.1 rfl (Nat.le_of_ble_eq_true rfl) dX4_all_16 ⟨(Nat.le_of_ble_eq_true rfl), (Nat.le_of_ble_eq_true rfl)⟩ (fun v9 C9 H locs hp hP hD hS => ?_)
        obtain ⟨rfl, rfl⟩ := hp
        have hP : va_P D vwCl [q_mc mo th nb nj len mw me mf mn, q_fa T mf G] H := q_P_perm (q_mrg_perm [true, true] _ _) hP
        have hD : va_D A [q_mc mo th nb nj len mw me mf mn, q_fa T mf G] := q_D_perm (q_mrg_perm [true, true] _ _) hD
        refine lv_iadd hx hb dX4_all_19 ?_
        refine lv_istore_n (lv' := [(2, .int ((q_sum (dCol G k) b) + (G b k))), (0, .ref mo), (1, .int (nI k)), (3, .int (nI b))]) hx hb dX4_all_20 rfl hl (by decide) rfl (fun ls hl => ?_)
        refine lv_iinc (v := (nI (b + 1))) (lv' := [(3, .int (nI (b + 1))), (2, .int ((q_sum (dCol G k) b) + (G b k))), (0, .ref mo), (1, .int (nI k))]) hx hb dX4_all_21 hl (k := 3) rfl (nI_1 b) (by decide) rfl (fun ls hl => ?_)
        refine lv_goto (tgt := 4) hx hb dX4_all_24 (by decide) ?_
        have e9 : q_sum (dCol G k) (b + 1) = ((q_sum (dCol G k) b) + (G b k)) := by simp only [q_sum, dCol, Int32.add_zero]
        rw [← e9] at hl
        exact ih4 (b + 1) (by omega) (by omega)   _ _ ls hP hD hS (lv_sub hl [2, 3, 1, 0] rfl)
  exact L4 (nb + 1) 0 (by omega) (by omega)   _ _ ls hP hD hS (lv_sub hl [2, 3, 1, 0] rfl)

def qTold (F : Nat → Nat → Int32) (b k : Nat) (w : Int32) : Int32 := if k = 5 then bHeel (F b) w else if k = 6 then bSpeed (F b) w else F b k
theorem qTold_a {F : Nat → Nat → Int32} {b k : Nat} {w : Int32} (hk : k < 7) (h : ¬ (5 : Int32) ≤ nI k) : qTold F b k w = F b k := by
  have h5 : k < 5 := by
    rcases Nat.lt_or_ge k 5 with q | q
    · exact q
    · exact absurd (nI_le (a := 5) q (by omega)) h
  rw [qTold, if_neg (by omega), if_neg (by omega)]
theorem qTold_b {F : Nat → Nat → Int32} {b k : Nat} {w : Int32} (hk : k < 7) (h : nI k = 5) : qTold F b k w = bHeel (F b) w := by
  have h5 : k = 5 := (nI_eq (b := 5) (by omega) (by omega)).mp h
  rw [qTold, if_pos h5]
theorem qTold_c {F : Nat → Nat → Int32} {b k : Nat} {w : Int32} (hk : k < 7) (h : (5 : Int32) ≤ nI k) (h2 : ¬ nI k = 5) : qTold F b k w = bSpeed (F b) w := by
  have h5 : 5 ≤ k := (nI_leI (a := 5) (by omega) (by omega)).mp h
  have h6 : ¬ k = 5 := fun e => h2 (by rw [e]; rfl)
  rw [qTold, if_neg h6, if_pos (by omega)]
def rAbt (G : Nat → Nat → Int32) (nu : Nat → Int32) (b k : Nat) : Int32 := if nu 1 = 0 then -1 else if nI k = 3 then (if G b 9 = 3 then 0 else G b (5 + k)) else G b (5 + k)

abbrev rmX4_toldOf : Room := { frames := 3, cells := 0, slots := 0, locals := 66 }
set_option maxHeartbeats 4000000 in
set_option maxRecDepth 100000 in
theorem c_X4_toldOf (l : Launch) (D : va_G) (T : Nat → ClassId) (mo mw me mf mn nb nj : Nat) (th len : Int32) (G : Nat → Nat → Int32) (wf nu : Nat → Int32) (mk : Nat) (hm : nu 0 = nI mk) (hmk : mk < 2 ^ 31) (b k : Nat) (hb : b < 8) (hk : k < 7) (hz : 0 < 2 + G b 0 + G b 2 / 2) : q_M l D (q_ty T) yX4_toldOf wsX4_toldOf rmX4_toldOf [.ref mo, .int (nI b), .int (nI k)] [q_mc mo th nb nj len mw me mf mn, q_ia T mw 10 wf, q_fa T mf G, q_ia T mn 4 nu] q_no (q_is (some (.int (qTold G b k (wf (mk % 10))))) [q_mc mo th nb nj len mw me mf mn, q_ia T mw 10 wf, q_fa T mf G, q_ia T mn 4 nu]) := by
  refine q_start (cc := cX4_toldOf) (maxL := 3) (ret := (some .int)) (by decide) rfl (Nat.le_of_ble_eq_true rfl) ?_
  intro p e s m args below meth c A H locs hx hb hr hts hown hlocks hml hnm hP hK hD hS hA hG ls hl
  have hown : s.vm.findClass RX4 = some m.cls := hown
  have hC : CallFix p m c cX4_toldOf 3 s args wsX4_toldOf RX4 := ⟨hx, hb, hml, hown, hts⟩
  have hl : lv_has ls 3 [(0, .ref mo), (1, .int (nI b)), (2, .int (nI k))] := hl
  refine lv_iload_n hx hb dX4_toldOf_0 rfl (lv_at hl 2 rfl) ?_
  refine lv_iconst (v := 5) hx hb dX4_toldOf_1 (by decide) ?_
  refine lv_icmp_ge (tgt := 14) hx hb dX4_toldOf_2 (by decide) (fun c_2 => ?_) (fun c_2 => ?_)
  · refine lv_iload_n hx hb dX4_toldOf_14 rfl (lv_at hl 2 rfl) ?_
    refine lv_iconst (v := 5) hx hb dX4_toldOf_15 (by decide) ?_
    refine lv_icmp_ne (tgt := 31) hx hb dX4_toldOf_16 (by decide) (fun c_16 => ?_) (fun c_16 => ?_)
    · refine lv_aload_n hx hb dX4_toldOf_31 rfl (lv_at hl 0 rfl) ?_
      refine lv_iload_n hx hb dX4_toldOf_32 rfl (lv_at hl 1 rfl) ?_
      refine lv_aload_n hx hb dX4_toldOf_33 rfl (lv_at hl 0 rfl) ?_
      refine q_callV (As := []) (rs := [.int (nI b), .ref mo]) hC (c_X4_wind l D T mo mw me mf mn nb nj th len wf nu mk hm hmk) q_no_st q_no_at (cwV 0 hts gX4_toldOf_X4_wind rfl rfl rfl (by decide +kernel) ⟨Nat.le_of_ble_eq_true rfl, Nat.le_of_ble_eq_true rfl⟩) (va_recv hK hP (ci := 5) (q0 := 0) rfl rfl) hK hP hD hS hA (q_mask [true, true, false, true] _) rfl hl.1 rfl (Nat.le_of_ble_eq_true rfl) dX4_toldOf_34 ⟨(Nat.le_of_ble_eq_true rfl), (Nat.le_of_ble_eq_true rfl)⟩ (fun v9 C9 H locs hp hP hD hS => ?_)
      obtain ⟨rfl, rfl⟩ := hp
      have hP : va_P D vwCl [q_mc mo th nb nj len mw me mf mn, q_ia T mw 10 wf, q_fa T mf G, q_ia T mn 4 nu] H := q_P_perm (q_mrg_perm [true, true, false, true] _ _) hP
      have hD : va_D A [q_mc mo th nb nj len mw me mf mn, q_ia T mw 10 wf, q_fa T mf G, q_ia T mn 4 nu] := q_D_perm (q_mrg_perm [true, true, false, true] _ _) hD
      refine q_callV (As := [.int (nI b), .int (wf (mk % 10))]) (rs := []) hC (c_X4_speed l D T mo mw me mf mn nb nj th len G b (wf (mk % 10)) (G b) (by omega) rfl hz) q_no_st q_no_at (cwV 2 hts gX4_toldOf_X4_speed rfl rfl rfl (by decide +kernel) ⟨Nat.le_of_ble_eq_true rfl, Nat.le_of_ble_eq_true rfl⟩) (va_recv hK hP (ci := 5) (q0 := 0) rfl rfl) hK hP hD hS hA (q_mask [true, false, true, false] _) rfl hl.1 rfl (Nat.le_of_ble_eq_true rfl) dX4_toldOf_37 ⟨(Nat.le_of_ble_eq_true rfl), (Nat.le_of_ble_eq_true rfl)⟩ (fun v9 C9 H locs hp hP hD hS => ?_)
      obtain ⟨rfl, rfl⟩ := hp
      have hP : va_P D vwCl [q_mc mo th nb nj len mw me mf mn, q_ia T mw 10 wf, q_fa T mf G, q_ia T mn 4 nu] H := q_P_perm (q_mrg_perm [true, false, true, false] _ _) hP
      have hD : va_D A [q_mc mo th nb nj len mw me mf mn, q_ia T mw 10 wf, q_fa T mf G, q_ia T mn 4 nu] := q_D_perm (q_mrg_perm [true, false, true, false] _ _) hD
      exact q_iret hx hb hr hlocks hP hK hD hS (Nat.le_of_ble_eq_true rfl) (Nat.le_of_ble_eq_true rfl) dX4_toldOf_40 ⟨by rw [qTold_c hk c_2 c_16], rfl⟩
    · refine lv_aload_n hx hb dX4_toldOf_19 rfl (lv_at hl 0 rfl) ?_
      refine lv_iload_n hx hb dX4_toldOf_20 rfl (lv_at hl 1 rfl) ?_
      refine lv_aload_n hx hb dX4_toldOf_21 rfl (lv_at hl 0 rfl) ?_
      refine q_callV (As := []) (rs := [.int (nI b), .ref mo]) hC (c_X4_wind l D T mo mw me mf mn nb nj th len wf nu mk hm hmk) q_no_st q_no_at (cwV 0 hts gX4_toldOf_X4_wind rfl rfl rfl (by decide +kernel) ⟨Nat.le_of_ble_eq_true rfl, Nat.le_of_ble_eq_true rfl⟩) (va_recv hK hP (ci := 5) (q0 := 0) rfl rfl) hK hP hD hS hA (q_mask [true, true, false, true] _) rfl hl.1 rfl (Nat.le_of_ble_eq_true rfl) dX4_toldOf_22 ⟨(Nat.le_of_ble_eq_true rfl), (Nat.le_of_ble_eq_true rfl)⟩ (fun v9 C9 H locs hp hP hD hS => ?_)
      obtain ⟨rfl, rfl⟩ := hp
      have hP : va_P D vwCl [q_mc mo th nb nj len mw me mf mn, q_ia T mw 10 wf, q_fa T mf G, q_ia T mn 4 nu] H := q_P_perm (q_mrg_perm [true, true, false, true] _ _) hP
      have hD : va_D A [q_mc mo th nb nj len mw me mf mn, q_ia T mw 10 wf, q_fa T mf G, q_ia T mn 4 nu] := q_D_perm (q_mrg_perm [true, true, false, true] _ _) hD
      refine q_callV (As := [.int (nI b), .int (wf (mk % 10))]) (rs := []) hC (c_X4_heel l D T mo mw me mf mn nb nj th len G b (wf (mk % 10)) (G b) (by omega) rfl ) q_no_st q_no_at (cwV 2 hts gX4_toldOf_X4_heel rfl rfl rfl (by decide +kernel) ⟨Nat.le_of_ble_eq_true rfl, Nat.le_of_ble_eq_true rfl⟩) (va_recv hK hP (ci := 5) (q0 := 0) rfl rfl) hK hP hD hS hA (q_mask [true, false, true, false] _) rfl hl.1 rfl (Nat.le_of_ble_eq_true rfl) dX4_toldOf_25 ⟨(Nat.le_of_ble_eq_true rfl), (Nat.le_of_ble_eq_true rfl)⟩ (fun v9 C9 H locs hp hP hD hS => ?_)
      obtain ⟨rfl, rfl⟩ := hp
      have hP : va_P D vwCl [q_mc mo th nb nj len mw me mf mn, q_ia T mw 10 wf, q_fa T mf G, q_ia T mn 4 nu] H := q_P_perm (q_mrg_perm [true, false, true, false] _ _) hP
      have hD : va_D A [q_mc mo th nb nj len mw me mf mn, q_ia T mw 10 wf, q_fa T mf G, q_ia T mn 4 nu] := q_D_perm (q_mrg_perm [true, false, true, false] _ _) hD
      refine lv_goto (tgt := 40) hx hb dX4_toldOf_28 (by decide) ?_
      exact q_iret hx hb hr hlocks hP hK hD hS (Nat.le_of_ble_eq_true rfl) (Nat.le_of_ble_eq_true rfl) dX4_toldOf_40 ⟨by rw [qTold_b hk c_16], rfl⟩
  · refine lv_aload_n hx hb dX4_toldOf_5 rfl (lv_at hl 0 rfl) ?_
    refine lv_iload_n hx hb dX4_toldOf_6 rfl (lv_at hl 1 rfl) ?_
    refine lv_iload_n hx hb dX4_toldOf_7 rfl (lv_at hl 2 rfl) ?_
    refine q_callV (As := [.int (nI b), .int (nI k)]) (rs := []) hC (c_X4_bo l D T mo mw me mf mn nb nj th len G b k (G b) (by omega) (by omega) rfl) q_no_st q_no_at (cwV 2 hts gX4_toldOf_X4_bo rfl rfl rfl (by decide +kernel) ⟨Nat.le_of_ble_eq_true rfl, Nat.le_of_ble_eq_true rfl⟩) (va_recv hK hP (ci := 5) (q0 := 0) rfl rfl) hK hP hD hS hA (q_mask [true, false, true, false] _) rfl hl.1 rfl (Nat.le_of_ble_eq_true rfl) dX4_toldOf_8 ⟨(Nat.le_of_ble_eq_true rfl), (Nat.le_of_ble_eq_true rfl)⟩ (fun v9 C9 H locs hp hP hD hS => ?_)
    obtain ⟨rfl, rfl⟩ := hp
    have hP : va_P D vwCl [q_mc mo th nb nj len mw me mf mn, q_ia T mw 10 wf, q_fa T mf G, q_ia T mn 4 nu] H := q_P_perm (q_mrg_perm [true, false, true, false] _ _) hP
    have hD : va_D A [q_mc mo th nb nj len mw me mf mn, q_ia T mw 10 wf, q_fa T mf G, q_ia T mn 4 nu] := q_D_perm (q_mrg_perm [true, false, true, false] _ _) hD
    refine lv_goto (tgt := 40) hx hb dX4_toldOf_11 (by decide) ?_
    exact q_iret hx hb hr hlocks hP hK hD hS (Nat.le_of_ble_eq_true rfl) (Nat.le_of_ble_eq_true rfl) dX4_toldOf_40 ⟨by rw [qTold_a hk c_2], rfl⟩
abbrev rmX4_raceTold : Room := { frames := 1, cells := 0, slots := 0, locals := 22 }
set_option maxHeartbeats 4000000 in
set_option maxRecDepth 100000 in
theorem c_X4_raceTold (l : Launch) (D : va_G) (T : Nat → ClassId) (mo mw me mf mn nb nj : Nat) (th len : Int32) (G : Nat → Nat → Int32) (nu : Nat → Int32) (b k : Nat) (hb : b < 8) (hk : k < 5) : q_M l D (q_ty T) yX4_raceTold wsX4_raceTold rmX4_raceTold [.ref mo, .int (nI b), .int (nI k)] [q_mc mo th nb nj len mw me mf mn, q_fa T mf G, q_ia T mn 4 nu] q_no (q_is (some (.int (rAbt G nu b k))) [q_mc mo th nb nj len mw me mf mn, q_fa T mf G, q_ia T mn 4 nu]) := by
  refine q_start (cc := cX4_raceTold) (maxL := 3) (ret := (some .int)) (by decide) rfl (Nat.le_of_ble_eq_true rfl) ?_
  intro p e s m args below meth c A H locs hx hb hr hts hown hlocks hml hnm hP hK hD hS hA hG ls hl
  have hown : s.vm.findClass RX4 = some m.cls := hown
  have hC : CallFix p m c cX4_raceTold 3 s args wsX4_raceTold RX4 := ⟨hx, hb, hml, hown, hts⟩
  have iX4 : ∀ w ∈ wsX40, w ∈ wsX4_raceTold := by decide +kernel
  have hl : lv_has ls 3 [(0, .ref mo), (1, .int (nI b)), (2, .int (nI k))] := hl
  refine lv_aload_n hx hb dX4_raceTold_0 rfl (lv_at hl 0 rfl) ?_
  refine va_get (D := D) (ci := 5) (v := .ref mn) (C := RX4) (T := TX4) (N := 8) hx hb hts iX4 hown hK hP 0 rfl rfl 7 (by decide) (hts (.fieldLink RX4 23 "ToyRegattaModel" "numbers" "[I") (by decide +kernel)) (fun _ h9 => h9) rfl dX4_raceTold_1 ?_
  refine lv_iconst (v := 1) hx hb dX4_raceTold_4 (by decide) ?_
  refine va_iald (D := D) hx hb hK hP 2 0 rfl rfl (by unfold vp_in; decide) dX4_raceTold_5 ?_
  rw [show (1 : Int32).toNatClampNeg = 1 from (by decide)]
  refine lv_if_ne (tgt := 13) hx hb dX4_raceTold_6 (by decide) (fun c_6 => ?_) (fun c_6 => ?_)
  · refine lv_iload_n hx hb dX4_raceTold_13 rfl (lv_at hl 2 rfl) ?_
    refine lv_iconst (v := 3) hx hb dX4_raceTold_14 (by decide) ?_
    refine lv_icmp_ne (tgt := 33) hx hb dX4_raceTold_15 (by decide) (fun c_15 => ?_) (fun c_15 => ?_)
    · refine lv_aload_n hx hb dX4_raceTold_33 rfl (lv_at hl 0 rfl) ?_
      refine lv_iload_n hx hb dX4_raceTold_34 rfl (lv_at hl 1 rfl) ?_
      refine lv_iconst (v := 5) hx hb dX4_raceTold_35 (by decide) ?_
      refine lv_iload_n hx hb dX4_raceTold_36 rfl (lv_at hl 2 rfl) ?_
      refine lv_iadd hx hb dX4_raceTold_37 ?_
      refine W.eq (g2 := F0 m 38 ls [.int (nI (5 + k)), .int (nI b), .ref mo]) (by rw [show (5 : Int32) = nI 5 from rfl, nI_add] <;> rfl) ?_
      refine q_callV (As := [.int (nI b), .int (nI (5 + k))]) (rs := []) hC (c_X4_bo l D T mo mw me mf mn nb nj th len G b (5 + k) (G b) (by omega) (by omega) rfl) q_no_st q_no_at (cwV 2 hts gX4_raceTold_X4_bo rfl rfl rfl (by decide +kernel) ⟨Nat.le_of_ble_eq_true rfl, Nat.le_of_ble_eq_true rfl⟩) (va_recv hK hP (ci := 5) (q0 := 0) rfl rfl) hK hP hD hS hA (q_mask [true, true, false] _) rfl hl.1 rfl (Nat.le_of_ble_eq_true rfl) dX4_raceTold_38 ⟨(Nat.le_of_ble_eq_true rfl), (Nat.le_of_ble_eq_true rfl)⟩ (fun v9 C9 H locs hp hP hD hS => ?_)
      obtain ⟨rfl, rfl⟩ := hp
      have hP : va_P D vwCl [q_mc mo th nb nj len mw me mf mn, q_fa T mf G, q_ia T mn 4 nu] H := q_P_perm (q_mrg_perm [true, true, false] _ _) hP
      have hD : va_D A [q_mc mo th nb nj len mw me mf mn, q_fa T mf G, q_ia T mn 4 nu] := q_D_perm (q_mrg_perm [true, true, false] _ _) hD
      exact q_iret hx hb hr hlocks hP hK hD hS (Nat.le_of_ble_eq_true rfl) (Nat.le_of_ble_eq_true rfl) dX4_raceTold_41 ⟨by simp only [rAbt, if_neg c_6, if_neg c_15], rfl⟩
    · refine lv_aload_n hx hb dX4_raceTold_18 rfl (lv_at hl 0 rfl) ?_
      refine lv_iload_n hx hb dX4_raceTold_19 rfl (lv_at hl 1 rfl) ?_
      refine lv_bipush (v := 9) hx hb dX4_raceTold_20 (by decide) ?_
      refine q_callV (As := [.int (nI b), .int 9]) (rs := []) hC (c_X4_bo l D T mo mw me mf mn nb nj th len G b 9 (G b) (by omega) (by omega) rfl) q_no_st q_no_at (cwV 2 hts gX4_raceTold_X4_bo rfl rfl rfl (by decide +kernel) ⟨Nat.le_of_ble_eq_true rfl, Nat.le_of_ble_eq_true rfl⟩) (va_recv hK hP (ci := 5) (q0 := 0) rfl rfl) hK hP hD hS hA (q_mask [true, true, false] _) rfl hl.1 rfl (Nat.le_of_ble_eq_true rfl) dX4_raceTold_22 ⟨(Nat.le_of_ble_eq_true rfl), (Nat.le_of_ble_eq_true rfl)⟩ (fun v9 C9 H locs hp hP hD hS => ?_)
      obtain ⟨rfl, rfl⟩ := hp
      have hP : va_P D vwCl [q_mc mo th nb nj len mw me mf mn, q_fa T mf G, q_ia T mn 4 nu] H := q_P_perm (q_mrg_perm [true, true, false] _ _) hP
      have hD : va_D A [q_mc mo th nb nj len mw me mf mn, q_fa T mf G, q_ia T mn 4 nu] := q_D_perm (q_mrg_perm [true, true, false] _ _) hD
      refine lv_iconst (v := 3) hx hb dX4_raceTold_25 (by decide) ?_
      refine lv_icmp_ne (tgt := 33) hx hb dX4_raceTold_26 (by decide) (fun c_26 => ?_) (fun c_26 => ?_)
      · refine lv_aload_n hx hb dX4_raceTold_33 rfl (lv_at hl 0 rfl) ?_
        refine lv_iload_n hx hb dX4_raceTold_34 rfl (lv_at hl 1 rfl) ?_
        refine lv_iconst (v := 5) hx hb dX4_raceTold_35 (by decide) ?_
        refine lv_iload_n hx hb dX4_raceTold_36 rfl (lv_at hl 2 rfl) ?_
        refine lv_iadd hx hb dX4_raceTold_37 ?_
        refine W.eq (g2 := F0 m 38 ls [.int (nI (5 + k)), .int (nI b), .ref mo]) (by rw [show (5 : Int32) = nI 5 from rfl, nI_add] <;> rfl) ?_
        refine q_callV (As := [.int (nI b), .int (nI (5 + k))]) (rs := []) hC (c_X4_bo l D T mo mw me mf mn nb nj th len G b (5 + k) (G b) (by omega) (by omega) rfl) q_no_st q_no_at (cwV 2 hts gX4_raceTold_X4_bo rfl rfl rfl (by decide +kernel) ⟨Nat.le_of_ble_eq_true rfl, Nat.le_of_ble_eq_true rfl⟩) (va_recv hK hP (ci := 5) (q0 := 0) rfl rfl) hK hP hD hS hA (q_mask [true, true, false] _) rfl hl.1 rfl (Nat.le_of_ble_eq_true rfl) dX4_raceTold_38 ⟨(Nat.le_of_ble_eq_true rfl), (Nat.le_of_ble_eq_true rfl)⟩ (fun v9 C9 H locs hp hP hD hS => ?_)
        obtain ⟨rfl, rfl⟩ := hp
        have hP : va_P D vwCl [q_mc mo th nb nj len mw me mf mn, q_fa T mf G, q_ia T mn 4 nu] H := q_P_perm (q_mrg_perm [true, true, false] _ _) hP
        have hD : va_D A [q_mc mo th nb nj len mw me mf mn, q_fa T mf G, q_ia T mn 4 nu] := q_D_perm (q_mrg_perm [true, true, false] _ _) hD
        exact q_iret hx hb hr hlocks hP hK hD hS (Nat.le_of_ble_eq_true rfl) (Nat.le_of_ble_eq_true rfl) dX4_raceTold_41 ⟨by simp only [rAbt, if_neg c_6, if_pos c_15, if_neg c_26], rfl⟩
      · refine lv_iconst (v := 0) hx hb dX4_raceTold_29 (by decide) ?_
        refine lv_goto (tgt := 41) hx hb dX4_raceTold_30 (by decide) ?_
        exact q_iret hx hb hr hlocks hP hK hD hS (Nat.le_of_ble_eq_true rfl) (Nat.le_of_ble_eq_true rfl) dX4_raceTold_41 ⟨by simp only [rAbt, if_neg c_6, if_pos c_15, if_pos c_26], rfl⟩
  · refine lv_iconst (v := (-1)) hx hb dX4_raceTold_9 (by decide) ?_
    refine lv_goto (tgt := 41) hx hb dX4_raceTold_10 (by decide) ?_
    exact q_iret hx hb hr hlocks hP hK hD hS (Nat.le_of_ble_eq_true rfl) (Nat.le_of_ble_eq_true rfl) dX4_raceTold_41 ⟨by simp only [rAbt, if_pos c_6], rfl⟩

def qCnt (mi w n j ra on sl pt we : Int32) : Nat → Int32
  | 0 => mi
  | 1 => w
  | 2 => n
  | 3 => j
  | 4 => ra
  | 5 => on
  | 6 => sl
  | 7 => pt
  | _ => we

abbrev rmX4_counted : Room := { frames := 2, cells := 0, slots := 0, locals := 45 }
set_option maxHeartbeats 4000000 in
set_option maxRecDepth 100000 in
theorem c_X4_counted (l : Launch) (D : va_G) (T : Nat → ClassId) (mo mw me mf mn nb nj : Nat) (th len : Int32) (G : Nat → Nat → Int32) (wf nu : Nat → Int32) (mk k : Nat) (hm : nu 0 = nI mk) (hmk : mk < 2 ^ 31) (hk : k < 9) (hn : nb ≤ 8) : q_M l D (q_ty T) yX4_counted wsX4_counted rmX4_counted [.ref mo, .int (nI k)] [q_mc mo th nb nj len mw me mf mn, q_ia T mw 10 wf, q_fa T mf G, q_ia T mn 4 nu] q_no (q_is (some (.int ((qCnt (nu 0) (wf (mk % 10)) (nI nb) (nI nj) (nu 1) (nu 2) (if bOn nu = 0 then 0 else q_sum (dSt G 1) nb) (q_sum (dCol G 3) nb) (q_sum (dCol G 4) nb) k)))) [q_mc mo th nb nj len mw me mf mn, q_ia T mw 10 wf, q_fa T mf G, q_ia T mn 4 nu]) := by
  refine q_start (cc := cX4_counted) (maxL := 2) (ret := (some .int)) (by decide) rfl (Nat.le_of_ble_eq_true rfl) ?_
  intro p e s m args below meth c A H locs hx hb hr hts hown hlocks hml hnm hP hK hD hS hA hG ls hl
  have hown : s.vm.findClass RX4 = some m.cls := hown
  have hC : CallFix p m c cX4_counted 2 s args wsX4_counted RX4 := ⟨hx, hb, hml, hown, hts⟩
  have iX4 : ∀ w ∈ wsX40, w ∈ wsX4_counted := by decide +kernel
  have hl : lv_has ls 2 [(0, .ref mo), (1, .int (nI k))] := hl
  refine lv_iload_n hx hb dX4_counted_0 rfl (lv_at hl 1 rfl) ?_
  rcases (show k = 0 ∨ k = 1 ∨ k = 2 ∨ k = 3 ∨ k = 4 ∨ k = 5 ∨ k = 6 ∨ k = 7 ∨ k = 8 by omega) with rfl | rfl | rfl | rfl | rfl | rfl | rfl | rfl | rfl
  · refine lv_tableIn (off := 47) (tgt := 48) hx hb dX4_counted_1 (by decide) (by decide) rfl (by decide) ?_
    refine lv_aload_n hx hb dX4_counted_48 rfl (lv_at hl 0 rfl) ?_
    refine va_get (D := D) (ci := 5) (v := .ref mn) (C := RX4) (T := TX4) (N := 8) hx hb hts iX4 hown hK hP 0 rfl rfl 7 (by decide) (hts (.fieldLink RX4 23 "ToyRegattaModel" "numbers" "[I") (by decide +kernel)) (fun _ h9 => h9) rfl dX4_counted_49 ?_
    refine lv_iconst (v := 0) hx hb dX4_counted_52 (by decide) ?_
    refine va_iald (D := D) hx hb hK hP 3 0 rfl rfl (by unfold vp_in; decide) dX4_counted_53 ?_
    rw [show (0 : Int32).toNatClampNeg = 0 from (by decide)]
    exact q_iret hx hb hr hlocks hP hK hD hS (Nat.le_of_ble_eq_true rfl) (Nat.le_of_ble_eq_true rfl) dX4_counted_54 ⟨rfl, rfl⟩
  · refine lv_tableIn (off := 54) (tgt := 55) hx hb dX4_counted_1 (by decide) (by decide) rfl (by decide) ?_
    refine lv_aload_n hx hb dX4_counted_55 rfl (lv_at hl 0 rfl) ?_
    refine q_callV (As := []) (rs := []) hC (c_X4_wind l D T mo mw me mf mn nb nj th len wf nu mk hm hmk) q_no_st q_no_at (cwV 0 hts gX4_counted_X4_wind rfl rfl rfl (by decide +kernel) ⟨Nat.le_of_ble_eq_true rfl, Nat.le_of_ble_eq_true rfl⟩) (va_recv hK hP (ci := 5) (q0 := 0) rfl rfl) hK hP hD hS hA (q_mask [true, true, false, true] _) rfl hl.1 rfl (Nat.le_of_ble_eq_true rfl) dX4_counted_56 ⟨(Nat.le_of_ble_eq_true rfl), (Nat.le_of_ble_eq_true rfl)⟩ (fun v9 C9 H locs hp hP hD hS => ?_)
    obtain ⟨rfl, rfl⟩ := hp
    have hP : va_P D vwCl [q_mc mo th nb nj len mw me mf mn, q_ia T mw 10 wf, q_fa T mf G, q_ia T mn 4 nu] H := q_P_perm (q_mrg_perm [true, true, false, true] _ _) hP
    have hD : va_D A [q_mc mo th nb nj len mw me mf mn, q_ia T mw 10 wf, q_fa T mf G, q_ia T mn 4 nu] := q_D_perm (q_mrg_perm [true, true, false, true] _ _) hD
    exact q_iret hx hb hr hlocks hP hK hD hS (Nat.le_of_ble_eq_true rfl) (Nat.le_of_ble_eq_true rfl) dX4_counted_59 ⟨rfl, rfl⟩
  · refine lv_tableIn (off := 59) (tgt := 60) hx hb dX4_counted_1 (by decide) (by decide) rfl (by decide) ?_
    refine lv_aload_n hx hb dX4_counted_60 rfl (lv_at hl 0 rfl) ?_
    refine va_get (D := D) (ci := 5) (v := .int (nI nb)) (C := RX4) (T := TX4) (N := 8) hx hb hts iX4 hown hK hP 0 rfl rfl 1 (by decide) (hts (.fieldLink RX4 29 "ToyRegattaModel" "boats" "I") (by decide +kernel)) (fun _ h9 => h9) rfl dX4_counted_61 ?_
    exact q_iret hx hb hr hlocks hP hK hD hS (Nat.le_of_ble_eq_true rfl) (Nat.le_of_ble_eq_true rfl) dX4_counted_64 ⟨rfl, rfl⟩
  · refine lv_tableIn (off := 64) (tgt := 65) hx hb dX4_counted_1 (by decide) (by decide) rfl (by decide) ?_
    refine lv_aload_n hx hb dX4_counted_65 rfl (lv_at hl 0 rfl) ?_
    refine va_get (D := D) (ci := 5) (v := .int (nI nj)) (C := RX4) (T := TX4) (N := 8) hx hb hts iX4 hown hK hP 0 rfl rfl 2 (by decide) (hts (.fieldLink RX4 62 "ToyRegattaModel" "judges" "I") (by decide +kernel)) (fun _ h9 => h9) rfl dX4_counted_66 ?_
    exact q_iret hx hb hr hlocks hP hK hD hS (Nat.le_of_ble_eq_true rfl) (Nat.le_of_ble_eq_true rfl) dX4_counted_69 ⟨rfl, rfl⟩
  · refine lv_tableIn (off := 69) (tgt := 70) hx hb dX4_counted_1 (by decide) (by decide) rfl (by decide) ?_
    refine lv_aload_n hx hb dX4_counted_70 rfl (lv_at hl 0 rfl) ?_
    refine va_get (D := D) (ci := 5) (v := .ref mn) (C := RX4) (T := TX4) (N := 8) hx hb hts iX4 hown hK hP 0 rfl rfl 7 (by decide) (hts (.fieldLink RX4 23 "ToyRegattaModel" "numbers" "[I") (by decide +kernel)) (fun _ h9 => h9) rfl dX4_counted_71 ?_
    refine lv_iconst (v := 1) hx hb dX4_counted_74 (by decide) ?_
    refine va_iald (D := D) hx hb hK hP 3 0 rfl rfl (by unfold vp_in; decide) dX4_counted_75 ?_
    rw [show (1 : Int32).toNatClampNeg = 1 from (by decide)]
    exact q_iret hx hb hr hlocks hP hK hD hS (Nat.le_of_ble_eq_true rfl) (Nat.le_of_ble_eq_true rfl) dX4_counted_76 ⟨rfl, rfl⟩
  · refine lv_tableIn (off := 76) (tgt := 77) hx hb dX4_counted_1 (by decide) (by decide) rfl (by decide) ?_
    refine lv_aload_n hx hb dX4_counted_77 rfl (lv_at hl 0 rfl) ?_
    refine va_get (D := D) (ci := 5) (v := .ref mn) (C := RX4) (T := TX4) (N := 8) hx hb hts iX4 hown hK hP 0 rfl rfl 7 (by decide) (hts (.fieldLink RX4 23 "ToyRegattaModel" "numbers" "[I") (by decide +kernel)) (fun _ h9 => h9) rfl dX4_counted_78 ?_
    refine lv_iconst (v := 2) hx hb dX4_counted_81 (by decide) ?_
    refine va_iald (D := D) hx hb hK hP 3 0 rfl rfl (by unfold vp_in; decide) dX4_counted_82 ?_
    rw [show (2 : Int32).toNatClampNeg = 2 from (by decide)]
    exact q_iret hx hb hr hlocks hP hK hD hS (Nat.le_of_ble_eq_true rfl) (Nat.le_of_ble_eq_true rfl) dX4_counted_83 ⟨rfl, rfl⟩
  · refine lv_tableIn (off := 83) (tgt := 84) hx hb dX4_counted_1 (by decide) (by decide) rfl (by decide) ?_
    refine lv_aload_n hx hb dX4_counted_84 rfl (lv_at hl 0 rfl) ?_
    refine q_callV (As := []) (rs := []) hC (c_X4_isRace l D T mo mw me mf mn nb nj th len nu) q_no_st q_no_at (cwV 0 hts gX4_counted_X4_isRace rfl rfl rfl (by decide +kernel) ⟨Nat.le_of_ble_eq_true rfl, Nat.le_of_ble_eq_true rfl⟩) (va_recv hK hP (ci := 5) (q0 := 0) rfl rfl) hK hP hD hS hA (q_mask [true, false, false, true] _) rfl hl.1 rfl (Nat.le_of_ble_eq_true rfl) dX4_counted_85 ⟨(Nat.le_of_ble_eq_true rfl), (Nat.le_of_ble_eq_true rfl)⟩ (fun v9 C9 H locs hp hP hD hS => ?_)
    obtain ⟨rfl, rfl⟩ := hp
    have hP : va_P D vwCl [q_mc mo th nb nj len mw me mf mn, q_ia T mw 10 wf, q_fa T mf G, q_ia T mn 4 nu] H := q_P_perm (q_mrg_perm [true, false, false, true] _ _) hP
    have hD : va_D A [q_mc mo th nb nj len mw me mf mn, q_ia T mw 10 wf, q_fa T mf G, q_ia T mn 4 nu] := q_D_perm (q_mrg_perm [true, false, false, true] _ _) hD
    refine lv_if_eq (tgt := 98) hx hb dX4_counted_88 (by decide) (fun c_88 => ?_) (fun c_88 => ?_)
    · refine lv_iconst (v := 0) hx hb dX4_counted_98 (by decide) ?_
      exact q_iret hx hb hr hlocks hP hK hD hS (Nat.le_of_ble_eq_true rfl) (Nat.le_of_ble_eq_true rfl) dX4_counted_99 ⟨by simp only [qCnt, if_pos c_88], rfl⟩
    · refine lv_aload_n hx hb dX4_counted_91 rfl (lv_at hl 0 rfl) ?_
      refine q_callV (As := []) (rs := []) hC (c_X4_sailing l D T mo mw me mf mn nb nj th len G hn) q_no_st q_no_at (cwV 0 hts gX4_counted_X4_sailing rfl rfl rfl (by decide +kernel) ⟨Nat.le_of_ble_eq_true rfl, Nat.le_of_ble_eq_true rfl⟩) (va_recv hK hP (ci := 5) (q0 := 0) rfl rfl) hK hP hD hS hA (q_mask [true, false, true, false] _) rfl hl.1 rfl (Nat.le_of_ble_eq_true rfl) dX4_counted_92 ⟨(Nat.le_of_ble_eq_true rfl), (Nat.le_of_ble_eq_true rfl)⟩ (fun v9 C9 H locs hp hP hD hS => ?_)
      obtain ⟨rfl, rfl⟩ := hp
      have hP : va_P D vwCl [q_mc mo th nb nj len mw me mf mn, q_ia T mw 10 wf, q_fa T mf G, q_ia T mn 4 nu] H := q_P_perm (q_mrg_perm [true, false, true, false] _ _) hP
      have hD : va_D A [q_mc mo th nb nj len mw me mf mn, q_ia T mw 10 wf, q_fa T mf G, q_ia T mn 4 nu] := q_D_perm (q_mrg_perm [true, false, true, false] _ _) hD
      refine lv_goto (tgt := 99) hx hb dX4_counted_95 (by decide) ?_
      exact q_iret hx hb hr hlocks hP hK hD hS (Nat.le_of_ble_eq_true rfl) (Nat.le_of_ble_eq_true rfl) dX4_counted_99 ⟨by simp only [qCnt, if_neg c_88], rfl⟩
  · refine lv_tableIn (off := 99) (tgt := 100) hx hb dX4_counted_1 (by decide) (by decide) rfl (by decide) ?_
    refine lv_aload_n hx hb dX4_counted_100 rfl (lv_at hl 0 rfl) ?_
    refine lv_iconst (v := 3) hx hb dX4_counted_101 (by decide) ?_
    refine q_callV (As := [.int 3]) (rs := []) hC (c_X4_all l D T mo mw me mf mn nb nj th len G 3 (by omega) hn) q_no_st q_no_at (cwV 1 hts gX4_counted_X4_all rfl rfl rfl (by decide +kernel) ⟨Nat.le_of_ble_eq_true rfl, Nat.le_of_ble_eq_true rfl⟩) (va_recv hK hP (ci := 5) (q0 := 0) rfl rfl) hK hP hD hS hA (q_mask [true, false, true, false] _) rfl hl.1 rfl (Nat.le_of_ble_eq_true rfl) dX4_counted_102 ⟨(Nat.le_of_ble_eq_true rfl), (Nat.le_of_ble_eq_true rfl)⟩ (fun v9 C9 H locs hp hP hD hS => ?_)
    obtain ⟨rfl, rfl⟩ := hp
    have hP : va_P D vwCl [q_mc mo th nb nj len mw me mf mn, q_ia T mw 10 wf, q_fa T mf G, q_ia T mn 4 nu] H := q_P_perm (q_mrg_perm [true, false, true, false] _ _) hP
    have hD : va_D A [q_mc mo th nb nj len mw me mf mn, q_ia T mw 10 wf, q_fa T mf G, q_ia T mn 4 nu] := q_D_perm (q_mrg_perm [true, false, true, false] _ _) hD
    exact q_iret hx hb hr hlocks hP hK hD hS (Nat.le_of_ble_eq_true rfl) (Nat.le_of_ble_eq_true rfl) dX4_counted_105 ⟨rfl, rfl⟩
  · refine lv_tableOut (tgt := 106) hx hb dX4_counted_1 (Or.inr (by decide)) (by decide) ?_
    refine lv_aload_n hx hb dX4_counted_106 rfl (lv_at hl 0 rfl) ?_
    refine lv_iconst (v := 4) hx hb dX4_counted_107 (by decide) ?_
    refine q_callV (As := [.int 4]) (rs := []) hC (c_X4_all l D T mo mw me mf mn nb nj th len G 4 (by omega) hn) q_no_st q_no_at (cwV 1 hts gX4_counted_X4_all rfl rfl rfl (by decide +kernel) ⟨Nat.le_of_ble_eq_true rfl, Nat.le_of_ble_eq_true rfl⟩) (va_recv hK hP (ci := 5) (q0 := 0) rfl rfl) hK hP hD hS hA (q_mask [true, false, true, false] _) rfl hl.1 rfl (Nat.le_of_ble_eq_true rfl) dX4_counted_108 ⟨(Nat.le_of_ble_eq_true rfl), (Nat.le_of_ble_eq_true rfl)⟩ (fun v9 C9 H locs hp hP hD hS => ?_)
    obtain ⟨rfl, rfl⟩ := hp
    have hP : va_P D vwCl [q_mc mo th nb nj len mw me mf mn, q_ia T mw 10 wf, q_fa T mf G, q_ia T mn 4 nu] H := q_P_perm (q_mrg_perm [true, false, true, false] _ _) hP
    have hD : va_D A [q_mc mo th nb nj len mw me mf mn, q_ia T mw 10 wf, q_fa T mf G, q_ia T mn 4 nu] := q_D_perm (q_mrg_perm [true, false, true, false] _ _) hD
    exact q_iret hx hb hr hlocks hP hK hD hS (Nat.le_of_ble_eq_true rfl) (Nat.le_of_ble_eq_true rfl) dX4_counted_111 ⟨rfl, rfl⟩
