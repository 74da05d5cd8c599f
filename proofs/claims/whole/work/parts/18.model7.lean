
def rWet0 (G : Nat → Nat → Int32) (bt : Nat) : Nat → Nat → Int32 := fun b => upd (G b) 4 (if nI b = nI bt then 0 else 9)
/-- the rows when boat bt sails alone, dry, with the lead l -/
def rAdG (G : Nat → Nat → Int32) (nb bt l : Nat) : Nat → Nat → Int32 := va_up (q_upto nb (rWet0 G bt) G) bt (upd (q_upto nb (rWet0 G bt) G bt) 2 (nI l))
def rAdS (G : Nat → Nat → Int32) (nu : Nat → Int32) (nb bt l : Nat) : (Nat → Nat → Int32) × (Nat → Int32) := (q_upto nb (rEnters (rAdG G nb bt l)) (rAdG G nb bt l), rBegU nu)
def rAdT (wf ey : Nat → Int32) (nj : Nat) (len : Int32) (nb : Nat) (G : Nat → Nat → Int32) (nu : Nat → Int32) (bt l : Nat) : Int32 := (rRun wf ey nj len nb 60 (rAdS G nu nb bt l)).1 bt 6
/-- the best lead so far and its time, out of the times t -/
def qAdv (t : Nat → Int32) : Nat → Int32 × Int32
  | 0 => (-1, 0)
  | l + 1 => if t l = -1 then qAdv t l else if (qAdv t l).1 = -1 then (nI l, t l) else if t l < (qAdv t l).2 then (nI l, t l) else qAdv t l
theorem rAdG_hz {G : Nat → Nat → Int32} {nb bt l : Nat} (hz : mHz G nb) (hzl : 0 < 2 + G bt 0 + nI l / 2) (hb : bt < nb) : mHz (q_upto nb (rEnters (rAdG G nb bt l)) (rAdG G nb bt l)) nb := by
  refine mHz.keep ?_ (rEnters_keep _ nb)
  intro b hb2
  by_cases h : b = bt
  · subst h
    unfold rAdG
    rw [va_up_self, q_upto_lt _ _ hb2]
    simpa [upd, rWet0] using hzl
  · unfold rAdG
    rw [va_up_ne _ _ h, q_upto_lt _ _ hb2]
    simpa [upd, rWet0] using hz b hb2
theorem q_exit_gt {j n : Nat} (h : nI n < nI j) (hj : j ≤ n + 1) (hn : n + 1 < 2 ^ 31) : j = n + 1 := by
  rcases Nat.lt_or_ge n j with q | q
  · omega
  · exact absurd h (nI_nlt q (by omega))
theorem q_goon_gt {j n : Nat} (h : ¬ nI n < nI j) (hj : j < 2 ^ 31) : j < n + 1 := by
  rcases Nat.lt_or_ge n j with q | q
  · exact absurd (nI_lt q hj) h
  · omega

abbrev rmX4_advise : Room := { frames := 7, cells := 1203, slots := 7286, locals := 152 }
set_option maxHeartbeats 1000000 in
set_option maxRecDepth 100000 in
theorem c_X4_advise_ok (l0 : Launch) (D : va_G) (T : Nat → ClassId) (mo mw me mf mn nb nj : Nat) (th len : Int32) (G : Nat → Nat → Int32) (wf ey nu : Nat → Int32) (mk : Nat) (hm : nu 0 = nI mk) (hmk : mk < 2 ^ 30) (hn : nb ≤ 8) (hj : nj ≤ 3) (hz : mHz G nb) (bt : Nat) (hb8 : bt < nb) (hzl : ∀ l, l ≤ 9 → 0 < 2 + G bt 0 + nI l / 2) : q_M l0 D (q_ty T) yX4_advise wsX4_advise rmX4_advise [.ref mo, .int (nI bt)] [q_mc mo th nb nj len mw me mf mn, q_ia T mw 10 wf, q_ia T me 3 ey, q_fa T mf G, q_ia T mn 4 nu] q_gA (q_is (some (.int ((qAdv (rAdT wf ey nj len nb G nu bt) 10).1))) [q_mc mo 0 nb nj len mw me mf mn, q_ia T mw 10 wf, q_ia T me 3 ey, q_fa T mf G, q_ia T mn 4 nu]) := by
  refine q_start (cc := cX4_advise) (maxL := 7) (ret := (some .int)) (by decide) rfl (Nat.le_of_ble_eq_true rfl) ?_
  intro p e s m args below meth c A H locs hx hb hr hts hown hlocks hml hnm hP hK hD hS hA hG ls hl
  have hown : s.vm.findClass RX4 = some m.cls := hown
  have hC : CallFix p m c cX4_advise 7 s args wsX4_advise RX4 := ⟨hx, hb, hml, hown, hts⟩
  have iX4 : ∀ w ∈ wsX40, w ∈ wsX4_advise := by decide +kernel
  have hl : lv_has ls 7 [(0, .ref mo), (1, .int (nI bt))] := hl
  refine lv_aload_n hx hb dX4_advise_0 rfl (lv_at hl 0 rfl) ?_
  refine lv_iconst (v := 0) hx hb dX4_advise_1 (by decide) ?_
  refine va_put (D := D) (ci := 5) (v := .int 0) (ty := .int) (C := RX4) (T := TX4) (N := 8) hx hb hts iX4 tyX4 tyX4_ok nmX4 hown hK hP hD hS 0 rfl rfl 0 (by decide) (hts (.fieldLink RX4 26 "ToyRegattaModel" "thrown" "I") (by decide +kernel)) (fun _ h9 => h9) rfl (by decide +kernel) rfl rfl (Nat.le_of_ble_eq_true rfl) dX4_advise_2 (fun H locs hP hD hS => ?_)
  have hP : va_P D vwCl [q_mc mo 0 nb nj len mw me mf mn, q_ia T mw 10 wf, q_ia T me 3 ey, q_fa T mf G, q_ia T mn 4 nu] H := hP
  have hD : va_D A [q_mc mo 0 nb nj len mw me mf mn, q_ia T mw 10 wf, q_ia T me 3 ey, q_fa T mf G, q_ia T mn 4 nu] := hD
  refine lv_aload_n hx hb dX4_advise_5 rfl (lv_at hl 0 rfl) ?_
  refine lv_iload_n hx hb dX4_advise_6 rfl (lv_at hl 1 rfl) ?_
  refine q_callV (As := [.int (nI bt)]) (rs := []) hC (c_X4_isBoat l0 D T mo mw me mf mn nb nj 0 len (nI bt)) q_no_st q_no_at (cwV 1 hts gX4_advise_X4_isBoat rfl rfl rfl (by decide +kernel) ⟨Nat.le_of_ble_eq_true rfl, Nat.le_of_ble_eq_true rfl⟩) (va_recv hK hP (ci := 5) (q0 := 0) rfl rfl) hK hP hD hS hA (q_mask [true, false, false, false, false] _) rfl hl.1 rfl (Nat.le_of_ble_eq_true rfl) dX4_advise_7 ⟨(Nat.le_of_ble_eq_true rfl), (Nat.le_of_ble_eq_true rfl)⟩ (fun v9 C9 H locs hp hP hD hS => ?_)
  obtain ⟨rfl, rfl⟩ := hp
  have hP : va_P D vwCl [q_mc mo 0 nb nj len mw me mf mn, q_ia T mw 10 wf, q_ia T me 3 ey, q_fa T mf G, q_ia T mn 4 nu] H := q_P_perm (q_mrg_perm [true, false, false, false, false] _ _) hP
  have hD : va_D A [q_mc mo 0 nb nj len mw me mf mn, q_ia T mw 10 wf, q_ia T me 3 ey, q_fa T mf G, q_ia T mn 4 nu] := q_D_perm (q_mrg_perm [true, false, false, false, false] _ _) hD
  refine lv_if_ne (tgt := 19) hx hb dX4_advise_10 (by decide) (fun c_10 => ?_) (fun c_10 => absurd c_10 (q_isb hb8 hn))
  refine lv_aload_n hx hb dX4_advise_19 rfl (lv_at hl 0 rfl) ?_
  refine q_callV (As := []) (rs := []) hC (c_X4_kept l0 D T mo mw me mf mn nb nj 0 len G nu) q_gA_st (q_gA_at hG) (cwV 0 hts gX4_advise_X4_kept rfl rfl rfl (by decide +kernel) ⟨Nat.le_of_ble_eq_true rfl, Nat.le_of_ble_eq_true rfl⟩) (va_recv hK hP (ci := 5) (q0 := 0) rfl rfl) hK hP hD hS hA (q_mask [true, false, false, true, true] _) rfl hl.1 rfl (Nat.le_of_ble_eq_true rfl) dX4_advise_20 ⟨(Nat.le_of_ble_eq_true rfl), (Nat.le_of_ble_eq_true rfl)⟩ (fun v9 C9 H locs hp hP hD hS => ?_)
  obtain ⟨q1, qa, qb, rfl, rfl⟩ := hp
  have hP : va_P D vwCl [q_mc mo 0 nb nj len mw me mf mn, q_ia T mw 10 wf, q_ia T me 3 ey, q_fa T mf G, q_ia T mn 4 nu, q_kc T q1 qa qb, q_fa T qa G, q_ia T qb 4 nu] H := q_P_perm ((show ([q_mc mo 0 nb nj len mw me mf mn, q_fa T mf G, q_ia T mn 4 nu] ++ ([q_kc T q1 qa qb, q_fa T qa G, q_ia T qb 4 nu] ++ [q_ia T mw 10 wf, q_ia T me 3 ey])).Perm ([q_mc mo 0 nb nj len mw me mf mn, q_fa T mf G, q_ia T mn 4 nu] ++ ([q_ia T mw 10 wf, q_ia T me 3 ey] ++ [q_kc T q1 qa qb, q_fa T qa G, q_ia T qb 4 nu])) from List.perm_append_comm.append_left _).trans (show (([q_mc mo 0 nb nj len mw me mf mn, q_fa T mf G, q_ia T mn 4 nu] ++ [q_ia T mw 10 wf, q_ia T me 3 ey]) ++ [q_kc T q1 qa qb, q_fa T qa G, q_ia T qb 4 nu]).Perm ([q_mc mo 0 nb nj len mw me mf mn, q_ia T mw 10 wf, q_ia T me 3 ey, q_fa T mf G, q_ia T mn 4 nu] ++ [q_kc T q1 qa qb, q_fa T qa G, q_ia T qb 4 nu]) from (q_mrg_perm [true, false, false, true, true] [q_mc mo 0 nb nj len mw me mf mn, q_fa T mf G, q_ia T mn 4 nu] [q_ia T mw 10 wf, q_ia T me 3 ey]).append_right _)) hP
  have hD : va_D A [q_mc mo 0 nb nj len mw me mf mn, q_ia T mw 10 wf, q_ia T me 3 ey, q_fa T mf G, q_ia T mn 4 nu, q_kc T q1 qa qb, q_fa T qa G, q_ia T qb 4 nu] := q_D_perm ((show ([q_mc mo 0 nb nj len mw me mf mn, q_fa T mf G, q_ia T mn 4 nu] ++ ([q_kc T q1 qa qb, q_fa T qa G, q_ia T qb 4 nu] ++ [q_ia T mw 10 wf, q_ia T me 3 ey])).Perm ([q_mc mo 0 nb nj len mw me mf mn, q_fa T mf G, q_ia T mn 4 nu] ++ ([q_ia T mw 10 wf, q_ia T me 3 ey] ++ [q_kc T q1 qa qb, q_fa T qa G, q_ia T qb 4 nu])) from List.perm_append_comm.append_left _).trans (show (([q_mc mo 0 nb nj len mw me mf mn, q_fa T mf G, q_ia T mn 4 nu] ++ [q_ia T mw 10 wf, q_ia T me 3 ey]) ++ [q_kc T q1 qa qb, q_fa T qa G, q_ia T qb 4 nu]).Perm ([q_mc mo 0 nb nj len mw me mf mn, q_ia T mw 10 wf, q_ia T me 3 ey, q_fa T mf G, q_ia T mn 4 nu] ++ [q_kc T q1 qa qb, q_fa T qa G, q_ia T qb 4 nu]) from (q_mrg_perm [true, false, false, true, true] [q_mc mo 0 nb nj len mw me mf mn, q_fa T mf G, q_ia T mn 4 nu] [q_ia T mw 10 wf, q_ia T me 3 ey]).append_right _)) hD
  refine lv_astore_n (lv' := [(2, .ref q1), (0, .ref mo), (1, .int (nI bt))]) hx hb dX4_advise_23 rfl hl (by decide) rfl (fun ls hl => ?_)
  refine lv_iconst (v := (-1)) hx hb dX4_advise_24 (by decide) ?_
  refine lv_istore_n (lv' := [(3, .int (-1)), (2, .ref q1), (0, .ref mo), (1, .int (nI bt))]) hx hb dX4_advise_25 rfl hl (by decide) rfl (fun ls hl => ?_)
  refine lv_iconst (v := 0) hx hb dX4_advise_26 (by decide) ?_
  refine lv_istore (lv' := [(4, .int 0), (3, .int (-1)), (2, .ref q1), (0, .ref mo), (1, .int (nI bt))]) hx hb dX4_advise_27 hl (by decide) rfl (fun ls hl => ?_)
  refine lv_iconst (v := 0) hx hb dX4_advise_29 (by decide) ?_
  refine lv_istore (lv' := [(5, .int 0), (4, .int 0), (3, .int (-1)), (2, .ref q1), (0, .ref mo), (1, .int (nI bt))]) hx hb dX4_advise_30 hl (by decide) rfl (fun ls hl => ?_)
  refine W.widen (k := 3 + 120 * 0) (n := 86 + 720 * 0) (Nat.le_refl _) (Nat.le_refl _) ?_
  have L32 : ∀ (f9 l : Nat) (h9a : 10 < l + f9) (h9b : l ≤ 10) (H : Heap) (locs : List Loc) (ls : Array Slot), va_P D vwCl [q_mc mo 0 nb nj len mw me mf mn, q_ia T mw 10 wf, q_ia T me 3 ey, q_fa T mf G, q_ia T mn 4 nu, q_kc T q1 qa qb, q_fa T qa G, q_ia T qb 4 nu] H → va_D A [q_mc mo 0 nb nj len mw me mf mn, q_ia T mw 10 wf, q_ia T me 3 ey, q_fa T mf G, q_ia T mn 4 nu, q_kc T q1 qa qb, q_fa T qa G, q_ia T qb 4 nu] → va_S A s.heap H locs → lv_has ls 7 [(0, .ref mo), (1, .int (nI bt)), (2, .ref q1), (3, .int ((qAdv (rAdT wf ey nj len nb G nu bt) l).1)), (4, .int ((qAdv (rAdT wf ey nj len nb G nu bt) l).2)), (5, .int (nI l))] → W p l0 e rmX4_advise s m args below meth c H locs (3 + 120 * l) (86 + 720 * l) (q_E below D (q_ty T) (q_is (some (.int ((qAdv (rAdT wf ey nj len nb G nu bt) 10).1))) [q_mc mo 0 nb nj len mw me mf mn, q_ia T mw 10 wf, q_ia T me 3 ey, q_fa T mf G, q_ia T mn 4 nu]) A args s rmX4_advise) (F0 m 32 ls []) := by
    intro f9
    induction f9 with
    | zero => intro l h9a h9b; exact absurd h9a (by omega)
    | succ f9 ih32 =>
      intro l h9a h9b   H locs ls hP hD hS hl
      refine lv_iload hx hb dX4_advise_32 (lv_at hl 5 rfl) ?_
      refine lv_bipush (v := 9) hx hb dX4_advise_34 (by decide) ?_
      refine lv_icmp_gt (tgt := 141) hx hb dX4_advise_36 (by decide) (fun c_36 => ?_) (fun c_36 => ?_)
      · have h9d := (q_exit_gt (n := 9) c_36 h9b (by omega)).symm
        subst h9d
        refine lv_iload_n hx hb dX4_advise_141 rfl (lv_at hl 3 rfl) ?_
        have hP : va_P D vwCl [q_mc mo 0 nb nj len mw me mf mn, q_ia T mw 10 wf, q_ia T me 3 ey, q_fa T mf G, q_ia T mn 4 nu] H := hP.sub [0, 1, 2, 3, 4] rfl
        have hD : va_D A [q_mc mo 0 nb nj len mw me mf mn, q_ia T mw 10 wf, q_ia T me 3 ey, q_fa T mf G, q_ia T mn 4 nu] := hD.sub [0, 1, 2, 3, 4] (by decide) rfl
        exact q_iret hx hb hr hlocks hP hK hD hS (by show (3 + 120 * 10) ≤ 1203; omega) (by show (86 + 720 * 10) ≤ 7286; omega) dX4_advise_142 ⟨rfl, rfl⟩
      · have h9d := q_goon_gt (n := 9) c_36 (by omega)
        have h9l := h9d
        refine lv_iconst (v := 0) hx hb dX4_advise_39 (by decide) ?_
        refine lv_istore (lv' := [(6, .int 0), (0, .ref mo), (1, .int (nI bt)), (2, .ref q1), (3, .int ((qAdv (rAdT wf ey nj len nb G nu bt) l).1)), (4, .int ((qAdv (rAdT wf ey nj len nb G nu bt) l).2)), (5, .int (nI l))]) hx hb dX4_advise_40 hl (by decide) rfl (fun ls hl => ?_)
        have hP : va_P D vwCl [q_mc mo 0 nb nj len mw me mf mn, q_ia T mw 10 wf, q_ia T me 3 ey, q_fa T mf (q_upto 0 (rWet0 G bt) G), q_ia T mn 4 nu, q_kc T q1 qa qb, q_fa T qa G, q_ia T qb 4 nu] H := by rw [q_upto_0]; exact hP
        have hD : va_D A [q_mc mo 0 nb nj len mw me mf mn, q_ia T mw 10 wf, q_ia T me 3 ey, q_fa T mf (q_upto 0 (rWet0 G bt) G), q_ia T mn 4 nu, q_kc T q1 qa qb, q_fa T qa G, q_ia T qb 4 nu] := by rw [q_upto_0]; exact hD
        have L42 : ∀ (f9 b : Nat) (h9a : nb < b + f9) (h9b : b ≤ nb) (H : Heap) (locs : List Loc) (ls : Array Slot), va_P D vwCl [q_mc mo 0 nb nj len mw me mf mn, q_ia T mw 10 wf, q_ia T me 3 ey, q_fa T mf (q_upto b (rWet0 G bt) G), q_ia T mn 4 nu, q_kc T q1 qa qb, q_fa T qa G, q_ia T qb 4 nu] H → va_D A [q_mc mo 0 nb nj len mw me mf mn, q_ia T mw 10 wf, q_ia T me 3 ey, q_fa T mf (q_upto b (rWet0 G bt) G), q_ia T mn 4 nu, q_kc T q1 qa qb, q_fa T qa G, q_ia T qb 4 nu] → va_S A s.heap H locs → lv_has ls 7 [(0, .ref mo), (1, .int (nI bt)), (2, .ref q1), (3, .int ((qAdv (rAdT wf ey nj len nb G nu bt) l).1)), (4, .int ((qAdv (rAdT wf ey nj len nb G nu bt) l).2)), (5, .int (nI l)), (6, .int (nI b))] → W p l0 e rmX4_advise s m args below meth c H locs (3 + 120 * l) (86 + 720 * l) (q_E below D (q_ty T) (q_is (some (.int ((qAdv (rAdT wf ey nj len nb G nu bt) 10).1))) [q_mc mo 0 nb nj len mw me mf mn, q_ia T mw 10 wf, q_ia T me 3 ey, q_fa T mf G, q_ia T mn 4 nu]) A args s rmX4_advise) (F0 m 42 ls []) := by
          intro f9
          induction f9 with
          | zero => intro b h9a h9b; exact absurd h9a (by omega)
          | succ f9 ih42 =>
            intro b h9a h9b   H locs ls hP hD hS hl
            refine lv_iload hx hb dX4_advise_42 (lv_at hl 6 rfl) ?_
            refine lv_aload_n hx hb dX4_advise_44 rfl (lv_at hl 0 rfl) ?_
            refine va_get (D := D) (ci := 5) (v := .int (nI nb)) (C := RX4) (T := TX4) (N := 8) hx hb hts iX4 hown hK hP 0 rfl rfl 1 (by decide) (hts (.fieldLink RX4 29 "ToyRegattaModel" "boats" "I") (by decide +kernel)) (fun _ h9 => h9) rfl dX4_advise_45 ?_
            refine lv_icmp_ge (tgt := 76) hx hb dX4_advise_48 (by decide) (fun c_48 => ?_) (fun c_48 => ?_)
            · have h9d := (q_exit c_48 h9b (by omega)).symm
              subst h9d
              refine lv_aload_n hx hb dX4_advise_76 rfl (lv_at hl 0 rfl) ?_
              refine lv_iload_n hx hb dX4_advise_77 rfl (lv_at hl 1 rfl) ?_
              refine lv_iconst (v := 2) hx hb dX4_advise_78 (by decide) ?_
              refine lv_iload hx hb dX4_advise_79 (lv_at hl 5 rfl) ?_
              refine q_callV (As := [.int (nI bt), .int 2, .int (nI l)]) (rs := []) hC (c_X4_put l0 D T mo mw me mf mn nb nj 0 len (q_upto nb (rWet0 G bt) G) (va_up (q_upto nb (rWet0 G bt) G) bt (upd ((q_upto nb (rWet0 G bt) G) bt) 2 (nI l))) bt 2 (nI l) ((q_upto nb (rWet0 G bt) G) bt) (by omega) (by omega) rfl rfl) q_no_st q_no_at (cwV 3 hts gX4_advise_X4_put rfl rfl rfl (by decide +kernel) ⟨Nat.le_of_ble_eq_true rfl, Nat.le_of_ble_eq_true rfl⟩) (va_recv hK hP (ci := 5) (q0 := 0) rfl rfl) hK hP hD hS hA (q_mask [true, false, false, true, false, false, false, false] _) rfl hl.1 rfl (Nat.le_of_ble_eq_true rfl) dX4_advise_81 ⟨(by show (3 + 120 * l) + 0 ≤ 1203; omega), (by show (86 + 720 * l) + 0 ≤ 7286; omega)⟩ (fun v9 C9 H locs hp hP hD hS => ?_)
              obtain ⟨rfl, rfl⟩ := hp
              have hP : va_P D vwCl [q_mc mo 0 nb nj len mw me mf mn, q_ia T mw 10 wf, q_ia T me 3 ey, q_fa T mf (va_up (q_upto nb (rWet0 G bt) G) bt (upd ((q_upto nb (rWet0 G bt) G) bt) 2 (nI l))), q_ia T mn 4 nu, q_kc T q1 qa qb, q_fa T qa G, q_ia T qb 4 nu] H := q_P_perm (q_mrg_perm [true, false, false, true, false, false, false, false] _ _) hP
              have hD : va_D A [q_mc mo 0 nb nj len mw me mf mn, q_ia T mw 10 wf, q_ia T me 3 ey, q_fa T mf (va_up (q_upto nb (rWet0 G bt) G) bt (upd ((q_upto nb (rWet0 G bt) G) bt) 2 (nI l))), q_ia T mn 4 nu, q_kc T q1 qa qb, q_fa T qa G, q_ia T qb 4 nu] := q_D_perm (q_mrg_perm [true, false, false, true, false, false, false, false] _ _) hD
              refine lv_aload_n hx hb dX4_advise_84 rfl (lv_at hl 0 rfl) ?_
              refine q_callV (As := []) (rs := []) hC (c_X4_begin l0 D T mo mw me mf mn nb nj 0 len (rAdG G nb bt l) nu hn) q_no_st q_no_at (cwV 0 hts gX4_advise_X4_begin rfl rfl rfl (by decide +kernel) ⟨Nat.le_of_ble_eq_true rfl, Nat.le_of_ble_eq_true rfl⟩) (va_recv hK hP (ci := 5) (q0 := 0) rfl rfl) hK hP hD hS hA (q_mask [true, false, false, true, true, false, false, false] _) rfl hl.1 rfl (Nat.le_of_ble_eq_true rfl) dX4_advise_85 ⟨(by show (3 + 120 * l) + 0 ≤ 1203; omega), (by show (86 + 720 * l) + 0 ≤ 7286; omega)⟩ (fun v9 C9 H locs hp hP hD hS => ?_)
              obtain ⟨rfl, rfl⟩ := hp
              have hP : va_P D vwCl [q_mc mo 0 nb nj len mw me mf mn, q_ia T mw 10 wf, q_ia T me 3 ey, q_fa T mf ((rAdS G nu nb bt l).1), q_ia T mn 4 ((rAdS G nu nb bt l).2), q_kc T q1 qa qb, q_fa T qa G, q_ia T qb 4 nu] H := q_P_perm (q_mrg_perm [true, false, false, true, true, false, false, false] _ _) hP
              have hD : va_D A [q_mc mo 0 nb nj len mw me mf mn, q_ia T mw 10 wf, q_ia T me 3 ey, q_fa T mf ((rAdS G nu nb bt l).1), q_ia T mn 4 ((rAdS G nu nb bt l).2), q_kc T q1 qa qb, q_fa T qa G, q_ia T qb 4 nu] := q_D_perm (q_mrg_perm [true, false, false, true, true, false, false, false] _ _) hD
              refine lv_pop hx hb dX4_advise_88 rfl ?_
              refine lv_aload_n hx hb dX4_advise_89 rfl (lv_at hl 0 rfl) ?_
              refine q_callV (As := []) (rs := []) hC (c_X4_sailOut l0 D T mo mw me mf mn nb nj 0 len ((rAdS G nu nb bt l).1) wf ey ((rAdS G nu nb bt l).2) mk ((rBegU_0 nu).trans hm) hmk hn hj (rAdG_hz hz (hzl l (by omega)) hb8) (rBegU_go nu)) q_no_st q_no_at (cwV 0 hts gX4_advise_X4_sailOut rfl rfl rfl (by decide +kernel) ⟨Nat.le_of_ble_eq_true rfl, Nat.le_of_ble_eq_true rfl⟩) (va_recv hK hP (ci := 5) (q0 := 0) rfl rfl) hK hP hD hS hA (q_mask [true, true, true, true, true, false, false, false] _) rfl hl.1 rfl (Nat.le_of_ble_eq_true rfl) dX4_advise_90 ⟨(by show (3 + 120 * l) + 120 ≤ 1203; omega), (by show (86 + 720 * l) + 720 ≤ 7286; omega)⟩ (fun v9 C9 H locs hp hP hD hS => ?_)
              obtain ⟨rfl, rfl⟩ := hp
              have hP : va_P D vwCl [q_mc mo 0 nb nj len mw me mf mn, q_ia T mw 10 wf, q_ia T me 3 ey, q_fa T mf ((rRun wf ey nj len nb 60 (rAdS G nu nb bt l)).1), q_ia T mn 4 ((rRun wf ey nj len nb 60 (rAdS G nu nb bt l)).2), q_kc T q1 qa qb, q_fa T qa G, q_ia T qb 4 nu] H := q_P_perm (q_mrg_perm [true, true, true, true, true, false, false, false] _ _) hP
              have hD : va_D A [q_mc mo 0 nb nj len mw me mf mn, q_ia T mw 10 wf, q_ia T me 3 ey, q_fa T mf ((rRun wf ey nj len nb 60 (rAdS G nu nb bt l)).1), q_ia T mn 4 ((rRun wf ey nj len nb 60 (rAdS G nu nb bt l)).2), q_kc T q1 qa qb, q_fa T qa G, q_ia T qb 4 nu] := q_D_perm (q_mrg_perm [true, true, true, true, true, false, false, false] _ _) hD
              refine lv_aload_n hx hb dX4_advise_93 rfl (lv_at hl 0 rfl) ?_
              refine lv_iload_n hx hb dX4_advise_94 rfl (lv_at hl 1 rfl) ?_
              refine lv_bipush (v := 6) hx hb dX4_advise_95 (by decide) ?_
              refine q_callV (As := [.int (nI bt), .int 6]) (rs := []) hC (c_X4_bo l0 D T mo mw me mf mn nb nj 0 len ((rRun wf ey nj len nb 60 (rAdS G nu nb bt l)).1) bt 6 ((rRun wf ey nj len nb 60 (rAdS G nu nb bt l)).1 bt) (by omega) (by omega) rfl) q_no_st q_no_at (cwV 2 hts gX4_advise_X4_bo rfl rfl rfl (by decide +kernel) ⟨Nat.le_of_ble_eq_true rfl, Nat.le_of_ble_eq_true rfl⟩) (va_recv hK hP (ci := 5) (q0 := 0) rfl rfl) hK hP hD hS hA (q_mask [true, false, false, true, false, false, false, false] _) rfl hl.1 rfl (Nat.le_of_ble_eq_true rfl) dX4_advise_97 ⟨(by show ((3 + 120 * l) + 120) + 0 ≤ 1203; omega), (by show ((86 + 720 * l) + 720) + 0 ≤ 7286; omega)⟩ (fun v9 C9 H locs hp hP hD hS => ?_)
              obtain ⟨rfl, rfl⟩ := hp
              have hP : va_P D vwCl [q_mc mo 0 nb nj len mw me mf mn, q_ia T mw 10 wf, q_ia T me 3 ey, q_fa T mf ((rRun wf ey nj len nb 60 (rAdS G nu nb bt l)).1), q_ia T mn 4 ((rRun wf ey nj len nb 60 (rAdS G nu nb bt l)).2), q_kc T q1 qa qb, q_fa T qa G, q_ia T qb 4 nu] H := q_P_perm (q_mrg_perm [true, false, false, true, false, false, false, false] _ _) hP
              have hD : va_D A [q_mc mo 0 nb nj len mw me mf mn, q_ia T mw 10 wf, q_ia T me 3 ey, q_fa T mf ((rRun wf ey nj len nb 60 (rAdS G nu nb bt l)).1), q_ia T mn 4 ((rRun wf ey nj len nb 60 (rAdS G nu nb bt l)).2), q_kc T q1 qa qb, q_fa T qa G, q_ia T qb 4 nu] := q_D_perm (q_mrg_perm [true, false, false, true, false, false, false, false] _ _) hD
              refine lv_istore (lv' := [(6, .int ((rRun wf ey nj len nb 60 (rAdS G nu nb bt l)).1 bt 6)), (0, .ref mo), (1, .int (nI bt)), (2, .ref q1), (3, .int ((qAdv (rAdT wf ey nj len nb G nu bt) l).1)), (4, .int ((qAdv (rAdT wf ey nj len nb G nu bt) l).2)), (5, .int (nI l))]) hx hb dX4_advise_100 hl (by decide) rfl (fun ls hl => ?_)
              have hl : lv_has ls 7 [(6, .int (rAdT wf ey nj len nb G nu bt l)), (0, .ref mo), (1, .int (nI bt)), (2, .ref q1), (3, .int ((qAdv (rAdT wf ey nj len nb G nu bt) l).1)), (4, .int ((qAdv (rAdT wf ey nj len nb G nu bt) l).2)), (5, .int (nI l))] := hl
              refine lv_aload_n hx hb dX4_advise_102 rfl (lv_at hl 1 rfl) ?_
              refine lv_aload_n hx hb dX4_advise_103 rfl (lv_at hl 3 rfl) ?_
              refine q_callV (As := [.ref q1]) (rs := []) hC (c_X4_bringBack l0 D T mo mw me mf mn nb nj 0 len G ((rRun wf ey nj len nb 60 (rAdS G nu nb bt l)).1) nu ((rRun wf ey nj len nb 60 (rAdS G nu nb bt l)).2) q1 qa qb) q_no_st q_no_at (cwV 1 hts gX4_advise_X4_bringBack rfl rfl rfl (by decide +kernel) ⟨Nat.le_of_ble_eq_true rfl, Nat.le_of_ble_eq_true rfl⟩) (va_recv hK hP (ci := 5) (q0 := 0) rfl rfl) hK hP hD hS hA (q_mask [true, false, false, true, true, true, true, true] _) rfl hl.1 rfl (Nat.le_of_ble_eq_true rfl) dX4_advise_104 ⟨(by show ((3 + 120 * l) + 120) + 0 ≤ 1203; omega), (by show ((86 + 720 * l) + 720) + 0 ≤ 7286; omega)⟩ (fun v9 C9 H locs hp hP hD hS => ?_)
              obtain ⟨rfl, rfl⟩ := hp
              have hP : va_P D vwCl [q_mc mo 0 nb nj len mw me mf mn, q_ia T mw 10 wf, q_ia T me 3 ey, q_fa T mf G, q_ia T mn 4 nu, q_kc T q1 qa qb, q_fa T qa G, q_ia T qb 4 nu] H := q_P_perm (q_mrg_perm [true, false, false, true, true, true, true, true] _ _) hP
              have hD : va_D A [q_mc mo 0 nb nj len mw me mf mn, q_ia T mw 10 wf, q_ia T me 3 ey, q_fa T mf G, q_ia T mn 4 nu, q_kc T q1 qa qb, q_fa T qa G, q_ia T qb 4 nu] := q_D_perm (q_mrg_perm [true, false, false, true, true, true, true, true] _ _) hD
              refine lv_iload hx hb dX4_advise_107 (lv_at hl 0 rfl) ?_
              refine lv_iconst (v := (-1)) hx hb dX4_advise_109 (by decide) ?_
              refine lv_icmp_eq (tgt := 135) hx hb dX4_advise_110 (by decide) (fun c_110 => ?_) (fun c_110 => ?_)
              · refine lv_iinc (v := (nI (l + 1))) (lv' := [(5, .int (nI (l + 1))), (6, .int (rAdT wf ey nj len nb G nu bt l)), (0, .ref mo), (1, .int (nI bt)), (2, .ref q1), (3, .int ((qAdv (rAdT wf ey nj len nb G nu bt) l).1)), (4, .int ((qAdv (rAdT wf ey nj len nb G nu bt) l).2))]) hx hb dX4_advise_135 hl (k := 6) rfl (nI_1 l) (by decide) rfl (fun ls hl => ?_)
                refine lv_goto (tgt := 32) hx hb dX4_advise_138 (by decide) ?_
                refine W.widen (k := 3 + 120 * (l + 1)) (n := 86 + 720 * (l + 1)) (by show ((3 + 120 * l) + 120) ≤ 3 + 120 * (l + 1); omega) (by show ((86 + 720 * l) + 720) ≤ 86 + 720 * (l + 1); omega) ?_
                have e9 : qAdv (rAdT wf ey nj len nb G nu bt) (l + 1) = qAdv (rAdT wf ey nj len nb G nu bt) l := by simp only [qAdv, if_pos c_110]
                have hl : lv_has ls 7 [(5, .int (nI (l + 1))), (6, .int (rAdT wf ey nj len nb G nu bt l)), (0, .ref mo), (1, .int (nI bt)), (2, .ref q1), (3, .int ((qAdv (rAdT wf ey nj len nb G nu bt) (l + 1)).1)), (4, .int ((qAdv (rAdT wf ey nj len nb G nu bt) (l + 1)).2))] := by rw [e9]; exact hl
                exact ih32 (l + 1) (by omega) (by omega)   _ _ ls hP hD hS (lv_sub hl [2, 3, 4, 5, 6, 0] rfl)
              · refine lv_iload_n hx hb dX4_advise_113 rfl (lv_at hl 4 rfl) ?_
                refine lv_iconst (v := (-1)) hx hb dX4_advise_114 (by decide) ?_
                refine lv_icmp_eq (tgt := 128) hx hb dX4_advise_115 (by decide) (fun c_115 => ?_) (fun c_115 => ?_)
                · refine lv_iload hx hb dX4_advise_128 (lv_at hl 6 rfl) ?_
                  refine lv_istore_n (lv' := [(3, .int (nI l)), (6, .int (rAdT wf ey nj len nb G nu bt l)), (0, .ref mo), (1, .int (nI bt)), (2, .ref q1), (4, .int ((qAdv (rAdT wf ey nj len nb G nu bt) l).2)), (5, .int (nI l))]) hx hb dX4_advise_130 rfl hl (by decide) rfl (fun ls hl => ?_)
                  refine lv_iload hx hb dX4_advise_131 (lv_at hl 1 rfl) ?_
                  refine lv_istore (lv' := [(4, .int (rAdT wf ey nj len nb G nu bt l)), (3, .int (nI l)), (6, .int (rAdT wf ey nj len nb G nu bt l)), (0, .ref mo), (1, .int (nI bt)), (2, .ref q1), (5, .int (nI l))]) hx hb dX4_advise_133 hl (by decide) rfl (fun ls hl => ?_)
                  refine lv_iinc (v := (nI (l + 1))) (lv' := [(5, .int (nI (l + 1))), (4, .int (rAdT wf ey nj len nb G nu bt l)), (3, .int (nI l)), (6, .int (rAdT wf ey nj len nb G nu bt l)), (0, .ref mo), (1, .int (nI bt)), (2, .ref q1)]) hx hb dX4_advise_135 hl (k := 6) rfl (nI_1 l) (by decide) rfl (fun ls hl => ?_)
                  refine lv_goto (tgt := 32) hx hb dX4_advise_138 (by decide) ?_
                  refine W.widen (k := 3 + 120 * (l + 1)) (n := 86 + 720 * (l + 1)) (by show ((3 + 120 * l) + 120) ≤ 3 + 120 * (l + 1); omega) (by show ((86 + 720 * l) + 720) ≤ 86 + 720 * (l + 1); omega) ?_
                  have e9 : qAdv (rAdT wf ey nj len nb G nu bt) (l + 1) = ((nI l), (rAdT wf ey nj len nb G nu bt l)) := by simp only [qAdv, if_neg c_110, if_pos c_115]
                  have hl : lv_has ls 7 [(5, .int (nI (l + 1))), (4, .int ((qAdv (rAdT wf ey nj len nb G nu bt) (l + 1)).2)), (3, .int ((qAdv (rAdT wf ey nj len nb G nu bt) (l + 1)).1)), (6, .int (rAdT wf ey nj len nb G nu bt l)), (0, .ref mo), (1, .int (nI bt)), (2, .ref q1)] := by rw [e9]; exact hl
                  exact ih32 (l + 1) (by omega) (by omega)   _ _ ls hP hD hS (lv_sub hl [4, 5, 6, 2, 1, 0] rfl)
                · refine lv_iload hx hb dX4_advise_118 (lv_at hl 0 rfl) ?_
                  refine lv_iload hx hb dX4_advise_120 (lv_at hl 5 rfl) ?_
                  refine lv_icmp_lt (tgt := 128) hx hb dX4_advise_122 (by decide) (fun c_122 => ?_) (fun c_122 => ?_)
                  · refine lv_iload hx hb dX4_advise_128 (lv_at hl 6 rfl) ?_
                    refine lv_istore_n (lv' := [(3, .int (nI l)), (6, .int (rAdT wf ey nj len nb G nu bt l)), (0, .ref mo), (1, .int (nI bt)), (2, .ref q1), (4, .int ((qAdv (rAdT wf ey nj len nb G nu bt) l).2)), (5, .int (nI l))]) hx hb dX4_advise_130 rfl hl (by decide) rfl (fun ls hl => ?_)
                    refine lv_iload hx hb dX4_advise_131 (lv_at hl 1 rfl) ?_
                    refine lv_istore (lv' := [(4, .int (rAdT wf ey nj len nb G nu bt l)), (3, .int (nI l)), (6, .int (rAdT wf ey nj len nb G nu bt l)), (0, .ref mo), (1, .int (nI bt)), (2, .ref q1), (5, .int (nI l))]) hx hb dX4_advise_133 hl (by decide) rfl (fun ls hl => ?_)
                    refine lv_iinc (v := (nI (l + 1))) (lv' := [(5, .int (nI (l + 1))), (4, .int (rAdT wf ey nj len nb G nu bt l)), (3, .int (nI l)), (6, .int (rAdT wf ey nj len nb G nu bt l)), (0, .ref mo), (1, .int (nI bt)), (2, .ref q1)]) hx hb dX4_advise_135 hl (k := 6) rfl (nI_1 l) (by decide) rfl (fun ls hl => ?_)
                    refine lv_goto (tgt := 32) hx hb dX4_advise_138 (by decide) ?_
                    refine W.widen (k := 3 + 120 * (l + 1)) (n := 86 + 720 * (l + 1)) (by show ((3 + 120 * l) + 120) ≤ 3 + 120 * (l + 1); omega) (by show ((86 + 720 * l) + 720) ≤ 86 + 720 * (l + 1); omega) ?_
                    have e9 : qAdv (rAdT wf ey nj len nb G nu bt) (l + 1) = ((nI l), (rAdT wf ey nj len nb G nu bt l)) := by simp only [qAdv, if_neg c_110, if_neg c_115, if_pos c_122]
                    have hl : lv_has ls 7 [(5, .int (nI (l + 1))), (4, .int ((qAdv (rAdT wf ey nj len nb G nu bt) (l + 1)).2)), (3, .int ((qAdv (rAdT wf ey nj len nb G nu bt) (l + 1)).1)), (6, .int (rAdT wf ey nj len nb G nu bt l)), (0, .ref mo), (1, .int (nI bt)), (2, .ref q1)] := by rw [e9]; exact hl
                    exact ih32 (l + 1) (by omega) (by omega)   _ _ ls hP hD hS (lv_sub hl [4, 5, 6, 2, 1, 0] rfl)
                  · refine lv_goto (tgt := 135) hx hb dX4_advise_125 (by decide) ?_
                    refine lv_iinc (v := (nI (l + 1))) (lv' := [(5, .int (nI (l + 1))), (6, .int (rAdT wf ey nj len nb G nu bt l)), (0, .ref mo), (1, .int (nI bt)), (2, .ref q1), (3, .int ((qAdv (rAdT wf ey nj len nb G nu bt) l).1)), (4, .int ((qAdv (rAdT wf ey nj len nb G nu bt) l).2))]) hx hb dX4_advise_135 hl (k := 6) rfl (nI_1 l) (by decide) rfl (fun ls hl => ?_)
                    refine lv_goto (tgt := 32) hx hb dX4_advise_138 (by decide) ?_
                    refine W.widen (k := 3 + 120 * (l + 1)) (n := 86 + 720 * (l + 1)) (by show ((3 + 120 * l) + 120) ≤ 3 + 120 * (l + 1); omega) (by show ((86 + 720 * l) + 720) ≤ 86 + 720 * (l + 1); omega) ?_
                    have e9 : qAdv (rAdT wf ey nj len nb G nu bt) (l + 1) = qAdv (rAdT wf ey nj len nb G nu bt) l := by simp only [qAdv, if_neg c_110, if_neg c_115, if_neg c_122]
                    have hl : lv_has ls 7 [(5, .int (nI (l + 1))), (6, .int (rAdT wf ey nj len nb G nu bt l)), (0, .ref mo), (1, .int (nI bt)), (2, .ref q1), (3, .int ((qAdv (rAdT wf ey nj len nb G nu bt) (l + 1)).1)), (4, .int ((qAdv (rAdT wf ey nj len nb G nu bt) (l + 1)).2))] := by rw [e9]; exact hl
                    exact ih32 (l + 1) (by omega) (by omega)   _ _ ls hP hD hS (lv_sub hl [2, 3, 4, 5, 6, 0] rfl)
            · have h9d := q_goon c_48 (by omega)
              refine lv_aload_n hx hb dX4_advise_51 rfl (lv_at hl 0 rfl) ?_
              refine lv_iload hx hb dX4_advise_52 (lv_at hl 6 rfl) ?_
              refine lv_iconst (v := 4) hx hb dX4_advise_54 (by decide) ?_
              refine lv_iload hx hb dX4_advise_55 (lv_at hl 6 rfl) ?_
              refine lv_iload_n hx hb dX4_advise_57 rfl (lv_at hl 1 rfl) ?_
              refine lv_icmp_ne (tgt := 65) hx hb dX4_advise_58 (by decide) (fun c_58 => ?_) (fun c_58 => ?_)
              · refine lv_bipush (v := 9) hx hb dX4_advise_65 (by decide) ?_
                refine q_callV (As := [.int (nI b), .int 4, .int 9]) (rs := []) hC (c_X4_put l0 D T mo mw me mf mn nb nj 0 len (q_upto b (rWet0 G bt) G) (va_up (q_upto b (rWet0 G bt) G) b (upd (G b) 4 9)) b 4 9 (G b) (by omega) (by omega) (q_upto_at b (rWet0 G bt) G) rfl) q_no_st q_no_at (cwV 3 hts gX4_advise_X4_put rfl rfl rfl (by decide +kernel) ⟨Nat.le_of_ble_eq_true rfl, Nat.le_of_ble_eq_true rfl⟩) (va_recv hK hP (ci := 5) (q0 := 0) rfl rfl) hK hP hD hS hA (q_mask [true, false, false, true, false, false, false, false] _) rfl hl.1 rfl (Nat.le_of_ble_eq_true rfl) dX4_advise_67 ⟨(by show (3 + 120 * l) + 0 ≤ 1203; omega), (by show (86 + 720 * l) + 0 ≤ 7286; omega)⟩ (fun v9 C9 H locs hp hP hD hS => ?_)
                obtain ⟨rfl, rfl⟩ := hp
                have hP : va_P D vwCl [q_mc mo 0 nb nj len mw me mf mn, q_ia T mw 10 wf, q_ia T me 3 ey, q_fa T mf (va_up (q_upto b (rWet0 G bt) G) b (upd (G b) 4 9)), q_ia T mn 4 nu, q_kc T q1 qa qb, q_fa T qa G, q_ia T qb 4 nu] H := q_P_perm (q_mrg_perm [true, false, false, true, false, false, false, false] _ _) hP
                have hD : va_D A [q_mc mo 0 nb nj len mw me mf mn, q_ia T mw 10 wf, q_ia T me 3 ey, q_fa T mf (va_up (q_upto b (rWet0 G bt) G) b (upd (G b) 4 9)), q_ia T mn 4 nu, q_kc T q1 qa qb, q_fa T qa G, q_ia T qb 4 nu] := q_D_perm (q_mrg_perm [true, false, false, true, false, false, false, false] _ _) hD
                refine lv_iinc (v := (nI (b + 1))) (lv' := [(6, .int (nI (b + 1))), (0, .ref mo), (1, .int (nI bt)), (2, .ref q1), (3, .int ((qAdv (rAdT wf ey nj len nb G nu bt) l).1)), (4, .int ((qAdv (rAdT wf ey nj len nb G nu bt) l).2)), (5, .int (nI l))]) hx hb dX4_advise_70 hl (k := 6) rfl (nI_1 b) (by decide) rfl (fun ls hl => ?_)
                refine lv_goto (tgt := 42) hx hb dX4_advise_73 (by decide) ?_
                have e8 : (rWet0 G bt) b = (upd (G b) 4 9) := by simp only [rWet0, if_neg c_58] <;> rfl
                have hP : va_P D vwCl [q_mc mo 0 nb nj len mw me mf mn, q_ia T mw 10 wf, q_ia T me 3 ey, q_fa T mf (q_upto (b + 1) (rWet0 G bt) G), q_ia T mn 4 nu, q_kc T q1 qa qb, q_fa T qa G, q_ia T qb 4 nu] H := by rw [show q_upto (b + 1) (rWet0 G bt) G = (va_up (q_upto b (rWet0 G bt) G) b (upd (G b) 4 9)) from by rw [← q_upto_s, e8]]; exact hP
                have hD : va_D A [q_mc mo 0 nb nj len mw me mf mn, q_ia T mw 10 wf, q_ia T me 3 ey, q_fa T mf (q_upto (b + 1) (rWet0 G bt) G), q_ia T mn 4 nu, q_kc T q1 qa qb, q_fa T qa G, q_ia T qb 4 nu] := by rw [show q_upto (b + 1) (rWet0 G bt) G = (va_up (q_upto b (rWet0 G bt) G) b (upd (G b) 4 9)) from by rw [← q_upto_s, e8]]; exact hD
                exact ih42 (b + 1) (by omega) (by omega)   _ _ ls hP hD hS (lv_sub hl [1, 2, 3, 4, 5, 6, 0] rfl)
              · refine lv_iconst (v := 0) hx hb dX4_advise_61 (by decide) ?_
                refine lv_goto (tgt := 67) hx hb dX4_advise_62 (by decide) ?_
                refine q_callV (As := [.int (nI b), .int 4, .int 0]) (rs := []) hC (c_X4_put l0 D T mo mw me mf mn nb nj 0 len (q_upto b (rWet0 G bt) G) (va_up (q_upto b (rWet0 G bt) G) b (upd (G b) 4 0)) b 4 0 (G b) (by omega) (by omega) (q_upto_at b (rWet0 G bt) G) rfl) q_no_st q_no_at (cwV 3 hts gX4_advise_X4_put rfl rfl rfl (by decide +kernel) ⟨Nat.le_of_ble_eq_true rfl, Nat.le_of_ble_eq_true rfl⟩) (va_recv hK hP (ci := 5) (q0 := 0) rfl rfl) hK hP hD hS hA (q_mask [true, false, false, true, false, false, false, false] _) rfl hl.1 rfl (Nat.le_of_ble_eq_true rfl) dX4_advise_67 ⟨(by show (3 + 120 * l) + 0 ≤ 1203; omega), (by show (86 + 720 * l) + 0 ≤ 7286; omega)⟩ (fun v9 C9 H locs hp hP hD hS => ?_)
                obtain ⟨rfl, rfl⟩ := hp
                have hP : va_P D vwCl [q_mc mo 0 nb nj len mw me mf mn, q_ia T mw 10 wf, q_ia T me 3 ey, q_fa T mf (va_up (q_upto b (rWet0 G bt) G) b (upd (G b) 4 0)), q_ia T mn 4 nu, q_kc T q1 qa qb, q_fa T qa G, q_ia T qb 4 nu] H := q_P_perm (q_mrg_perm [true, false, false, true, false, false, false, false] _ _) hP
                have hD : va_D A [q_mc mo 0 nb nj len mw me mf mn, q_ia T mw 10 wf, q_ia T me 3 ey, q_fa T mf (va_up (q_upto b (rWet0 G bt) G) b (upd (G b) 4 0)), q_ia T mn 4 nu, q_kc T q1 qa qb, q_fa T qa G, q_ia T qb 4 nu] := q_D_perm (q_mrg_perm [true, false, false, true, false, false, false, false] _ _) hD
                refine lv_iinc (v := (nI (b + 1))) (lv' := [(6, .int (nI (b + 1))), (0, .ref mo), (1, .int (nI bt)), (2, .ref q1), (3, .int ((qAdv (rAdT wf ey nj len nb G nu bt) l).1)), (4, .int ((qAdv (rAdT wf ey nj len nb G nu bt) l).2)), (5, .int (nI l))]) hx hb dX4_advise_70 hl (k := 6) rfl (nI_1 b) (by decide) rfl (fun ls hl => ?_)
                refine lv_goto (tgt := 42) hx hb dX4_advise_73 (by decide) ?_
                have e8 : (rWet0 G bt) b = (upd (G b) 4 0) := by simp only [rWet0, if_pos c_58] <;> rfl
                have hP : va_P D vwCl [q_mc mo 0 nb nj len mw me mf mn, q_ia T mw 10 wf, q_ia T me 3 ey, q_fa T mf (q_upto (b + 1) (rWet0 G bt) G), q_ia T mn 4 nu, q_kc T q1 qa qb, q_fa T qa G, q_ia T qb 4 nu] H := by rw [show q_upto (b + 1) (rWet0 G bt) G = (va_up (q_upto b (rWet0 G bt) G) b (upd (G b) 4 0)) from by rw [← q_upto_s, e8]]; exact hP
                have hD : va_D A [q_mc mo 0 nb nj len mw me mf mn, q_ia T mw 10 wf, q_ia T me 3 ey, q_fa T mf (q_upto (b + 1) (rWet0 G bt) G), q_ia T mn 4 nu, q_kc T q1 qa qb, q_fa T qa G, q_ia T qb 4 nu] := by rw [show q_upto (b + 1) (rWet0 G bt) G = (va_up (q_upto b (rWet0 G bt) G) b (upd (G b) 4 0)) from by rw [← q_upto_s, e8]]; exact hD
                exact ih42 (b + 1) (by omega) (by omega)   _ _ ls hP hD hS (lv_sub hl [1, 2, 3, 4, 5, 6, 0] rfl)
        exact L42 (nb + 1) 0 (by omega) (by omega)   _ _ ls hP hD hS (lv_sub hl [1, 2, 3, 4, 5, 6, 0] rfl)
  exact L32 (10 + 1) 0 (by omega) (by omega)   _ _ ls hP hD hS (lv_sub hl [4, 5, 3, 2, 1, 0] rfl)
set_option maxHeartbeats 1000000 in
set_option maxRecDepth 100000 in
theorem c_X4_advise_f1 (l : Launch) (D : va_G) (T : Nat → ClassId) (mo mw me mf mn nb nj : Nat) (th len : Int32) (x : Int32) (h1 : bIsIn x 0 (nI nb - 1) = 0) : q_M l D (q_ty T) yX4_advise wsX4_advise rmX4_advise [.ref mo, .int x] [q_mc mo th nb nj len mw me mf mn] q_no (q_is (some (.int 0)) [q_mc mo 1 nb nj len mw me mf mn]) := by
  refine q_start (cc := cX4_advise) (maxL := 7) (ret := (some .int)) (by decide) rfl (Nat.le_of_ble_eq_true rfl) ?_
  intro p e s m args below meth c A H locs hx hb hr hts hown hlocks hml hnm hP hK hD hS hA hG ls hl
  have hown : s.vm.findClass RX4 = some m.cls := hown
  have hC : CallFix p m c cX4_advise 7 s args wsX4_advise RX4 := ⟨hx, hb, hml, hown, hts⟩
  have iX4 : ∀ w ∈ wsX40, w ∈ wsX4_advise := by decide +kernel
  have hl : lv_has ls 7 [(0, .ref mo), (1, .int x)] := hl
  refine lv_aload_n hx hb dX4_advise_0 rfl (lv_at hl 0 rfl) ?_
  refine lv_iconst (v := 0) hx hb dX4_advise_1 (by decide) ?_
  refine va_put (D := D) (ci := 5) (v := .int 0) (ty := .int) (C := RX4) (T := TX4) (N := 8) hx hb hts iX4 tyX4 tyX4_ok nmX4 hown hK hP hD hS 0 rfl rfl 0 (by decide) (hts (.fieldLink RX4 26 "ToyRegattaModel" "thrown" "I") (by decide +kernel)) (fun _ h9 => h9) rfl (by decide +kernel) rfl rfl (Nat.le_of_ble_eq_true rfl) dX4_advise_2 (fun H locs hP hD hS => ?_)
  have hP : va_P D vwCl [q_mc mo 0 nb nj len mw me mf mn] H := hP
  have hD : va_D A [q_mc mo 0 nb nj len mw me mf mn] := hD
  refine lv_aload_n hx hb dX4_advise_5 rfl (lv_at hl 0 rfl) ?_
  refine lv_iload_n hx hb dX4_advise_6 rfl (lv_at hl 1 rfl) ?_
  refine q_callV (As := [.int x]) (rs := []) hC (c_X4_isBoat l D T mo mw me mf mn nb nj 0 len x) q_no_st q_no_at (cwV 1 hts gX4_advise_X4_isBoat rfl rfl rfl (by decide +kernel) ⟨Nat.le_of_ble_eq_true rfl, Nat.le_of_ble_eq_true rfl⟩) (va_recv hK hP (ci := 5) (q0 := 0) rfl rfl) hK hP hD hS hA (q_mask [true] _) rfl hl.1 rfl (Nat.le_of_ble_eq_true rfl) dX4_advise_7 ⟨(Nat.le_of_ble_eq_true rfl), (Nat.le_of_ble_eq_true rfl)⟩ (fun v9 C9 H locs hp hP hD hS => ?_)
  obtain ⟨rfl, rfl⟩ := hp
  have hP : va_P D vwCl [q_mc mo 0 nb nj len mw me mf mn] H := q_P_perm (q_mrg_perm [true] _ _) hP
  have hD : va_D A [q_mc mo 0 nb nj len mw me mf mn] := q_D_perm (q_mrg_perm [true] _ _) hD
  refine lv_if_ne (tgt := 19) hx hb dX4_advise_10 (by decide) (fun c_10 => absurd h1 c_10) (fun c_10 => ?_)
  refine lv_aload_n hx hb dX4_advise_13 rfl (lv_at hl 0 rfl) ?_
  refine lv_iconst (v := 1) hx hb dX4_advise_14 (by decide) ?_
  refine q_callV (As := [.int 1]) (rs := []) hC (c_X4_fail l D T mo mw me mf mn nb nj 0 len 1) q_no_st q_no_at (cwV 1 hts gX4_advise_X4_fail rfl rfl rfl (by decide +kernel) ⟨Nat.le_of_ble_eq_true rfl, Nat.le_of_ble_eq_true rfl⟩) (va_recv hK hP (ci := 5) (q0 := 0) rfl rfl) hK hP hD hS hA (q_mask [true] _) rfl hl.1 rfl (Nat.le_of_ble_eq_true rfl) dX4_advise_15 ⟨(Nat.le_of_ble_eq_true rfl), (Nat.le_of_ble_eq_true rfl)⟩ (fun v9 C9 H locs hp hP hD hS => ?_)
  obtain ⟨rfl, rfl⟩ := hp
  have hP : va_P D vwCl [q_mc mo 1 nb nj len mw me mf mn] H := q_P_perm (q_mrg_perm [true] _ _) hP
  have hD : va_D A [q_mc mo 1 nb nj len mw me mf mn] := q_D_perm (q_mrg_perm [true] _ _) hD
  exact q_iret hx hb hr hlocks hP hK hD hS (Nat.le_of_ble_eq_true rfl) (Nat.le_of_ble_eq_true rfl) dX4_advise_18 ⟨rfl, rfl⟩

def qW0 : Nat → Int32 := upd (upd (upd (upd (upd (upd (upd (upd (upd (upd (fun _ => 0) 0 4) 1 4) 2 4) 3 4) 4 4) 5 4) 6 4) 7 4) 8 4) 9 4

abbrev rmX4_init : Room := { frames := 1, cells := 4, slots := 97, locals := 20 }
set_option maxHeartbeats 1000000 in
set_option maxRecDepth 100000 in
theorem c_X4_init (l : Launch) (D : va_G) (T : Nat → ClassId) (mo : Nat) : q_M l D (q_ty T) yX4_init wsX4_init rmX4_init [.ref mo] [(mo, .inr (5, [.int 0, .int 0, .int 0, .int 0, .null, .null, .null, .null]))] q_no (fun v w => ∃ mw me mf mn, v = none ∧ w = [q_mc mo 0 0 0 60 mw me mf mn, q_ia T mw 10 qW0, q_ia T me 3 (fun _ => 0), q_fa T mf (fun _ _ => 0), q_ia T mn 4 (fun _ => 0)]) := by
  refine q_start (cc := cX4_init) (maxL := 1) (ret := none) (by decide) rfl (Nat.le_of_ble_eq_true rfl) ?_
  intro p e s m args below meth c A H locs hx hb hr hts hown hlocks hml hnm hP hK hD hS hA hG ls hl
  have hown : s.vm.findClass RX4 = some m.cls := hown
  have hC : CallFix p m c cX4_init 1 s args wsX4_init RX4 := ⟨hx, hb, hml, hown, hts⟩
  have iX4 : ∀ w ∈ wsX40, w ∈ wsX4_init := by decide +kernel
  have hl : lv_has ls 1 [(0, .ref mo)] := hl
  refine lv_aload_n hx hb dX4_init_0 rfl (lv_at hl 0 rfl) ?_
  refine W.objInit hx hb hown (hts (.methodLink RX4 1 objectInit) (by decide +kernel)) (hts (.instanceMethod objectInit) (by decide +kernel)) (hts (.code objectInit ⟨#[0xb1]⟩ 1 none) (by decide +kernel)) rfl (hl.1.trans hml.symm) rfl dX4_init_1 (Nat.le_of_ble_eq_true rfl) (Nat.le_of_ble_eq_true rfl) ?_
  refine W.eq (g2 := F0 m 4 ls []) rfl ?_
  refine lv_aload_n hx hb dX4_init_4 rfl (lv_at hl 0 rfl) ?_
  refine lv_bipush (v := 60) hx hb dX4_init_5 (by decide) ?_
  refine va_put (D := D) (ci := 5) (v := .int 60) (ty := .int) (C := RX4) (T := TX4) (N := 8) hx hb hts iX4 tyX4 tyX4_ok nmX4 hown hK hP hD hS 0 rfl rfl 3 (by decide) (hts (.fieldLink RX4 7 "ToyRegattaModel" "length" "I") (by decide +kernel)) (fun _ h9 => h9) rfl (by decide +kernel) rfl rfl (Nat.le_of_ble_eq_true rfl) dX4_init_7 (fun H locs hP hD hS => ?_)
  have hP : va_P D vwCl [(mo, .inr (5, [.int 0, .int 0, .int 0, .int 60, .null, .null, .null, .null]))] H := hP
  have hD : va_D A [(mo, .inr (5, [.int 0, .int 0, .int 0, .int 60, .null, .null, .null, .null]))] := hD
  refine lv_aload_n hx hb dX4_init_10 rfl (lv_at hl 0 rfl) ?_
  refine lv_bipush (v := 10) hx hb dX4_init_11 (by decide) ?_
  refine q_newaI (N := 10) hx hb (hts (.arrayClass .int) (by decide +kernel)) hK hP hD hS hA (by decide) (by decide) (by omega) (Nat.le_of_ble_eq_true rfl) (Nat.le_of_ble_eq_true rfl) dX4_init_13 (fun q13 H hP hD hS => ?_)
  have hP : va_P D vwCl [(mo, .inr (5, [.int 0, .int 0, .int 0, .int 60, .null, .null, .null, .null])), (q13, .inl (T 0, 10, .inl (fun _ => 0)))] H := hP
  have hD : va_D A [(mo, .inr (5, [.int 0, .int 0, .int 0, .int 60, .null, .null, .null, .null])), (q13, .inl (T 0, 10, .inl (fun _ => 0)))] := hD
  refine lv_dup hx hb dX4_init_15 rfl ?_
  refine lv_iconst (v := 0) hx hb dX4_init_16 (by decide) ?_
  refine lv_iconst (v := 4) hx hb dX4_init_17 (by decide) ?_
  refine va_iast (D := D) hx hb hK hP hD hS 1 0 rfl rfl (by unfold vp_in; decide) dX4_init_18 (fun H locs hP hD hS => ?_)
  rw [show (0 : Int32).toNatClampNeg = 0 from (by decide)] at hP hD
  have hP : va_P D vwCl [(mo, .inr (5, [.int 0, .int 0, .int 0, .int 60, .null, .null, .null, .null])), (q13, .inl (T 0, 10, .inl (upd (fun _ => 0) 0 4)))] H := hP
  have hD : va_D A [(mo, .inr (5, [.int 0, .int 0, .int 0, .int 60, .null, .null, .null, .null])), (q13, .inl (T 0, 10, .inl (upd (fun _ => 0) 0 4)))] := hD
  refine lv_dup hx hb dX4_init_19 rfl ?_
  refine lv_iconst (v := 1) hx hb dX4_init_20 (by decide) ?_
  refine lv_iconst (v := 4) hx hb dX4_init_21 (by decide) ?_
  refine va_iast (D := D) hx hb hK hP hD hS 1 0 rfl rfl (by unfold vp_in; decide) dX4_init_22 (fun H locs hP hD hS => ?_)
  rw [show (1 : Int32).toNatClampNeg = 1 from (by decide)] at hP hD
  have hP : va_P D vwCl [(mo, .inr (5, [.int 0, .int 0, .int 0, .int 60, .null, .null, .null, .null])), (q13, .inl (T 0, 10, .inl (upd (upd (fun _ => 0) 0 4) 1 4)))] H := hP
  have hD : va_D A [(mo, .inr (5, [.int 0, .int 0, .int 0, .int 60, .null, .null, .null, .null])), (q13, .inl (T 0, 10, .inl (upd (upd (fun _ => 0) 0 4) 1 4)))] := hD
  refine lv_dup hx hb dX4_init_23 rfl ?_
  refine lv_iconst (v := 2) hx hb dX4_init_24 (by decide) ?_
  refine lv_iconst (v := 4) hx hb dX4_init_25 (by decide) ?_
  refine va_iast (D := D) hx hb hK hP hD hS 1 0 rfl rfl (by unfold vp_in; decide) dX4_init_26 (fun H locs hP hD hS => ?_)
  rw [show (2 : Int32).toNatClampNeg = 2 from (by decide)] at hP hD
  have hP : va_P D vwCl [(mo, .inr (5, [.int 0, .int 0, .int 0, .int 60, .null, .null, .null, .null])), (q13, .inl (T 0, 10, .inl (upd (upd (upd (fun _ => 0) 0 4) 1 4) 2 4)))] H := hP
  have hD : va_D A [(mo, .inr (5, [.int 0, .int 0, .int 0, .int 60, .null, .null, .null, .null])), (q13, .inl (T 0, 10, .inl (upd (upd (upd (fun _ => 0) 0 4) 1 4) 2 4)))] := hD
  refine lv_dup hx hb dX4_init_27 rfl ?_
  refine lv_iconst (v := 3) hx hb dX4_init_28 (by decide) ?_
  refine lv_iconst (v := 4) hx hb dX4_init_29 (by decide) ?_
  refine va_iast (D := D) hx hb hK hP hD hS 1 0 rfl rfl (by unfold vp_in; decide) dX4_init_30 (fun H locs hP hD hS => ?_)
  rw [show (3 : Int32).toNatClampNeg = 3 from (by decide)] at hP hD
  have hP : va_P D vwCl [(mo, .inr (5, [.int 0, .int 0, .int 0, .int 60, .null, .null, .null, .null])), (q13, .inl (T 0, 10, .inl (upd (upd (upd (upd (fun _ => 0) 0 4) 1 4) 2 4) 3 4)))] H := hP
  have hD : va_D A [(mo, .inr (5, [.int 0, .int 0, .int 0, .int 60, .null, .null, .null, .null])), (q13, .inl (T 0, 10, .inl (upd (upd (upd (upd (fun _ => 0) 0 4) 1 4) 2 4) 3 4)))] := hD
  refine lv_dup hx hb dX4_init_31 rfl ?_
  refine lv_iconst (v := 4) hx hb dX4_init_32 (by decide) ?_
  refine lv_iconst (v := 4) hx hb dX4_init_33 (by decide) ?_
  refine va_iast (D := D) hx hb hK hP hD hS 1 0 rfl rfl (by unfold vp_in; decide) dX4_init_34 (fun H locs hP hD hS => ?_)
  rw [show (4 : Int32).toNatClampNeg = 4 from (by decide)] at hP hD
  have hP : va_P D vwCl [(mo, .inr (5, [.int 0, .int 0, .int 0, .int 60, .null, .null, .null, .null])), (q13, .inl (T 0, 10, .inl (upd (upd (upd (upd (upd (fun _ => 0) 0 4) 1 4) 2 4) 3 4) 4 4)))] H := hP
  have hD : va_D A [(mo, .inr (5, [.int 0, .int 0, .int 0, .int 60, .null, .null, .null, .null])), (q13, .inl (T 0, 10, .inl (upd (upd (upd (upd (upd (fun _ => 0) 0 4) 1 4) 2 4) 3 4) 4 4)))] := hD
  refine lv_dup hx hb dX4_init_35 rfl ?_
  refine lv_iconst (v := 5) hx hb dX4_init_36 (by decide) ?_
  refine lv_iconst (v := 4) hx hb dX4_init_37 (by decide) ?_
  refine va_iast (D := D) hx hb hK hP hD hS 1 0 rfl rfl (by unfold vp_in; decide) dX4_init_38 (fun H locs hP hD hS => ?_)
  rw [show (5 : Int32).toNatClampNeg = 5 from (by decide)] at hP hD
  have hP : va_P D vwCl [(mo, .inr (5, [.int 0, .int 0, .int 0, .int 60, .null, .null, .null, .null])), (q13, .inl (T 0, 10, .inl (upd (upd (upd (upd (upd (upd (fun _ => 0) 0 4) 1 4) 2 4) 3 4) 4 4) 5 4)))] H := hP
  have hD : va_D A [(mo, .inr (5, [.int 0, .int 0, .int 0, .int 60, .null, .null, .null, .null])), (q13, .inl (T 0, 10, .inl (upd (upd (upd (upd (upd (upd (fun _ => 0) 0 4) 1 4) 2 4) 3 4) 4 4) 5 4)))] := hD
  refine lv_dup hx hb dX4_init_39 rfl ?_
  refine lv_bipush (v := 6) hx hb dX4_init_40 (by decide) ?_
  refine lv_iconst (v := 4) hx hb dX4_init_42 (by decide) ?_
  refine va_iast (D := D) hx hb hK hP hD hS 1 0 rfl rfl (by unfold vp_in; decide) dX4_init_43 (fun H locs hP hD hS => ?_)
  rw [show (6 : Int32).toNatClampNeg = 6 from (by decide)] at hP hD
  have hP : va_P D vwCl [(mo, .inr (5, [.int 0, .int 0, .int 0, .int 60, .null, .null, .null, .null])), (q13, .inl (T 0, 10, .inl (upd (upd (upd (upd (upd (upd (upd (fun _ => 0) 0 4) 1 4) 2 4) 3 4) 4 4) 5 4) 6 4)))] H := hP
  have hD : va_D A [(mo, .inr (5, [.int 0, .int 0, .int 0, .int 60, .null, .null, .null, .null])), (q13, .inl (T 0, 10, .inl (upd (upd (upd (upd (upd (upd (upd (fun _ => 0) 0 4) 1 4) 2 4) 3 4) 4 4) 5 4) 6 4)))] := hD
  refine lv_dup hx hb dX4_init_44 rfl ?_
  refine lv_bipush (v := 7) hx hb dX4_init_45 (by decide) ?_
  refine lv_iconst (v := 4) hx hb dX4_init_47 (by decide) ?_
  refine va_iast (D := D) hx hb hK hP hD hS 1 0 rfl rfl (by unfold vp_in; decide) dX4_init_48 (fun H locs hP hD hS => ?_)
  rw [show (7 : Int32).toNatClampNeg = 7 from (by decide)] at hP hD
  have hP : va_P D vwCl [(mo, .inr (5, [.int 0, .int 0, .int 0, .int 60, .null, .null, .null, .null])), (q13, .inl (T 0, 10, .inl (upd (upd (upd (upd (upd (upd (upd (upd (fun _ => 0) 0 4) 1 4) 2 4) 3 4) 4 4) 5 4) 6 4) 7 4)))] H := hP
  have hD : va_D A [(mo, .inr (5, [.int 0, .int 0, .int 0, .int 60, .null, .null, .null, .null])), (q13, .inl (T 0, 10, .inl (upd (upd (upd (upd (upd (upd (upd (upd (fun _ => 0) 0 4) 1 4) 2 4) 3 4) 4 4) 5 4) 6 4) 7 4)))] := hD
  refine lv_dup hx hb dX4_init_49 rfl ?_
  refine lv_bipush (v := 8) hx hb dX4_init_50 (by decide) ?_
  refine lv_iconst (v := 4) hx hb dX4_init_52 (by decide) ?_
  refine va_iast (D := D) hx hb hK hP hD hS 1 0 rfl rfl (by unfold vp_in; decide) dX4_init_53 (fun H locs hP hD hS => ?_)
  rw [show (8 : Int32).toNatClampNeg = 8 from (by decide)] at hP hD
  have hP : va_P D vwCl [(mo, .inr (5, [.int 0, .int 0, .int 0, .int 60, .null, .null, .null, .null])), (q13, .inl (T 0, 10, .inl (upd (upd (upd (upd (upd (upd (upd (upd (upd (fun _ => 0) 0 4) 1 4) 2 4) 3 4) 4 4) 5 4) 6 4) 7 4) 8 4)))] H := hP
  have hD : va_D A [(mo, .inr (5, [.int 0, .int 0, .int 0, .int 60, .null, .null, .null, .null])), (q13, .inl (T 0, 10, .inl (upd (upd (upd (upd (upd (upd (upd (upd (upd (fun _ => 0) 0 4) 1 4) 2 4) 3 4) 4 4) 5 4) 6 4) 7 4) 8 4)))] := hD
  refine lv_dup hx hb dX4_init_54 rfl ?_
  refine lv_bipush (v := 9) hx hb dX4_init_55 (by decide) ?_
  refine lv_iconst (v := 4) hx hb dX4_init_57 (by decide) ?_
  refine va_iast (D := D) hx hb hK hP hD hS 1 0 rfl rfl (by unfold vp_in; decide) dX4_init_58 (fun H locs hP hD hS => ?_)
  rw [show (9 : Int32).toNatClampNeg = 9 from (by decide)] at hP hD
  have hP : va_P D vwCl [(mo, .inr (5, [.int 0, .int 0, .int 0, .int 60, .null, .null, .null, .null])), (q13, .inl (T 0, 10, .inl (upd (upd (upd (upd (upd (upd (upd (upd (upd (upd (fun _ => 0) 0 4) 1 4) 2 4) 3 4) 4 4) 5 4) 6 4) 7 4) 8 4) 9 4)))] H := hP
  have hD : va_D A [(mo, .inr (5, [.int 0, .int 0, .int 0, .int 60, .null, .null, .null, .null])), (q13, .inl (T 0, 10, .inl (upd (upd (upd (upd (upd (upd (upd (upd (upd (upd (fun _ => 0) 0 4) 1 4) 2 4) 3 4) 4 4) 5 4) 6 4) 7 4) 8 4) 9 4)))] := hD
  refine va_putF (D := D) (ci := 5) (v := .ref q13) (ty := (.array .int)) (C := RX4) (T := TX4) (N := 8) hx hb hts iX4 tyX4 tyX4_ok nmX4 hown hK hP hD hS 0 rfl rfl 4 (by decide) (hts (.fieldLink RX4 13 "ToyRegattaModel" "winds" "[I") (by decide +kernel)) (fun _ h9 => h9) rfl hnm rfl (by decide +kernel) rfl rfl (Nat.le_of_ble_eq_true rfl) dX4_init_59 (fun H locs hP hD hS => ?_)
  have hP : va_P D vwCl [(mo, .inr (5, [.int 0, .int 0, .int 0, .int 60, .ref q13, .null, .null, .null])), (q13, .inl (T 0, 10, .inl (upd (upd (upd (upd (upd (upd (upd (upd (upd (upd (fun _ => 0) 0 4) 1 4) 2 4) 3 4) 4 4) 5 4) 6 4) 7 4) 8 4) 9 4)))] H := hP
  have hD : va_D A [(mo, .inr (5, [.int 0, .int 0, .int 0, .int 60, .ref q13, .null, .null, .null])), (q13, .inl (T 0, 10, .inl (upd (upd (upd (upd (upd (upd (upd (upd (upd (upd (fun _ => 0) 0 4) 1 4) 2 4) 3 4) 4 4) 5 4) 6 4) 7 4) 8 4) 9 4)))] := hD
  refine lv_aload_n hx hb dX4_init_62 rfl (lv_at hl 0 rfl) ?_
  refine lv_iconst (v := 3) hx hb dX4_init_63 (by decide) ?_
  refine q_newaI (N := 3) hx hb (hts (.arrayClass .int) (by decide +kernel)) hK hP hD hS hA (by decide) (by decide) (by omega) (Nat.le_of_ble_eq_true rfl) (Nat.le_of_ble_eq_true rfl) dX4_init_64 (fun q64 H hP hD hS => ?_)
  have hP : va_P D vwCl [(mo, .inr (5, [.int 0, .int 0, .int 0, .int 60, .ref q13, .null, .null, .null])), (q13, .inl (T 0, 10, .inl (upd (upd (upd (upd (upd (upd (upd (upd (upd (upd (fun _ => 0) 0 4) 1 4) 2 4) 3 4) 4 4) 5 4) 6 4) 7 4) 8 4) 9 4))), (q64, .inl (T 0, 3, .inl (fun _ => 0)))] H := hP
  have hD : va_D A [(mo, .inr (5, [.int 0, .int 0, .int 0, .int 60, .ref q13, .null, .null, .null])), (q13, .inl (T 0, 10, .inl (upd (upd (upd (upd (upd (upd (upd (upd (upd (upd (fun _ => 0) 0 4) 1 4) 2 4) 3 4) 4 4) 5 4) 6 4) 7 4) 8 4) 9 4))), (q64, .inl (T 0, 3, .inl (fun _ => 0)))] := hD
  refine va_putF (D := D) (ci := 5) (v := .ref q64) (ty := (.array .int)) (C := RX4) (T := TX4) (N := 8) hx hb hts iX4 tyX4 tyX4_ok nmX4 hown hK hP hD hS 0 rfl rfl 5 (by decide) (hts (.fieldLink RX4 17 "ToyRegattaModel" "eyes" "[I") (by decide +kernel)) (fun _ h9 => h9) rfl hnm rfl (by decide +kernel) rfl rfl (Nat.le_of_ble_eq_true rfl) dX4_init_66 (fun H locs hP hD hS => ?_)
  have hP : va_P D vwCl [(mo, .inr (5, [.int 0, .int 0, .int 0, .int 60, .ref q13, .ref q64, .null, .null])), (q13, .inl (T 0, 10, .inl (upd (upd (upd (upd (upd (upd (upd (upd (upd (upd (fun _ => 0) 0 4) 1 4) 2 4) 3 4) 4 4) 5 4) 6 4) 7 4) 8 4) 9 4))), (q64, .inl (T 0, 3, .inl (fun _ => 0)))] H := hP
  have hD : va_D A [(mo, .inr (5, [.int 0, .int 0, .int 0, .int 60, .ref q13, .ref q64, .null, .null])), (q13, .inl (T 0, 10, .inl (upd (upd (upd (upd (upd (upd (upd (upd (upd (upd (fun _ => 0) 0 4) 1 4) 2 4) 3 4) 4 4) 5 4) 6 4) 7 4) 8 4) 9 4))), (q64, .inl (T 0, 3, .inl (fun _ => 0)))] := hD
  refine lv_aload_n hx hb dX4_init_69 rfl (lv_at hl 0 rfl) ?_
  refine lv_bipush (v := 80) hx hb dX4_init_70 (by decide) ?_
  refine q_newaI (N := 80) hx hb (hts (.arrayClass .int) (by decide +kernel)) hK hP hD hS hA (by decide) (by decide) (by omega) (Nat.le_of_ble_eq_true rfl) (Nat.le_of_ble_eq_true rfl) dX4_init_72 (fun q72 H hP hD hS => ?_)
  have hP : va_P D vwCl [(mo, .inr (5, [.int 0, .int 0, .int 0, .int 60, .ref q13, .ref q64, .null, .null])), (q13, .inl (T 0, 10, .inl (upd (upd (upd (upd (upd (upd (upd (upd (upd (upd (fun _ => 0) 0 4) 1 4) 2 4) 3 4) 4 4) 5 4) 6 4) 7 4) 8 4) 9 4))), (q64, .inl (T 0, 3, .inl (fun _ => 0))), (q72, .inl (T 0, 80, .inl (fun _ => 0)))] H := hP
  have hD : va_D A [(mo, .inr (5, [.int 0, .int 0, .int 0, .int 60, .ref q13, .ref q64, .null, .null])), (q13, .inl (T 0, 10, .inl (upd (upd (upd (upd (upd (upd (upd (upd (upd (upd (fun _ => 0) 0 4) 1 4) 2 4) 3 4) 4 4) 5 4) 6 4) 7 4) 8 4) 9 4))), (q64, .inl (T 0, 3, .inl (fun _ => 0))), (q72, .inl (T 0, 80, .inl (fun _ => 0)))] := hD
  refine va_putF (D := D) (ci := 5) (v := .ref q72) (ty := (.array .int)) (C := RX4) (T := TX4) (N := 8) hx hb hts iX4 tyX4 tyX4_ok nmX4 hown hK hP hD hS 0 rfl rfl 6 (by decide) (hts (.fieldLink RX4 20 "ToyRegattaModel" "fleet" "[I") (by decide +kernel)) (fun _ h9 => h9) rfl hnm rfl (by decide +kernel) rfl rfl (Nat.le_of_ble_eq_true rfl) dX4_init_74 (fun H locs hP hD hS => ?_)
  have hP : va_P D vwCl [(mo, .inr (5, [.int 0, .int 0, .int 0, .int 60, .ref q13, .ref q64, .ref q72, .null])), (q13, .inl (T 0, 10, .inl (upd (upd (upd (upd (upd (upd (upd (upd (upd (upd (fun _ => 0) 0 4) 1 4) 2 4) 3 4) 4 4) 5 4) 6 4) 7 4) 8 4) 9 4))), (q64, .inl (T 0, 3, .inl (fun _ => 0))), (q72, .inl (T 0, 80, .inl (fun _ => 0)))] H := hP
  have hD : va_D A [(mo, .inr (5, [.int 0, .int 0, .int 0, .int 60, .ref q13, .ref q64, .ref q72, .null])), (q13, .inl (T 0, 10, .inl (upd (upd (upd (upd (upd (upd (upd (upd (upd (upd (fun _ => 0) 0 4) 1 4) 2 4) 3 4) 4 4) 5 4) 6 4) 7 4) 8 4) 9 4))), (q64, .inl (T 0, 3, .inl (fun _ => 0))), (q72, .inl (T 0, 80, .inl (fun _ => 0)))] := hD
  refine lv_aload_n hx hb dX4_init_77 rfl (lv_at hl 0 rfl) ?_
  refine lv_iconst (v := 4) hx hb dX4_init_78 (by decide) ?_
  refine q_newaI (N := 4) hx hb (hts (.arrayClass .int) (by decide +kernel)) hK hP hD hS hA (by decide) (by decide) (by omega) (Nat.le_of_ble_eq_true rfl) (Nat.le_of_ble_eq_true rfl) dX4_init_79 (fun q79 H hP hD hS => ?_)
  have hP : va_P D vwCl [(mo, .inr (5, [.int 0, .int 0, .int 0, .int 60, .ref q13, .ref q64, .ref q72, .null])), (q13, .inl (T 0, 10, .inl (upd (upd (upd (upd (upd (upd (upd (upd (upd (upd (fun _ => 0) 0 4) 1 4) 2 4) 3 4) 4 4) 5 4) 6 4) 7 4) 8 4) 9 4))), (q64, .inl (T 0, 3, .inl (fun _ => 0))), (q72, .inl (T 0, 80, .inl (fun _ => 0))), (q79, .inl (T 0, 4, .inl (fun _ => 0)))] H := hP
  have hD : va_D A [(mo, .inr (5, [.int 0, .int 0, .int 0, .int 60, .ref q13, .ref q64, .ref q72, .null])), (q13, .inl (T 0, 10, .inl (upd (upd (upd (upd (upd (upd (upd (upd (upd (upd (fun _ => 0) 0 4) 1 4) 2 4) 3 4) 4 4) 5 4) 6 4) 7 4) 8 4) 9 4))), (q64, .inl (T 0, 3, .inl (fun _ => 0))), (q72, .inl (T 0, 80, .inl (fun _ => 0))), (q79, .inl (T 0, 4, .inl (fun _ => 0)))] := hD
  refine va_putF (D := D) (ci := 5) (v := .ref q79) (ty := (.array .int)) (C := RX4) (T := TX4) (N := 8) hx hb hts iX4 tyX4 tyX4_ok nmX4 hown hK hP hD hS 0 rfl rfl 7 (by decide) (hts (.fieldLink RX4 23 "ToyRegattaModel" "numbers" "[I") (by decide +kernel)) (fun _ h9 => h9) rfl hnm rfl (by decide +kernel) rfl rfl (Nat.le_of_ble_eq_true rfl) dX4_init_81 (fun H locs hP hD hS => ?_)
  have hP : va_P D vwCl [(mo, .inr (5, [.int 0, .int 0, .int 0, .int 60, .ref q13, .ref q64, .ref q72, .ref q79])), (q13, .inl (T 0, 10, .inl (upd (upd (upd (upd (upd (upd (upd (upd (upd (upd (fun _ => 0) 0 4) 1 4) 2 4) 3 4) 4 4) 5 4) 6 4) 7 4) 8 4) 9 4))), (q64, .inl (T 0, 3, .inl (fun _ => 0))), (q72, .inl (T 0, 80, .inl (fun _ => 0))), (q79, .inl (T 0, 4, .inl (fun _ => 0)))] H := hP
  have hD : va_D A [(mo, .inr (5, [.int 0, .int 0, .int 0, .int 60, .ref q13, .ref q64, .ref q72, .ref q79])), (q13, .inl (T 0, 10, .inl (upd (upd (upd (upd (upd (upd (upd (upd (upd (upd (fun _ => 0) 0 4) 1 4) 2 4) 3 4) 4 4) 5 4) 6 4) 7 4) 8 4) 9 4))), (q64, .inl (T 0, 3, .inl (fun _ => 0))), (q72, .inl (T 0, 80, .inl (fun _ => 0))), (q79, .inl (T 0, 4, .inl (fun _ => 0)))] := hD
  exact q_vret hx hb hr hlocks hP hK hD hS (Nat.le_of_ble_eq_true rfl) (Nat.le_of_ble_eq_true rfl) dX4_init_84 ⟨q13, q64, q72, q79, rfl, rfl⟩

def rNew (hull rig : Int32) : Nat → Int32 := upd (upd (upd (upd (upd (upd (upd (upd (upd (upd (fun _ => 0) 0 hull) 1 rig) 2 0) 3 0) 4 0) 5 0) 6 (-1)) 7 0) 8 0) 9 0
theorem q_cpy_row (f : Nat → Int32) (G : Nat → Nat → Int32) (b j : Nat) : va_cpy f (q_flat G) 0 (10 * b) 10 j = q_flat (va_up G b f) j := by
  unfold va_cpy q_flat va_up
  by_cases h : 10 * b ≤ j ∧ j < 10 * b + 10
  · rw [if_pos h, if_pos (show j / 10 = b by omega)]
    congr 1
    omega
  · rw [if_neg h, if_neg (show ¬ j / 10 = b by omega)]

abbrev rmX4_build : Room := { frames := 1, cells := 1, slots := 10, locals := 40 }
set_option maxHeartbeats 1000000 in
set_option maxRecDepth 100000 in
theorem c_X4_build_ok (l : Launch) (D : va_G) (T : Nat → ClassId) (mo mw me mf mn nb nj : Nat) (th len : Int32) (G : Nat → Nat → Int32) (nu : Nat → Int32)  (hull rig : Int32) (hn : nb < 8) (h1 : ¬ bIsIn rig 0 2 = 0) (h2 : ¬ bIsIn hull 1 9 = 0) (h3 : bOn nu = 0) : q_M l D (q_ty T) yX4_build wsX4_build rmX4_build [.ref mo, .int hull, .int rig] [q_mc mo th nb nj len mw me mf mn, q_fa T mf G, q_ia T mn 4 nu] q_no (q_is (some (.int (nI nb))) [q_mc mo 0 (nb + 1) nj len mw me mf mn, q_fa T mf (va_up G nb (rNew hull rig)), q_ia T mn 4 nu]) := by
  refine q_start (cc := cX4_build) (maxL := 4) (ret := (some .int)) (by decide) rfl (Nat.le_of_ble_eq_true rfl) ?_
  intro p e s m args below meth c A H locs hx hb hr hts hown hlocks hml hnm hP hK hD hS hA hG ls hl
  have hown : s.vm.findClass RX4 = some m.cls := hown
  have hC : CallFix p m c cX4_build 4 s args wsX4_build RX4 := ⟨hx, hb, hml, hown, hts⟩
  have iX4 : ∀ w ∈ wsX40, w ∈ wsX4_build := by decide +kernel
  have hl : lv_has ls 4 [(0, .ref mo), (1, .int hull), (2, .int rig)] := hl
  refine lv_aload_n hx hb dX4_build_0 rfl (lv_at hl 0 rfl) ?_
  refine lv_iconst (v := 0) hx hb dX4_build_1 (by decide) ?_
  refine va_put (D := D) (ci := 5) (v := .int 0) (ty := .int) (C := RX4) (T := TX4) (N := 8) hx hb hts iX4 tyX4 tyX4_ok nmX4 hown hK hP hD hS 0 rfl rfl 0 (by decide) (hts (.fieldLink RX4 26 "ToyRegattaModel" "thrown" "I") (by decide +kernel)) (fun _ h9 => h9) rfl (by decide +kernel) rfl rfl (Nat.le_of_ble_eq_true rfl) dX4_build_2 (fun H locs hP hD hS => ?_)
  have hP : va_P D vwCl [q_mc mo 0 nb nj len mw me mf mn, q_fa T mf G, q_ia T mn 4 nu] H := hP
  have hD : va_D A [q_mc mo 0 nb nj len mw me mf mn, q_fa T mf G, q_ia T mn 4 nu] := hD
  refine lv_iload_n hx hb dX4_build_5 rfl (lv_at hl 2 rfl) ?_
  refine lv_iconst (v := 0) hx hb dX4_build_6 (by decide) ?_
  refine lv_iconst (v := 2) hx hb dX4_build_7 (by decide) ?_
  refine q_callS (As := [.int rig, .int 0, .int 2]) (rs := []) hC (c_X4_isIn l D T rig 0 2) q_no_st q_no_at (va_cwS 3 hts gX4_build_X4_isIn rfl rfl rfl (by decide +kernel) ⟨Nat.le_of_ble_eq_true rfl, Nat.le_of_ble_eq_true rfl⟩) hK hP hD hS hA (q_mask [false, false, false] _) rfl hl.1 rfl (Nat.le_of_ble_eq_true rfl) dX4_build_8 ⟨(Nat.le_of_ble_eq_true rfl), (Nat.le_of_ble_eq_true rfl)⟩ (fun v9 C9 H locs hp hP hD hS => ?_)
  obtain ⟨rfl, rfl⟩ := hp
  have hP : va_P D vwCl [q_mc mo 0 nb nj len mw me mf mn, q_fa T mf G, q_ia T mn 4 nu] H := q_P_perm (q_mrg_perm [false, false, false] _ _) hP
  have hD : va_D A [q_mc mo 0 nb nj len mw me mf mn, q_fa T mf G, q_ia T mn 4 nu] := q_D_perm (q_mrg_perm [false, false, false] _ _) hD
  refine lv_if_ne (tgt := 20) hx hb dX4_build_11 (by decide) (fun c_11 => ?_) (fun c_11 => absurd c_11 h1)
  refine lv_iload_n hx hb dX4_build_20 rfl (lv_at hl 1 rfl) ?_
  refine lv_iconst (v := 1) hx hb dX4_build_21 (by decide) ?_
  refine lv_bipush (v := 9) hx hb dX4_build_22 (by decide) ?_
  refine q_callS (As := [.int hull, .int 1, .int 9]) (rs := []) hC (c_X4_isIn l D T hull 1 9) q_no_st q_no_at (va_cwS 3 hts gX4_build_X4_isIn rfl rfl rfl (by decide +kernel) ⟨Nat.le_of_ble_eq_true rfl, Nat.le_of_ble_eq_true rfl⟩) hK hP hD hS hA (q_mask [false, false, false] _) rfl hl.1 rfl (Nat.le_of_ble_eq_true rfl) dX4_build_24 ⟨(Nat.le_of_ble_eq_true rfl), (Nat.le_of_ble_eq_true rfl)⟩ (fun v9 C9 H locs hp hP hD hS => ?_)
  obtain ⟨rfl, rfl⟩ := hp
  have hP : va_P D vwCl [q_mc mo 0 nb nj len mw me mf mn, q_fa T mf G, q_ia T mn 4 nu] H := q_P_perm (q_mrg_perm [false, false, false] _ _) hP
  have hD : va_D A [q_mc mo 0 nb nj len mw me mf mn, q_fa T mf G, q_ia T mn 4 nu] := q_D_perm (q_mrg_perm [false, false, false] _ _) hD
  refine lv_if_ne (tgt := 36) hx hb dX4_build_27 (by decide) (fun c_27 => ?_) (fun c_27 => absurd c_27 h2)
  refine lv_aload_n hx hb dX4_build_36 rfl (lv_at hl 0 rfl) ?_
  refine va_get (D := D) (ci := 5) (v := .int (nI nb)) (C := RX4) (T := TX4) (N := 8) hx hb hts iX4 hown hK hP 0 rfl rfl 1 (by decide) (hts (.fieldLink RX4 29 "ToyRegattaModel" "boats" "I") (by decide +kernel)) (fun _ h9 => h9) rfl dX4_build_37 ?_
  refine lv_bipush (v := 8) hx hb dX4_build_40 (by decide) ?_
  refine lv_icmp_eq (tgt := 52) hx hb dX4_build_42 (by decide) (fun c_42 => absurd c_42 (fun q => absurd ((nI_eq (b := 8) (by omega) (by omega)).mp q) (by omega))) (fun c_42 => ?_)
  refine lv_aload_n hx hb dX4_build_45 rfl (lv_at hl 0 rfl) ?_
  refine q_callV (As := []) (rs := []) hC (c_X4_isRace l D T mo mw me mf mn nb nj 0 len nu) q_no_st q_no_at (cwV 0 hts gX4_build_X4_isRace rfl rfl rfl (by decide +kernel) ⟨Nat.le_of_ble_eq_true rfl, Nat.le_of_ble_eq_true rfl⟩) (va_recv hK hP (ci := 5) (q0 := 0) rfl rfl) hK hP hD hS hA (q_mask [true, false, true] _) rfl hl.1 rfl (Nat.le_of_ble_eq_true rfl) dX4_build_46 ⟨(Nat.le_of_ble_eq_true rfl), (Nat.le_of_ble_eq_true rfl)⟩ (fun v9 C9 H locs hp hP hD hS => ?_)
  obtain ⟨rfl, rfl⟩ := hp
  have hP : va_P D vwCl [q_mc mo 0 nb nj len mw me mf mn, q_fa T mf G, q_ia T mn 4 nu] H := q_P_perm (q_mrg_perm [true, false, true] _ _) hP
  have hD : va_D A [q_mc mo 0 nb nj len mw me mf mn, q_fa T mf G, q_ia T mn 4 nu] := q_D_perm (q_mrg_perm [true, false, true] _ _) hD
  refine lv_if_eq (tgt := 58) hx hb dX4_build_49 (by decide) (fun c_49 => ?_) (fun c_49 => absurd h3 c_49)
  refine lv_bipush (v := 10) hx hb dX4_build_58 (by decide) ?_
  refine q_newaI (N := 10) hx hb (hts (.arrayClass .int) (by decide +kernel)) hK hP hD hS hA (by decide) (by decide) (by omega) (Nat.le_of_ble_eq_true rfl) (Nat.le_of_ble_eq_true rfl) dX4_build_60 (fun q60 H hP hD hS => ?_)
  have hP : va_P D vwCl [q_mc mo 0 nb nj len mw me mf mn, q_fa T mf G, q_ia T mn 4 nu, (q60, .inl (T 0, 10, .inl (fun _ => 0)))] H := hP
  have hD : va_D A [q_mc mo 0 nb nj len mw me mf mn, q_fa T mf G, q_ia T mn 4 nu, (q60, .inl (T 0, 10, .inl (fun _ => 0)))] := hD
  refine lv_dup hx hb dX4_build_62 rfl ?_
  refine lv_iconst (v := 0) hx hb dX4_build_63 (by decide) ?_
  refine lv_iload_n hx hb dX4_build_64 rfl (lv_at hl 1 rfl) ?_
  refine va_iast (D := D) hx hb hK hP hD hS 3 0 rfl rfl (by unfold vp_in; decide) dX4_build_65 (fun H locs hP hD hS => ?_)
  rw [show (0 : Int32).toNatClampNeg = 0 from (by decide)] at hP hD
  have hP : va_P D vwCl [q_mc mo 0 nb nj len mw me mf mn, q_fa T mf G, q_ia T mn 4 nu, (q60, .inl (T 0, 10, .inl (upd (fun _ => 0) 0 hull)))] H := hP
  have hD : va_D A [q_mc mo 0 nb nj len mw me mf mn, q_fa T mf G, q_ia T mn 4 nu, (q60, .inl (T 0, 10, .inl (upd (fun _ => 0) 0 hull)))] := hD
  refine lv_dup hx hb dX4_build_66 rfl ?_
  refine lv_iconst (v := 1) hx hb dX4_build_67 (by decide) ?_
  refine lv_iload_n hx hb dX4_build_68 rfl (lv_at hl 2 rfl) ?_
  refine va_iast (D := D) hx hb hK hP hD hS 3 0 rfl rfl (by unfold vp_in; decide) dX4_build_69 (fun H locs hP hD hS => ?_)
  rw [show (1 : Int32).toNatClampNeg = 1 from (by decide)] at hP hD
  have hP : va_P D vwCl [q_mc mo 0 nb nj len mw me mf mn, q_fa T mf G, q_ia T mn 4 nu, (q60, .inl (T 0, 10, .inl (upd (upd (fun _ => 0) 0 hull) 1 rig)))] H := hP
  have hD : va_D A [q_mc mo 0 nb nj len mw me mf mn, q_fa T mf G, q_ia T mn 4 nu, (q60, .inl (T 0, 10, .inl (upd (upd (fun _ => 0) 0 hull) 1 rig)))] := hD
  refine lv_dup hx hb dX4_build_70 rfl ?_
  refine lv_iconst (v := 2) hx hb dX4_build_71 (by decide) ?_
  refine lv_iconst (v := 0) hx hb dX4_build_72 (by decide) ?_
  refine va_iast (D := D) hx hb hK hP hD hS 3 0 rfl rfl (by unfold vp_in; decide) dX4_build_73 (fun H locs hP hD hS => ?_)
  rw [show (2 : Int32).toNatClampNeg = 2 from (by decide)] at hP hD
  have hP : va_P D vwCl [q_mc mo 0 nb nj len mw me mf mn, q_fa T mf G, q_ia T mn 4 nu, (q60, .inl (T 0, 10, .inl (upd (upd (upd (fun _ => 0) 0 hull) 1 rig) 2 0)))] H := hP
  have hD : va_D A [q_mc mo 0 nb nj len mw me mf mn, q_fa T mf G, q_ia T mn 4 nu, (q60, .inl (T 0, 10, .inl (upd (upd (upd (fun _ => 0) 0 hull) 1 rig) 2 0)))] := hD
  refine lv_dup hx hb dX4_build_74 rfl ?_
  refine lv_iconst (v := 3) hx hb dX4_build_75 (by decide) ?_
  refine lv_iconst (v := 0) hx hb dX4_build_76 (by decide) ?_
  refine va_iast (D := D) hx hb hK hP hD hS 3 0 rfl rfl (by unfold vp_in; decide) dX4_build_77 (fun H locs hP hD hS => ?_)
  rw [show (3 : Int32).toNatClampNeg = 3 from (by decide)] at hP hD
  have hP : va_P D vwCl [q_mc mo 0 nb nj len mw me mf mn, q_fa T mf G, q_ia T mn 4 nu, (q60, .inl (T 0, 10, .inl (upd (upd (upd (upd (fun _ => 0) 0 hull) 1 rig) 2 0) 3 0)))] H := hP
  have hD : va_D A [q_mc mo 0 nb nj len mw me mf mn, q_fa T mf G, q_ia T mn 4 nu, (q60, .inl (T 0, 10, .inl (upd (upd (upd (upd (fun _ => 0) 0 hull) 1 rig) 2 0) 3 0)))] := hD
  refine lv_dup hx hb dX4_build_78 rfl ?_
  refine lv_iconst (v := 4) hx hb dX4_build_79 (by decide) ?_
  refine lv_iconst (v := 0) hx hb dX4_build_80 (by decide) ?_
  refine va_iast (D := D) hx hb hK hP hD hS 3 0 rfl rfl (by unfold vp_in; decide) dX4_build_81 (fun H locs hP hD hS => ?_)
  rw [show (4 : Int32).toNatClampNeg = 4 from (by decide)] at hP hD
  have hP : va_P D vwCl [q_mc mo 0 nb nj len mw me mf mn, q_fa T mf G, q_ia T mn 4 nu, (q60, .inl (T 0, 10, .inl (upd (upd (upd (upd (upd (fun _ => 0) 0 hull) 1 rig) 2 0) 3 0) 4 0)))] H := hP
  have hD : va_D A [q_mc mo 0 nb nj len mw me mf mn, q_fa T mf G, q_ia T mn 4 nu, (q60, .inl (T 0, 10, .inl (upd (upd (upd (upd (upd (fun _ => 0) 0 hull) 1 rig) 2 0) 3 0) 4 0)))] := hD
  refine lv_dup hx hb dX4_build_82 rfl ?_
  refine lv_iconst (v := 5) hx hb dX4_build_83 (by decide) ?_
  refine lv_iconst (v := 0) hx hb dX4_build_84 (by decide) ?_
  refine va_iast (D := D) hx hb hK hP hD hS 3 0 rfl rfl (by unfold vp_in; decide) dX4_build_85 (fun H locs hP hD hS => ?_)
  rw [show (5 : Int32).toNatClampNeg = 5 from (by decide)] at hP hD
  have hP : va_P D vwCl [q_mc mo 0 nb nj len mw me mf mn, q_fa T mf G, q_ia T mn 4 nu, (q60, .inl (T 0, 10, .inl (upd (upd (upd (upd (upd (upd (fun _ => 0) 0 hull) 1 rig) 2 0) 3 0) 4 0) 5 0)))] H := hP
  have hD : va_D A [q_mc mo 0 nb nj len mw me mf mn, q_fa T mf G, q_ia T mn 4 nu, (q60, .inl (T 0, 10, .inl (upd (upd (upd (upd (upd (upd (fun _ => 0) 0 hull) 1 rig) 2 0) 3 0) 4 0) 5 0)))] := hD
  refine lv_dup hx hb dX4_build_86 rfl ?_
  refine lv_bipush (v := 6) hx hb dX4_build_87 (by decide) ?_
  refine lv_iconst (v := (-1)) hx hb dX4_build_89 (by decide) ?_
  refine va_iast (D := D) hx hb hK hP hD hS 3 0 rfl rfl (by unfold vp_in; decide) dX4_build_90 (fun H locs hP hD hS => ?_)
  rw [show (6 : Int32).toNatClampNeg = 6 from (by decide)] at hP hD
  have hP : va_P D vwCl [q_mc mo 0 nb nj len mw me mf mn, q_fa T mf G, q_ia T mn 4 nu, (q60, .inl (T 0, 10, .inl (upd (upd (upd (upd (upd (upd (upd (fun _ => 0) 0 hull) 1 rig) 2 0) 3 0) 4 0) 5 0) 6 (-1))))] H := hP
  have hD : va_D A [q_mc mo 0 nb nj len mw me mf mn, q_fa T mf G, q_ia T mn 4 nu, (q60, .inl (T 0, 10, .inl (upd (upd (upd (upd (upd (upd (upd (fun _ => 0) 0 hull) 1 rig) 2 0) 3 0) 4 0) 5 0) 6 (-1))))] := hD
  refine lv_dup hx hb dX4_build_91 rfl ?_
  refine lv_bipush (v := 7) hx hb dX4_build_92 (by decide) ?_
  refine lv_iconst (v := 0) hx hb dX4_build_94 (by decide) ?_
  refine va_iast (D := D) hx hb hK hP hD hS 3 0 rfl rfl (by unfold vp_in; decide) dX4_build_95 (fun H locs hP hD hS => ?_)
  rw [show (7 : Int32).toNatClampNeg = 7 from (by decide)] at hP hD
  have hP : va_P D vwCl [q_mc mo 0 nb nj len mw me mf mn, q_fa T mf G, q_ia T mn 4 nu, (q60, .inl (T 0, 10, .inl (upd (upd (upd (upd (upd (upd (upd (upd (fun _ => 0) 0 hull) 1 rig) 2 0) 3 0) 4 0) 5 0) 6 (-1)) 7 0)))] H := hP
  have hD : va_D A [q_mc mo 0 nb nj len mw me mf mn, q_fa T mf G, q_ia T mn 4 nu, (q60, .inl (T 0, 10, .inl (upd (upd (upd (upd (upd (upd (upd (upd (fun _ => 0) 0 hull) 1 rig) 2 0) 3 0) 4 0) 5 0) 6 (-1)) 7 0)))] := hD
  refine lv_dup hx hb dX4_build_96 rfl ?_
  refine lv_bipush (v := 8) hx hb dX4_build_97 (by decide) ?_
  refine lv_iconst (v := 0) hx hb dX4_build_99 (by decide) ?_
  refine va_iast (D := D) hx hb hK hP hD hS 3 0 rfl rfl (by unfold vp_in; decide) dX4_build_100 (fun H locs hP hD hS => ?_)
  rw [show (8 : Int32).toNatClampNeg = 8 from (by decide)] at hP hD
  have hP : va_P D vwCl [q_mc mo 0 nb nj len mw me mf mn, q_fa T mf G, q_ia T mn 4 nu, (q60, .inl (T 0, 10, .inl (upd (upd (upd (upd (upd (upd (upd (upd (upd (fun _ => 0) 0 hull) 1 rig) 2 0) 3 0) 4 0) 5 0) 6 (-1)) 7 0) 8 0)))] H := hP
  have hD : va_D A [q_mc mo 0 nb nj len mw me mf mn, q_fa T mf G, q_ia T mn 4 nu, (q60, .inl (T 0, 10, .inl (upd (upd (upd (upd (upd (upd (upd (upd (upd (fun _ => 0) 0 hull) 1 rig) 2 0) 3 0) 4 0) 5 0) 6 (-1)) 7 0) 8 0)))] := hD
  refine lv_dup hx hb dX4_build_101 rfl ?_
  refine lv_bipush (v := 9) hx hb dX4_build_102 (by decide) ?_
  refine lv_iconst (v := 0) hx hb dX4_build_104 (by decide) ?_
  refine va_iast (D := D) hx hb hK hP hD hS 3 0 rfl rfl (by unfold vp_in; decide) dX4_build_105 (fun H locs hP hD hS => ?_)
  rw [show (9 : Int32).toNatClampNeg = 9 from (by decide)] at hP hD
  have hP : va_P D vwCl [q_mc mo 0 nb nj len mw me mf mn, q_fa T mf G, q_ia T mn 4 nu, (q60, .inl (T 0, 10, .inl (upd (upd (upd (upd (upd (upd (upd (upd (upd (upd (fun _ => 0) 0 hull) 1 rig) 2 0) 3 0) 4 0) 5 0) 6 (-1)) 7 0) 8 0) 9 0)))] H := hP
  have hD : va_D A [q_mc mo 0 nb nj len mw me mf mn, q_fa T mf G, q_ia T mn 4 nu, (q60, .inl (T 0, 10, .inl (upd (upd (upd (upd (upd (upd (upd (upd (upd (upd (fun _ => 0) 0 hull) 1 rig) 2 0) 3 0) 4 0) 5 0) 6 (-1)) 7 0) 8 0) 9 0)))] := hD
  refine lv_astore_n (lv' := [(3, .ref q60), (0, .ref mo), (1, .int hull), (2, .int rig)]) hx hb dX4_build_106 rfl hl (by decide) rfl (fun ls hl => ?_)
  refine lv_aload_n hx hb dX4_build_107 rfl (lv_at hl 0 rfl) ?_
  refine lv_iconst (v := 0) hx hb dX4_build_108 (by decide) ?_
  refine lv_aload_n hx hb dX4_build_109 rfl (lv_at hl 1 rfl) ?_
  refine va_get (D := D) (ci := 5) (v := .ref mf) (C := RX4) (T := TX4) (N := 8) hx hb hts iX4 hown hK hP 0 rfl rfl 6 (by decide) (hts (.fieldLink RX4 20 "ToyRegattaModel" "fleet" "[I") (by decide +kernel)) (fun _ h9 => h9) rfl dX4_build_110 ?_
  refine lv_bipush (v := 10) hx hb dX4_build_113 (by decide) ?_
  refine lv_aload_n hx hb dX4_build_115 rfl (lv_at hl 1 rfl) ?_
  refine va_get (D := D) (ci := 5) (v := .int (nI nb)) (C := RX4) (T := TX4) (N := 8) hx hb hts iX4 hown hK hP 0 rfl rfl 1 (by decide) (hts (.fieldLink RX4 29 "ToyRegattaModel" "boats" "I") (by decide +kernel)) (fun _ h9 => h9) rfl dX4_build_116 ?_
  refine lv_imul hx hb dX4_build_119 ?_
  refine W.eq (g2 := F0 m 120 ls [.int (nI (10 * nb)), .ref mf, .int 0, .ref q60]) (by rw [show (10 : Int32) = nI 10 from rfl, pk_mul] <;> rfl) ?_
  refine lv_bipush (v := 10) hx hb dX4_build_120 (by decide) ?_
  refine va_copyi (D := D) hx hb (hml.trans hl.1.symm) hown (hts (.methodLink RX4 44 arraycopyName) (by decide +kernel)) (hts (.native arraycopyName) (by decide +kernel)) (hts (.static arraycopyName) (by decide +kernel)) (hts (.initialized "java/lang/System") (by decide +kernel)) hK hP hD hS 3 1 0 0 rfl rfl rfl rfl rfl (by decide) (nI_pos (by omega)) (by decide) (by decide) (by rw [nI_clamp (by omega)]; show 10 * nb + 10 ≤ 80; omega) (fun _ _ => rfl) (Nat.le_of_ble_eq_true rfl) (Nat.le_of_ble_eq_true rfl) dX4_build_122 (fun H locs hP hD hS => ?_)
  rw [nI_clamp (by omega)] at hP hD
  have hP := q_ia_ext (k := 1) (n := 80) (g := q_flat (va_up G nb (rNew hull rig))) rfl (fun i hi => q_cpy_row (rNew hull rig) G nb i) hP
  have hD := hD.set (p := 1) (e := .inl (T 0, 80, .inl (q_flat (va_up G nb (rNew hull rig))))) rfl
  have hP : va_P D vwCl [q_mc mo 0 nb nj len mw me mf mn, q_fa T mf (va_up G nb (rNew hull rig)), q_ia T mn 4 nu, (q60, .inl (T 0, 10, .inl (upd (upd (upd (upd (upd (upd (upd (upd (upd (upd (fun _ => 0) 0 hull) 1 rig) 2 0) 3 0) 4 0) 5 0) 6 (-1)) 7 0) 8 0) 9 0)))] H := hP
  have hD : va_D A [q_mc mo 0 nb nj len mw me mf mn, q_fa T mf (va_up G nb (rNew hull rig)), q_ia T mn 4 nu, (q60, .inl (T 0, 10, .inl (upd (upd (upd (upd (upd (upd (upd (upd (upd (upd (fun _ => 0) 0 hull) 1 rig) 2 0) 3 0) 4 0) 5 0) 6 (-1)) 7 0) 8 0) 9 0)))] := hD
  refine lv_aload_n hx hb dX4_build_125 rfl (lv_at hl 1 rfl) ?_
  refine lv_dup hx hb dX4_build_126 rfl ?_
  refine va_get (D := D) (ci := 5) (v := .int (nI nb)) (C := RX4) (T := TX4) (N := 8) hx hb hts iX4 hown hK hP 0 rfl rfl 1 (by decide) (hts (.fieldLink RX4 29 "ToyRegattaModel" "boats" "I") (by decide +kernel)) (fun _ h9 => h9) rfl dX4_build_127 ?_
  refine lv_iconst (v := 1) hx hb dX4_build_130 (by decide) ?_
  refine lv_iadd hx hb dX4_build_131 ?_
  refine W.eq (g2 := F0 m 132 ls [.int (nI (nb + 1)), .ref mo]) (by rw [← nI_1] <;> rfl) ?_
  refine va_put (D := D) (ci := 5) (v := .int (nI (nb + 1))) (ty := .int) (C := RX4) (T := TX4) (N := 8) hx hb hts iX4 tyX4 tyX4_ok nmX4 hown hK hP hD hS 0 rfl rfl 1 (by decide) (hts (.fieldLink RX4 29 "ToyRegattaModel" "boats" "I") (by decide +kernel)) (fun _ h9 => h9) rfl (by decide +kernel) rfl rfl (Nat.le_of_ble_eq_true rfl) dX4_build_132 (fun H locs hP hD hS => ?_)
  have hP : va_P D vwCl [q_mc mo 0 (nb + 1) nj len mw me mf mn, q_fa T mf (va_up G nb (rNew hull rig)), q_ia T mn 4 nu, (q60, .inl (T 0, 10, .inl (upd (upd (upd (upd (upd (upd (upd (upd (upd (upd (fun _ => 0) 0 hull) 1 rig) 2 0) 3 0) 4 0) 5 0) 6 (-1)) 7 0) 8 0) 9 0)))] H := hP
  have hD : va_D A [q_mc mo 0 (nb + 1) nj len mw me mf mn, q_fa T mf (va_up G nb (rNew hull rig)), q_ia T mn 4 nu, (q60, .inl (T 0, 10, .inl (upd (upd (upd (upd (upd (upd (upd (upd (upd (upd (fun _ => 0) 0 hull) 1 rig) 2 0) 3 0) 4 0) 5 0) 6 (-1)) 7 0) 8 0) 9 0)))] := hD
  have hP : va_P D vwCl [q_mc mo 0 (nb + 1) nj len mw me mf mn, q_fa T mf (va_up G nb (rNew hull rig)), q_ia T mn 4 nu] H := hP.sub [0, 1, 2] rfl
  have hD : va_D A [q_mc mo 0 (nb + 1) nj len mw me mf mn, q_fa T mf (va_up G nb (rNew hull rig)), q_ia T mn 4 nu] := hD.sub [0, 1, 2] (by decide) rfl
  refine lv_aload_n hx hb dX4_build_135 rfl (lv_at hl 1 rfl) ?_
  refine va_get (D := D) (ci := 5) (v := .int (nI (nb + 1))) (C := RX4) (T := TX4) (N := 8) hx hb hts iX4 hown hK hP 0 rfl rfl 1 (by decide) (hts (.fieldLink RX4 29 "ToyRegattaModel" "boats" "I") (by decide +kernel)) (fun _ h9 => h9) rfl dX4_build_136 ?_
  refine lv_iconst (v := 1) hx hb dX4_build_139 (by decide) ?_
  refine lv_isub hx hb dX4_build_140 ?_
  refine W.eq (g2 := F0 m 141 ls [.int (nI nb)]) (by rw [nI_pred] <;> rfl) ?_
  exact q_iret hx hb hr hlocks hP hK hD hS (Nat.le_of_ble_eq_true rfl) (Nat.le_of_ble_eq_true rfl) dX4_build_141 ⟨rfl, rfl⟩
set_option maxHeartbeats 1000000 in
set_option maxRecDepth 100000 in
theorem c_X4_build_f1 (l : Launch) (D : va_G) (T : Nat → ClassId) (mo mw me mf mn nb nj : Nat) (th len : Int32) (G : Nat → Nat → Int32) (nu : Nat → Int32)  (hull rig : Int32) (h1 : bIsIn rig 0 2 = 0) : q_M l D (q_ty T) yX4_build wsX4_build rmX4_build [.ref mo, .int hull, .int rig] [q_mc mo th nb nj len mw me mf mn, q_fa T mf G, q_ia T mn 4 nu] q_no (q_is (some (.int 0)) [q_mc mo 1 nb nj len mw me mf mn, q_fa T mf G, q_ia T mn 4 nu]) := by
  refine q_start (cc := cX4_build) (maxL := 4) (ret := (some .int)) (by decide) rfl (Nat.le_of_ble_eq_true rfl) ?_
  intro p e s m args below meth c A H locs hx hb hr hts hown hlocks hml hnm hP hK hD hS hA hG ls hl
  have hown : s.vm.findClass RX4 = some m.cls := hown
  have hC : CallFix p m c cX4_build 4 s args wsX4_build RX4 := ⟨hx, hb, hml, hown, hts⟩
  have iX4 : ∀ w ∈ wsX40, w ∈ wsX4_build := by decide +kernel
  have hl : lv_has ls 4 [(0, .ref mo), (1, .int hull), (2, .int rig)] := hl
  refine lv_aload_n hx hb dX4_build_0 rfl (lv_at hl 0 rfl) ?_
  refine lv_iconst (v := 0) hx hb dX4_build_1 (by decide) ?_
  refine va_put (D := D) (ci := 5) (v := .int 0) (ty := .int) (C := RX4) (T := TX4) (N := 8) hx hb hts iX4 tyX4 tyX4_ok nmX4 hown hK hP hD hS 0 rfl rfl 0 (by decide) (hts (.fieldLink RX4 26 "ToyRegattaModel" "thrown" "I") (by decide +kernel)) (fun _ h9 => h9) rfl (by decide +kernel) rfl rfl (Nat.le_of_ble_eq_true rfl) dX4_build_2 (fun H locs hP hD hS => ?_)
  have hP : va_P D vwCl [q_mc mo 0 nb nj len mw me mf mn, q_fa T mf G, q_ia T mn 4 nu] H := hP
  have hD : va_D A [q_mc mo 0 nb nj len mw me mf mn, q_fa T mf G, q_ia T mn 4 nu] := hD
  refine lv_iload_n hx hb dX4_build_5 rfl (lv_at hl 2 rfl) ?_
  refine lv_iconst (v := 0) hx hb dX4_build_6 (by decide) ?_
  refine lv_iconst (v := 2) hx hb dX4_build_7 (by decide) ?_
  refine q_callS (As := [.int rig, .int 0, .int 2]) (rs := []) hC (c_X4_isIn l D T rig 0 2) q_no_st q_no_at (va_cwS 3 hts gX4_build_X4_isIn rfl rfl rfl (by decide +kernel) ⟨Nat.le_of_ble_eq_true rfl, Nat.le_of_ble_eq_true rfl⟩) hK hP hD hS hA (q_mask [false, false, false] _) rfl hl.1 rfl (Nat.le_of_ble_eq_true rfl) dX4_build_8 ⟨(Nat.le_of_ble_eq_true rfl), (Nat.le_of_ble_eq_true rfl)⟩ (fun v9 C9 H locs hp hP hD hS => ?_)
  obtain ⟨rfl, rfl⟩ := hp
  have hP : va_P D vwCl [q_mc mo 0 nb nj len mw me mf mn, q_fa T mf G, q_ia T mn 4 nu] H := q_P_perm (q_mrg_perm [false, false, false] _ _) hP
  have hD : va_D A [q_mc mo 0 nb nj len mw me mf mn, q_fa T mf G, q_ia T mn 4 nu] := q_D_perm (q_mrg_perm [false, false, false] _ _) hD
  refine lv_if_ne (tgt := 20) hx hb dX4_build_11 (by decide) (fun c_11 => absurd h1 c_11) (fun c_11 => ?_)
  refine lv_aload_n hx hb dX4_build_14 rfl (lv_at hl 0 rfl) ?_
  refine lv_iconst (v := 1) hx hb dX4_build_15 (by decide) ?_
  refine q_callV (As := [.int 1]) (rs := []) hC (c_X4_fail l D T mo mw me mf mn nb nj 0 len 1) q_no_st q_no_at (cwV 1 hts gX4_build_X4_fail rfl rfl rfl (by decide +kernel) ⟨Nat.le_of_ble_eq_true rfl, Nat.le_of_ble_eq_true rfl⟩) (va_recv hK hP (ci := 5) (q0 := 0) rfl rfl) hK hP hD hS hA (q_mask [true, false, false] _) rfl hl.1 rfl (Nat.le_of_ble_eq_true rfl) dX4_build_16 ⟨(Nat.le_of_ble_eq_true rfl), (Nat.le_of_ble_eq_true rfl)⟩ (fun v9 C9 H locs hp hP hD hS => ?_)
  obtain ⟨rfl, rfl⟩ := hp
  have hP : va_P D vwCl [q_mc mo 1 nb nj len mw me mf mn, q_fa T mf G, q_ia T mn 4 nu] H := q_P_perm (q_mrg_perm [true, false, false] _ _) hP
  have hD : va_D A [q_mc mo 1 nb nj len mw me mf mn, q_fa T mf G, q_ia T mn 4 nu] := q_D_perm (q_mrg_perm [true, false, false] _ _) hD
  exact q_iret hx hb hr hlocks hP hK hD hS (Nat.le_of_ble_eq_true rfl) (Nat.le_of_ble_eq_true rfl) dX4_build_19 ⟨rfl, rfl⟩
set_option maxHeartbeats 1000000 in
set_option maxRecDepth 100000 in
theorem c_X4_build_f2 (l : Launch) (D : va_G) (T : Nat → ClassId) (mo mw me mf mn nb nj : Nat) (th len : Int32) (G : Nat → Nat → Int32) (nu : Nat → Int32)  (hull rig : Int32) (h1 : ¬ bIsIn rig 0 2 = 0) (h2 : bIsIn hull 1 9 = 0) : q_M l D (q_ty T) yX4_build wsX4_build rmX4_build [.ref mo, .int hull, .int rig] [q_mc mo th nb nj len mw me mf mn, q_fa T mf G, q_ia T mn 4 nu] q_no (q_is (some (.int 0)) [q_mc mo 2 nb nj len mw me mf mn, q_fa T mf G, q_ia T mn 4 nu]) := by
  refine q_start (cc := cX4_build) (maxL := 4) (ret := (some .int)) (by decide) rfl (Nat.le_of_ble_eq_true rfl) ?_
  intro p e s m args below meth c A H locs hx hb hr hts hown hlocks hml hnm hP hK hD hS hA hG ls hl
  have hown : s.vm.findClass RX4 = some m.cls := hown
  have hC : CallFix p m c cX4_build 4 s args wsX4_build RX4 := ⟨hx, hb, hml, hown, hts⟩
  have iX4 : ∀ w ∈ wsX40, w ∈ wsX4_build := by decide +kernel
  have hl : lv_has ls 4 [(0, .ref mo), (1, .int hull), (2, .int rig)] := hl
  refine lv_aload_n hx hb dX4_build_0 rfl (lv_at hl 0 rfl) ?_
  refine lv_iconst (v := 0) hx hb dX4_build_1 (by decide) ?_
  refine va_put (D := D) (ci := 5) (v := .int 0) (ty := .int) (C := RX4) (T := TX4) (N := 8) hx hb hts iX4 tyX4 tyX4_ok nmX4 hown hK hP hD hS 0 rfl rfl 0 (by decide) (hts (.fieldLink RX4 26 "ToyRegattaModel" "thrown" "I") (by decide +kernel)) (fun _ h9 => h9) rfl (by decide +kernel) rfl rfl (Nat.le_of_ble_eq_true rfl) dX4_build_2 (fun H locs hP hD hS => ?_)
  have hP : va_P D vwCl [q_mc mo 0 nb nj len mw me mf mn, q_fa T mf G, q_ia T mn 4 nu] H := hP
  have hD : va_D A [q_mc mo 0 nb nj len mw me mf mn, q_fa T mf G, q_ia T mn 4 nu] := hD
  refine lv_iload_n hx hb dX4_build_5 rfl (lv_at hl 2 rfl) ?_
  refine lv_iconst (v := 0) hx hb dX4_build_6 (by decide) ?_
  refine lv_iconst (v := 2) hx hb dX4_build_7 (by decide) ?_
  refine q_callS (As := [.int rig, .int 0, .int 2]) (rs := []) hC (c_X4_isIn l D T rig 0 2) q_no_st q_no_at (va_cwS 3 hts gX4_build_X4_isIn rfl rfl rfl (by decide +kernel) ⟨Nat.le_of_ble_eq_true rfl, Nat.le_of_ble_eq_true rfl⟩) hK hP hD hS hA (q_mask [false, false, false] _) rfl hl.1 rfl (Nat.le_of_ble_eq_true rfl) dX4_build_8 ⟨(Nat.le_of_ble_eq_true rfl), (Nat.le_of_ble_eq_true rfl)⟩ (fun v9 C9 H locs hp hP hD hS => ?_)
  obtain ⟨rfl, rfl⟩ := hp
  have hP : va_P D vwCl [q_mc mo 0 nb nj len mw me mf mn, q_fa T mf G, q_ia T mn 4 nu] H := q_P_perm (q_mrg_perm [false, false, false] _ _) hP
  have hD : va_D A [q_mc mo 0 nb nj len mw me mf mn, q_fa T mf G, q_ia T mn 4 nu] := q_D_perm (q_mrg_perm [false, false, false] _ _) hD
  refine lv_if_ne (tgt := 20) hx hb dX4_build_11 (by decide) (fun c_11 => ?_) (fun c_11 => absurd c_11 h1)
  refine lv_iload_n hx hb dX4_build_20 rfl (lv_at hl 1 rfl) ?_
  refine lv_iconst (v := 1) hx hb dX4_build_21 (by decide) ?_
  refine lv_bipush (v := 9) hx hb dX4_build_22 (by decide) ?_
  refine q_callS (As := [.int hull, .int 1, .int 9]) (rs := []) hC (c_X4_isIn l D T hull 1 9) q_no_st q_no_at (va_cwS 3 hts gX4_build_X4_isIn rfl rfl rfl (by decide +kernel) ⟨Nat.le_of_ble_eq_true rfl, Nat.le_of_ble_eq_true rfl⟩) hK hP hD hS hA (q_mask [false, false, false] _) rfl hl.1 rfl (Nat.le_of_ble_eq_true rfl) dX4_build_24 ⟨(Nat.le_of_ble_eq_true rfl), (Nat.le_of_ble_eq_true rfl)⟩ (fun v9 C9 H locs hp hP hD hS => ?_)
  obtain ⟨rfl, rfl⟩ := hp
  have hP : va_P D vwCl [q_mc mo 0 nb nj len mw me mf mn, q_fa T mf G, q_ia T mn 4 nu] H := q_P_perm (q_mrg_perm [false, false, false] _ _) hP
  have hD : va_D A [q_mc mo 0 nb nj len mw me mf mn, q_fa T mf G, q_ia T mn 4 nu] := q_D_perm (q_mrg_perm [false, false, false] _ _) hD
  refine lv_if_ne (tgt := 36) hx hb dX4_build_27 (by decide) (fun c_27 => absurd h2 c_27) (fun c_27 => ?_)
  refine lv_aload_n hx hb dX4_build_30 rfl (lv_at hl 0 rfl) ?_
  refine lv_iconst (v := 2) hx hb dX4_build_31 (by decide) ?_
  refine q_callV (As := [.int 2]) (rs := []) hC (c_X4_fail l D T mo mw me mf mn nb nj 0 len 2) q_no_st q_no_at (cwV 1 hts gX4_build_X4_fail rfl rfl rfl (by decide +kernel) ⟨Nat.le_of_ble_eq_true rfl, Nat.le_of_ble_eq_true rfl⟩) (va_recv hK hP (ci := 5) (q0 := 0) rfl rfl) hK hP hD hS hA (q_mask [true, false, false] _) rfl hl.1 rfl (Nat.le_of_ble_eq_true rfl) dX4_build_32 ⟨(Nat.le_of_ble_eq_true rfl), (Nat.le_of_ble_eq_true rfl)⟩ (fun v9 C9 H locs hp hP hD hS => ?_)
  obtain ⟨rfl, rfl⟩ := hp
  have hP : va_P D vwCl [q_mc mo 2 nb nj len mw me mf mn, q_fa T mf G, q_ia T mn 4 nu] H := q_P_perm (q_mrg_perm [true, false, false] _ _) hP
  have hD : va_D A [q_mc mo 2 nb nj len mw me mf mn, q_fa T mf G, q_ia T mn 4 nu] := q_D_perm (q_mrg_perm [true, false, false] _ _) hD
  exact q_iret hx hb hr hlocks hP hK hD hS (Nat.le_of_ble_eq_true rfl) (Nat.le_of_ble_eq_true rfl) dX4_build_35 ⟨rfl, rfl⟩
set_option maxHeartbeats 1000000 in
set_option maxRecDepth 100000 in
theorem c_X4_build_f3 (l : Launch) (D : va_G) (T : Nat → ClassId) (mo mw me mf mn nb nj : Nat) (th len : Int32) (G : Nat → Nat → Int32) (nu : Nat → Int32)  (hull rig : Int32) (h1 : ¬ bIsIn rig 0 2 = 0) (h2 : ¬ bIsIn hull 1 9 = 0) (h8 : nI nb = 8) : q_M l D (q_ty T) yX4_build wsX4_build rmX4_build [.ref mo, .int hull, .int rig] [q_mc mo th nb nj len mw me mf mn, q_fa T mf G, q_ia T mn 4 nu] q_no (q_is (some (.int 0)) [q_mc mo 3 nb nj len mw me mf mn, q_fa T mf G, q_ia T mn 4 nu]) := by
  refine q_start (cc := cX4_build) (maxL := 4) (ret := (some .int)) (by decide) rfl (Nat.le_of_ble_eq_true rfl) ?_
  intro p e s m args below meth c A H locs hx hb hr hts hown hlocks hml hnm hP hK hD hS hA hG ls hl
  have hown : s.vm.findClass RX4 = some m.cls := hown
  have hC : CallFix p m c cX4_build 4 s args wsX4_build RX4 := ⟨hx, hb, hml, hown, hts⟩
  have iX4 : ∀ w ∈ wsX40, w ∈ wsX4_build := by decide +kernel
  have hl : lv_has ls 4 [(0, .ref mo), (1, .int hull), (2, .int rig)] := hl
  refine lv_aload_n hx hb dX4_build_0 rfl (lv_at hl 0 rfl) ?_
  refine lv_iconst (v := 0) hx hb dX4_build_1 (by decide) ?_
  refine va_put (D := D) (ci := 5) (v := .int 0) (ty := .int) (C := RX4) (T := TX4) (N := 8) hx hb hts iX4 tyX4 tyX4_ok nmX4 hown hK hP hD hS 0 rfl rfl 0 (by decide) (hts (.fieldLink RX4 26 "ToyRegattaModel" "thrown" "I") (by decide +kernel)) (fun _ h9 => h9) rfl (by decide +kernel) rfl rfl (Nat.le_of_ble_eq_true rfl) dX4_build_2 (fun H locs hP hD hS => ?_)
  have hP : va_P D vwCl [q_mc mo 0 nb nj len mw me mf mn, q_fa T mf G, q_ia T mn 4 nu] H := hP
  have hD : va_D A [q_mc mo 0 nb nj len mw me mf mn, q_fa T mf G, q_ia T mn 4 nu] := hD
  refine lv_iload_n hx hb dX4_build_5 rfl (lv_at hl 2 rfl) ?_
  refine lv_iconst (v := 0) hx hb dX4_build_6 (by decide) ?_
  refine lv_iconst (v := 2) hx hb dX4_build_7 (by decide) ?_
  refine q_callS (As := [.int rig, .int 0, .int 2]) (rs := []) hC (c_X4_isIn l D T rig 0 2) q_no_st q_no_at (va_cwS 3 hts gX4_build_X4_isIn rfl rfl rfl (by decide +kernel) ⟨Nat.le_of_ble_eq_true rfl, Nat.le_of_ble_eq_true rfl⟩) hK hP hD hS hA (q_mask [false, false, false] _) rfl hl.1 rfl (Nat.le_of_ble_eq_true rfl) dX4_build_8 ⟨(Nat.le_of_ble_eq_true rfl), (Nat.le_of_ble_eq_true rfl)⟩ (fun v9 C9 H locs hp hP hD hS => ?_)
  obtain ⟨rfl, rfl⟩ := hp
  have hP : va_P D vwCl [q_mc mo 0 nb nj len mw me mf mn, q_fa T mf G, q_ia T mn 4 nu] H := q_P_perm (q_mrg_perm [false, false, false] _ _) hP
  have hD : va_D A [q_mc mo 0 nb nj len mw me mf mn, q_fa T mf G, q_ia T mn 4 nu] := q_D_perm (q_mrg_perm [false, false, false] _ _) hD
  refine lv_if_ne (tgt := 20) hx hb dX4_build_11 (by decide) (fun c_11 => ?_) (fun c_11 => absurd c_11 h1)
  refine lv_iload_n hx hb dX4_build_20 rfl (lv_at hl 1 rfl) ?_
  refine lv_iconst (v := 1) hx hb dX4_build_21 (by decide) ?_
  refine lv_bipush (v := 9) hx hb dX4_build_22 (by decide) ?_
  refine q_callS (As := [.int hull, .int 1, .int 9]) (rs := []) hC (c_X4_isIn l D T hull 1 9) q_no_st q_no_at (va_cwS 3 hts gX4_build_X4_isIn rfl rfl rfl (by decide +kernel) ⟨Nat.le_of_ble_eq_true rfl, Nat.le_of_ble_eq_true rfl⟩) hK hP hD hS hA (q_mask [false, false, false] _) rfl hl.1 rfl (Nat.le_of_ble_eq_true rfl) dX4_build_24 ⟨(Nat.le_of_ble_eq_true rfl), (Nat.le_of_ble_eq_true rfl)⟩ (fun v9 C9 H locs hp hP hD hS => ?_)
  obtain ⟨rfl, rfl⟩ := hp
  have hP : va_P D vwCl [q_mc mo 0 nb nj len mw me mf mn, q_fa T mf G, q_ia T mn 4 nu] H := q_P_perm (q_mrg_perm [false, false, false] _ _) hP
  have hD : va_D A [q_mc mo 0 nb nj len mw me mf mn, q_fa T mf G, q_ia T mn 4 nu] := q_D_perm (q_mrg_perm [false, false, false] _ _) hD
  refine lv_if_ne (tgt := 36) hx hb dX4_build_27 (by decide) (fun c_27 => ?_) (fun c_27 => absurd c_27 h2)
  refine lv_aload_n hx hb dX4_build_36 rfl (lv_at hl 0 rfl) ?_
  refine va_get (D := D) (ci := 5) (v := .int (nI nb)) (C := RX4) (T := TX4) (N := 8) hx hb hts iX4 hown hK hP 0 rfl rfl 1 (by decide) (hts (.fieldLink RX4 29 "ToyRegattaModel" "boats" "I") (by decide +kernel)) (fun _ h9 => h9) rfl dX4_build_37 ?_
  refine lv_bipush (v := 8) hx hb dX4_build_40 (by decide) ?_
  refine lv_icmp_eq (tgt := 52) hx hb dX4_build_42 (by decide) (fun c_42 => ?_) (fun c_42 => absurd h8 c_42)
  refine lv_aload_n hx hb dX4_build_52 rfl (lv_at hl 0 rfl) ?_
  refine lv_iconst (v := 3) hx hb dX4_build_53 (by decide) ?_
  refine q_callV (As := [.int 3]) (rs := []) hC (c_X4_fail l D T mo mw me mf mn nb nj 0 len 3) q_no_st q_no_at (cwV 1 hts gX4_build_X4_fail rfl rfl rfl (by decide +kernel) ⟨Nat.le_of_ble_eq_true rfl, Nat.le_of_ble_eq_true rfl⟩) (va_recv hK hP (ci := 5) (q0 := 0) rfl rfl) hK hP hD hS hA (q_mask [true, false, false] _) rfl hl.1 rfl (Nat.le_of_ble_eq_true rfl) dX4_build_54 ⟨(Nat.le_of_ble_eq_true rfl), (Nat.le_of_ble_eq_true rfl)⟩ (fun v9 C9 H locs hp hP hD hS => ?_)
  obtain ⟨rfl, rfl⟩ := hp
  have hP : va_P D vwCl [q_mc mo 3 nb nj len mw me mf mn, q_fa T mf G, q_ia T mn 4 nu] H := q_P_perm (q_mrg_perm [true, false, false] _ _) hP
  have hD : va_D A [q_mc mo 3 nb nj len mw me mf mn, q_fa T mf G, q_ia T mn 4 nu] := q_D_perm (q_mrg_perm [true, false, false] _ _) hD
  exact q_iret hx hb hr hlocks hP hK hD hS (Nat.le_of_ble_eq_true rfl) (Nat.le_of_ble_eq_true rfl) dX4_build_57 ⟨rfl, rfl⟩
set_option maxHeartbeats 1000000 in
set_option maxRecDepth 100000 in
theorem c_X4_build_f4 (l : Launch) (D : va_G) (T : Nat → ClassId) (mo mw me mf mn nb nj : Nat) (th len : Int32) (G : Nat → Nat → Int32) (nu : Nat → Int32)  (hull rig : Int32) (h1 : ¬ bIsIn rig 0 2 = 0) (h2 : ¬ bIsIn hull 1 9 = 0) (h8 : ¬ nI nb = 8) (h3 : ¬ bOn nu = 0) : q_M l D (q_ty T) yX4_build wsX4_build rmX4_build [.ref mo, .int hull, .int rig] [q_mc mo th nb nj len mw me mf mn, q_fa T mf G, q_ia T mn 4 nu] q_no (q_is (some (.int 0)) [q_mc mo 3 nb nj len mw me mf mn, q_fa T mf G, q_ia T mn 4 nu]) := by
  refine q_start (cc := cX4_build) (maxL := 4) (ret := (some .int)) (by decide) rfl (Nat.le_of_ble_eq_true rfl) ?_
  intro p e s m args below meth c A H locs hx hb hr hts hown hlocks hml hnm hP hK hD hS hA hG ls hl
  have hown : s.vm.findClass RX4 = some m.cls := hown
  have hC : CallFix p m c cX4_build 4 s args wsX4_build RX4 := ⟨hx, hb, hml, hown, hts⟩
  have iX4 : ∀ w ∈ wsX40, w ∈ wsX4_build := by decide +kernel
  have hl : lv_has ls 4 [(0, .ref mo), (1, .int hull), (2, .int rig)] := hl
  refine lv_aload_n hx hb dX4_build_0 rfl (lv_at hl 0 rfl) ?_
  refine lv_iconst (v := 0) hx hb dX4_build_1 (by decide) ?_
  refine va_put (D := D) (ci := 5) (v := .int 0) (ty := .int) (C := RX4) (T := TX4) (N := 8) hx hb hts iX4 tyX4 tyX4_ok nmX4 hown hK hP hD hS 0 rfl rfl 0 (by decide) (hts (.fieldLink RX4 26 "ToyRegattaModel" "thrown" "I") (by decide +kernel)) (fun _ h9 => h9) rfl (by decide +kernel) rfl rfl (Nat.le_of_ble_eq_true rfl) dX4_build_2 (fun H locs hP hD hS => ?_)
  have hP : va_P D vwCl [q_mc mo 0 nb nj len mw me mf mn, q_fa T mf G, q_ia T mn 4 nu] H := hP
  have hD : va_D A [q_mc mo 0 nb nj len mw me mf mn, q_fa T mf G, q_ia T mn 4 nu] := hD
  refine lv_iload_n hx hb dX4_build_5 rfl (lv_at hl 2 rfl) ?_
  refine lv_iconst (v := 0) hx hb dX4_build_6 (by decide) ?_
  refine lv_iconst (v := 2) hx hb dX4_build_7 (by decide) ?_
  refine q_callS (As := [.int rig, .int 0, .int 2]) (rs := []) hC (c_X4_isIn l D T rig 0 2) q_no_st q_no_at (va_cwS 3 hts gX4_build_X4_isIn rfl rfl rfl (by decide +kernel) ⟨Nat.le_of_ble_eq_true rfl, Nat.le_of_ble_eq_true rfl⟩) hK hP hD hS hA (q_mask [false, false, false] _) rfl hl.1 rfl (Nat.le_of_ble_eq_true rfl) dX4_build_8 ⟨(Nat.le_of_ble_eq_true rfl), (Nat.le_of_ble_eq_true rfl)⟩ (fun v9 C9 H locs hp hP hD hS => ?_)
  obtain ⟨rfl, rfl⟩ := hp
  have hP : va_P D vwCl [q_mc mo 0 nb nj len mw me mf mn, q_fa T mf G, q_ia T mn 4 nu] H := q_P_perm (q_mrg_perm [false, false, false] _ _) hP
  have hD : va_D A [q_mc mo 0 nb nj len mw me mf mn, q_fa T mf G, q_ia T mn 4 nu] := q_D_perm (q_mrg_perm [false, false, false] _ _) hD
  refine lv_if_ne (tgt := 20) hx hb dX4_build_11 (by decide) (fun c_11 => ?_) (fun c_11 => absurd c_11 h1)
  refine lv_iload_n hx hb dX4_build_20 rfl (lv_at hl 1 rfl) ?_
  refine lv_iconst (v := 1) hx hb dX4_build_21 (by decide) ?_
  refine lv_bipush (v := 9) hx hb dX4_build_22 (by decide) ?_
  refine q_callS (As := [.int hull, .int 1, .int 9]) (rs := []) hC (c_X4_isIn l D T hull 1 9) q_no_st q_no_at (va_cwS 3 hts gX4_build_X4_isIn rfl rfl rfl (by decide +kernel) ⟨Nat.le_of_ble_eq_true rfl, Nat.le_of_ble_eq_true rfl⟩) hK hP hD hS hA (q_mask [false, false, false] _) rfl hl.1 rfl (Nat.le_of_ble_eq_true rfl) dX4_build_24 ⟨(Nat.le_of_ble_eq_true rfl), (Nat.le_of_ble_eq_true rfl)⟩ (fun v9 C9 H locs hp hP hD hS => ?_)
  obtain ⟨rfl, rfl⟩ := hp
  have hP : va_P D vwCl [q_mc mo 0 nb nj len mw me mf mn, q_fa T mf G, q_ia T mn 4 nu] H := q_P_perm (q_mrg_perm [false, false, false] _ _) hP
  have hD : va_D A [q_mc mo 0 nb nj len mw me mf mn, q_fa T mf G, q_ia T mn 4 nu] := q_D_perm (q_mrg_perm [false, false, false] _ _) hD
  refine lv_if_ne (tgt := 36) hx hb dX4_build_27 (by decide) (fun c_27 => ?_) (fun c_27 => absurd c_27 h2)
  refine lv_aload_n hx hb dX4_build_36 rfl (lv_at hl 0 rfl) ?_
  refine va_get (D := D) (ci := 5) (v := .int (nI nb)) (C := RX4) (T := TX4) (N := 8) hx hb hts iX4 hown hK hP 0 rfl rfl 1 (by decide) (hts (.fieldLink RX4 29 "ToyRegattaModel" "boats" "I") (by decide +kernel)) (fun _ h9 => h9) rfl dX4_build_37 ?_
  refine lv_bipush (v := 8) hx hb dX4_build_40 (by decide) ?_
  refine lv_icmp_eq (tgt := 52) hx hb dX4_build_42 (by decide) (fun c_42 => absurd c_42 h8) (fun c_42 => ?_)
  refine lv_aload_n hx hb dX4_build_45 rfl (lv_at hl 0 rfl) ?_
  refine q_callV (As := []) (rs := []) hC (c_X4_isRace l D T mo mw me mf mn nb nj 0 len nu) q_no_st q_no_at (cwV 0 hts gX4_build_X4_isRace rfl rfl rfl (by decide +kernel) ⟨Nat.le_of_ble_eq_true rfl, Nat.le_of_ble_eq_true rfl⟩) (va_recv hK hP (ci := 5) (q0 := 0) rfl rfl) hK hP hD hS hA (q_mask [true, false, true] _) rfl hl.1 rfl (Nat.le_of_ble_eq_true rfl) dX4_build_46 ⟨(Nat.le_of_ble_eq_true rfl), (Nat.le_of_ble_eq_true rfl)⟩ (fun v9 C9 H locs hp hP hD hS => ?_)
  obtain ⟨rfl, rfl⟩ := hp
  have hP : va_P D vwCl [q_mc mo 0 nb nj len mw me mf mn, q_fa T mf G, q_ia T mn 4 nu] H := q_P_perm (q_mrg_perm [true, false, true] _ _) hP
  have hD : va_D A [q_mc mo 0 nb nj len mw me mf mn, q_fa T mf G, q_ia T mn 4 nu] := q_D_perm (q_mrg_perm [true, false, true] _ _) hD
  refine lv_if_eq (tgt := 58) hx hb dX4_build_49 (by decide) (fun c_49 => absurd c_49 h3) (fun c_49 => ?_)
  refine lv_aload_n hx hb dX4_build_52 rfl (lv_at hl 0 rfl) ?_
  refine lv_iconst (v := 3) hx hb dX4_build_53 (by decide) ?_
  refine q_callV (As := [.int 3]) (rs := []) hC (c_X4_fail l D T mo mw me mf mn nb nj 0 len 3) q_no_st q_no_at (cwV 1 hts gX4_build_X4_fail rfl rfl rfl (by decide +kernel) ⟨Nat.le_of_ble_eq_true rfl, Nat.le_of_ble_eq_true rfl⟩) (va_recv hK hP (ci := 5) (q0 := 0) rfl rfl) hK hP hD hS hA (q_mask [true, false, false] _) rfl hl.1 rfl (Nat.le_of_ble_eq_true rfl) dX4_build_54 ⟨(Nat.le_of_ble_eq_true rfl), (Nat.le_of_ble_eq_true rfl)⟩ (fun v9 C9 H locs hp hP hD hS => ?_)
  obtain ⟨rfl, rfl⟩ := hp
  have hP : va_P D vwCl [q_mc mo 3 nb nj len mw me mf mn, q_fa T mf G, q_ia T mn 4 nu] H := q_P_perm (q_mrg_perm [true, false, false] _ _) hP
  have hD : va_D A [q_mc mo 3 nb nj len mw me mf mn, q_fa T mf G, q_ia T mn 4 nu] := q_D_perm (q_mrg_perm [true, false, false] _ _) hD
  exact q_iret hx hb hr hlocks hP hK hD hS (Nat.le_of_ble_eq_true rfl) (Nat.le_of_ble_eq_true rfl) dX4_build_57 ⟨rfl, rfl⟩
