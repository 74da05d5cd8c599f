
section QL
variable {p : Program} {l : Launch} {e : Env} {rm : Room} {s : State} {m : MethodId} {args : Array Value} {below : List Frame} {meth : Method} {c : Code} {H : Heap} {locs : List Loc} {cells slots : Nat} {D : va_G} {tys : List (ClassId × FieldType)} {post : Option Value → va_W → Prop} {A : Nat → Prop} {w : va_W} {cc : ByteArray} {pc : Nat} {ls : Array Slot}
theorem q_lret (hx : p.tables.exec = Jvm.exec) (hb : c.code = cc) (hr : meth.sig.returnType = some .long) (hlocks : meth.locks = false) (hP : va_P D vwCl w H) (hK : va_K D vwCl tys s) (hD : va_D A w) (hS : va_S A s.heap H locs) {v : Int64} (hc : cells ≤ rm.cells) (hs : slots ≤ rm.slots) (hdg : decode cc pc = .ok (.lreturn, 1)) (hp : post (some (.long v)) w) : W p l e rm s m args below meth c H locs cells slots (q_E below D tys post A args s rm) (F0 m pc ls [.long v]) :=
  W.widen hc hs (W.lret hx hb hr (q_end hP hK hD hS hp) hS.2.2 hdg hlocks)
theorem q_dret (hx : p.tables.exec = Jvm.exec) (hb : c.code = cc) (hr : meth.sig.returnType = some .double) (hlocks : meth.locks = false) (hP : va_P D vwCl w H) (hK : va_K D vwCl tys s) (hD : va_D A w) (hS : va_S A s.heap H locs) {v : UInt64} (hc : cells ≤ rm.cells) (hs : slots ≤ rm.slots) (hdg : decode cc pc = .ok (.dreturn, 1)) (hp : post (some (.double v)) w) : W p l e rm s m args below meth c H locs cells slots (q_E below D tys post A args s rm) (F0 m pc ls [.double v]) :=
  W.widen hc hs (W.dret hx hb hr (q_end hP hK hD hS hp) hS.2.2 hdg hlocks)
end QL
def q_oi (o : Option Nat) : Int32 := match o with
  | none => -1
  | some j => nI j
theorem q_oi_ne {j : Nat} (h : j < 2 ^ 31) : ¬ nI j = -1 := fun e => by
  have h1 := nI_toInt h
  rw [e] at h1
  exact absurd h1 (by show ¬ (-1 : Int) = j; omega)
def rAhd (G : Nat → Nat → Int32) : Nat → Option Nat
  | 0 => none
  | b + 1 => if bIsIn (G b 9) 1 2 = 0 then rAhd G b else match rAhd G b with
    | none => some b
    | some j => if G b 5 ≤ G j 5 then some j else some b
theorem rAhd_lt {G : Nat → Nat → Int32} : ∀ {b j : Nat}, rAhd G b = some j → j < b
  | 0, j, h => by cases h
  | b + 1, j, h => by
    unfold rAhd at h
    split at h
    · exact Nat.lt_succ_of_lt (rAhd_lt h)
    · split at h
      · cases h; omega
      · rename_i j2 hj
        have := rAhd_lt hj
        split at h
        · cases h; omega
        · cases h; omega
def rChm (G : Nat → Nat → Int32) : Nat → Option Nat
  | 0 => none
  | b + 1 => match rChm G b with
    | none => some b
    | some j => if G j 3 < G b 3 then some b else if G b 3 = G j 3 then (if G j 4 ≤ G b 4 then some j else some b) else some j
theorem rChm_lt {G : Nat → Nat → Int32} : ∀ {b j : Nat}, rChm G b = some j → j < b
  | 0, j, h => by cases h
  | b + 1, j, h => by
    unfold rChm at h
    split at h
    · cases h; omega
    · rename_i j2 hj
      have := rChm_lt hj
      split at h
      · cases h; omega
      · split at h
        · split at h
          · cases h; omega
          · cases h; omega
        · cases h; omega

abbrev rmX4_ahead : Room := { frames := 1, cells := 0, slots := 0, locals := 22 }
set_option maxHeartbeats 1000000 in
set_option maxRecDepth 100000 in
theorem c_X4_ahead_no (l : Launch) (D : va_G) (T : Nat → ClassId) (mo mw me mf mn nb nj : Nat) (th len : Int32) (G : Nat → Nat → Int32) (nu : Nat → Int32) (h1 : bOn nu = 0) : q_M l D (q_ty T) yX4_ahead wsX4_ahead rmX4_ahead [.ref mo] [q_mc mo th nb nj len mw me mf mn, q_fa T mf G, q_ia T mn 4 nu] q_no (q_is (some (.int (-1))) [q_mc mo 0 nb nj len mw me mf mn, q_fa T mf G, q_ia T mn 4 nu]) := by
  refine q_start (cc := cX4_ahead) (maxL := 3) (ret := (some .int)) (by decide) rfl (Nat.le_of_ble_eq_true rfl) ?_
  intro p e s m args below meth c A H locs hx hb hr hts hown hlocks hml hnm hP hK hD hS hA hG ls hl
  have hown : s.vm.findClass RX4 = some m.cls := hown
  have hC : CallFix p m c cX4_ahead 3 s args wsX4_ahead RX4 := ⟨hx, hb, hml, hown, hts⟩
  have iX4 : ∀ w ∈ wsX40, w ∈ wsX4_ahead := by decide +kernel
  have hl : lv_has ls 3 [(0, .ref mo)] := hl
  refine lv_aload_n hx hb dX4_ahead_0 rfl (lv_at hl 0 rfl) ?_
  refine lv_iconst (v := 0) hx hb dX4_ahead_1 (by decide) ?_
  refine va_put (D := D) (ci := 5) (v := .int 0) (ty := .int) (C := RX4) (T := TX4) (N := 8) hx hb hts iX4 tyX4 tyX4_ok nmX4 hown hK hP hD hS 0 rfl rfl 0 (by decide) (hts (.fieldLink RX4 26 "ToyRegattaModel" "thrown" "I") (by decide +kernel)) (fun _ h9 => h9) rfl (by decide +kernel) rfl rfl (Nat.le_of_ble_eq_true rfl) dX4_ahead_2 (fun H locs hP hD hS => ?_)
  have hP : va_P D vwCl [q_mc mo 0 nb nj len mw me mf mn, q_fa T mf G, q_ia T mn 4 nu] H := hP
  have hD : va_D A [q_mc mo 0 nb nj len mw me mf mn, q_fa T mf G, q_ia T mn 4 nu] := hD
  refine lv_aload_n hx hb dX4_ahead_5 rfl (lv_at hl 0 rfl) ?_
  refine q_callV (As := []) (rs := []) hC (c_X4_isRace l D T mo mw me mf mn nb nj 0 len nu) q_no_st q_no_at (cwV 0 hts gX4_ahead_X4_isRace rfl rfl rfl (by decide +kernel) ⟨Nat.le_of_ble_eq_true rfl, Nat.le_of_ble_eq_true rfl⟩) (va_recv hK hP (ci := 5) (q0 := 0) rfl rfl) hK hP hD hS hA (q_mask [true, false, true] _) rfl hl.1 rfl (Nat.le_of_ble_eq_true rfl) dX4_ahead_6 ⟨(Nat.le_of_ble_eq_true rfl), (Nat.le_of_ble_eq_true rfl)⟩ (fun v9 C9 H locs hp hP hD hS => ?_)
  obtain ⟨rfl, rfl⟩ := hp
  have hP : va_P D vwCl [q_mc mo 0 nb nj len mw me mf mn, q_fa T mf G, q_ia T mn 4 nu] H := q_P_perm (q_mrg_perm [true, false, true] _ _) hP
  have hD : va_D A [q_mc mo 0 nb nj len mw me mf mn, q_fa T mf G, q_ia T mn 4 nu] := q_D_perm (q_mrg_perm [true, false, true] _ _) hD
  refine lv_if_ne (tgt := 14) hx hb dX4_ahead_9 (by decide) (fun c_9 => absurd h1 c_9) (fun c_9 => ?_)
  refine lv_iconst (v := (-1)) hx hb dX4_ahead_12 (by decide) ?_
  exact q_iret hx hb hr hlocks hP hK hD hS (Nat.le_of_ble_eq_true rfl) (Nat.le_of_ble_eq_true rfl) dX4_ahead_13 ⟨rfl, rfl⟩
set_option maxHeartbeats 1000000 in
set_option maxRecDepth 100000 in
theorem c_X4_ahead_ok (l : Launch) (D : va_G) (T : Nat → ClassId) (mo mw me mf mn nb nj : Nat) (th len : Int32) (G : Nat → Nat → Int32) (nu : Nat → Int32) (hn : nb ≤ 8) (h1 : ¬ bOn nu = 0) : q_M l D (q_ty T) yX4_ahead wsX4_ahead rmX4_ahead [.ref mo] [q_mc mo th nb nj len mw me mf mn, q_fa T mf G, q_ia T mn 4 nu] q_no (q_is (some (.int (q_oi (rAhd G nb)))) [q_mc mo 0 nb nj len mw me mf mn, q_fa T mf G, q_ia T mn 4 nu]) := by
  refine q_start (cc := cX4_ahead) (maxL := 3) (ret := (some .int)) (by decide) rfl (Nat.le_of_ble_eq_true rfl) ?_
  intro p e s m args below meth c A H locs hx hb hr hts hown hlocks hml hnm hP hK hD hS hA hG ls hl
  have hown : s.vm.findClass RX4 = some m.cls := hown
  have hC : CallFix p m c cX4_ahead 3 s args wsX4_ahead RX4 := ⟨hx, hb, hml, hown, hts⟩
  have iX4 : ∀ w ∈ wsX40, w ∈ wsX4_ahead := by decide +kernel
  have hl : lv_has ls 3 [(0, .ref mo)] := hl
  refine lv_aload_n hx hb dX4_ahead_0 rfl (lv_at hl 0 rfl) ?_
  refine lv_iconst (v := 0) hx hb dX4_ahead_1 (by decide) ?_
  refine va_put (D := D) (ci := 5) (v := .int 0) (ty := .int) (C := RX4) (T := TX4) (N := 8) hx hb hts iX4 tyX4 tyX4_ok nmX4 hown hK hP hD hS 0 rfl rfl 0 (by decide) (hts (.fieldLink RX4 26 "ToyRegattaModel" "thrown" "I") (by decide +kernel)) (fun _ h9 => h9) rfl (by decide +kernel) rfl rfl (Nat.le_of_ble_eq_true rfl) dX4_ahead_2 (fun H locs hP hD hS => ?_)
  have hP : va_P D vwCl [q_mc mo 0 nb nj len mw me mf mn, q_fa T mf G, q_ia T mn 4 nu] H := hP
  have hD : va_D A [q_mc mo 0 nb nj len mw me mf mn, q_fa T mf G, q_ia T mn 4 nu] := hD
  refine lv_aload_n hx hb dX4_ahead_5 rfl (lv_at hl 0 rfl) ?_
  refine q_callV (As := []) (rs := []) hC (c_X4_isRace l D T mo mw me mf mn nb nj 0 len nu) q_no_st q_no_at (cwV 0 hts gX4_ahead_X4_isRace rfl rfl rfl (by decide +kernel) ⟨Nat.le_of_ble_eq_true rfl, Nat.le_of_ble_eq_true rfl⟩) (va_recv hK hP (ci := 5) (q0 := 0) rfl rfl) hK hP hD hS hA (q_mask [true, false, true] _) rfl hl.1 rfl (Nat.le_of_ble_eq_true rfl) dX4_ahead_6 ⟨(Nat.le_of_ble_eq_true rfl), (Nat.le_of_ble_eq_true rfl)⟩ (fun v9 C9 H locs hp hP hD hS => ?_)
  obtain ⟨rfl, rfl⟩ := hp
  have hP : va_P D vwCl [q_mc mo 0 nb nj len mw me mf mn, q_fa T mf G, q_ia T mn 4 nu] H := q_P_perm (q_mrg_perm [true, false, true] _ _) hP
  have hD : va_D A [q_mc mo 0 nb nj len mw me mf mn, q_fa T mf G, q_ia T mn 4 nu] := q_D_perm (q_mrg_perm [true, false, true] _ _) hD
  refine lv_if_ne (tgt := 14) hx hb dX4_ahead_9 (by decide) (fun c_9 => ?_) (fun c_9 => absurd c_9 h1)
  refine lv_iconst (v := (-1)) hx hb dX4_ahead_14 (by decide) ?_
  refine lv_istore_n (lv' := [(1, .int (-1)), (0, .ref mo)]) hx hb dX4_ahead_15 rfl hl (by decide) rfl (fun ls hl => ?_)
  refine lv_iconst (v := 0) hx hb dX4_ahead_16 (by decide) ?_
  refine lv_istore_n (lv' := [(2, .int 0), (1, .int (-1)), (0, .ref mo)]) hx hb dX4_ahead_17 rfl hl (by decide) rfl (fun ls hl => ?_)
  have L18 : ∀ (f9 b : Nat) (h9a : nb < b + f9) (h9b : b ≤ nb) (H : Heap) (locs : List Loc) (ls : Array Slot), va_P D vwCl [q_mc mo 0 nb nj len mw me mf mn, q_fa T mf G, q_ia T mn 4 nu] H → va_D A [q_mc mo 0 nb nj len mw me mf mn, q_fa T mf G, q_ia T mn 4 nu] → va_S A s.heap H locs → lv_has ls 3 [(0, .ref mo), (1, .int (q_oi (rAhd G b))), (2, .int (nI b))] → W p l e rmX4_ahead s m args below meth c H locs 0 0 (q_E below D (q_ty T) (q_is (some (.int (q_oi (rAhd G nb)))) [q_mc mo 0 nb nj len mw me mf mn, q_fa T mf G, q_ia T mn 4 nu]) A args s rmX4_ahead) (F0 m 18 ls []) := by
    intro f9
    induction f9 with
    | zero => intro b h9a h9b; exact absurd h9a (by omega)
    | succ f9 ih18 =>
      intro b h9a h9b   H locs ls hP hD hS hl
      refine lv_iload_n hx hb dX4_ahead_18 rfl (lv_at hl 2 rfl) ?_
      refine lv_aload_n hx hb dX4_ahead_19 rfl (lv_at hl 0 rfl) ?_
      refine va_get (D := D) (ci := 5) (v := .int (nI nb)) (C := RX4) (T := TX4) (N := 8) hx hb hts iX4 hown hK hP 0 rfl rfl 1 (by decide) (hts (.fieldLink RX4 29 "ToyRegattaModel" "boats" "I") (by decide +kernel)) (fun _ h9 => h9) rfl dX4_ahead_20 ?_
      refine lv_icmp_ge (tgt := 69) hx hb dX4_ahead_23 (by decide) (fun c_23 => ?_) (fun c_23 => ?_)
      · have h9d := (q_exit c_23 h9b (by omega)).symm
        subst h9d
        refine lv_iload_n hx hb dX4_ahead_69 rfl (lv_at hl 1 rfl) ?_
        exact q_iret hx hb hr hlocks hP hK hD hS (Nat.le_of_ble_eq_true rfl) (Nat.le_of_ble_eq_true rfl) dX4_ahead_70 ⟨rfl, rfl⟩
      · have h9d := q_goon c_23 (by omega)
        refine lv_aload_n hx hb dX4_ahead_26 rfl (lv_at hl 0 rfl) ?_
        refine lv_iload_n hx hb dX4_ahead_27 rfl (lv_at hl 2 rfl) ?_
        refine lv_bipush (v := 9) hx hb dX4_ahead_28 (by decide) ?_
        refine q_callV (As := [.int (nI b), .int 9]) (rs := []) hC (c_X4_bo l D T mo mw me mf mn nb nj 0 len G b 9 (G b) (by omega) (by omega) rfl) q_no_st q_no_at (cwV 2 hts gX4_ahead_X4_bo rfl rfl rfl (by decide +kernel) ⟨Nat.le_of_ble_eq_true rfl, Nat.le_of_ble_eq_true rfl⟩) (va_recv hK hP (ci := 5) (q0 := 0) rfl rfl) hK hP hD hS hA (q_mask [true, true, false] _) rfl hl.1 rfl (Nat.le_of_ble_eq_true rfl) dX4_ahead_30 ⟨(Nat.le_of_ble_eq_true rfl), (Nat.le_of_ble_eq_true rfl)⟩ (fun v9 C9 H locs hp hP hD hS => ?_)
        obtain ⟨rfl, rfl⟩ := hp
        have hP : va_P D vwCl [q_mc mo 0 nb nj len mw me mf mn, q_fa T mf G, q_ia T mn 4 nu] H := q_P_perm (q_mrg_perm [true, true, false] _ _) hP
        have hD : va_D A [q_mc mo 0 nb nj len mw me mf mn, q_fa T mf G, q_ia T mn 4 nu] := q_D_perm (q_mrg_perm [true, true, false] _ _) hD
        refine lv_iconst (v := 1) hx hb dX4_ahead_33 (by decide) ?_
        refine lv_iconst (v := 2) hx hb dX4_ahead_34 (by decide) ?_
        refine q_callS (As := [.int (G b 9), .int 1, .int 2]) (rs := []) hC (c_X4_isIn l D T (G b 9) 1 2) q_no_st q_no_at (va_cwS 3 hts gX4_ahead_X4_isIn rfl rfl rfl (by decide +kernel) ⟨Nat.le_of_ble_eq_true rfl, Nat.le_of_ble_eq_true rfl⟩) hK hP hD hS hA (q_mask [false, false, false] _) rfl hl.1 rfl (Nat.le_of_ble_eq_true rfl) dX4_ahead_35 ⟨(Nat.le_of_ble_eq_true rfl), (Nat.le_of_ble_eq_true rfl)⟩ (fun v9 C9 H locs hp hP hD hS => ?_)
        obtain ⟨rfl, rfl⟩ := hp
        have hP : va_P D vwCl [q_mc mo 0 nb nj len mw me mf mn, q_fa T mf G, q_ia T mn 4 nu] H := q_P_perm (q_mrg_perm [false, false, false] _ _) hP
        have hD : va_D A [q_mc mo 0 nb nj len mw me mf mn, q_fa T mf G, q_ia T mn 4 nu] := q_D_perm (q_mrg_perm [false, false, false] _ _) hD
        refine lv_if_eq (tgt := 63) hx hb dX4_ahead_38 (by decide) (fun c_38 => ?_) (fun c_38 => ?_)
        · refine lv_iinc (v := (nI (b + 1))) (lv' := [(2, .int (nI (b + 1))), (0, .ref mo), (1, .int (q_oi (rAhd G b)))]) hx hb dX4_ahead_63 hl (k := 2) rfl (nI_1 b) (by decide) rfl (fun ls hl => ?_)
          refine lv_goto (tgt := 18) hx hb dX4_ahead_66 (by decide) ?_
          have e9 : (q_oi (rAhd G (b + 1))) = (q_oi (rAhd G b)) := by simp only [rAhd, q_oi, if_neg c_9, if_pos c_38]
          have hl : lv_has ls 3 [(2, .int (nI (b + 1))), (0, .ref mo), (1, .int (q_oi (rAhd G (b + 1))))] := by rw [e9]; exact hl
          exact ih18 (b + 1) (by omega) (by omega)   _ _ ls hP hD hS (lv_sub hl [1, 2, 0] rfl)
        · cases h9o : rAhd G b with
          | none =>
            rw [h9o] at hl
            have hl : lv_has ls 3 [(0, .ref mo), (1, .int (-1)), (2, .int (nI b))] := hl
            refine lv_iload_n hx hb dX4_ahead_41 rfl (lv_at hl 1 rfl) ?_
            refine lv_iconst (v := (-1)) hx hb dX4_ahead_42 (by decide) ?_
            refine lv_icmp_eq (tgt := 61) hx hb dX4_ahead_43 (by decide) (fun c_43 => ?_) (fun c_43 => absurd rfl c_43)
            refine lv_iload_n hx hb dX4_ahead_61 rfl (lv_at hl 2 rfl) ?_
            refine lv_istore_n (lv' := [(1, .int (nI b)), (0, .ref mo), (2, .int (nI b))]) hx hb dX4_ahead_62 rfl hl (by decide) rfl (fun ls hl => ?_)
            refine lv_iinc (v := (nI (b + 1))) (lv' := [(2, .int (nI (b + 1))), (1, .int (nI b)), (0, .ref mo)]) hx hb dX4_ahead_63 hl (k := 2) rfl (nI_1 b) (by decide) rfl (fun ls hl => ?_)
            refine lv_goto (tgt := 18) hx hb dX4_ahead_66 (by decide) ?_
            have e9 : (q_oi (rAhd G (b + 1))) = (nI b) := by simp only [rAhd, q_oi, if_neg c_9, if_neg c_38, h9o, if_pos c_43]
            have hl : lv_has ls 3 [(2, .int (nI (b + 1))), (1, .int (q_oi (rAhd G (b + 1)))), (0, .ref mo)] := by rw [e9]; exact hl
            exact ih18 (b + 1) (by omega) (by omega)   _ _ ls hP hD hS (lv_sub hl [2, 1, 0] rfl)
          | some j9 =>
            have h9j : j9 < b := rAhd_lt h9o
            rw [h9o] at hl
            have hl : lv_has ls 3 [(0, .ref mo), (1, .int (nI j9)), (2, .int (nI b))] := hl
            refine lv_iload_n hx hb dX4_ahead_41 rfl (lv_at hl 1 rfl) ?_
            refine lv_iconst (v := (-1)) hx hb dX4_ahead_42 (by decide) ?_
            refine lv_icmp_eq (tgt := 61) hx hb dX4_ahead_43 (by decide) (fun c_43 => absurd c_43 (q_oi_ne (by omega))) (fun c_43 => ?_)
            refine lv_aload_n hx hb dX4_ahead_46 rfl (lv_at hl 0 rfl) ?_
            refine lv_iload_n hx hb dX4_ahead_47 rfl (lv_at hl 2 rfl) ?_
            refine lv_iconst (v := 5) hx hb dX4_ahead_48 (by decide) ?_
            refine q_callV (As := [.int (nI b), .int 5]) (rs := []) hC (c_X4_bo l D T mo mw me mf mn nb nj 0 len G b 5 (G b) (by omega) (by omega) rfl) q_no_st q_no_at (cwV 2 hts gX4_ahead_X4_bo rfl rfl rfl (by decide +kernel) ⟨Nat.le_of_ble_eq_true rfl, Nat.le_of_ble_eq_true rfl⟩) (va_recv hK hP (ci := 5) (q0 := 0) rfl rfl) hK hP hD hS hA (q_mask [true, true, false] _) rfl hl.1 rfl (Nat.le_of_ble_eq_true rfl) dX4_ahead_49 ⟨(Nat.le_of_ble_eq_true rfl), (Nat.le_of_ble_eq_true rfl)⟩ (fun v9 C9 H locs hp hP hD hS => ?_)
            obtain ⟨rfl, rfl⟩ := hp
            have hP : va_P D vwCl [q_mc mo 0 nb nj len mw me mf mn, q_fa T mf G, q_ia T mn 4 nu] H := q_P_perm (q_mrg_perm [true, true, false] _ _) hP
            have hD : va_D A [q_mc mo 0 nb nj len mw me mf mn, q_fa T mf G, q_ia T mn 4 nu] := q_D_perm (q_mrg_perm [true, true, false] _ _) hD
            refine lv_aload_n hx hb dX4_ahead_52 rfl (lv_at hl 0 rfl) ?_
            refine lv_iload_n hx hb dX4_ahead_53 rfl (lv_at hl 1 rfl) ?_
            refine lv_iconst (v := 5) hx hb dX4_ahead_54 (by decide) ?_
            refine q_callV (As := [.int (nI j9), .int 5]) (rs := [.int (G b 5)]) hC (c_X4_bo l D T mo mw me mf mn nb nj 0 len G j9 5 (G j9) (by omega) (by omega) rfl) q_no_st q_no_at (cwV 2 hts gX4_ahead_X4_bo rfl rfl rfl (by decide +kernel) ⟨Nat.le_of_ble_eq_true rfl, Nat.le_of_ble_eq_true rfl⟩) (va_recv hK hP (ci := 5) (q0 := 0) rfl rfl) hK hP hD hS hA (q_mask [true, true, false] _) rfl hl.1 rfl (Nat.le_of_ble_eq_true rfl) dX4_ahead_55 ⟨(Nat.le_of_ble_eq_true rfl), (Nat.le_of_ble_eq_true rfl)⟩ (fun v9 C9 H locs hp hP hD hS => ?_)
            obtain ⟨rfl, rfl⟩ := hp
            have hP : va_P D vwCl [q_mc mo 0 nb nj len mw me mf mn, q_fa T mf G, q_ia T mn 4 nu] H := q_P_perm (q_mrg_perm [true, true, false] _ _) hP
            have hD : va_D A [q_mc mo 0 nb nj len mw me mf mn, q_fa T mf G, q_ia T mn 4 nu] := q_D_perm (q_mrg_perm [true, true, false] _ _) hD
            refine lv_icmp_le (tgt := 63) hx hb dX4_ahead_58 (by decide) (fun c_58 => ?_) (fun c_58 => ?_)
            · refine lv_iinc (v := (nI (b + 1))) (lv' := [(2, .int (nI (b + 1))), (0, .ref mo), (1, .int (nI j9))]) hx hb dX4_ahead_63 hl (k := 2) rfl (nI_1 b) (by decide) rfl (fun ls hl => ?_)
              refine lv_goto (tgt := 18) hx hb dX4_ahead_66 (by decide) ?_
              have e9 : (q_oi (rAhd G (b + 1))) = (nI j9) := by simp only [rAhd, q_oi, if_neg c_9, if_neg c_38, h9o, if_neg c_43, if_pos c_58]
              have hl : lv_has ls 3 [(2, .int (nI (b + 1))), (0, .ref mo), (1, .int (q_oi (rAhd G (b + 1))))] := by rw [e9]; exact hl
              exact ih18 (b + 1) (by omega) (by omega)   _ _ ls hP hD hS (lv_sub hl [1, 2, 0] rfl)
            · refine lv_iload_n hx hb dX4_ahead_61 rfl (lv_at hl 2 rfl) ?_
              refine lv_istore_n (lv' := [(1, .int (nI b)), (0, .ref mo), (2, .int (nI b))]) hx hb dX4_ahead_62 rfl hl (by decide) rfl (fun ls hl => ?_)
              refine lv_iinc (v := (nI (b + 1))) (lv' := [(2, .int (nI (b + 1))), (1, .int (nI b)), (0, .ref mo)]) hx hb dX4_ahead_63 hl (k := 2) rfl (nI_1 b) (by decide) rfl (fun ls hl => ?_)
              refine lv_goto (tgt := 18) hx hb dX4_ahead_66 (by decide) ?_
              have e9 : (q_oi (rAhd G (b + 1))) = (nI b) := by simp only [rAhd, q_oi, if_neg c_9, if_neg c_38, h9o, if_neg c_43, if_neg c_58]
              have hl : lv_has ls 3 [(2, .int (nI (b + 1))), (1, .int (q_oi (rAhd G (b + 1)))), (0, .ref mo)] := by rw [e9]; exact hl
              exact ih18 (b + 1) (by omega) (by omega)   _ _ ls hP hD hS (lv_sub hl [2, 1, 0] rfl)
  exact L18 (nb + 1) 0 (by omega) (by omega)   _ _ ls hP hD hS (lv_sub hl [2, 1, 0] rfl)
abbrev rmX4_champion : Room := { frames := 1, cells := 0, slots := 0, locals := 22 }
set_option maxHeartbeats 1000000 in
set_option maxRecDepth 100000 in
theorem c_X4_champion_ok (l : Launch) (D : va_G) (T : Nat → ClassId) (mo mw me mf mn nb nj : Nat) (th len : Int32) (G : Nat → Nat → Int32) (hn : nb ≤ 8) : q_M l D (q_ty T) yX4_champion wsX4_champion rmX4_champion [.ref mo] [q_mc mo th nb nj len mw me mf mn, q_fa T mf G] q_no (q_is (some (.int (q_oi (rChm G nb)))) [q_mc mo 0 nb nj len mw me mf mn, q_fa T mf G]) := by
  refine q_start (cc := cX4_champion) (maxL := 3) (ret := (some .int)) (by decide) rfl (Nat.le_of_ble_eq_true rfl) ?_
  intro p e s m args below meth c A H locs hx hb hr hts hown hlocks hml hnm hP hK hD hS hA hG ls hl
  have hown : s.vm.findClass RX4 = some m.cls := hown
  have hC : CallFix p m c cX4_champion 3 s args wsX4_champion RX4 := ⟨hx, hb, hml, hown, hts⟩
  have iX4 : ∀ w ∈ wsX40, w ∈ wsX4_champion := by decide +kernel
  have hl : lv_has ls 3 [(0, .ref mo)] := hl
  refine lv_aload_n hx hb dX4_champion_0 rfl (lv_at hl 0 rfl) ?_
  refine lv_iconst (v := 0) hx hb dX4_champion_1 (by decide) ?_
  refine va_put (D := D) (ci := 5) (v := .int 0) (ty := .int) (C := RX4) (T := TX4) (N := 8) hx hb hts iX4 tyX4 tyX4_ok nmX4 hown hK hP hD hS 0 rfl rfl 0 (by decide) (hts (.fieldLink RX4 26 "ToyRegattaModel" "thrown" "I") (by decide +kernel)) (fun _ h9 => h9) rfl (by decide +kernel) rfl rfl (Nat.le_of_ble_eq_true rfl) dX4_champion_2 (fun H locs hP hD hS => ?_)
  have hP : va_P D vwCl [q_mc mo 0 nb nj len mw me mf mn, q_fa T mf G] H := hP
  have hD : va_D A [q_mc mo 0 nb nj len mw me mf mn, q_fa T mf G] := hD
  refine lv_iconst (v := (-1)) hx hb dX4_champion_5 (by decide) ?_
  refine lv_istore_n (lv' := [(1, .int (-1)), (0, .ref mo)]) hx hb dX4_champion_6 rfl hl (by decide) rfl (fun ls hl => ?_)
  refine lv_iconst (v := 0) hx hb dX4_champion_7 (by decide) ?_
  refine lv_istore_n (lv' := [(2, .int 0), (1, .int (-1)), (0, .ref mo)]) hx hb dX4_champion_8 rfl hl (by decide) rfl (fun ls hl => ?_)
  have L9 : ∀ (f9 b : Nat) (h9a : nb < b + f9) (h9b : b ≤ nb) (H : Heap) (locs : List Loc) (ls : Array Slot), va_P D vwCl [q_mc mo 0 nb nj len mw me mf mn, q_fa T mf G] H → va_D A [q_mc mo 0 nb nj len mw me mf mn, q_fa T mf G] → va_S A s.heap H locs → lv_has ls 3 [(0, .ref mo), (1, .int (q_oi (rChm G b))), (2, .int (nI b))] → W p l e rmX4_champion s m args below meth c H locs 0 0 (q_E below D (q_ty T) (q_is (some (.int (q_oi (rChm G nb)))) [q_mc mo 0 nb nj len mw me mf mn, q_fa T mf G]) A args s rmX4_champion) (F0 m 9 ls []) := by
    intro f9
    induction f9 with
    | zero => intro b h9a h9b; exact absurd h9a (by omega)
    | succ f9 ih9 =>
      intro b h9a h9b   H locs ls hP hD hS hl
      refine lv_iload_n hx hb dX4_champion_9 rfl (lv_at hl 2 rfl) ?_
      refine lv_aload_n hx hb dX4_champion_10 rfl (lv_at hl 0 rfl) ?_
      refine va_get (D := D) (ci := 5) (v := .int (nI nb)) (C := RX4) (T := TX4) (N := 8) hx hb hts iX4 hown hK hP 0 rfl rfl 1 (by decide) (hts (.fieldLink RX4 29 "ToyRegattaModel" "boats" "I") (by decide +kernel)) (fun _ h9 => h9) rfl dX4_champion_11 ?_
      refine lv_icmp_ge (tgt := 75) hx hb dX4_champion_14 (by decide) (fun c_14 => ?_) (fun c_14 => ?_)
      · have h9d := (q_exit c_14 h9b (by omega)).symm
        subst h9d
        refine lv_iload_n hx hb dX4_champion_75 rfl (lv_at hl 1 rfl) ?_
        exact q_iret hx hb hr hlocks hP hK hD hS (Nat.le_of_ble_eq_true rfl) (Nat.le_of_ble_eq_true rfl) dX4_champion_76 ⟨rfl, rfl⟩
      · have h9d := q_goon c_14 (by omega)
        cases h9o : rChm G b with
        | none =>
          rw [h9o] at hl
          have hl : lv_has ls 3 [(0, .ref mo), (1, .int (-1)), (2, .int (nI b))] := hl
          refine lv_iload_n hx hb dX4_champion_17 rfl (lv_at hl 1 rfl) ?_
          refine lv_iconst (v := (-1)) hx hb dX4_champion_18 (by decide) ?_
          refine lv_icmp_eq (tgt := 67) hx hb dX4_champion_19 (by decide) (fun c_19 => ?_) (fun c_19 => absurd rfl c_19)
          refine lv_iload_n hx hb dX4_champion_67 rfl (lv_at hl 2 rfl) ?_
          refine lv_istore_n (lv' := [(1, .int (nI b)), (0, .ref mo), (2, .int (nI b))]) hx hb dX4_champion_68 rfl hl (by decide) rfl (fun ls hl => ?_)
          refine lv_iinc (v := (nI (b + 1))) (lv' := [(2, .int (nI (b + 1))), (1, .int (nI b)), (0, .ref mo)]) hx hb dX4_champion_69 hl (k := 2) rfl (nI_1 b) (by decide) rfl (fun ls hl => ?_)
          refine lv_goto (tgt := 9) hx hb dX4_champion_72 (by decide) ?_
          have e9 : (q_oi (rChm G (b + 1))) = (nI b) := by simp only [rChm, q_oi, h9o, if_pos c_19]
          have hl : lv_has ls 3 [(2, .int (nI (b + 1))), (1, .int (q_oi (rChm G (b + 1)))), (0, .ref mo)] := by rw [e9]; exact hl
          exact ih9 (b + 1) (by omega) (by omega)   _ _ ls hP hD hS (lv_sub hl [2, 1, 0] rfl)
        | some j9 =>
          have h9j : j9 < b := rChm_lt h9o
          rw [h9o] at hl
          have hl : lv_has ls 3 [(0, .ref mo), (1, .int (nI j9)), (2, .int (nI b))] := hl
          refine lv_iload_n hx hb dX4_champion_17 rfl (lv_at hl 1 rfl) ?_
          refine lv_iconst (v := (-1)) hx hb dX4_champion_18 (by decide) ?_
          refine lv_icmp_eq (tgt := 67) hx hb dX4_champion_19 (by decide) (fun c_19 => absurd c_19 (q_oi_ne (by omega))) (fun c_19 => ?_)
          refine lv_aload_n hx hb dX4_champion_22 rfl (lv_at hl 0 rfl) ?_
          refine lv_iload_n hx hb dX4_champion_23 rfl (lv_at hl 2 rfl) ?_
          refine lv_iconst (v := 3) hx hb dX4_champion_24 (by decide) ?_
          refine q_callV (As := [.int (nI b), .int 3]) (rs := []) hC (c_X4_bo l D T mo mw me mf mn nb nj 0 len G b 3 (G b) (by omega) (by omega) rfl) q_no_st q_no_at (cwV 2 hts gX4_champion_X4_bo rfl rfl rfl (by decide +kernel) ⟨Nat.le_of_ble_eq_true rfl, Nat.le_of_ble_eq_true rfl⟩) (va_recv hK hP (ci := 5) (q0 := 0) rfl rfl) hK hP hD hS hA (q_mask [true, true] _) rfl hl.1 rfl (Nat.le_of_ble_eq_true rfl) dX4_champion_25 ⟨(Nat.le_of_ble_eq_true rfl), (Nat.le_of_ble_eq_true rfl)⟩ (fun v9 C9 H locs hp hP hD hS => ?_)
          obtain ⟨rfl, rfl⟩ := hp
          have hP : va_P D vwCl [q_mc mo 0 nb nj len mw me mf mn, q_fa T mf G] H := q_P_perm (q_mrg_perm [true, true] _ _) hP
          have hD : va_D A [q_mc mo 0 nb nj len mw me mf mn, q_fa T mf G] := q_D_perm (q_mrg_perm [true, true] _ _) hD
          refine lv_aload_n hx hb dX4_champion_28 rfl (lv_at hl 0 rfl) ?_
          refine lv_iload_n hx hb dX4_champion_29 rfl (lv_at hl 1 rfl) ?_
          refine lv_iconst (v := 3) hx hb dX4_champion_30 (by decide) ?_
          refine q_callV (As := [.int (nI j9), .int 3]) (rs := [.int (G b 3)]) hC (c_X4_bo l D T mo mw me mf mn nb nj 0 len G j9 3 (G j9) (by omega) (by omega) rfl) q_no_st q_no_at (cwV 2 hts gX4_champion_X4_bo rfl rfl rfl (by decide +kernel) ⟨Nat.le_of_ble_eq_true rfl, Nat.le_of_ble_eq_true rfl⟩) (va_recv hK hP (ci := 5) (q0 := 0) rfl rfl) hK hP hD hS hA (q_mask [true, true] _) rfl hl.1 rfl (Nat.le_of_ble_eq_true rfl) dX4_champion_31 ⟨(Nat.le_of_ble_eq_true rfl), (Nat.le_of_ble_eq_true rfl)⟩ (fun v9 C9 H locs hp hP hD hS => ?_)
          obtain ⟨rfl, rfl⟩ := hp
          have hP : va_P D vwCl [q_mc mo 0 nb nj len mw me mf mn, q_fa T mf G] H := q_P_perm (q_mrg_perm [true, true] _ _) hP
          have hD : va_D A [q_mc mo 0 nb nj len mw me mf mn, q_fa T mf G] := q_D_perm (q_mrg_perm [true, true] _ _) hD
          refine lv_icmp_gt (tgt := 67) hx hb dX4_champion_34 (by decide) (fun c_34 => ?_) (fun c_34 => ?_)
          · refine lv_iload_n hx hb dX4_champion_67 rfl (lv_at hl 2 rfl) ?_
            refine lv_istore_n (lv' := [(1, .int (nI b)), (0, .ref mo), (2, .int (nI b))]) hx hb dX4_champion_68 rfl hl (by decide) rfl (fun ls hl => ?_)
            refine lv_iinc (v := (nI (b + 1))) (lv' := [(2, .int (nI (b + 1))), (1, .int (nI b)), (0, .ref mo)]) hx hb dX4_champion_69 hl (k := 2) rfl (nI_1 b) (by decide) rfl (fun ls hl => ?_)
            refine lv_goto (tgt := 9) hx hb dX4_champion_72 (by decide) ?_
            have e9 : (q_oi (rChm G (b + 1))) = (nI b) := by simp only [rChm, q_oi, h9o, if_neg c_19, if_pos c_34]
            have hl : lv_has ls 3 [(2, .int (nI (b + 1))), (1, .int (q_oi (rChm G (b + 1)))), (0, .ref mo)] := by rw [e9]; exact hl
            exact ih9 (b + 1) (by omega) (by omega)   _ _ ls hP hD hS (lv_sub hl [2, 1, 0] rfl)
          · refine lv_aload_n hx hb dX4_champion_37 rfl (lv_at hl 0 rfl) ?_
            refine lv_iload_n hx hb dX4_champion_38 rfl (lv_at hl 2 rfl) ?_
            refine lv_iconst (v := 3) hx hb dX4_champion_39 (by decide) ?_
            refine q_callV (As := [.int (nI b), .int 3]) (rs := []) hC (c_X4_bo l D T mo mw me mf mn nb nj 0 len G b 3 (G b) (by omega) (by omega) rfl) q_no_st q_no_at (cwV 2 hts gX4_champion_X4_bo rfl rfl rfl (by decide +kernel) ⟨Nat.le_of_ble_eq_true rfl, Nat.le_of_ble_eq_true rfl⟩) (va_recv hK hP (ci := 5) (q0 := 0) rfl rfl) hK hP hD hS hA (q_mask [true, true] _) rfl hl.1 rfl (Nat.le_of_ble_eq_true rfl) dX4_champion_40 ⟨(Nat.le_of_ble_eq_true rfl), (Nat.le_of_ble_eq_true rfl)⟩ (fun v9 C9 H locs hp hP hD hS => ?_)
            obtain ⟨rfl, rfl⟩ := hp
            have hP : va_P D vwCl [q_mc mo 0 nb nj len mw me mf mn, q_fa T mf G] H := q_P_perm (q_mrg_perm [true, true] _ _) hP
            have hD : va_D A [q_mc mo 0 nb nj len mw me mf mn, q_fa T mf G] := q_D_perm (q_mrg_perm [true, true] _ _) hD
            refine lv_aload_n hx hb dX4_champion_43 rfl (lv_at hl 0 rfl) ?_
            refine lv_iload_n hx hb dX4_champion_44 rfl (lv_at hl 1 rfl) ?_
            refine lv_iconst (v := 3) hx hb dX4_champion_45 (by decide) ?_
            refine q_callV (As := [.int (nI j9), .int 3]) (rs := [.int (G b 3)]) hC (c_X4_bo l D T mo mw me mf mn nb nj 0 len G j9 3 (G j9) (by omega) (by omega) rfl) q_no_st q_no_at (cwV 2 hts gX4_champion_X4_bo rfl rfl rfl (by decide +kernel) ⟨Nat.le_of_ble_eq_true rfl, Nat.le_of_ble_eq_true rfl⟩) (va_recv hK hP (ci := 5) (q0 := 0) rfl rfl) hK hP hD hS hA (q_mask [true, true] _) rfl hl.1 rfl (Nat.le_of_ble_eq_true rfl) dX4_champion_46 ⟨(Nat.le_of_ble_eq_true rfl), (Nat.le_of_ble_eq_true rfl)⟩ (fun v9 C9 H locs hp hP hD hS => ?_)
            obtain ⟨rfl, rfl⟩ := hp
            have hP : va_P D vwCl [q_mc mo 0 nb nj len mw me mf mn, q_fa T mf G] H := q_P_perm (q_mrg_perm [true, true] _ _) hP
            have hD : va_D A [q_mc mo 0 nb nj len mw me mf mn, q_fa T mf G] := q_D_perm (q_mrg_perm [true, true] _ _) hD
            refine lv_icmp_ne (tgt := 69) hx hb dX4_champion_49 (by decide) (fun c_49 => ?_) (fun c_49 => ?_)
            · refine lv_iinc (v := (nI (b + 1))) (lv' := [(2, .int (nI (b + 1))), (0, .ref mo), (1, .int (nI j9))]) hx hb dX4_champion_69 hl (k := 2) rfl (nI_1 b) (by decide) rfl (fun ls hl => ?_)
              refine lv_goto (tgt := 9) hx hb dX4_champion_72 (by decide) ?_
              have e9 : (q_oi (rChm G (b + 1))) = (nI j9) := by simp only [rChm, q_oi, h9o, if_neg c_19, if_neg c_34, if_neg c_49]
              have hl : lv_has ls 3 [(2, .int (nI (b + 1))), (0, .ref mo), (1, .int (q_oi (rChm G (b + 1))))] := by rw [e9]; exact hl
              exact ih9 (b + 1) (by omega) (by omega)   _ _ ls hP hD hS (lv_sub hl [1, 2, 0] rfl)
            · refine lv_aload_n hx hb dX4_champion_52 rfl (lv_at hl 0 rfl) ?_
              refine lv_iload_n hx hb dX4_champion_53 rfl (lv_at hl 2 rfl) ?_
              refine lv_iconst (v := 4) hx hb dX4_champion_54 (by decide) ?_
              refine q_callV (As := [.int (nI b), .int 4]) (rs := []) hC (c_X4_bo l D T mo mw me mf mn nb nj 0 len G b 4 (G b) (by omega) (by omega) rfl) q_no_st q_no_at (cwV 2 hts gX4_champion_X4_bo rfl rfl rfl (by decide +kernel) ⟨Nat.le_of_ble_eq_true rfl, Nat.le_of_ble_eq_true rfl⟩) (va_recv hK hP (ci := 5) (q0 := 0) rfl rfl) hK hP hD hS hA (q_mask [true, true] _) rfl hl.1 rfl (Nat.le_of_ble_eq_true rfl) dX4_champion_55 ⟨(Nat.le_of_ble_eq_true rfl), (Nat.le_of_ble_eq_true rfl)⟩ (fun v9 C9 H locs hp hP hD hS => ?_)
              obtain ⟨rfl, rfl⟩ := hp
              have hP : va_P D vwCl [q_mc mo 0 nb nj len mw me mf mn, q_fa T mf G] H := q_P_perm (q_mrg_perm [true, true] _ _) hP
              have hD : va_D A [q_mc mo 0 nb nj len mw me mf mn, q_fa T mf G] := q_D_perm (q_mrg_perm [true, true] _ _) hD
              refine lv_aload_n hx hb dX4_champion_58 rfl (lv_at hl 0 rfl) ?_
              refine lv_iload_n hx hb dX4_champion_59 rfl (lv_at hl 1 rfl) ?_
              refine lv_iconst (v := 4) hx hb dX4_champion_60 (by decide) ?_
              refine q_callV (As := [.int (nI j9), .int 4]) (rs := [.int (G b 4)]) hC (c_X4_bo l D T mo mw me mf mn nb nj 0 len G j9 4 (G j9) (by omega) (by omega) rfl) q_no_st q_no_at (cwV 2 hts gX4_champion_X4_bo rfl rfl rfl (by decide +kernel) ⟨Nat.le_of_ble_eq_true rfl, Nat.le_of_ble_eq_true rfl⟩) (va_recv hK hP (ci := 5) (q0 := 0) rfl rfl) hK hP hD hS hA (q_mask [true, true] _) rfl hl.1 rfl (Nat.le_of_ble_eq_true rfl) dX4_champion_61 ⟨(Nat.le_of_ble_eq_true rfl), (Nat.le_of_ble_eq_true rfl)⟩ (fun v9 C9 H locs hp hP hD hS => ?_)
              obtain ⟨rfl, rfl⟩ := hp
              have hP : va_P D vwCl [q_mc mo 0 nb nj len mw me mf mn, q_fa T mf G] H := q_P_perm (q_mrg_perm [true, true] _ _) hP
              have hD : va_D A [q_mc mo 0 nb nj len mw me mf mn, q_fa T mf G] := q_D_perm (q_mrg_perm [true, true] _ _) hD
              refine lv_icmp_ge (tgt := 69) hx hb dX4_champion_64 (by decide) (fun c_64 => ?_) (fun c_64 => ?_)
              · refine lv_iinc (v := (nI (b + 1))) (lv' := [(2, .int (nI (b + 1))), (0, .ref mo), (1, .int (nI j9))]) hx hb dX4_champion_69 hl (k := 2) rfl (nI_1 b) (by decide) rfl (fun ls hl => ?_)
                refine lv_goto (tgt := 9) hx hb dX4_champion_72 (by decide) ?_
                have e9 : (q_oi (rChm G (b + 1))) = (nI j9) := by simp only [rChm, q_oi, h9o, if_neg c_19, if_neg c_34, if_pos c_49, if_pos c_64]
                have hl : lv_has ls 3 [(2, .int (nI (b + 1))), (0, .ref mo), (1, .int (q_oi (rChm G (b + 1))))] := by rw [e9]; exact hl
                exact ih9 (b + 1) (by omega) (by omega)   _ _ ls hP hD hS (lv_sub hl [1, 2, 0] rfl)
              · refine lv_iload_n hx hb dX4_champion_67 rfl (lv_at hl 2 rfl) ?_
                refine lv_istore_n (lv' := [(1, .int (nI b)), (0, .ref mo), (2, .int (nI b))]) hx hb dX4_champion_68 rfl hl (by decide) rfl (fun ls hl => ?_)
                refine lv_iinc (v := (nI (b + 1))) (lv' := [(2, .int (nI (b + 1))), (1, .int (nI b)), (0, .ref mo)]) hx hb dX4_champion_69 hl (k := 2) rfl (nI_1 b) (by decide) rfl (fun ls hl => ?_)
                refine lv_goto (tgt := 9) hx hb dX4_champion_72 (by decide) ?_
                have e9 : (q_oi (rChm G (b + 1))) = (nI b) := by simp only [rChm, q_oi, h9o, if_neg c_19, if_neg c_34, if_pos c_49, if_neg c_64]
                have hl : lv_has ls 3 [(2, .int (nI (b + 1))), (1, .int (q_oi (rChm G (b + 1)))), (0, .ref mo)] := by rw [e9]; exact hl
                exact ih9 (b + 1) (by omega) (by omega)   _ _ ls hP hD hS (lv_sub hl [2, 1, 0] rfl)
  exact L9 (nb + 1) 0 (by omega) (by omega)   _ _ ls hP hD hS (lv_sub hl [2, 1, 0] rfl)

set_option maxRecDepth 100000 in
theorem q_mean_ok : ∀ m, m < 73 → ∀ n, n < 9 → n ≠ 0 → (FP.ddiv (FP.i2d (nI m)) (FP.i2d (nI n))) &&& 0x7fffffffffffffff ≤ 0x7ff0000000000000 := by decide +kernel
theorem q_sumb {f : Nat → Int32} {c : Nat} (hf : ∀ k, ∃ m, m ≤ c ∧ f k = nI m) : ∀ n : Nat, ∃ m, m ≤ c * n ∧ q_sum f n = nI m
  | 0 => ⟨0, Nat.zero_le _, rfl⟩
  | n + 1 => by
    obtain ⟨m, h1, h2⟩ := q_sumb hf n
    obtain ⟨k, h3, h4⟩ := hf n
    exact ⟨m + k, by rw [Nat.mul_succ]; omega, by rw [q_sum, h2, h4, nI_add]⟩
theorem q_sumbn {f : Nat → Int32} {c N : Nat} (hf : ∀ k, k < N → ∃ m, m ≤ c ∧ f k = nI m) : ∃ m, m ≤ c * N ∧ q_sum f N = nI m := by
  obtain ⟨m, h1, h2⟩ := q_sumb (f := fun k => if k < N then f k else 0) (c := c) (fun k => by
    by_cases h : k < N
    · simp only [if_pos h]; exact hf k h
    · simp only [if_neg h]; exact ⟨0, Nat.zero_le _, rfl⟩) N
  exact ⟨m, h1, by rw [← h2]; exact q_sum_congr fun k hk => by rw [if_pos hk]⟩
/-- the mean of n leads whose sum is x -/
def qMean (x : Int32) (n : Nat) : UInt64 := if nI n = 0 then FP.dconst0 else FP.ddiv (FP.i2d x) (FP.i2d (nI n))
theorem q_mean_n {F : Nat → Nat → Int32} {n : Nat} (hn : n ≤ 8) (h0 : ¬ nI n = 0) (hl : ∀ b, b < n → ∃ m, m ≤ 9 ∧ F b 2 = nI m) : vf_n64 (FP.ddiv (FP.i2d (q_sum (dCol F 2) n)) (FP.i2d (nI n))) := by
  obtain ⟨m, h1, h2⟩ := q_sumbn (f := dCol F 2) (c := 9) (N := n) hl
  rw [h2]
  exact q_mean_ok m (by omega) n (by omega) (fun e => h0 (by rw [e]; rfl))

abbrev rmX4_mean : Room := { frames := 2, cells := 0, slots := 0, locals := 45 }
set_option maxHeartbeats 1000000 in
set_option maxRecDepth 100000 in
theorem c_X4_mean_ok (l : Launch) (D : va_G) (T : Nat → ClassId) (mo mw me mf mn nb nj : Nat) (th len : Int32) (G : Nat → Nat → Int32) (hn : nb ≤ 8) (hle : ∀ b, b < nb → ∃ m, m ≤ 9 ∧ G b 2 = nI m) : q_M l D (q_ty T) yX4_mean wsX4_mean rmX4_mean [.ref mo] [q_mc mo th nb nj len mw me mf mn, q_fa T mf G] q_no (q_is (some (.double (qMean (q_sum (dCol G 2) nb) nb))) [q_mc mo 0 nb nj len mw me mf mn, q_fa T mf G]) := by
  refine q_start (cc := cX4_mean) (maxL := 1) (ret := (some .double)) (by decide) rfl (Nat.le_of_ble_eq_true rfl) ?_
  intro p e s m args below meth c A H locs hx hb hr hts hown hlocks hml hnm hP hK hD hS hA hG ls hl
  have hown : s.vm.findClass RX4 = some m.cls := hown
  have hC : CallFix p m c cX4_mean 1 s args wsX4_mean RX4 := ⟨hx, hb, hml, hown, hts⟩
  have iX4 : ∀ w ∈ wsX40, w ∈ wsX4_mean := by decide +kernel
  have hl : lv_has ls 1 [(0, .ref mo)] := hl
  refine lv_aload_n hx hb dX4_mean_0 rfl (lv_at hl 0 rfl) ?_
  refine lv_iconst (v := 0) hx hb dX4_mean_1 (by decide) ?_
  refine va_put (D := D) (ci := 5) (v := .int 0) (ty := .int) (C := RX4) (T := TX4) (N := 8) hx hb hts iX4 tyX4 tyX4_ok nmX4 hown hK hP hD hS 0 rfl rfl 0 (by decide) (hts (.fieldLink RX4 26 "ToyRegattaModel" "thrown" "I") (by decide +kernel)) (fun _ h9 => h9) rfl (by decide +kernel) rfl rfl (Nat.le_of_ble_eq_true rfl) dX4_mean_2 (fun H locs hP hD hS => ?_)
  have hP : va_P D vwCl [q_mc mo 0 nb nj len mw me mf mn, q_fa T mf G] H := hP
  have hD : va_D A [q_mc mo 0 nb nj len mw me mf mn, q_fa T mf G] := hD
  refine lv_aload_n hx hb dX4_mean_5 rfl (lv_at hl 0 rfl) ?_
  refine va_get (D := D) (ci := 5) (v := .int (nI nb)) (C := RX4) (T := TX4) (N := 8) hx hb hts iX4 hown hK hP 0 rfl rfl 1 (by decide) (hts (.fieldLink RX4 29 "ToyRegattaModel" "boats" "I") (by decide +kernel)) (fun _ h9 => h9) rfl dX4_mean_6 ?_
  refine lv_if_ne (tgt := 16) hx hb dX4_mean_9 (by decide) (fun c_9 => ?_) (fun c_9 => ?_)
  · refine lv_aload_n hx hb dX4_mean_16 rfl (lv_at hl 0 rfl) ?_
    refine lv_iconst (v := 2) hx hb dX4_mean_17 (by decide) ?_
    refine q_callV (As := [.int 2]) (rs := []) hC (c_X4_all l D T mo mw me mf mn nb nj 0 len G 2 (by omega) hn) q_no_st q_no_at (cwV 1 hts gX4_mean_X4_all rfl rfl rfl (by decide +kernel) ⟨Nat.le_of_ble_eq_true rfl, Nat.le_of_ble_eq_true rfl⟩) (va_recv hK hP (ci := 5) (q0 := 0) rfl rfl) hK hP hD hS hA (q_mask [true, true] _) rfl hl.1 rfl (Nat.le_of_ble_eq_true rfl) dX4_mean_18 ⟨(Nat.le_of_ble_eq_true rfl), (Nat.le_of_ble_eq_true rfl)⟩ (fun v9 C9 H locs hp hP hD hS => ?_)
    obtain ⟨rfl, rfl⟩ := hp
    have hP : va_P D vwCl [q_mc mo 0 nb nj len mw me mf mn, q_fa T mf G] H := q_P_perm (q_mrg_perm [true, true] _ _) hP
    have hD : va_D A [q_mc mo 0 nb nj len mw me mf mn, q_fa T mf G] := q_D_perm (q_mrg_perm [true, true] _ _) hD
    refine lv_i2d hx hb dX4_mean_21 ?_
    refine lv_aload_n hx hb dX4_mean_22 rfl (lv_at hl 0 rfl) ?_
    refine va_get (D := D) (ci := 5) (v := .int (nI nb)) (C := RX4) (T := TX4) (N := 8) hx hb hts iX4 hown hK hP 0 rfl rfl 1 (by decide) (hts (.fieldLink RX4 29 "ToyRegattaModel" "boats" "I") (by decide +kernel)) (fun _ h9 => h9) rfl dX4_mean_23 ?_
    refine lv_i2d hx hb dX4_mean_26 ?_
    refine lv_ddiv hx hb dX4_mean_27 (q_mean_n hn c_9 hle) ?_
    exact q_dret hx hb hr hlocks hP hK hD hS (Nat.le_of_ble_eq_true rfl) (Nat.le_of_ble_eq_true rfl) dX4_mean_28 ⟨by simp only [qMean, if_neg c_9], rfl⟩
  · refine lv_dconst0 hx hb dX4_mean_12 ?_
    refine lv_goto (tgt := 28) hx hb dX4_mean_13 (by decide) ?_
    exact q_dret hx hb hr hlocks hP hK hD hS (Nat.le_of_ble_eq_true rfl) (Nat.le_of_ble_eq_true rfl) dX4_mean_28 ⟨by simp only [qMean, if_pos c_9], rfl⟩

def qDg (f : Nat → Int32) (d : Int64) : Nat → Int64
  | 0 => d
  | k + 1 => qDg f d k * 31 + (f k).toInt64
def qDB (f g : Nat → Nat → Int32) (d : Int64) : Nat → Int64
  | 0 => d
  | b + 1 => qDg (g b) (qDg (f b) (qDB f g d b) 7) 5
theorem qDg_congr {f g : Nat → Int32} {d : Int64} : ∀ {n : Nat}, (∀ k, k < n → f k = g k) → qDg f d n = qDg g d n
  | 0, _ => rfl
  | n + 1, h => by rw [qDg, qDg, qDg_congr (fun k hk => h k (by omega)), h n (by omega)]
theorem qDB_congr {f g f2 g2 : Nat → Nat → Int32} {d : Int64} : ∀ {n : Nat}, (∀ b, b < n → ∀ k, k < 7 → f b k = f2 b k) → (∀ b, b < n → ∀ k, k < 5 → g b k = g2 b k) → qDB f g d n = qDB f2 g2 d n
  | 0, _, _ => rfl
  | n + 1, h, h2 => by
    rw [qDB, qDB, qDB_congr (fun b hb => h b (by omega)) (fun b hb => h2 b (by omega)), qDg_congr (h n (by omega)), qDg_congr (h2 n (by omega))]

abbrev rmX4_digest : Room := { frames := 4, cells := 0, slots := 0, locals := 88 }
set_option maxHeartbeats 1000000 in
set_option maxRecDepth 100000 in
theorem c_X4_digest_ok (l : Launch) (D : va_G) (T : Nat → ClassId) (mo mw me mf mn nb nj : Nat) (th len : Int32) (G : Nat → Nat → Int32) (wf ey nu : Nat → Int32) (mk : Nat) (hm : nu 0 = nI mk) (hmk : mk < 2 ^ 31) (hn : nb ≤ 8) (hj : nj ≤ 3) (hz : mHz G nb) : q_M l D (q_ty T) yX4_digest wsX4_digest rmX4_digest [.ref mo] [q_mc mo th nb nj len mw me mf mn, q_ia T mw 10 wf, q_ia T me 3 ey, q_fa T mf G, q_ia T mn 4 nu] q_no (q_is (some (.long (qDB (fun b9 k9 => qTold G b9 k9 (wf (mk % 10))) (fun b9 k9 => rAbt G nu b9 k9) (qDg ey (qDg wf (qDg (qCnt (nu 0) (wf (mk % 10)) (nI nb) (nI nj) (nu 1) (nu 2) (if bOn nu = 0 then 0 else q_sum (dSt G 1) nb) (q_sum (dCol G 3) nb) (q_sum (dCol G 4) nb)) 1319 9) 10) nj) nb))) [q_mc mo 0 nb nj len mw me mf mn, q_ia T mw 10 wf, q_ia T me 3 ey, q_fa T mf G, q_ia T mn 4 nu]) := by
  refine q_start (cc := cX4_digest) (maxL := 7) (ret := (some .long)) (by decide) rfl (Nat.le_of_ble_eq_true rfl) ?_
  intro p e s m args below meth c A H locs hx hb hr hts hown hlocks hml hnm hP hK hD hS hA hG ls hl
  have hown : s.vm.findClass RX4 = some m.cls := hown
  have hC : CallFix p m c cX4_digest 7 s args wsX4_digest RX4 := ⟨hx, hb, hml, hown, hts⟩
  have iX4 : ∀ w ∈ wsX40, w ∈ wsX4_digest := by decide +kernel
  have hl : lv_has ls 7 [(0, .ref mo)] := hl
  refine lv_aload_n hx hb dX4_digest_0 rfl (lv_at hl 0 rfl) ?_
  refine lv_iconst (v := 0) hx hb dX4_digest_1 (by decide) ?_
  refine va_put (D := D) (ci := 5) (v := .int 0) (ty := .int) (C := RX4) (T := TX4) (N := 8) hx hb hts iX4 tyX4 tyX4_ok nmX4 hown hK hP hD hS 0 rfl rfl 0 (by decide) (hts (.fieldLink RX4 26 "ToyRegattaModel" "thrown" "I") (by decide +kernel)) (fun _ h9 => h9) rfl (by decide +kernel) rfl rfl (Nat.le_of_ble_eq_true rfl) dX4_digest_2 (fun H locs hP hD hS => ?_)
  have hP : va_P D vwCl [q_mc mo 0 nb nj len mw me mf mn, q_ia T mw 10 wf, q_ia T me 3 ey, q_fa T mf G, q_ia T mn 4 nu] H := hP
  have hD : va_D A [q_mc mo 0 nb nj len mw me mf mn, q_ia T mw 10 wf, q_ia T me 3 ey, q_fa T mf G, q_ia T mn 4 nu] := hD
  refine lv_ldc2 (v := (1319)) hx hb hown (hts (.constantLong RX4 150 (1319)) (by decide +kernel)) dX4_digest_5 ?_
  refine lv_lstore_n (lv' := [(1, .long (1319)), (0, .ref mo)]) hx hb dX4_digest_8 rfl hl (by decide) rfl (fun ls hl => ?_)
  refine lv_iconst (v := 0) hx hb dX4_digest_9 (by decide) ?_
  refine lv_istore_n (lv' := [(3, .int 0), (1, .long (1319)), (0, .ref mo)]) hx hb dX4_digest_10 rfl hl (by decide) rfl (fun ls hl => ?_)
  have L11 : ∀ (f9 k : Nat) (h9a : 9 < k + f9) (h9b : k ≤ 9) (H : Heap) (locs : List Loc) (ls : Array Slot), va_P D vwCl [q_mc mo 0 nb nj len mw me mf mn, q_ia T mw 10 wf, q_ia T me 3 ey, q_fa T mf G, q_ia T mn 4 nu] H → va_D A [q_mc mo 0 nb nj len mw me mf mn, q_ia T mw 10 wf, q_ia T me 3 ey, q_fa T mf G, q_ia T mn 4 nu] → va_S A s.heap H locs → lv_has ls 7 [(0, .ref mo), (1, .long (qDg (qCnt (nu 0) (wf (mk % 10)) (nI nb) (nI nj) (nu 1) (nu 2) (if bOn nu = 0 then 0 else q_sum (dSt G 1) nb) (q_sum (dCol G 3) nb) (q_sum (dCol G 4) nb)) 1319 k)), (3, .int (nI k))] → W p l e rmX4_digest s m args below meth c H locs 0 0 (q_E below D (q_ty T) (q_is (some (.long (qDB (fun b9 k9 => qTold G b9 k9 (wf (mk % 10))) (fun b9 k9 => rAbt G nu b9 k9) (qDg ey (qDg wf (qDg (qCnt (nu 0) (wf (mk % 10)) (nI nb) (nI nj) (nu 1) (nu 2) (if bOn nu = 0 then 0 else q_sum (dSt G 1) nb) (q_sum (dCol G 3) nb) (q_sum (dCol G 4) nb)) 1319 9) 10) nj) nb))) [q_mc mo 0 nb nj len mw me mf mn, q_ia T mw 10 wf, q_ia T me 3 ey, q_fa T mf G, q_ia T mn 4 nu]) A args s rmX4_digest) (F0 m 11 ls []) := by
    intro f9
    induction f9 with
    | zero => intro k h9a h9b; exact absurd h9a (by omega)
    | succ f9 ih11 =>
      intro k h9a h9b   H locs ls hP hD hS hl
      refine lv_iload_n hx hb dX4_digest_11 rfl (lv_at hl 2 rfl) ?_
      refine lv_bipush (v := 9) hx hb dX4_digest_12 (by decide) ?_
      refine lv_icmp_ge (tgt := 36) hx hb dX4_digest_14 (by decide) (fun c_14 => ?_) (fun c_14 => ?_)
      · have h9d := (q_exit (n := 9) c_14 h9b (by omega)).symm
        subst h9d
        refine lv_aload_n hx hb dX4_digest_36 rfl (lv_at hl 0 rfl) ?_
        refine va_get (D := D) (ci := 5) (v := .ref mw) (C := RX4) (T := TX4) (N := 8) hx hb hts iX4 hown hK hP 0 rfl rfl 4 (by decide) (hts (.fieldLink RX4 13 "ToyRegattaModel" "winds" "[I") (by decide +kernel)) (fun _ h9 => h9) rfl dX4_digest_37 ?_
        refine lv_astore_n (lv' := [(3, .ref mw), (0, .ref mo), (1, .long (qDg (qCnt (nu 0) (wf (mk % 10)) (nI nb) (nI nj) (nu 1) (nu 2) (if bOn nu = 0 then 0 else q_sum (dSt G 1) nb) (q_sum (dCol G 3) nb) (q_sum (dCol G 4) nb)) 1319 9))]) hx hb dX4_digest_40 rfl hl (by decide) rfl (fun ls hl => ?_)
        refine lv_aload_n hx hb dX4_digest_41 rfl (lv_at hl 0 rfl) ?_
        refine va_alen (D := D) (v := nI 10) hx hb hK hP 1 0 rfl rfl rfl dX4_digest_42 ?_
        refine lv_istore (lv' := [(4, .int (nI 10)), (3, .ref mw), (0, .ref mo), (1, .long (qDg (qCnt (nu 0) (wf (mk % 10)) (nI nb) (nI nj) (nu 1) (nu 2) (if bOn nu = 0 then 0 else q_sum (dSt G 1) nb) (q_sum (dCol G 3) nb) (q_sum (dCol G 4) nb)) 1319 9))]) hx hb dX4_digest_43 hl (by decide) rfl (fun ls hl => ?_)
        refine lv_iconst (v := 0) hx hb dX4_digest_45 (by decide) ?_
        refine lv_istore (lv' := [(5, .int 0), (4, .int (nI 10)), (3, .ref mw), (0, .ref mo), (1, .long (qDg (qCnt (nu 0) (wf (mk % 10)) (nI nb) (nI nj) (nu 1) (nu 2) (if bOn nu = 0 then 0 else q_sum (dSt G 1) nb) (q_sum (dCol G 3) nb) (q_sum (dCol G 4) nb)) 1319 9))]) hx hb dX4_digest_46 hl (by decide) rfl (fun ls hl => ?_)
        have L48 : ∀ (f9 k : Nat) (h9a : 10 < k + f9) (h9b : k ≤ 10) (H : Heap) (locs : List Loc) (ls : Array Slot), va_P D vwCl [q_mc mo 0 nb nj len mw me mf mn, q_ia T mw 10 wf, q_ia T me 3 ey, q_fa T mf G, q_ia T mn 4 nu] H → va_D A [q_mc mo 0 nb nj len mw me mf mn, q_ia T mw 10 wf, q_ia T me 3 ey, q_fa T mf G, q_ia T mn 4 nu] → va_S A s.heap H locs → lv_has ls 7 [(0, .ref mo), (1, .long (qDg wf (qDg (qCnt (nu 0) (wf (mk % 10)) (nI nb) (nI nj) (nu 1) (nu 2) (if bOn nu = 0 then 0 else q_sum (dSt G 1) nb) (q_sum (dCol G 3) nb) (q_sum (dCol G 4) nb)) 1319 9) k)), (3, .ref mw), (4, .int (nI 10)), (5, .int (nI k))] → W p l e rmX4_digest s m args below meth c H locs 0 0 (q_E below D (q_ty T) (q_is (some (.long (qDB (fun b9 k9 => qTold G b9 k9 (wf (mk % 10))) (fun b9 k9 => rAbt G nu b9 k9) (qDg ey (qDg wf (qDg (qCnt (nu 0) (wf (mk % 10)) (nI nb) (nI nj) (nu 1) (nu 2) (if bOn nu = 0 then 0 else q_sum (dSt G 1) nb) (q_sum (dCol G 3) nb) (q_sum (dCol G 4) nb)) 1319 9) 10) nj) nb))) [q_mc mo 0 nb nj len mw me mf mn, q_ia T mw 10 wf, q_ia T me 3 ey, q_fa T mf G, q_ia T mn 4 nu]) A args s rmX4_digest) (F0 m 48 ls []) := by
          intro f9
          induction f9 with
          | zero => intro k h9a h9b; exact absurd h9a (by omega)
          | succ f9 ih48 =>
            intro k h9a h9b   H locs ls hP hD hS hl
            refine lv_iload hx hb dX4_digest_48 (lv_at hl 4 rfl) ?_
            refine lv_iload hx hb dX4_digest_50 (lv_at hl 3 rfl) ?_
            refine lv_icmp_ge (tgt := 77) hx hb dX4_digest_52 (by decide) (fun c_52 => ?_) (fun c_52 => ?_)
            · have h9d := (q_exit (n := 10) c_52 h9b (by omega)).symm
              subst h9d
              refine lv_iconst (v := 0) hx hb dX4_digest_77 (by decide) ?_
              refine lv_istore_n (lv' := [(3, .int 0), (0, .ref mo), (1, .long (qDg wf (qDg (qCnt (nu 0) (wf (mk % 10)) (nI nb) (nI nj) (nu 1) (nu 2) (if bOn nu = 0 then 0 else q_sum (dSt G 1) nb) (q_sum (dCol G 3) nb) (q_sum (dCol G 4) nb)) 1319 9) 10)), (4, .int (nI 10)), (5, .int (nI 10))]) hx hb dX4_digest_78 rfl hl (by decide) rfl (fun ls hl => ?_)
              have L79 : ∀ (f9 k : Nat) (h9a : nj < k + f9) (h9b : k ≤ nj) (H : Heap) (locs : List Loc) (ls : Array Slot), va_P D vwCl [q_mc mo 0 nb nj len mw me mf mn, q_ia T mw 10 wf, q_ia T me 3 ey, q_fa T mf G, q_ia T mn 4 nu] H → va_D A [q_mc mo 0 nb nj len mw me mf mn, q_ia T mw 10 wf, q_ia T me 3 ey, q_fa T mf G, q_ia T mn 4 nu] → va_S A s.heap H locs → lv_has ls 7 [(0, .ref mo), (1, .long (qDg ey (qDg wf (qDg (qCnt (nu 0) (wf (mk % 10)) (nI nb) (nI nj) (nu 1) (nu 2) (if bOn nu = 0 then 0 else q_sum (dSt G 1) nb) (q_sum (dCol G 3) nb) (q_sum (dCol G 4) nb)) 1319 9) 10) k)), (3, .int (nI k))] → W p l e rmX4_digest s m args below meth c H locs 0 0 (q_E below D (q_ty T) (q_is (some (.long (qDB (fun b9 k9 => qTold G b9 k9 (wf (mk % 10))) (fun b9 k9 => rAbt G nu b9 k9) (qDg ey (qDg wf (qDg (qCnt (nu 0) (wf (mk % 10)) (nI nb) (nI nj) (nu 1) (nu 2) (if bOn nu = 0 then 0 else q_sum (dSt G 1) nb) (q_sum (dCol G 3) nb) (q_sum (dCol G 4) nb)) 1319 9) 10) nj) nb))) [q_mc mo 0 nb nj len mw me mf mn, q_ia T mw 10 wf, q_ia T me 3 ey, q_fa T mf G, q_ia T mn 4 nu]) A args s rmX4_digest) (F0 m 79 ls []) := by
                intro f9
                induction f9 with
                | zero => intro k h9a h9b; exact absurd h9a (by omega)
                | succ f9 ih79 =>
                  intro k h9a h9b   H locs ls hP hD hS hl
                  refine lv_iload_n hx hb dX4_digest_79 rfl (lv_at hl 2 rfl) ?_
                  refine lv_aload_n hx hb dX4_digest_80 rfl (lv_at hl 0 rfl) ?_
                  refine va_get (D := D) (ci := 5) (v := .int (nI nj)) (C := RX4) (T := TX4) (N := 8) hx hb hts iX4 hown hK hP 0 rfl rfl 2 (by decide) (hts (.fieldLink RX4 62 "ToyRegattaModel" "judges" "I") (by decide +kernel)) (fun _ h9 => h9) rfl dX4_digest_81 ?_
                  refine lv_icmp_ge (tgt := 107) hx hb dX4_digest_84 (by decide) (fun c_84 => ?_) (fun c_84 => ?_)
                  · have h9d := (q_exit c_84 h9b (by omega)).symm
                    subst h9d
                    refine lv_iconst (v := 0) hx hb dX4_digest_107 (by decide) ?_
                    refine lv_istore_n (lv' := [(3, .int 0), (0, .ref mo), (1, .long (qDg ey (qDg wf (qDg (qCnt (nu 0) (wf (mk % 10)) (nI nb) (nI nj) (nu 1) (nu 2) (if bOn nu = 0 then 0 else q_sum (dSt G 1) nb) (q_sum (dCol G 3) nb) (q_sum (dCol G 4) nb)) 1319 9) 10) nj))]) hx hb dX4_digest_108 rfl hl (by decide) rfl (fun ls hl => ?_)
                    have L109 : ∀ (f9 b : Nat) (h9a : nb < b + f9) (h9b : b ≤ nb) (H : Heap) (locs : List Loc) (ls : Array Slot), va_P D vwCl [q_mc mo 0 nb nj len mw me mf mn, q_ia T mw 10 wf, q_ia T me 3 ey, q_fa T mf G, q_ia T mn 4 nu] H → va_D A [q_mc mo 0 nb nj len mw me mf mn, q_ia T mw 10 wf, q_ia T me 3 ey, q_fa T mf G, q_ia T mn 4 nu] → va_S A s.heap H locs → lv_has ls 7 [(0, .ref mo), (1, .long (qDB (fun b9 k9 => qTold G b9 k9 (wf (mk % 10))) (fun b9 k9 => rAbt G nu b9 k9) (qDg ey (qDg wf (qDg (qCnt (nu 0) (wf (mk % 10)) (nI nb) (nI nj) (nu 1) (nu 2) (if bOn nu = 0 then 0 else q_sum (dSt G 1) nb) (q_sum (dCol G 3) nb) (q_sum (dCol G 4) nb)) 1319 9) 10) nj) b)), (3, .int (nI b))] → W p l e rmX4_digest s m args below meth c H locs 0 0 (q_E below D (q_ty T) (q_is (some (.long (qDB (fun b9 k9 => qTold G b9 k9 (wf (mk % 10))) (fun b9 k9 => rAbt G nu b9 k9) (qDg ey (qDg wf (qDg (qCnt (nu 0) (wf (mk % 10)) (nI nb) (nI nj) (nu 1) (nu 2) (if bOn nu = 0 then 0 else q_sum (dSt G 1) nb) (q_sum (dCol G 3) nb) (q_sum (dCol G 4) nb)) 1319 9) 10) nj) nb))) [q_mc mo 0 nb nj len mw me mf mn, q_ia T mw 10 wf, q_ia T me 3 ey, q_fa T mf G, q_ia T mn 4 nu]) A args s rmX4_digest) (F0 m 109 ls []) := by
                      intro f9
                      induction f9 with
                      | zero => intro b h9a h9b; exact absurd h9a (by omega)
                      | succ f9 ih109 =>
                        intro b h9a h9b   H locs ls hP hD hS hl
                        refine lv_iload_n hx hb dX4_digest_109 rfl (lv_at hl 2 rfl) ?_
                        refine lv_aload_n hx hb dX4_digest_110 rfl (lv_at hl 0 rfl) ?_
                        refine va_get (D := D) (ci := 5) (v := .int (nI nb)) (C := RX4) (T := TX4) (N := 8) hx hb hts iX4 hown hK hP 0 rfl rfl 1 (by decide) (hts (.fieldLink RX4 29 "ToyRegattaModel" "boats" "I") (by decide +kernel)) (fun _ h9 => h9) rfl dX4_digest_111 ?_
                        refine lv_icmp_ge (tgt := 184) hx hb dX4_digest_114 (by decide) (fun c_114 => ?_) (fun c_114 => ?_)
                        · have h9d := (q_exit c_114 h9b (by omega)).symm
                          subst h9d
                          refine lv_lload_n hx hb dX4_digest_184 rfl (lv_at hl 1 rfl) ?_
                          exact q_lret hx hb hr hlocks hP hK hD hS (Nat.le_of_ble_eq_true rfl) (Nat.le_of_ble_eq_true rfl) dX4_digest_185 ⟨rfl, rfl⟩
                        · have h9d := q_goon c_114 (by omega)
                          have h9f : b < nb := h9d
                          refine lv_iconst (v := 0) hx hb dX4_digest_117 (by decide) ?_
                          refine lv_istore (lv' := [(4, .int 0), (0, .ref mo), (1, .long (qDB (fun b9 k9 => qTold G b9 k9 (wf (mk % 10))) (fun b9 k9 => rAbt G nu b9 k9) (qDg ey (qDg wf (qDg (qCnt (nu 0) (wf (mk % 10)) (nI nb) (nI nj) (nu 1) (nu 2) (if bOn nu = 0 then 0 else q_sum (dSt G 1) nb) (q_sum (dCol G 3) nb) (q_sum (dCol G 4) nb)) 1319 9) 10) nj) b)), (3, .int (nI b))]) hx hb dX4_digest_118 hl (by decide) rfl (fun ls hl => ?_)
                          have L120 : ∀ (f9 k : Nat) (h9a : 7 < k + f9) (h9b : k ≤ 7) (H : Heap) (locs : List Loc) (ls : Array Slot), va_P D vwCl [q_mc mo 0 nb nj len mw me mf mn, q_ia T mw 10 wf, q_ia T me 3 ey, q_fa T mf G, q_ia T mn 4 nu] H → va_D A [q_mc mo 0 nb nj len mw me mf mn, q_ia T mw 10 wf, q_ia T me 3 ey, q_fa T mf G, q_ia T mn 4 nu] → va_S A s.heap H locs → lv_has ls 7 [(0, .ref mo), (1, .long (qDg ((fun b9 k9 => qTold G b9 k9 (wf (mk % 10))) b) (qDB (fun b9 k9 => qTold G b9 k9 (wf (mk % 10))) (fun b9 k9 => rAbt G nu b9 k9) (qDg ey (qDg wf (qDg (qCnt (nu 0) (wf (mk % 10)) (nI nb) (nI nj) (nu 1) (nu 2) (if bOn nu = 0 then 0 else q_sum (dSt G 1) nb) (q_sum (dCol G 3) nb) (q_sum (dCol G 4) nb)) 1319 9) 10) nj) b) k)), (3, .int (nI b)), (4, .int (nI k))] → W p l e rmX4_digest s m args below meth c H locs 0 0 (q_E below D (q_ty T) (q_is (some (.long (qDB (fun b9 k9 => qTold G b9 k9 (wf (mk % 10))) (fun b9 k9 => rAbt G nu b9 k9) (qDg ey (qDg wf (qDg (qCnt (nu 0) (wf (mk % 10)) (nI nb) (nI nj) (nu 1) (nu 2) (if bOn nu = 0 then 0 else q_sum (dSt G 1) nb) (q_sum (dCol G 3) nb) (q_sum (dCol G 4) nb)) 1319 9) 10) nj) nb))) [q_mc mo 0 nb nj len mw me mf mn, q_ia T mw 10 wf, q_ia T me 3 ey, q_fa T mf G, q_ia T mn 4 nu]) A args s rmX4_digest) (F0 m 120 ls []) := by
                            intro f9
                            induction f9 with
                            | zero => intro k h9a h9b; exact absurd h9a (by omega)
                            | succ f9 ih120 =>
                              intro k h9a h9b   H locs ls hP hD hS hl
                              refine lv_iload hx hb dX4_digest_120 (lv_at hl 3 rfl) ?_
                              refine lv_bipush (v := 7) hx hb dX4_digest_122 (by decide) ?_
                              refine lv_icmp_ge (tgt := 148) hx hb dX4_digest_124 (by decide) (fun c_124 => ?_) (fun c_124 => ?_)
                              · have h9d := (q_exit (n := 7) c_124 h9b (by omega)).symm
                                subst h9d
                                refine lv_iconst (v := 0) hx hb dX4_digest_148 (by decide) ?_
                                refine lv_istore (lv' := [(4, .int 0), (0, .ref mo), (1, .long (qDg ((fun b9 k9 => qTold G b9 k9 (wf (mk % 10))) b) (qDB (fun b9 k9 => qTold G b9 k9 (wf (mk % 10))) (fun b9 k9 => rAbt G nu b9 k9) (qDg ey (qDg wf (qDg (qCnt (nu 0) (wf (mk % 10)) (nI nb) (nI nj) (nu 1) (nu 2) (if bOn nu = 0 then 0 else q_sum (dSt G 1) nb) (q_sum (dCol G 3) nb) (q_sum (dCol G 4) nb)) 1319 9) 10) nj) b) 7)), (3, .int (nI b))]) hx hb dX4_digest_149 hl (by decide) rfl (fun ls hl => ?_)
                                have L151 : ∀ (f9 k : Nat) (h9a : 5 < k + f9) (h9b : k ≤ 5) (H : Heap) (locs : List Loc) (ls : Array Slot), va_P D vwCl [q_mc mo 0 nb nj len mw me mf mn, q_ia T mw 10 wf, q_ia T me 3 ey, q_fa T mf G, q_ia T mn 4 nu] H → va_D A [q_mc mo 0 nb nj len mw me mf mn, q_ia T mw 10 wf, q_ia T me 3 ey, q_fa T mf G, q_ia T mn 4 nu] → va_S A s.heap H locs → lv_has ls 7 [(0, .ref mo), (1, .long (qDg ((fun b9 k9 => rAbt G nu b9 k9) b) (qDg ((fun b9 k9 => qTold G b9 k9 (wf (mk % 10))) b) (qDB (fun b9 k9 => qTold G b9 k9 (wf (mk % 10))) (fun b9 k9 => rAbt G nu b9 k9) (qDg ey (qDg wf (qDg (qCnt (nu 0) (wf (mk % 10)) (nI nb) (nI nj) (nu 1) (nu 2) (if bOn nu = 0 then 0 else q_sum (dSt G 1) nb) (q_sum (dCol G 3) nb) (q_sum (dCol G 4) nb)) 1319 9) 10) nj) b) 7) k)), (3, .int (nI b)), (4, .int (nI k))] → W p l e rmX4_digest s m args below meth c H locs 0 0 (q_E below D (q_ty T) (q_is (some (.long (qDB (fun b9 k9 => qTold G b9 k9 (wf (mk % 10))) (fun b9 k9 => rAbt G nu b9 k9) (qDg ey (qDg wf (qDg (qCnt (nu 0) (wf (mk % 10)) (nI nb) (nI nj) (nu 1) (nu 2) (if bOn nu = 0 then 0 else q_sum (dSt G 1) nb) (q_sum (dCol G 3) nb) (q_sum (dCol G 4) nb)) 1319 9) 10) nj) nb))) [q_mc mo 0 nb nj len mw me mf mn, q_ia T mw 10 wf, q_ia T me 3 ey, q_fa T mf G, q_ia T mn 4 nu]) A args s rmX4_digest) (F0 m 151 ls []) := by
                                  intro f9
                                  induction f9 with
                                  | zero => intro k h9a h9b; exact absurd h9a (by omega)
                                  | succ f9 ih151 =>
                                    intro k h9a h9b   H locs ls hP hD hS hl
                                    refine lv_iload hx hb dX4_digest_151 (lv_at hl 3 rfl) ?_
                                    refine lv_iconst (v := 5) hx hb dX4_digest_153 (by decide) ?_
                                    refine lv_icmp_ge (tgt := 178) hx hb dX4_digest_154 (by decide) (fun c_154 => ?_) (fun c_154 => ?_)
                                    · have h9d := (q_exit (n := 5) c_154 h9b (by omega)).symm
                                      subst h9d
                                      refine lv_iinc (v := (nI (b + 1))) (lv' := [(3, .int (nI (b + 1))), (0, .ref mo), (1, .long (qDg ((fun b9 k9 => rAbt G nu b9 k9) b) (qDg ((fun b9 k9 => qTold G b9 k9 (wf (mk % 10))) b) (qDB (fun b9 k9 => qTold G b9 k9 (wf (mk % 10))) (fun b9 k9 => rAbt G nu b9 k9) (qDg ey (qDg wf (qDg (qCnt (nu 0) (wf (mk % 10)) (nI nb) (nI nj) (nu 1) (nu 2) (if bOn nu = 0 then 0 else q_sum (dSt G 1) nb) (q_sum (dCol G 3) nb) (q_sum (dCol G 4) nb)) 1319 9) 10) nj) b) 7) 5)), (4, .int (nI 5))]) hx hb dX4_digest_178 hl (k := 2) rfl (nI_1 b) (by decide) rfl (fun ls hl => ?_)
                                      refine lv_goto (tgt := 109) hx hb dX4_digest_181 (by decide) ?_
                                      have hl : lv_has ls 7 [(3, .int (nI (b + 1))), (0, .ref mo), (1, .long (qDB (fun b9 k9 => qTold G b9 k9 (wf (mk % 10))) (fun b9 k9 => rAbt G nu b9 k9) (qDg ey (qDg wf (qDg (qCnt (nu 0) (wf (mk % 10)) (nI nb) (nI nj) (nu 1) (nu 2) (if bOn nu = 0 then 0 else q_sum (dSt G 1) nb) (q_sum (dCol G 3) nb) (q_sum (dCol G 4) nb)) 1319 9) 10) nj) (b + 1))), (4, .int (nI 5))] := hl
                                      exact ih109 (b + 1) (by omega) (by omega)   _ _ ls hP hD hS (lv_sub hl [1, 2, 0] rfl)
                                    · have h9d := q_goon (n := 5) c_154 (by omega)
                                      refine lv_lload_n hx hb dX4_digest_157 rfl (lv_at hl 1 rfl) ?_
                                      refine lv_ldc2 (v := (31)) hx hb hown (hts (.constantLong RX4 152 (31)) (by decide +kernel)) dX4_digest_158 ?_
                                      refine lv_lmul hx hb dX4_digest_161 ?_
                                      refine lv_aload_n hx hb dX4_digest_162 rfl (lv_at hl 0 rfl) ?_
                                      refine lv_iload_n hx hb dX4_digest_163 rfl (lv_at hl 2 rfl) ?_
                                      refine lv_iload hx hb dX4_digest_164 (lv_at hl 3 rfl) ?_
                                      refine q_callV (As := [.int (nI b), .int (nI k)]) (rs := [.long ((qDg ((fun b9 k9 => rAbt G nu b9 k9) b) (qDg ((fun b9 k9 => qTold G b9 k9 (wf (mk % 10))) b) (qDB (fun b9 k9 => qTold G b9 k9 (wf (mk % 10))) (fun b9 k9 => rAbt G nu b9 k9) (qDg ey (qDg wf (qDg (qCnt (nu 0) (wf (mk % 10)) (nI nb) (nI nj) (nu 1) (nu 2) (if bOn nu = 0 then 0 else q_sum (dSt G 1) nb) (q_sum (dCol G 3) nb) (q_sum (dCol G 4) nb)) 1319 9) 10) nj) b) 7) k) * (31))]) hC (c_X4_raceTold l D T mo mw me mf mn nb nj 0 len G nu b k (by omega) h9d) q_no_st q_no_at (cwV 2 hts gX4_digest_X4_raceTold rfl rfl rfl (by decide +kernel) ⟨Nat.le_of_ble_eq_true rfl, Nat.le_of_ble_eq_true rfl⟩) (va_recv hK hP (ci := 5) (q0 := 0) rfl rfl) hK hP hD hS hA (q_mask [true, false, false, true, true] _) rfl hl.1 rfl (Nat.le_of_ble_eq_true rfl) dX4_digest_166 ⟨(Nat.le_of_ble_eq_true rfl), (Nat.le_of_ble_eq_true rfl)⟩ (fun v9 C9 H locs hp hP hD hS => ?_)
                                      obtain ⟨rfl, rfl⟩ := hp
                                      have hP : va_P D vwCl [q_mc mo 0 nb nj len mw me mf mn, q_ia T mw 10 wf, q_ia T me 3 ey, q_fa T mf G, q_ia T mn 4 nu] H := q_P_perm (q_mrg_perm [true, false, false, true, true] _ _) hP
                                      have hD : va_D A [q_mc mo 0 nb nj len mw me mf mn, q_ia T mw 10 wf, q_ia T me 3 ey, q_fa T mf G, q_ia T mn 4 nu] := q_D_perm (q_mrg_perm [true, false, false, true, true] _ _) hD
                                      refine lv_i2l hx hb dX4_digest_169 rfl ?_
                                      refine lv_ladd hx hb dX4_digest_170 ?_
                                      refine lv_lstore_n (lv' := [(1, .long (((qDg ((fun b9 k9 => rAbt G nu b9 k9) b) (qDg ((fun b9 k9 => qTold G b9 k9 (wf (mk % 10))) b) (qDB (fun b9 k9 => qTold G b9 k9 (wf (mk % 10))) (fun b9 k9 => rAbt G nu b9 k9) (qDg ey (qDg wf (qDg (qCnt (nu 0) (wf (mk % 10)) (nI nb) (nI nj) (nu 1) (nu 2) (if bOn nu = 0 then 0 else q_sum (dSt G 1) nb) (q_sum (dCol G 3) nb) (q_sum (dCol G 4) nb)) 1319 9) 10) nj) b) 7) k) * (31)) + ((rAbt G nu b k)).toInt64)), (0, .ref mo), (3, .int (nI b)), (4, .int (nI k))]) hx hb dX4_digest_171 rfl hl (by decide) rfl (fun ls hl => ?_)
                                      refine lv_iinc (v := (nI (k + 1))) (lv' := [(4, .int (nI (k + 1))), (1, .long (((qDg ((fun b9 k9 => rAbt G nu b9 k9) b) (qDg ((fun b9 k9 => qTold G b9 k9 (wf (mk % 10))) b) (qDB (fun b9 k9 => qTold G b9 k9 (wf (mk % 10))) (fun b9 k9 => rAbt G nu b9 k9) (qDg ey (qDg wf (qDg (qCnt (nu 0) (wf (mk % 10)) (nI nb) (nI nj) (nu 1) (nu 2) (if bOn nu = 0 then 0 else q_sum (dSt G 1) nb) (q_sum (dCol G 3) nb) (q_sum (dCol G 4) nb)) 1319 9) 10) nj) b) 7) k) * (31)) + ((rAbt G nu b k)).toInt64)), (0, .ref mo), (3, .int (nI b))]) hx hb dX4_digest_172 hl (k := 3) rfl (nI_1 k) (by decide) rfl (fun ls hl => ?_)
                                      refine lv_goto (tgt := 151) hx hb dX4_digest_175 (by decide) ?_
                                      have hl : lv_has ls 7 [(4, .int (nI (k + 1))), (1, .long (qDg ((fun b9 k9 => rAbt G nu b9 k9) b) (qDg ((fun b9 k9 => qTold G b9 k9 (wf (mk % 10))) b) (qDB (fun b9 k9 => qTold G b9 k9 (wf (mk % 10))) (fun b9 k9 => rAbt G nu b9 k9) (qDg ey (qDg wf (qDg (qCnt (nu 0) (wf (mk % 10)) (nI nb) (nI nj) (nu 1) (nu 2) (if bOn nu = 0 then 0 else q_sum (dSt G 1) nb) (q_sum (dCol G 3) nb) (q_sum (dCol G 4) nb)) 1319 9) 10) nj) b) 7) (k + 1))), (0, .ref mo), (3, .int (nI b))] := hl
                                      exact ih151 (k + 1) (by omega) (by omega)   _ _ ls hP hD hS (lv_sub hl [2, 1, 3, 0] rfl)
                                exact L151 (5 + 1) 0 (by omega) (by omega)   _ _ ls hP hD hS (lv_sub hl [1, 2, 3, 0] rfl)
                              · have h9d := q_goon (n := 7) c_124 (by omega)
                                refine lv_lload_n hx hb dX4_digest_127 rfl (lv_at hl 1 rfl) ?_
                                refine lv_ldc2 (v := (31)) hx hb hown (hts (.constantLong RX4 152 (31)) (by decide +kernel)) dX4_digest_128 ?_
                                refine lv_lmul hx hb dX4_digest_131 ?_
                                refine lv_aload_n hx hb dX4_digest_132 rfl (lv_at hl 0 rfl) ?_
                                refine lv_iload_n hx hb dX4_digest_133 rfl (lv_at hl 2 rfl) ?_
                                refine lv_iload hx hb dX4_digest_134 (lv_at hl 3 rfl) ?_
                                refine q_callV (As := [.int (nI b), .int (nI k)]) (rs := [.long ((qDg ((fun b9 k9 => qTold G b9 k9 (wf (mk % 10))) b) (qDB (fun b9 k9 => qTold G b9 k9 (wf (mk % 10))) (fun b9 k9 => rAbt G nu b9 k9) (qDg ey (qDg wf (qDg (qCnt (nu 0) (wf (mk % 10)) (nI nb) (nI nj) (nu 1) (nu 2) (if bOn nu = 0 then 0 else q_sum (dSt G 1) nb) (q_sum (dCol G 3) nb) (q_sum (dCol G 4) nb)) 1319 9) 10) nj) b) k) * (31))]) hC (c_X4_toldOf l D T mo mw me mf mn nb nj 0 len G wf nu mk hm hmk b k (by omega) h9d (hz b h9f)) q_no_st q_no_at (cwV 2 hts gX4_digest_X4_toldOf rfl rfl rfl (by decide +kernel) ⟨Nat.le_of_ble_eq_true rfl, Nat.le_of_ble_eq_true rfl⟩) (va_recv hK hP (ci := 5) (q0 := 0) rfl rfl) hK hP hD hS hA (q_mask [true, true, false, true, true] _) rfl hl.1 rfl (Nat.le_of_ble_eq_true rfl) dX4_digest_136 ⟨(Nat.le_of_ble_eq_true rfl), (Nat.le_of_ble_eq_true rfl)⟩ (fun v9 C9 H locs hp hP hD hS => ?_)
                                obtain ⟨rfl, rfl⟩ := hp
                                have hP : va_P D vwCl [q_mc mo 0 nb nj len mw me mf mn, q_ia T mw 10 wf, q_ia T me 3 ey, q_fa T mf G, q_ia T mn 4 nu] H := q_P_perm (q_mrg_perm [true, true, false, true, true] _ _) hP
                                have hD : va_D A [q_mc mo 0 nb nj len mw me mf mn, q_ia T mw 10 wf, q_ia T me 3 ey, q_fa T mf G, q_ia T mn 4 nu] := q_D_perm (q_mrg_perm [true, true, false, true, true] _ _) hD
                                refine lv_i2l hx hb dX4_digest_139 rfl ?_
                                refine lv_ladd hx hb dX4_digest_140 ?_
                                refine lv_lstore_n (lv' := [(1, .long (((qDg ((fun b9 k9 => qTold G b9 k9 (wf (mk % 10))) b) (qDB (fun b9 k9 => qTold G b9 k9 (wf (mk % 10))) (fun b9 k9 => rAbt G nu b9 k9) (qDg ey (qDg wf (qDg (qCnt (nu 0) (wf (mk % 10)) (nI nb) (nI nj) (nu 1) (nu 2) (if bOn nu = 0 then 0 else q_sum (dSt G 1) nb) (q_sum (dCol G 3) nb) (q_sum (dCol G 4) nb)) 1319 9) 10) nj) b) k) * (31)) + ((qTold G b k (wf (mk % 10)))).toInt64)), (0, .ref mo), (3, .int (nI b)), (4, .int (nI k))]) hx hb dX4_digest_141 rfl hl (by decide) rfl (fun ls hl => ?_)
                                refine lv_iinc (v := (nI (k + 1))) (lv' := [(4, .int (nI (k + 1))), (1, .long (((qDg ((fun b9 k9 => qTold G b9 k9 (wf (mk % 10))) b) (qDB (fun b9 k9 => qTold G b9 k9 (wf (mk % 10))) (fun b9 k9 => rAbt G nu b9 k9) (qDg ey (qDg wf (qDg (qCnt (nu 0) (wf (mk % 10)) (nI nb) (nI nj) (nu 1) (nu 2) (if bOn nu = 0 then 0 else q_sum (dSt G 1) nb) (q_sum (dCol G 3) nb) (q_sum (dCol G 4) nb)) 1319 9) 10) nj) b) k) * (31)) + ((qTold G b k (wf (mk % 10)))).toInt64)), (0, .ref mo), (3, .int (nI b))]) hx hb dX4_digest_142 hl (k := 3) rfl (nI_1 k) (by decide) rfl (fun ls hl => ?_)
                                refine lv_goto (tgt := 120) hx hb dX4_digest_145 (by decide) ?_
                                have hl : lv_has ls 7 [(4, .int (nI (k + 1))), (1, .long (qDg ((fun b9 k9 => qTold G b9 k9 (wf (mk % 10))) b) (qDB (fun b9 k9 => qTold G b9 k9 (wf (mk % 10))) (fun b9 k9 => rAbt G nu b9 k9) (qDg ey (qDg wf (qDg (qCnt (nu 0) (wf (mk % 10)) (nI nb) (nI nj) (nu 1) (nu 2) (if bOn nu = 0 then 0 else q_sum (dSt G 1) nb) (q_sum (dCol G 3) nb) (q_sum (dCol G 4) nb)) 1319 9) 10) nj) b) (k + 1))), (0, .ref mo), (3, .int (nI b))] := hl
                                exact ih120 (k + 1) (by omega) (by omega)   _ _ ls hP hD hS (lv_sub hl [2, 1, 3, 0] rfl)
                          exact L120 (7 + 1) 0 (by omega) (by omega)   _ _ ls hP hD hS (lv_sub hl [1, 2, 3, 0] rfl)
                    exact L109 (nb + 1) 0 (by omega) (by omega)   _ _ ls hP hD hS (lv_sub hl [1, 2, 0] rfl)
                  · have h9d := q_goon c_84 (by omega)
                    refine lv_lload_n hx hb dX4_digest_87 rfl (lv_at hl 1 rfl) ?_
                    refine lv_ldc2 (v := (31)) hx hb hown (hts (.constantLong RX4 152 (31)) (by decide +kernel)) dX4_digest_88 ?_
                    refine lv_lmul hx hb dX4_digest_91 ?_
                    refine lv_aload_n hx hb dX4_digest_92 rfl (lv_at hl 0 rfl) ?_
                    refine va_get (D := D) (ci := 5) (v := .ref me) (C := RX4) (T := TX4) (N := 8) hx hb hts iX4 hown hK hP 0 rfl rfl 5 (by decide) (hts (.fieldLink RX4 17 "ToyRegattaModel" "eyes" "[I") (by decide +kernel)) (fun _ h9 => h9) rfl dX4_digest_93 ?_
                    refine lv_iload_n hx hb dX4_digest_96 rfl (lv_at hl 2 rfl) ?_
                    refine va_iald (D := D) hx hb hK hP 2 0 rfl rfl (vp_in_nI (by omega) (by omega)) dX4_digest_97 ?_
                    rw [show ((nI k) : Int32).toNatClampNeg = k from (pk_cl k rfl (by omega))]
                    refine lv_i2l hx hb dX4_digest_98 rfl ?_
                    refine lv_ladd hx hb dX4_digest_99 ?_
                    refine lv_lstore_n (lv' := [(1, .long (((qDg ey (qDg wf (qDg (qCnt (nu 0) (wf (mk % 10)) (nI nb) (nI nj) (nu 1) (nu 2) (if bOn nu = 0 then 0 else q_sum (dSt G 1) nb) (q_sum (dCol G 3) nb) (q_sum (dCol G 4) nb)) 1319 9) 10) k) * (31)) + ((ey k)).toInt64)), (0, .ref mo), (3, .int (nI k))]) hx hb dX4_digest_100 rfl hl (by decide) rfl (fun ls hl => ?_)
                    refine lv_iinc (v := (nI (k + 1))) (lv' := [(3, .int (nI (k + 1))), (1, .long (((qDg ey (qDg wf (qDg (qCnt (nu 0) (wf (mk % 10)) (nI nb) (nI nj) (nu 1) (nu 2) (if bOn nu = 0 then 0 else q_sum (dSt G 1) nb) (q_sum (dCol G 3) nb) (q_sum (dCol G 4) nb)) 1319 9) 10) k) * (31)) + ((ey k)).toInt64)), (0, .ref mo)]) hx hb dX4_digest_101 hl (k := 2) rfl (nI_1 k) (by decide) rfl (fun ls hl => ?_)
                    refine lv_goto (tgt := 79) hx hb dX4_digest_104 (by decide) ?_
                    have hl : lv_has ls 7 [(3, .int (nI (k + 1))), (1, .long (qDg ey (qDg wf (qDg (qCnt (nu 0) (wf (mk % 10)) (nI nb) (nI nj) (nu 1) (nu 2) (if bOn nu = 0 then 0 else q_sum (dSt G 1) nb) (q_sum (dCol G 3) nb) (q_sum (dCol G 4) nb)) 1319 9) 10) (k + 1))), (0, .ref mo)] := hl
                    exact ih79 (k + 1) (by omega) (by omega)   _ _ ls hP hD hS (lv_sub hl [2, 1, 0] rfl)
              exact L79 (nj + 1) 0 (by omega) (by omega)   _ _ ls hP hD hS (lv_sub hl [1, 2, 0] rfl)
            · have h9d := q_goon (n := 10) c_52 (by omega)
              refine lv_aload_n hx hb dX4_digest_55 rfl (lv_at hl 2 rfl) ?_
              refine lv_iload hx hb dX4_digest_56 (lv_at hl 4 rfl) ?_
              refine va_iald (D := D) hx hb hK hP 1 0 rfl rfl (vp_in_nI h9d (by omega)) dX4_digest_58 ?_
              rw [show ((nI k) : Int32).toNatClampNeg = k from (pk_cl k rfl (by omega))]
              refine lv_istore (lv' := [(6, .int (wf k)), (0, .ref mo), (1, .long (qDg wf (qDg (qCnt (nu 0) (wf (mk % 10)) (nI nb) (nI nj) (nu 1) (nu 2) (if bOn nu = 0 then 0 else q_sum (dSt G 1) nb) (q_sum (dCol G 3) nb) (q_sum (dCol G 4) nb)) 1319 9) k)), (3, .ref mw), (4, .int (nI 10)), (5, .int (nI k))]) hx hb dX4_digest_59 hl (by decide) rfl (fun ls hl => ?_)
              refine lv_lload_n hx hb dX4_digest_61 rfl (lv_at hl 2 rfl) ?_
              refine lv_ldc2 (v := (31)) hx hb hown (hts (.constantLong RX4 152 (31)) (by decide +kernel)) dX4_digest_62 ?_
              refine lv_lmul hx hb dX4_digest_65 ?_
              refine lv_iload hx hb dX4_digest_66 (lv_at hl 0 rfl) ?_
              refine lv_i2l hx hb dX4_digest_68 rfl ?_
              refine lv_ladd hx hb dX4_digest_69 ?_
              refine lv_lstore_n (lv' := [(1, .long (((qDg wf (qDg (qCnt (nu 0) (wf (mk % 10)) (nI nb) (nI nj) (nu 1) (nu 2) (if bOn nu = 0 then 0 else q_sum (dSt G 1) nb) (q_sum (dCol G 3) nb) (q_sum (dCol G 4) nb)) 1319 9) k) * (31)) + ((wf k)).toInt64)), (6, .int (wf k)), (0, .ref mo), (3, .ref mw), (4, .int (nI 10)), (5, .int (nI k))]) hx hb dX4_digest_70 rfl hl (by decide) rfl (fun ls hl => ?_)
              refine lv_iinc (v := (nI (k + 1))) (lv' := [(5, .int (nI (k + 1))), (1, .long (((qDg wf (qDg (qCnt (nu 0) (wf (mk % 10)) (nI nb) (nI nj) (nu 1) (nu 2) (if bOn nu = 0 then 0 else q_sum (dSt G 1) nb) (q_sum (dCol G 3) nb) (q_sum (dCol G 4) nb)) 1319 9) k) * (31)) + ((wf k)).toInt64)), (6, .int (wf k)), (0, .ref mo), (3, .ref mw), (4, .int (nI 10))]) hx hb dX4_digest_71 hl (k := 5) rfl (nI_1 k) (by decide) rfl (fun ls hl => ?_)
              refine lv_goto (tgt := 48) hx hb dX4_digest_74 (by decide) ?_
              have hl : lv_has ls 7 [(5, .int (nI (k + 1))), (1, .long (qDg wf (qDg (qCnt (nu 0) (wf (mk % 10)) (nI nb) (nI nj) (nu 1) (nu 2) (if bOn nu = 0 then 0 else q_sum (dSt G 1) nb) (q_sum (dCol G 3) nb) (q_sum (dCol G 4) nb)) 1319 9) (k + 1))), (6, .int (wf k)), (0, .ref mo), (3, .ref mw), (4, .int (nI 10))] := hl
              exact ih48 (k + 1) (by omega) (by omega)   _ _ ls hP hD hS (lv_sub hl [3, 1, 4, 5, 0] rfl)
        exact L48 (10 + 1) 0 (by omega) (by omega)   _ _ ls hP hD hS (lv_sub hl [3, 4, 2, 1, 0] rfl)
      · have h9d := q_goon (n := 9) c_14 (by omega)
        refine lv_lload_n hx hb dX4_digest_17 rfl (lv_at hl 1 rfl) ?_
        refine lv_ldc2 (v := (31)) hx hb hown (hts (.constantLong RX4 152 (31)) (by decide +kernel)) dX4_digest_18 ?_
        refine lv_lmul hx hb dX4_digest_21 ?_
        refine lv_aload_n hx hb dX4_digest_22 rfl (lv_at hl 0 rfl) ?_
        refine lv_iload_n hx hb dX4_digest_23 rfl (lv_at hl 2 rfl) ?_
        refine q_callV (As := [.int (nI k)]) (rs := [.long ((qDg (qCnt (nu 0) (wf (mk % 10)) (nI nb) (nI nj) (nu 1) (nu 2) (if bOn nu = 0 then 0 else q_sum (dSt G 1) nb) (q_sum (dCol G 3) nb) (q_sum (dCol G 4) nb)) 1319 k) * (31))]) hC (c_X4_counted l D T mo mw me mf mn nb nj 0 len G wf nu mk k hm hmk h9d hn) q_no_st q_no_at (cwV 1 hts gX4_digest_X4_counted rfl rfl rfl (by decide +kernel) ⟨Nat.le_of_ble_eq_true rfl, Nat.le_of_ble_eq_true rfl⟩) (va_recv hK hP (ci := 5) (q0 := 0) rfl rfl) hK hP hD hS hA (q_mask [true, true, false, true, true] _) rfl hl.1 rfl (Nat.le_of_ble_eq_true rfl) dX4_digest_24 ⟨(Nat.le_of_ble_eq_true rfl), (Nat.le_of_ble_eq_true rfl)⟩ (fun v9 C9 H locs hp hP hD hS => ?_)
        obtain ⟨rfl, rfl⟩ := hp
        have hP : va_P D vwCl [q_mc mo 0 nb nj len mw me mf mn, q_ia T mw 10 wf, q_ia T me 3 ey, q_fa T mf G, q_ia T mn 4 nu] H := q_P_perm (q_mrg_perm [true, true, false, true, true] _ _) hP
        have hD : va_D A [q_mc mo 0 nb nj len mw me mf mn, q_ia T mw 10 wf, q_ia T me 3 ey, q_fa T mf G, q_ia T mn 4 nu] := q_D_perm (q_mrg_perm [true, true, false, true, true] _ _) hD
        refine lv_i2l hx hb dX4_digest_27 rfl ?_
        refine lv_ladd hx hb dX4_digest_28 ?_
        refine lv_lstore_n (lv' := [(1, .long (((qDg (qCnt (nu 0) (wf (mk % 10)) (nI nb) (nI nj) (nu 1) (nu 2) (if bOn nu = 0 then 0 else q_sum (dSt G 1) nb) (q_sum (dCol G 3) nb) (q_sum (dCol G 4) nb)) 1319 k) * (31)) + ((qCnt (nu 0) (wf (mk % 10)) (nI nb) (nI nj) (nu 1) (nu 2) (if bOn nu = 0 then 0 else q_sum (dSt G 1) nb) (q_sum (dCol G 3) nb) (q_sum (dCol G 4) nb) k)).toInt64)), (0, .ref mo), (3, .int (nI k))]) hx hb dX4_digest_29 rfl hl (by decide) rfl (fun ls hl => ?_)
        refine lv_iinc (v := (nI (k + 1))) (lv' := [(3, .int (nI (k + 1))), (1, .long (((qDg (qCnt (nu 0) (wf (mk % 10)) (nI nb) (nI nj) (nu 1) (nu 2) (if bOn nu = 0 then 0 else q_sum (dSt G 1) nb) (q_sum (dCol G 3) nb) (q_sum (dCol G 4) nb)) 1319 k) * (31)) + ((qCnt (nu 0) (wf (mk % 10)) (nI nb) (nI nj) (nu 1) (nu 2) (if bOn nu = 0 then 0 else q_sum (dSt G 1) nb) (q_sum (dCol G 3) nb) (q_sum (dCol G 4) nb) k)).toInt64)), (0, .ref mo)]) hx hb dX4_digest_30 hl (k := 2) rfl (nI_1 k) (by decide) rfl (fun ls hl => ?_)
        refine lv_goto (tgt := 11) hx hb dX4_digest_33 (by decide) ?_
        have hl : lv_has ls 7 [(3, .int (nI (k + 1))), (1, .long (qDg (qCnt (nu 0) (wf (mk % 10)) (nI nb) (nI nj) (nu 1) (nu 2) (if bOn nu = 0 then 0 else q_sum (dSt G 1) nb) (q_sum (dCol G 3) nb) (q_sum (dCol G 4) nb)) 1319 (k + 1))), (0, .ref mo)] := hl
        exact ih11 (k + 1) (by omega) (by omega)   _ _ ls hP hD hS (lv_sub hl [2, 1, 0] rfl)
  exact L11 (9 + 1) 0 (by omega) (by omega)   _ _ ls hP hD hS (lv_sub hl [2, 1, 0] rfl)
