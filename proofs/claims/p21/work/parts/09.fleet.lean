
theorem q_up_id {β : Type} (F : Nat → β) (i : Nat) : va_up F i (F i) = F := by
  funext b
  by_cases h : b = i
  · subst h; simp [va_up]
  · simp [va_up, h]
def dCan (F : Nat → Nat → Int32) (b : Nat) : Int32 := if bCan (F b) = 0 then 0 else 1
def dSt (F : Nat → Nat → Int32) (x : Int32) (b : Nat) : Int32 := if F b 9 = x then 1 else 0
def dCol (F : Nat → Nat → Int32) (k : Nat) (b : Nat) : Int32 := F b k
def dEnter (F : Nat → Nat → Int32) : Nat → Nat → Int32 := fun b => bEnter (F b)
def dSail (F : Nat → Nat → Int32) (w : Int32) : Nat → Nat → Int32 := fun b => bSail (F b) w
def dDry (F : Nat → Nat → Int32) (on : Int32) : Nat → Nat → Int32 := fun b => if on = 0 then bDry (F b) else if F b 9 = 0 then bDry (F b) else F b
def dBegU (u : Nat → Int32) : Nat → Int32 := upd (upd (upd u 2 1) 3 0) 1 (u 1 + 1)
def bPts (r : Int32) : Int32 := if r = 0 then 8 else if r = 1 then 5 else if r = 2 then 3 else 1
def dBet (F : Nat → Nat → Int32) (i j : Nat) : Int32 := if bRes (F j) < bRes (F i) then 1 else if bRes (F j) = bRes (F i) then (if nI i ≤ nI j then 0 else 1) else 0
def dAh (F : Nat → Nat → Int32) (i j : Nat) : Int32 := if F j 9 = 2 then dBet F i j else 0
def dRank (F : Nat → Nat → Int32) (n i : Nat) : Int32 := q_sum (dAh F i) n
def dEnd (F : Nat → Nat → Int32) (n : Nat) : Nat → Nat → Int32 := fun b => if F b 9 = 2 then upd (F b) 3 (F b 3 + bPts (dRank F n b)) else F b
def dFst (F : Nat → Nat → Int32) (n : Nat) : Nat → Nat → Int32
  | 0, _ => -1
  | f + 1, i => if F i 9 = 2 then (if dRank F n i = 0 then nI i else dFst F n f (i + 1)) else dFst F n f (i + 1)

theorem q_pts3 {x : Int32} (h : (2 : Int) < x.toInt) : bPts x = 1 := by
  have h0 : ¬ x = 0 := fun e => by rw [e] at h; exact absurd h (by decide)
  have h1 : ¬ x = 1 := fun e => by rw [e] at h; exact absurd h (by decide)
  have h2 : ¬ x = 2 := fun e => by rw [e] at h; exact absurd h (by decide)
  simp [bPts, h0, h1, h2]
abbrev rmX1_starters : Room := { frames := 3, cells := 0, slots := 0, locals := 64 }
set_option maxHeartbeats 4000000 in
set_option maxRecDepth 100000 in
theorem c_X1_starters (l : Launch) (D : va_G) (T : Nat → ClassId) (fl al ar n : Nat) (md : Int32) (u : Nat → Int32) (ad : Nat → Nat) (F : Nat → Nat → Int32) (hn : n ≤ 8) : q_M l D (q_ty T) yX1_starters wsX1_starters rmX1_starters [.ref fl] ([q_fc fl al u, q_ac al md ar n] ++ q_tl (T 1) n ar ad F) q_no (q_is (some (.int (q_sum (dCan F) n))) ([q_fc fl al u, q_ac al md ar n] ++ q_tl (T 1) n ar ad F)) := by
  refine q_start (cc := cX1_starters) (maxL := 3) (ret := (some .int)) (by decide) rfl (Nat.le_of_ble_eq_true rfl) ?_
  intro p e s m args below meth c A H locs hx hb hr hts hown hlocks hml hnm hP hK hD hS hA hG ls hl
  have hown : s.vm.findClass RX1 = some m.cls := hown
  have hC : CallFix p m c cX1_starters 3 s args wsX1_starters RX1 := ⟨hx, hb, hml, hown, hts⟩
  have iX1 : ∀ w ∈ wsX10, w ∈ wsX1_starters := by decide +kernel
  have hl : lv_has ls 3 [(0, .ref fl)] := hl
  refine lv_iconst (v := 0) hx hb dX1_starters_0 (by decide) ?_
  refine lv_istore_n (lv' := [(1, .int 0), (0, .ref fl)]) hx hb dX1_starters_1 rfl hl (by decide) rfl (fun ls hl => ?_)
  refine lv_iconst (v := 0) hx hb dX1_starters_2 (by decide) ?_
  refine lv_istore_n (lv' := [(2, .int 0), (1, .int 0), (0, .ref fl)]) hx hb dX1_starters_3 rfl hl (by decide) rfl (fun ls hl => ?_)
  have L4 : ∀ (f9 i : Nat) (h9a : n < i + f9) (h9b : i ≤ n) (H : Heap) (locs : List Loc) (ls : Array Slot), va_P D vwCl ([q_fc fl al u, q_ac al md ar n] ++ q_tl (T 1) n ar ad F) H → va_D A ([q_fc fl al u, q_ac al md ar n] ++ q_tl (T 1) n ar ad F) → va_S A s.heap H locs → lv_has ls 3 [(0, .ref fl), (1, .int (q_sum (dCan F) i)), (2, .int (nI i))] → W p l e rmX1_starters s m args below meth c H locs 0 0 (q_E below D (q_ty T) (q_is (some (.int (q_sum (dCan F) n))) ([q_fc fl al u, q_ac al md ar n] ++ q_tl (T 1) n ar ad F)) A args s rmX1_starters) (F0 m 4 ls []) := by
    intro f9
    induction f9 with
    | zero => intro i h9a h9b; exact absurd h9a (by omega)
    | succ f9 ih =>
      intro i h9a h9b   H locs ls hP hD hS hl
      refine lv_iload_n hx hb dX1_starters_4 rfl (lv_at hl 2 rfl) ?_
      refine lv_aload_n hx hb dX1_starters_5 rfl (lv_at hl 0 rfl) ?_
      refine va_get (D := D) (ci := 2) (v := .ref al) (C := RX1) (T := TX1) (N := 5) hx hb hts iX1 hown hK hP 0 rfl rfl 0 (by decide) (hts (.fieldLink RX1 10 "ToyRegatta$Fleet" "boats" "Ljava/util/ArrayList;") (by decide +kernel)) (fun _ h9 => h9) rfl dX1_starters_6 ?_
      refine q_callV (As := []) (rs := [.int (nI i)]) hC (c_AL_size l D T al ar n md) q_no_st q_no_at (cwV 0 hts gX1_starters_Jx4a65c_size_8abf5 rfl rfl rfl (by decide +kernel) ⟨Nat.le_of_ble_eq_true rfl, Nat.le_of_ble_eq_true rfl⟩) (va_recv hK hP (ci := 0) (q0 := 1) rfl rfl) hK hP hD hS hA (q_mask [false, true] _) rfl hl.1 rfl (Nat.le_of_ble_eq_true rfl) dX1_starters_9 ⟨(Nat.le_of_ble_eq_true rfl), (Nat.le_of_ble_eq_true rfl)⟩ (fun v9 C9 H locs hp hP hD hS => ?_)
      obtain ⟨rfl, rfl⟩ := hp
      have hP : va_P D vwCl ([q_fc fl al u, q_ac al md ar n] ++ q_tl (T 1) n ar ad F) H := q_P_perm (q_mrg_perm [false, true] _ _) hP
      have hD : va_D A ([q_fc fl al u, q_ac al md ar n] ++ q_tl (T 1) n ar ad F) := q_D_perm (q_mrg_perm [false, true] _ _) hD
      refine lv_icmp_ge (tgt := 41) hx hb dX1_starters_12 (by decide) (fun c_12 => ?_) (fun c_12 => ?_)
      · have h9d := (q_exit c_12 h9b (by omega)).symm
        subst h9d
        refine lv_iload_n hx hb dX1_starters_41 rfl (lv_at hl 1 rfl) ?_
        exact q_iret hx hb hr hlocks hP hK hD hS (Nat.le_of_ble_eq_true rfl) (Nat.le_of_ble_eq_true rfl) dX1_starters_42 ⟨rfl, rfl⟩
      · have h9d := q_goon c_12 (by omega)
        have hP : va_P D vwCl ([q_bc (ad i) (F i), q_fc fl al u, q_ac al md ar n, q_arc (T 1) n ar ad] ++ q_pl ((List.range n).erase i) ad F) H := q_P_perm (q_tlo _ h9d rfl) hP
        have hD : va_D A ([q_bc (ad i) (F i), q_fc fl al u, q_ac al md ar n, q_arc (T 1) n ar ad] ++ q_pl ((List.range n).erase i) ad F) := q_D_perm (q_tlo _ h9d rfl) hD
        refine lv_aload_n hx hb dX1_starters_15 rfl (lv_at hl 0 rfl) ?_
        refine va_get (D := D) (ci := 2) (v := .ref al) (C := RX1) (T := TX1) (N := 5) hx hb hts iX1 hown hK hP 1 rfl rfl 0 (by decide) (hts (.fieldLink RX1 10 "ToyRegatta$Fleet" "boats" "Ljava/util/ArrayList;") (by decide +kernel)) (fun _ h9 => h9) rfl dX1_starters_16 ?_
        refine lv_iload_n hx hb dX1_starters_19 rfl (lv_at hl 2 rfl) ?_
        refine q_callV (As := [.int (nI i)]) (rs := []) hC (c_AL_get l D T al ar n i md ad h9d (by omega)) q_no_st q_no_at (cwV 1 hts gX1_starters_Jx4a65c_get_915e3 rfl rfl rfl (by decide +kernel) ⟨Nat.le_of_ble_eq_true rfl, Nat.le_of_ble_eq_true rfl⟩) (va_recv hK hP (ci := 0) (q0 := 2) rfl rfl) hK hP hD hS hA (q_mask [false, false, true, true] _) rfl hl.1 rfl (Nat.le_of_ble_eq_true rfl) dX1_starters_20 ⟨(Nat.le_of_ble_eq_true rfl), (Nat.le_of_ble_eq_true rfl)⟩ (fun v9 C9 H locs hp hP hD hS => ?_)
        obtain ⟨rfl, rfl⟩ := hp
        have hP : va_P D vwCl ([q_bc (ad i) (F i), q_fc fl al u, q_ac al md ar n, q_arc (T 1) n ar ad] ++ q_pl ((List.range n).erase i) ad F) H := q_P_perm (q_mrg_perm [false, false, true, true] _ _) hP
        have hD : va_D A ([q_bc (ad i) (F i), q_fc fl al u, q_ac al md ar n, q_arc (T 1) n ar ad] ++ q_pl ((List.range n).erase i) ad F) := q_D_perm (q_mrg_perm [false, false, true, true] _ _) hD
        refine va_castS hx hb hown (hts (.classLink RX1 24 "ToyRegatta$Boat") (by decide +kernel)) (hK.1 1 _ rfl).2 (va_recv hK hP (ci := 1) (q0 := 0) rfl rfl) dX1_starters_23 ?_
        refine q_callV (As := []) (rs := []) hC (c_X0_canRace l D T (ad i) (F i) ) q_no_st q_no_at (cwV 0 hts gX1_starters_X0_canRace rfl rfl rfl (by decide +kernel) ⟨Nat.le_of_ble_eq_true rfl, Nat.le_of_ble_eq_true rfl⟩) (va_recv hK hP (ci := 1) (q0 := 0) rfl rfl) hK hP hD hS hA (q_mask [true, false, false, false] _) rfl hl.1 rfl (Nat.le_of_ble_eq_true rfl) dX1_starters_26 ⟨(Nat.le_of_ble_eq_true rfl), (Nat.le_of_ble_eq_true rfl)⟩ (fun v9 C9 H locs hp hP hD hS => ?_)
        obtain ⟨rfl, rfl⟩ := hp
        have hP : va_P D vwCl ([q_bc (ad i) (F i), q_fc fl al u, q_ac al md ar n, q_arc (T 1) n ar ad] ++ q_pl ((List.range n).erase i) ad F) H := q_P_perm (q_mrg_perm [true, false, false, false] _ _) hP
        have hD : va_D A ([q_bc (ad i) (F i), q_fc fl al u, q_ac al md ar n, q_arc (T 1) n ar ad] ++ q_pl ((List.range n).erase i) ad F) := q_D_perm (q_mrg_perm [true, false, false, false] _ _) hD
        refine lv_if_eq (tgt := 35) hx hb dX1_starters_29 (by decide) (fun c_29 => ?_) (fun c_29 => ?_)
        · refine lv_iinc (v := (nI (i + 1))) (lv' := [(2, .int (nI (i + 1))), (0, .ref fl), (1, .int (q_sum (dCan F) i))]) hx hb dX1_starters_35 hl (k := 2) rfl (nI_1 i) (by decide) rfl (fun ls hl => ?_)
          refine lv_goto (tgt := 4) hx hb dX1_starters_38 (by decide) ?_
          have hP : va_P D vwCl ([q_fc fl al u, q_ac al md ar n] ++ q_tl (T 1) n ar ad F) H := q_P_perm (q_tls [q_fc fl al u, q_ac al md ar n] h9d (F := F) (q_up_id F i)) hP
          have hD : va_D A ([q_fc fl al u, q_ac al md ar n] ++ q_tl (T 1) n ar ad F) := q_D_perm (q_tls [q_fc fl al u, q_ac al md ar n] h9d (F := F) (q_up_id F i)) hD
          have e9 : q_sum (dCan F) (i + 1) = (q_sum (dCan F) i) := by simp only [q_sum, dCan, if_pos c_29, Int32.add_zero]
          rw [← e9] at hl
          exact ih (i + 1) (by omega) (by omega)   H locs ls hP hD hS (lv_sub hl [1, 2, 0] rfl)
        · refine lv_iinc (v := ((q_sum (dCan F) i) + 1)) (lv' := [(1, .int ((q_sum (dCan F) i) + 1)), (0, .ref fl), (2, .int (nI i))]) hx hb dX1_starters_32 hl (k := 1) rfl rfl (by decide) rfl (fun ls hl => ?_)
          refine lv_iinc (v := (nI (i + 1))) (lv' := [(2, .int (nI (i + 1))), (1, .int ((q_sum (dCan F) i) + 1)), (0, .ref fl)]) hx hb dX1_starters_35 hl (k := 2) rfl (nI_1 i) (by decide) rfl (fun ls hl => ?_)
          refine lv_goto (tgt := 4) hx hb dX1_starters_38 (by decide) ?_
          have hP : va_P D vwCl ([q_fc fl al u, q_ac al md ar n] ++ q_tl (T 1) n ar ad F) H := q_P_perm (q_tls [q_fc fl al u, q_ac al md ar n] h9d (F := F) (q_up_id F i)) hP
          have hD : va_D A ([q_fc fl al u, q_ac al md ar n] ++ q_tl (T 1) n ar ad F) := q_D_perm (q_tls [q_fc fl al u, q_ac al md ar n] h9d (F := F) (q_up_id F i)) hD
          have e9 : q_sum (dCan F) (i + 1) = ((q_sum (dCan F) i) + 1) := by simp only [q_sum, dCan, if_neg c_29, Int32.add_zero]
          rw [← e9] at hl
          exact ih (i + 1) (by omega) (by omega)   H locs ls hP hD hS (lv_sub hl [2, 1, 0] rfl)
  exact L4 (n + 1) 0 (by omega) (by omega)   H locs ls hP hD hS (lv_sub hl [2, 1, 0] rfl)
abbrev rmX1_inState : Room := { frames := 3, cells := 0, slots := 0, locals := 64 }
set_option maxHeartbeats 4000000 in
set_option maxRecDepth 100000 in
theorem c_X1_inState (l : Launch) (D : va_G) (T : Nat → ClassId) (fl al ar n : Nat) (md : Int32) (u : Nat → Int32) (ad : Nat → Nat) (F : Nat → Nat → Int32) (hn : n ≤ 8) (x : Int32) : q_M l D (q_ty T) yX1_inState wsX1_inState rmX1_inState [.ref fl, .int x] ([q_fc fl al u, q_ac al md ar n] ++ q_tl (T 1) n ar ad F) q_no (q_is (some (.int (q_sum (dSt F x) n))) ([q_fc fl al u, q_ac al md ar n] ++ q_tl (T 1) n ar ad F)) := by
  refine q_start (cc := cX1_inState) (maxL := 4) (ret := (some .int)) (by decide) rfl (Nat.le_of_ble_eq_true rfl) ?_
  intro p e s m args below meth c A H locs hx hb hr hts hown hlocks hml hnm hP hK hD hS hA hG ls hl
  have hown : s.vm.findClass RX1 = some m.cls := hown
  have hC : CallFix p m c cX1_inState 4 s args wsX1_inState RX1 := ⟨hx, hb, hml, hown, hts⟩
  have iX1 : ∀ w ∈ wsX10, w ∈ wsX1_inState := by decide +kernel
  have iX0 : ∀ w ∈ wsX00, w ∈ wsX1_inState := by decide +kernel
  have hl : lv_has ls 4 [(0, .ref fl), (1, .int x)] := hl
  refine lv_iconst (v := 0) hx hb dX1_inState_0 (by decide) ?_
  refine lv_istore_n (lv' := [(2, .int 0), (0, .ref fl), (1, .int x)]) hx hb dX1_inState_1 rfl hl (by decide) rfl (fun ls hl => ?_)
  refine lv_iconst (v := 0) hx hb dX1_inState_2 (by decide) ?_
  refine lv_istore_n (lv' := [(3, .int 0), (2, .int 0), (0, .ref fl), (1, .int x)]) hx hb dX1_inState_3 rfl hl (by decide) rfl (fun ls hl => ?_)
  have L4 : ∀ (f9 i : Nat) (h9a : n < i + f9) (h9b : i ≤ n) (H : Heap) (locs : List Loc) (ls : Array Slot), va_P D vwCl ([q_fc fl al u, q_ac al md ar n] ++ q_tl (T 1) n ar ad F) H → va_D A ([q_fc fl al u, q_ac al md ar n] ++ q_tl (T 1) n ar ad F) → va_S A s.heap H locs → lv_has ls 4 [(0, .ref fl), (1, .int x), (2, .int (q_sum (dSt F x) i)), (3, .int (nI i))] → W p l e rmX1_inState s m args below meth c H locs 0 0 (q_E below D (q_ty T) (q_is (some (.int (q_sum (dSt F x) n))) ([q_fc fl al u, q_ac al md ar n] ++ q_tl (T 1) n ar ad F)) A args s rmX1_inState) (F0 m 4 ls []) := by
    intro f9
    induction f9 with
    | zero => intro i h9a h9b; exact absurd h9a (by omega)
    | succ f9 ih =>
      intro i h9a h9b   H locs ls hP hD hS hl
      refine lv_iload_n hx hb dX1_inState_4 rfl (lv_at hl 3 rfl) ?_
      refine lv_aload_n hx hb dX1_inState_5 rfl (lv_at hl 0 rfl) ?_
      refine va_get (D := D) (ci := 2) (v := .ref al) (C := RX1) (T := TX1) (N := 5) hx hb hts iX1 hown hK hP 0 rfl rfl 0 (by decide) (hts (.fieldLink RX1 10 "ToyRegatta$Fleet" "boats" "Ljava/util/ArrayList;") (by decide +kernel)) (fun _ h9 => h9) rfl dX1_inState_6 ?_
      refine q_callV (As := []) (rs := [.int (nI i)]) hC (c_AL_size l D T al ar n md) q_no_st q_no_at (cwV 0 hts gX1_inState_Jx4a65c_size_8abf5 rfl rfl rfl (by decide +kernel) ⟨Nat.le_of_ble_eq_true rfl, Nat.le_of_ble_eq_true rfl⟩) (va_recv hK hP (ci := 0) (q0 := 1) rfl rfl) hK hP hD hS hA (q_mask [false, true] _) rfl hl.1 rfl (Nat.le_of_ble_eq_true rfl) dX1_inState_9 ⟨(Nat.le_of_ble_eq_true rfl), (Nat.le_of_ble_eq_true rfl)⟩ (fun v9 C9 H locs hp hP hD hS => ?_)
      obtain ⟨rfl, rfl⟩ := hp
      have hP : va_P D vwCl ([q_fc fl al u, q_ac al md ar n] ++ q_tl (T 1) n ar ad F) H := q_P_perm (q_mrg_perm [false, true] _ _) hP
      have hD : va_D A ([q_fc fl al u, q_ac al md ar n] ++ q_tl (T 1) n ar ad F) := q_D_perm (q_mrg_perm [false, true] _ _) hD
      refine lv_icmp_ge (tgt := 42) hx hb dX1_inState_12 (by decide) (fun c_12 => ?_) (fun c_12 => ?_)
      · have h9d := (q_exit c_12 h9b (by omega)).symm
        subst h9d
        refine lv_iload_n hx hb dX1_inState_42 rfl (lv_at hl 2 rfl) ?_
        exact q_iret hx hb hr hlocks hP hK hD hS (Nat.le_of_ble_eq_true rfl) (Nat.le_of_ble_eq_true rfl) dX1_inState_43 ⟨rfl, rfl⟩
      · have h9d := q_goon c_12 (by omega)
        have hP : va_P D vwCl ([q_bc (ad i) (F i), q_fc fl al u, q_ac al md ar n, q_arc (T 1) n ar ad] ++ q_pl ((List.range n).erase i) ad F) H := q_P_perm (q_tlo _ h9d rfl) hP
        have hD : va_D A ([q_bc (ad i) (F i), q_fc fl al u, q_ac al md ar n, q_arc (T 1) n ar ad] ++ q_pl ((List.range n).erase i) ad F) := q_D_perm (q_tlo _ h9d rfl) hD
        refine lv_aload_n hx hb dX1_inState_15 rfl (lv_at hl 0 rfl) ?_
        refine va_get (D := D) (ci := 2) (v := .ref al) (C := RX1) (T := TX1) (N := 5) hx hb hts iX1 hown hK hP 1 rfl rfl 0 (by decide) (hts (.fieldLink RX1 10 "ToyRegatta$Fleet" "boats" "Ljava/util/ArrayList;") (by decide +kernel)) (fun _ h9 => h9) rfl dX1_inState_16 ?_
        refine lv_iload_n hx hb dX1_inState_19 rfl (lv_at hl 3 rfl) ?_
        refine q_callV (As := [.int (nI i)]) (rs := []) hC (c_AL_get l D T al ar n i md ad h9d (by omega)) q_no_st q_no_at (cwV 1 hts gX1_inState_Jx4a65c_get_915e3 rfl rfl rfl (by decide +kernel) ⟨Nat.le_of_ble_eq_true rfl, Nat.le_of_ble_eq_true rfl⟩) (va_recv hK hP (ci := 0) (q0 := 2) rfl rfl) hK hP hD hS hA (q_mask [false, false, true, true] _) rfl hl.1 rfl (Nat.le_of_ble_eq_true rfl) dX1_inState_20 ⟨(Nat.le_of_ble_eq_true rfl), (Nat.le_of_ble_eq_true rfl)⟩ (fun v9 C9 H locs hp hP hD hS => ?_)
        obtain ⟨rfl, rfl⟩ := hp
        have hP : va_P D vwCl ([q_bc (ad i) (F i), q_fc fl al u, q_ac al md ar n, q_arc (T 1) n ar ad] ++ q_pl ((List.range n).erase i) ad F) H := q_P_perm (q_mrg_perm [false, false, true, true] _ _) hP
        have hD : va_D A ([q_bc (ad i) (F i), q_fc fl al u, q_ac al md ar n, q_arc (T 1) n ar ad] ++ q_pl ((List.range n).erase i) ad F) := q_D_perm (q_mrg_perm [false, false, true, true] _ _) hD
        refine va_castS hx hb hown (hts (.classLink RX1 24 "ToyRegatta$Boat") (by decide +kernel)) (hK.1 1 _ rfl).2 (va_recv hK hP (ci := 1) (q0 := 0) rfl rfl) dX1_inState_23 ?_
        refine va_get (D := D) (ci := 1) (v := .int ((F i) 9)) (C := RX0) (T := TX0) (N := 11) hx hb hts iX0 hown hK hP 0 rfl rfl 9 (by decide) (hts (.fieldLink RX1 48 "ToyRegatta$Boat" "state" "I") (by decide +kernel)) (fun _ h9 => h9) rfl dX1_inState_26 ?_
        refine lv_iload_n hx hb dX1_inState_29 rfl (lv_at hl 1 rfl) ?_
        refine lv_icmp_ne (tgt := 36) hx hb dX1_inState_30 (by decide) (fun c_30 => ?_) (fun c_30 => ?_)
        · refine lv_iinc (v := (nI (i + 1))) (lv' := [(3, .int (nI (i + 1))), (0, .ref fl), (1, .int x), (2, .int (q_sum (dSt F x) i))]) hx hb dX1_inState_36 hl (k := 3) rfl (nI_1 i) (by decide) rfl (fun ls hl => ?_)
          refine lv_goto (tgt := 4) hx hb dX1_inState_39 (by decide) ?_
          have hP : va_P D vwCl ([q_fc fl al u, q_ac al md ar n] ++ q_tl (T 1) n ar ad F) H := q_P_perm (q_tls [q_fc fl al u, q_ac al md ar n] h9d (F := F) (q_up_id F i)) hP
          have hD : va_D A ([q_fc fl al u, q_ac al md ar n] ++ q_tl (T 1) n ar ad F) := q_D_perm (q_tls [q_fc fl al u, q_ac al md ar n] h9d (F := F) (q_up_id F i)) hD
          have e9 : q_sum (dSt F x) (i + 1) = (q_sum (dSt F x) i) := by simp only [q_sum, dSt, if_neg c_30, Int32.add_zero]
          rw [← e9] at hl
          exact ih (i + 1) (by omega) (by omega)   H locs ls hP hD hS (lv_sub hl [1, 2, 3, 0] rfl)
        · refine lv_iinc (v := ((q_sum (dSt F x) i) + 1)) (lv' := [(2, .int ((q_sum (dSt F x) i) + 1)), (0, .ref fl), (1, .int x), (3, .int (nI i))]) hx hb dX1_inState_33 hl (k := 2) rfl rfl (by decide) rfl (fun ls hl => ?_)
          refine lv_iinc (v := (nI (i + 1))) (lv' := [(3, .int (nI (i + 1))), (2, .int ((q_sum (dSt F x) i) + 1)), (0, .ref fl), (1, .int x)]) hx hb dX1_inState_36 hl (k := 3) rfl (nI_1 i) (by decide) rfl (fun ls hl => ?_)
          refine lv_goto (tgt := 4) hx hb dX1_inState_39 (by decide) ?_
          have hP : va_P D vwCl ([q_fc fl al u, q_ac al md ar n] ++ q_tl (T 1) n ar ad F) H := q_P_perm (q_tls [q_fc fl al u, q_ac al md ar n] h9d (F := F) (q_up_id F i)) hP
          have hD : va_D A ([q_fc fl al u, q_ac al md ar n] ++ q_tl (T 1) n ar ad F) := q_D_perm (q_tls [q_fc fl al u, q_ac al md ar n] h9d (F := F) (q_up_id F i)) hD
          have e9 : q_sum (dSt F x) (i + 1) = ((q_sum (dSt F x) i) + 1) := by simp only [q_sum, dSt, if_pos c_30, Int32.add_zero]
          rw [← e9] at hl
          exact ih (i + 1) (by omega) (by omega)   H locs ls hP hD hS (lv_sub hl [2, 3, 1, 0] rfl)
  exact L4 (n + 1) 0 (by omega) (by omega)   H locs ls hP hD hS (lv_sub hl [2, 3, 1, 0] rfl)
abbrev rmX1_allPoints : Room := { frames := 3, cells := 0, slots := 0, locals := 64 }
set_option maxHeartbeats 4000000 in
set_option maxRecDepth 100000 in
theorem c_X1_allPoints (l : Launch) (D : va_G) (T : Nat → ClassId) (fl al ar n : Nat) (md : Int32) (u : Nat → Int32) (ad : Nat → Nat) (F : Nat → Nat → Int32) (hn : n ≤ 8) : q_M l D (q_ty T) yX1_allPoints wsX1_allPoints rmX1_allPoints [.ref fl] ([q_fc fl al u, q_ac al md ar n] ++ q_tl (T 1) n ar ad F) q_no (q_is (some (.int (q_sum (dCol F 3) n))) ([q_fc fl al u, q_ac al md ar n] ++ q_tl (T 1) n ar ad F)) := by
  refine q_start (cc := cX1_allPoints) (maxL := 3) (ret := (some .int)) (by decide) rfl (Nat.le_of_ble_eq_true rfl) ?_
  intro p e s m args below meth c A H locs hx hb hr hts hown hlocks hml hnm hP hK hD hS hA hG ls hl
  have hown : s.vm.findClass RX1 = some m.cls := hown
  have hC : CallFix p m c cX1_allPoints 3 s args wsX1_allPoints RX1 := ⟨hx, hb, hml, hown, hts⟩
  have iX1 : ∀ w ∈ wsX10, w ∈ wsX1_allPoints := by decide +kernel
  have iX0 : ∀ w ∈ wsX00, w ∈ wsX1_allPoints := by decide +kernel
  have hl : lv_has ls 3 [(0, .ref fl)] := hl
  refine lv_iconst (v := 0) hx hb dX1_allPoints_0 (by decide) ?_
  refine lv_istore_n (lv' := [(1, .int 0), (0, .ref fl)]) hx hb dX1_allPoints_1 rfl hl (by decide) rfl (fun ls hl => ?_)
  refine lv_iconst (v := 0) hx hb dX1_allPoints_2 (by decide) ?_
  refine lv_istore_n (lv' := [(2, .int 0), (1, .int 0), (0, .ref fl)]) hx hb dX1_allPoints_3 rfl hl (by decide) rfl (fun ls hl => ?_)
  have L4 : ∀ (f9 i : Nat) (h9a : n < i + f9) (h9b : i ≤ n) (H : Heap) (locs : List Loc) (ls : Array Slot), va_P D vwCl ([q_fc fl al u, q_ac al md ar n] ++ q_tl (T 1) n ar ad F) H → va_D A ([q_fc fl al u, q_ac al md ar n] ++ q_tl (T 1) n ar ad F) → va_S A s.heap H locs → lv_has ls 3 [(0, .ref fl), (1, .int (q_sum (dCol F 3) i)), (2, .int (nI i))] → W p l e rmX1_allPoints s m args below meth c H locs 0 0 (q_E below D (q_ty T) (q_is (some (.int (q_sum (dCol F 3) n))) ([q_fc fl al u, q_ac al md ar n] ++ q_tl (T 1) n ar ad F)) A args s rmX1_allPoints) (F0 m 4 ls []) := by
    intro f9
    induction f9 with
    | zero => intro i h9a h9b; exact absurd h9a (by omega)
    | succ f9 ih =>
      intro i h9a h9b   H locs ls hP hD hS hl
      refine lv_iload_n hx hb dX1_allPoints_4 rfl (lv_at hl 2 rfl) ?_
      refine lv_aload_n hx hb dX1_allPoints_5 rfl (lv_at hl 0 rfl) ?_
      refine va_get (D := D) (ci := 2) (v := .ref al) (C := RX1) (T := TX1) (N := 5) hx hb hts iX1 hown hK hP 0 rfl rfl 0 (by decide) (hts (.fieldLink RX1 10 "ToyRegatta$Fleet" "boats" "Ljava/util/ArrayList;") (by decide +kernel)) (fun _ h9 => h9) rfl dX1_allPoints_6 ?_
      refine q_callV (As := []) (rs := [.int (nI i)]) hC (c_AL_size l D T al ar n md) q_no_st q_no_at (cwV 0 hts gX1_allPoints_Jx4a65c_size_8abf5 rfl rfl rfl (by decide +kernel) ⟨Nat.le_of_ble_eq_true rfl, Nat.le_of_ble_eq_true rfl⟩) (va_recv hK hP (ci := 0) (q0 := 1) rfl rfl) hK hP hD hS hA (q_mask [false, true] _) rfl hl.1 rfl (Nat.le_of_ble_eq_true rfl) dX1_allPoints_9 ⟨(Nat.le_of_ble_eq_true rfl), (Nat.le_of_ble_eq_true rfl)⟩ (fun v9 C9 H locs hp hP hD hS => ?_)
      obtain ⟨rfl, rfl⟩ := hp
      have hP : va_P D vwCl ([q_fc fl al u, q_ac al md ar n] ++ q_tl (T 1) n ar ad F) H := q_P_perm (q_mrg_perm [false, true] _ _) hP
      have hD : va_D A ([q_fc fl al u, q_ac al md ar n] ++ q_tl (T 1) n ar ad F) := q_D_perm (q_mrg_perm [false, true] _ _) hD
      refine lv_icmp_ge (tgt := 38) hx hb dX1_allPoints_12 (by decide) (fun c_12 => ?_) (fun c_12 => ?_)
      · have h9d := (q_exit c_12 h9b (by omega)).symm
        subst h9d
        refine lv_iload_n hx hb dX1_allPoints_38 rfl (lv_at hl 1 rfl) ?_
        exact q_iret hx hb hr hlocks hP hK hD hS (Nat.le_of_ble_eq_true rfl) (Nat.le_of_ble_eq_true rfl) dX1_allPoints_39 ⟨rfl, rfl⟩
      · have h9d := q_goon c_12 (by omega)
        have hP : va_P D vwCl ([q_bc (ad i) (F i), q_fc fl al u, q_ac al md ar n, q_arc (T 1) n ar ad] ++ q_pl ((List.range n).erase i) ad F) H := q_P_perm (q_tlo _ h9d rfl) hP
        have hD : va_D A ([q_bc (ad i) (F i), q_fc fl al u, q_ac al md ar n, q_arc (T 1) n ar ad] ++ q_pl ((List.range n).erase i) ad F) := q_D_perm (q_tlo _ h9d rfl) hD
        refine lv_iload_n hx hb dX1_allPoints_15 rfl (lv_at hl 1 rfl) ?_
        refine lv_aload_n hx hb dX1_allPoints_16 rfl (lv_at hl 0 rfl) ?_
        refine va_get (D := D) (ci := 2) (v := .ref al) (C := RX1) (T := TX1) (N := 5) hx hb hts iX1 hown hK hP 1 rfl rfl 0 (by decide) (hts (.fieldLink RX1 10 "ToyRegatta$Fleet" "boats" "Ljava/util/ArrayList;") (by decide +kernel)) (fun _ h9 => h9) rfl dX1_allPoints_17 ?_
        refine lv_iload_n hx hb dX1_allPoints_20 rfl (lv_at hl 2 rfl) ?_
        refine q_callV (As := [.int (nI i)]) (rs := [.int (q_sum (dCol F 3) i)]) hC (c_AL_get l D T al ar n i md ad h9d (by omega)) q_no_st q_no_at (cwV 1 hts gX1_allPoints_Jx4a65c_get_915e3 rfl rfl rfl (by decide +kernel) ⟨Nat.le_of_ble_eq_true rfl, Nat.le_of_ble_eq_true rfl⟩) (va_recv hK hP (ci := 0) (q0 := 2) rfl rfl) hK hP hD hS hA (q_mask [false, false, true, true] _) rfl hl.1 rfl (Nat.le_of_ble_eq_true rfl) dX1_allPoints_21 ⟨(Nat.le_of_ble_eq_true rfl), (Nat.le_of_ble_eq_true rfl)⟩ (fun v9 C9 H locs hp hP hD hS => ?_)
        obtain ⟨rfl, rfl⟩ := hp
        have hP : va_P D vwCl ([q_bc (ad i) (F i), q_fc fl al u, q_ac al md ar n, q_arc (T 1) n ar ad] ++ q_pl ((List.range n).erase i) ad F) H := q_P_perm (q_mrg_perm [false, false, true, true] _ _) hP
        have hD : va_D A ([q_bc (ad i) (F i), q_fc fl al u, q_ac al md ar n, q_arc (T 1) n ar ad] ++ q_pl ((List.range n).erase i) ad F) := q_D_perm (q_mrg_perm [false, false, true, true] _ _) hD
        refine va_castS hx hb hown (hts (.classLink RX1 24 "ToyRegatta$Boat") (by decide +kernel)) (hK.1 1 _ rfl).2 (va_recv hK hP (ci := 1) (q0 := 0) rfl rfl) dX1_allPoints_24 ?_
        refine va_get (D := D) (ci := 1) (v := .int ((F i) 3)) (C := RX0) (T := TX0) (N := 11) hx hb hts iX0 hown hK hP 0 rfl rfl 3 (by decide) (hts (.fieldLink RX1 108 "ToyRegatta$Boat" "points" "I") (by decide +kernel)) (fun _ h9 => h9) rfl dX1_allPoints_27 ?_
        refine lv_iadd hx hb dX1_allPoints_30 ?_
        refine lv_istore_n (lv' := [(1, .int ((q_sum (dCol F 3) i) + ((F i) 3))), (0, .ref fl), (2, .int (nI i))]) hx hb dX1_allPoints_31 rfl hl (by decide) rfl (fun ls hl => ?_)
        refine lv_iinc (v := (nI (i + 1))) (lv' := [(2, .int (nI (i + 1))), (1, .int ((q_sum (dCol F 3) i) + ((F i) 3))), (0, .ref fl)]) hx hb dX1_allPoints_32 hl (k := 2) rfl (nI_1 i) (by decide) rfl (fun ls hl => ?_)
        refine lv_goto (tgt := 4) hx hb dX1_allPoints_35 (by decide) ?_
        have hP : va_P D vwCl ([q_fc fl al u, q_ac al md ar n] ++ q_tl (T 1) n ar ad F) H := q_P_perm (q_tls [q_fc fl al u, q_ac al md ar n] h9d (F := F) (q_up_id F i)) hP
        have hD : va_D A ([q_fc fl al u, q_ac al md ar n] ++ q_tl (T 1) n ar ad F) := q_D_perm (q_tls [q_fc fl al u, q_ac al md ar n] h9d (F := F) (q_up_id F i)) hD
        have e9 : q_sum (dCol F 3) (i + 1) = ((q_sum (dCol F 3) i) + ((F i) 3)) := by simp only [q_sum, dCol, Int32.add_zero]
        rw [← e9] at hl
        exact ih (i + 1) (by omega) (by omega)   H locs ls hP hD hS (lv_sub hl [2, 1, 0] rfl)
  exact L4 (n + 1) 0 (by omega) (by omega)   H locs ls hP hD hS (lv_sub hl [2, 1, 0] rfl)
abbrev rmX1_allSoaked : Room := { frames := 3, cells := 0, slots := 0, locals := 64 }
set_option maxHeartbeats 4000000 in
set_option maxRecDepth 100000 in
theorem c_X1_allSoaked (l : Launch) (D : va_G) (T : Nat → ClassId) (fl al ar n : Nat) (md : Int32) (u : Nat → Int32) (ad : Nat → Nat) (F : Nat → Nat → Int32) (hn : n ≤ 8) : q_M l D (q_ty T) yX1_allSoaked wsX1_allSoaked rmX1_allSoaked [.ref fl] ([q_fc fl al u, q_ac al md ar n] ++ q_tl (T 1) n ar ad F) q_no (q_is (some (.int (q_sum (dCol F 4) n))) ([q_fc fl al u, q_ac al md ar n] ++ q_tl (T 1) n ar ad F)) := by
  refine q_start (cc := cX1_allSoaked) (maxL := 3) (ret := (some .int)) (by decide) rfl (Nat.le_of_ble_eq_true rfl) ?_
  intro p e s m args below meth c A H locs hx hb hr hts hown hlocks hml hnm hP hK hD hS hA hG ls hl
  have hown : s.vm.findClass RX1 = some m.cls := hown
  have hC : CallFix p m c cX1_allSoaked 3 s args wsX1_allSoaked RX1 := ⟨hx, hb, hml, hown, hts⟩
  have iX1 : ∀ w ∈ wsX10, w ∈ wsX1_allSoaked := by decide +kernel
  have iX0 : ∀ w ∈ wsX00, w ∈ wsX1_allSoaked := by decide +kernel
  have hl : lv_has ls 3 [(0, .ref fl)] := hl
  refine lv_iconst (v := 0) hx hb dX1_allSoaked_0 (by decide) ?_
  refine lv_istore_n (lv' := [(1, .int 0), (0, .ref fl)]) hx hb dX1_allSoaked_1 rfl hl (by decide) rfl (fun ls hl => ?_)
  refine lv_iconst (v := 0) hx hb dX1_allSoaked_2 (by decide) ?_
  refine lv_istore_n (lv' := [(2, .int 0), (1, .int 0), (0, .ref fl)]) hx hb dX1_allSoaked_3 rfl hl (by decide) rfl (fun ls hl => ?_)
  have L4 : ∀ (f9 i : Nat) (h9a : n < i + f9) (h9b : i ≤ n) (H : Heap) (locs : List Loc) (ls : Array Slot), va_P D vwCl ([q_fc fl al u, q_ac al md ar n] ++ q_tl (T 1) n ar ad F) H → va_D A ([q_fc fl al u, q_ac al md ar n] ++ q_tl (T 1) n ar ad F) → va_S A s.heap H locs → lv_has ls 3 [(0, .ref fl), (1, .int (q_sum (dCol F 4) i)), (2, .int (nI i))] → W p l e rmX1_allSoaked s m args below meth c H locs 0 0 (q_E below D (q_ty T) (q_is (some (.int (q_sum (dCol F 4) n))) ([q_fc fl al u, q_ac al md ar n] ++ q_tl (T 1) n ar ad F)) A args s rmX1_allSoaked) (F0 m 4 ls []) := by
    intro f9
    induction f9 with
    | zero => intro i h9a h9b; exact absurd h9a (by omega)
    | succ f9 ih =>
      intro i h9a h9b   H locs ls hP hD hS hl
      refine lv_iload_n hx hb dX1_allSoaked_4 rfl (lv_at hl 2 rfl) ?_
      refine lv_aload_n hx hb dX1_allSoaked_5 rfl (lv_at hl 0 rfl) ?_
      refine va_get (D := D) (ci := 2) (v := .ref al) (C := RX1) (T := TX1) (N := 5) hx hb hts iX1 hown hK hP 0 rfl rfl 0 (by decide) (hts (.fieldLink RX1 10 "ToyRegatta$Fleet" "boats" "Ljava/util/ArrayList;") (by decide +kernel)) (fun _ h9 => h9) rfl dX1_allSoaked_6 ?_
      refine q_callV (As := []) (rs := [.int (nI i)]) hC (c_AL_size l D T al ar n md) q_no_st q_no_at (cwV 0 hts gX1_allSoaked_Jx4a65c_size_8abf5 rfl rfl rfl (by decide +kernel) ⟨Nat.le_of_ble_eq_true rfl, Nat.le_of_ble_eq_true rfl⟩) (va_recv hK hP (ci := 0) (q0 := 1) rfl rfl) hK hP hD hS hA (q_mask [false, true] _) rfl hl.1 rfl (Nat.le_of_ble_eq_true rfl) dX1_allSoaked_9 ⟨(Nat.le_of_ble_eq_true rfl), (Nat.le_of_ble_eq_true rfl)⟩ (fun v9 C9 H locs hp hP hD hS => ?_)
      obtain ⟨rfl, rfl⟩ := hp
      have hP : va_P D vwCl ([q_fc fl al u, q_ac al md ar n] ++ q_tl (T 1) n ar ad F) H := q_P_perm (q_mrg_perm [false, true] _ _) hP
      have hD : va_D A ([q_fc fl al u, q_ac al md ar n] ++ q_tl (T 1) n ar ad F) := q_D_perm (q_mrg_perm [false, true] _ _) hD
      refine lv_icmp_ge (tgt := 38) hx hb dX1_allSoaked_12 (by decide) (fun c_12 => ?_) (fun c_12 => ?_)
      · have h9d := (q_exit c_12 h9b (by omega)).symm
        subst h9d
        refine lv_iload_n hx hb dX1_allSoaked_38 rfl (lv_at hl 1 rfl) ?_
        exact q_iret hx hb hr hlocks hP hK hD hS (Nat.le_of_ble_eq_true rfl) (Nat.le_of_ble_eq_true rfl) dX1_allSoaked_39 ⟨rfl, rfl⟩
      · have h9d := q_goon c_12 (by omega)
        have hP : va_P D vwCl ([q_bc (ad i) (F i), q_fc fl al u, q_ac al md ar n, q_arc (T 1) n ar ad] ++ q_pl ((List.range n).erase i) ad F) H := q_P_perm (q_tlo _ h9d rfl) hP
        have hD : va_D A ([q_bc (ad i) (F i), q_fc fl al u, q_ac al md ar n, q_arc (T 1) n ar ad] ++ q_pl ((List.range n).erase i) ad F) := q_D_perm (q_tlo _ h9d rfl) hD
        refine lv_iload_n hx hb dX1_allSoaked_15 rfl (lv_at hl 1 rfl) ?_
        refine lv_aload_n hx hb dX1_allSoaked_16 rfl (lv_at hl 0 rfl) ?_
        refine va_get (D := D) (ci := 2) (v := .ref al) (C := RX1) (T := TX1) (N := 5) hx hb hts iX1 hown hK hP 1 rfl rfl 0 (by decide) (hts (.fieldLink RX1 10 "ToyRegatta$Fleet" "boats" "Ljava/util/ArrayList;") (by decide +kernel)) (fun _ h9 => h9) rfl dX1_allSoaked_17 ?_
        refine lv_iload_n hx hb dX1_allSoaked_20 rfl (lv_at hl 2 rfl) ?_
        refine q_callV (As := [.int (nI i)]) (rs := [.int (q_sum (dCol F 4) i)]) hC (c_AL_get l D T al ar n i md ad h9d (by omega)) q_no_st q_no_at (cwV 1 hts gX1_allSoaked_Jx4a65c_get_915e3 rfl rfl rfl (by decide +kernel) ⟨Nat.le_of_ble_eq_true rfl, Nat.le_of_ble_eq_true rfl⟩) (va_recv hK hP (ci := 0) (q0 := 2) rfl rfl) hK hP hD hS hA (q_mask [false, false, true, true] _) rfl hl.1 rfl (Nat.le_of_ble_eq_true rfl) dX1_allSoaked_21 ⟨(Nat.le_of_ble_eq_true rfl), (Nat.le_of_ble_eq_true rfl)⟩ (fun v9 C9 H locs hp hP hD hS => ?_)
        obtain ⟨rfl, rfl⟩ := hp
        have hP : va_P D vwCl ([q_bc (ad i) (F i), q_fc fl al u, q_ac al md ar n, q_arc (T 1) n ar ad] ++ q_pl ((List.range n).erase i) ad F) H := q_P_perm (q_mrg_perm [false, false, true, true] _ _) hP
        have hD : va_D A ([q_bc (ad i) (F i), q_fc fl al u, q_ac al md ar n, q_arc (T 1) n ar ad] ++ q_pl ((List.range n).erase i) ad F) := q_D_perm (q_mrg_perm [false, false, true, true] _ _) hD
        refine va_castS hx hb hown (hts (.classLink RX1 24 "ToyRegatta$Boat") (by decide +kernel)) (hK.1 1 _ rfl).2 (va_recv hK hP (ci := 1) (q0 := 0) rfl rfl) dX1_allSoaked_24 ?_
        refine va_get (D := D) (ci := 1) (v := .int ((F i) 4)) (C := RX0) (T := TX0) (N := 11) hx hb hts iX0 hown hK hP 0 rfl rfl 4 (by decide) (hts (.fieldLink RX1 123 "ToyRegatta$Boat" "soaked" "I") (by decide +kernel)) (fun _ h9 => h9) rfl dX1_allSoaked_27 ?_
        refine lv_iadd hx hb dX1_allSoaked_30 ?_
        refine lv_istore_n (lv' := [(1, .int ((q_sum (dCol F 4) i) + ((F i) 4))), (0, .ref fl), (2, .int (nI i))]) hx hb dX1_allSoaked_31 rfl hl (by decide) rfl (fun ls hl => ?_)
        refine lv_iinc (v := (nI (i + 1))) (lv' := [(2, .int (nI (i + 1))), (1, .int ((q_sum (dCol F 4) i) + ((F i) 4))), (0, .ref fl)]) hx hb dX1_allSoaked_32 hl (k := 2) rfl (nI_1 i) (by decide) rfl (fun ls hl => ?_)
        refine lv_goto (tgt := 4) hx hb dX1_allSoaked_35 (by decide) ?_
        have hP : va_P D vwCl ([q_fc fl al u, q_ac al md ar n] ++ q_tl (T 1) n ar ad F) H := q_P_perm (q_tls [q_fc fl al u, q_ac al md ar n] h9d (F := F) (q_up_id F i)) hP
        have hD : va_D A ([q_fc fl al u, q_ac al md ar n] ++ q_tl (T 1) n ar ad F) := q_D_perm (q_tls [q_fc fl al u, q_ac al md ar n] h9d (F := F) (q_up_id F i)) hD
        have e9 : q_sum (dCol F 4) (i + 1) = ((q_sum (dCol F 4) i) + ((F i) 4)) := by simp only [q_sum, dCol, Int32.add_zero]
        rw [← e9] at hl
        exact ih (i + 1) (by omega) (by omega)   H locs ls hP hD hS (lv_sub hl [2, 1, 0] rfl)
  exact L4 (n + 1) 0 (by omega) (by omega)   H locs ls hP hD hS (lv_sub hl [2, 1, 0] rfl)
abbrev rmX1_allLead : Room := { frames := 3, cells := 0, slots := 0, locals := 64 }
set_option maxHeartbeats 4000000 in
set_option maxRecDepth 100000 in
theorem c_X1_allLead (l : Launch) (D : va_G) (T : Nat → ClassId) (fl al ar n : Nat) (md : Int32) (u : Nat → Int32) (ad : Nat → Nat) (F : Nat → Nat → Int32) (hn : n ≤ 8) : q_M l D (q_ty T) yX1_allLead wsX1_allLead rmX1_allLead [.ref fl] ([q_fc fl al u, q_ac al md ar n] ++ q_tl (T 1) n ar ad F) q_no (q_is (some (.int (q_sum (dCol F 2) n))) ([q_fc fl al u, q_ac al md ar n] ++ q_tl (T 1) n ar ad F)) := by
  refine q_start (cc := cX1_allLead) (maxL := 3) (ret := (some .int)) (by decide) rfl (Nat.le_of_ble_eq_true rfl) ?_
  intro p e s m args below meth c A H locs hx hb hr hts hown hlocks hml hnm hP hK hD hS hA hG ls hl
  have hown : s.vm.findClass RX1 = some m.cls := hown
  have hC : CallFix p m c cX1_allLead 3 s args wsX1_allLead RX1 := ⟨hx, hb, hml, hown, hts⟩
  have iX1 : ∀ w ∈ wsX10, w ∈ wsX1_allLead := by decide +kernel
  have iX0 : ∀ w ∈ wsX00, w ∈ wsX1_allLead := by decide +kernel
  have hl : lv_has ls 3 [(0, .ref fl)] := hl
  refine lv_iconst (v := 0) hx hb dX1_allLead_0 (by decide) ?_
  refine lv_istore_n (lv' := [(1, .int 0), (0, .ref fl)]) hx hb dX1_allLead_1 rfl hl (by decide) rfl (fun ls hl => ?_)
  refine lv_iconst (v := 0) hx hb dX1_allLead_2 (by decide) ?_
  refine lv_istore_n (lv' := [(2, .int 0), (1, .int 0), (0, .ref fl)]) hx hb dX1_allLead_3 rfl hl (by decide) rfl (fun ls hl => ?_)
  have L4 : ∀ (f9 i : Nat) (h9a : n < i + f9) (h9b : i ≤ n) (H : Heap) (locs : List Loc) (ls : Array Slot), va_P D vwCl ([q_fc fl al u, q_ac al md ar n] ++ q_tl (T 1) n ar ad F) H → va_D A ([q_fc fl al u, q_ac al md ar n] ++ q_tl (T 1) n ar ad F) → va_S A s.heap H locs → lv_has ls 3 [(0, .ref fl), (1, .int (q_sum (dCol F 2) i)), (2, .int (nI i))] → W p l e rmX1_allLead s m args below meth c H locs 0 0 (q_E below D (q_ty T) (q_is (some (.int (q_sum (dCol F 2) n))) ([q_fc fl al u, q_ac al md ar n] ++ q_tl (T 1) n ar ad F)) A args s rmX1_allLead) (F0 m 4 ls []) := by
    intro f9
    induction f9 with
    | zero => intro i h9a h9b; exact absurd h9a (by omega)
    | succ f9 ih =>
      intro i h9a h9b   H locs ls hP hD hS hl
      refine lv_iload_n hx hb dX1_allLead_4 rfl (lv_at hl 2 rfl) ?_
      refine lv_aload_n hx hb dX1_allLead_5 rfl (lv_at hl 0 rfl) ?_
      refine va_get (D := D) (ci := 2) (v := .ref al) (C := RX1) (T := TX1) (N := 5) hx hb hts iX1 hown hK hP 0 rfl rfl 0 (by decide) (hts (.fieldLink RX1 10 "ToyRegatta$Fleet" "boats" "Ljava/util/ArrayList;") (by decide +kernel)) (fun _ h9 => h9) rfl dX1_allLead_6 ?_
      refine q_callV (As := []) (rs := [.int (nI i)]) hC (c_AL_size l D T al ar n md) q_no_st q_no_at (cwV 0 hts gX1_allLead_Jx4a65c_size_8abf5 rfl rfl rfl (by decide +kernel) ⟨Nat.le_of_ble_eq_true rfl, Nat.le_of_ble_eq_true rfl⟩) (va_recv hK hP (ci := 0) (q0 := 1) rfl rfl) hK hP hD hS hA (q_mask [false, true] _) rfl hl.1 rfl (Nat.le_of_ble_eq_true rfl) dX1_allLead_9 ⟨(Nat.le_of_ble_eq_true rfl), (Nat.le_of_ble_eq_true rfl)⟩ (fun v9 C9 H locs hp hP hD hS => ?_)
      obtain ⟨rfl, rfl⟩ := hp
      have hP : va_P D vwCl ([q_fc fl al u, q_ac al md ar n] ++ q_tl (T 1) n ar ad F) H := q_P_perm (q_mrg_perm [false, true] _ _) hP
      have hD : va_D A ([q_fc fl al u, q_ac al md ar n] ++ q_tl (T 1) n ar ad F) := q_D_perm (q_mrg_perm [false, true] _ _) hD
      refine lv_icmp_ge (tgt := 38) hx hb dX1_allLead_12 (by decide) (fun c_12 => ?_) (fun c_12 => ?_)
      · have h9d := (q_exit c_12 h9b (by omega)).symm
        subst h9d
        refine lv_iload_n hx hb dX1_allLead_38 rfl (lv_at hl 1 rfl) ?_
        exact q_iret hx hb hr hlocks hP hK hD hS (Nat.le_of_ble_eq_true rfl) (Nat.le_of_ble_eq_true rfl) dX1_allLead_39 ⟨rfl, rfl⟩
      · have h9d := q_goon c_12 (by omega)
        have hP : va_P D vwCl ([q_bc (ad i) (F i), q_fc fl al u, q_ac al md ar n, q_arc (T 1) n ar ad] ++ q_pl ((List.range n).erase i) ad F) H := q_P_perm (q_tlo _ h9d rfl) hP
        have hD : va_D A ([q_bc (ad i) (F i), q_fc fl al u, q_ac al md ar n, q_arc (T 1) n ar ad] ++ q_pl ((List.range n).erase i) ad F) := q_D_perm (q_tlo _ h9d rfl) hD
        refine lv_iload_n hx hb dX1_allLead_15 rfl (lv_at hl 1 rfl) ?_
        refine lv_aload_n hx hb dX1_allLead_16 rfl (lv_at hl 0 rfl) ?_
        refine va_get (D := D) (ci := 2) (v := .ref al) (C := RX1) (T := TX1) (N := 5) hx hb hts iX1 hown hK hP 1 rfl rfl 0 (by decide) (hts (.fieldLink RX1 10 "ToyRegatta$Fleet" "boats" "Ljava/util/ArrayList;") (by decide +kernel)) (fun _ h9 => h9) rfl dX1_allLead_17 ?_
        refine lv_iload_n hx hb dX1_allLead_20 rfl (lv_at hl 2 rfl) ?_
        refine q_callV (As := [.int (nI i)]) (rs := [.int (q_sum (dCol F 2) i)]) hC (c_AL_get l D T al ar n i md ad h9d (by omega)) q_no_st q_no_at (cwV 1 hts gX1_allLead_Jx4a65c_get_915e3 rfl rfl rfl (by decide +kernel) ⟨Nat.le_of_ble_eq_true rfl, Nat.le_of_ble_eq_true rfl⟩) (va_recv hK hP (ci := 0) (q0 := 2) rfl rfl) hK hP hD hS hA (q_mask [false, false, true, true] _) rfl hl.1 rfl (Nat.le_of_ble_eq_true rfl) dX1_allLead_21 ⟨(Nat.le_of_ble_eq_true rfl), (Nat.le_of_ble_eq_true rfl)⟩ (fun v9 C9 H locs hp hP hD hS => ?_)
        obtain ⟨rfl, rfl⟩ := hp
        have hP : va_P D vwCl ([q_bc (ad i) (F i), q_fc fl al u, q_ac al md ar n, q_arc (T 1) n ar ad] ++ q_pl ((List.range n).erase i) ad F) H := q_P_perm (q_mrg_perm [false, false, true, true] _ _) hP
        have hD : va_D A ([q_bc (ad i) (F i), q_fc fl al u, q_ac al md ar n, q_arc (T 1) n ar ad] ++ q_pl ((List.range n).erase i) ad F) := q_D_perm (q_mrg_perm [false, false, true, true] _ _) hD
        refine va_castS hx hb hown (hts (.classLink RX1 24 "ToyRegatta$Boat") (by decide +kernel)) (hK.1 1 _ rfl).2 (va_recv hK hP (ci := 1) (q0 := 0) rfl rfl) dX1_allLead_24 ?_
        refine va_get (D := D) (ci := 1) (v := .int ((F i) 2)) (C := RX0) (T := TX0) (N := 11) hx hb hts iX0 hown hK hP 0 rfl rfl 2 (by decide) (hts (.fieldLink RX1 126 "ToyRegatta$Boat" "lead" "I") (by decide +kernel)) (fun _ h9 => h9) rfl dX1_allLead_27 ?_
        refine lv_iadd hx hb dX1_allLead_30 ?_
        refine lv_istore_n (lv' := [(1, .int ((q_sum (dCol F 2) i) + ((F i) 2))), (0, .ref fl), (2, .int (nI i))]) hx hb dX1_allLead_31 rfl hl (by decide) rfl (fun ls hl => ?_)
        refine lv_iinc (v := (nI (i + 1))) (lv' := [(2, .int (nI (i + 1))), (1, .int ((q_sum (dCol F 2) i) + ((F i) 2))), (0, .ref fl)]) hx hb dX1_allLead_32 hl (k := 2) rfl (nI_1 i) (by decide) rfl (fun ls hl => ?_)
        refine lv_goto (tgt := 4) hx hb dX1_allLead_35 (by decide) ?_
        have hP : va_P D vwCl ([q_fc fl al u, q_ac al md ar n] ++ q_tl (T 1) n ar ad F) H := q_P_perm (q_tls [q_fc fl al u, q_ac al md ar n] h9d (F := F) (q_up_id F i)) hP
        have hD : va_D A ([q_fc fl al u, q_ac al md ar n] ++ q_tl (T 1) n ar ad F) := q_D_perm (q_tls [q_fc fl al u, q_ac al md ar n] h9d (F := F) (q_up_id F i)) hD
        have e9 : q_sum (dCol F 2) (i + 1) = ((q_sum (dCol F 2) i) + ((F i) 2)) := by simp only [q_sum, dCol, Int32.add_zero]
        rw [← e9] at hl
        exact ih (i + 1) (by omega) (by omega)   H locs ls hP hD hS (lv_sub hl [2, 1, 0] rfl)
  exact L4 (n + 1) 0 (by omega) (by omega)   H locs ls hP hD hS (lv_sub hl [2, 1, 0] rfl)
abbrev rmX1_begin : Room := { frames := 3, cells := 0, slots := 0, locals := 64 }
set_option maxHeartbeats 4000000 in
set_option maxRecDepth 100000 in
theorem c_X1_begin (l : Launch) (D : va_G) (T : Nat → ClassId) (fl al ar n : Nat) (md : Int32) (u : Nat → Int32) (ad : Nat → Nat) (F : Nat → Nat → Int32) (hn : n ≤ 8) : q_M l D (q_ty T) yX1_begin wsX1_begin rmX1_begin [.ref fl] ([q_fc fl al u, q_ac al md ar n] ++ q_tl (T 1) n ar ad F) q_no (q_is none ([q_fc fl al (dBegU u), q_ac al md ar n] ++ q_tl (T 1) n ar ad (dEnter F))) := by
  refine q_start (cc := cX1_begin) (maxL := 2) (ret := none) (by decide) rfl (Nat.le_of_ble_eq_true rfl) ?_
  intro p e s m args below meth c A H locs hx hb hr hts hown hlocks hml hnm hP hK hD hS hA hG ls hl
  have hown : s.vm.findClass RX1 = some m.cls := hown
  have hC : CallFix p m c cX1_begin 2 s args wsX1_begin RX1 := ⟨hx, hb, hml, hown, hts⟩
  have iX1 : ∀ w ∈ wsX10, w ∈ wsX1_begin := by decide +kernel
  have hl : lv_has ls 2 [(0, .ref fl)] := hl
  refine lv_iconst (v := 0) hx hb dX1_begin_0 (by decide) ?_
  refine lv_istore_n (lv' := [(1, .int 0), (0, .ref fl)]) hx hb dX1_begin_1 rfl hl (by decide) rfl (fun ls hl => ?_)
  have hP : va_P D vwCl ([q_fc fl al u, q_ac al md ar n] ++ q_tl (T 1) n ar ad (q_upto 0 (dEnter F) F)) H := by rw [q_upto_0]; exact hP
  have hD : va_D A ([q_fc fl al u, q_ac al md ar n] ++ q_tl (T 1) n ar ad (q_upto 0 (dEnter F) F)) := by rw [q_upto_0]; exact hD
  have L2 : ∀ (f9 i : Nat) (h9a : n < i + f9) (h9b : i ≤ n) (H : Heap) (locs : List Loc) (ls : Array Slot), va_P D vwCl ([q_fc fl al u, q_ac al md ar n] ++ q_tl (T 1) n ar ad (q_upto i (dEnter F) F)) H → va_D A ([q_fc fl al u, q_ac al md ar n] ++ q_tl (T 1) n ar ad (q_upto i (dEnter F) F)) → va_S A s.heap H locs → lv_has ls 2 [(0, .ref fl), (1, .int (nI i))] → W p l e rmX1_begin s m args below meth c H locs 0 0 (q_E below D (q_ty T) (q_is none ([q_fc fl al (dBegU u), q_ac al md ar n] ++ q_tl (T 1) n ar ad (dEnter F))) A args s rmX1_begin) (F0 m 2 ls []) := by
    intro f9
    induction f9 with
    | zero => intro i h9a h9b; exact absurd h9a (by omega)
    | succ f9 ih =>
      intro i h9a h9b   H locs ls hP hD hS hl
      refine lv_iload_n hx hb dX1_begin_2 rfl (lv_at hl 1 rfl) ?_
      refine lv_aload_n hx hb dX1_begin_3 rfl (lv_at hl 0 rfl) ?_
      refine va_get (D := D) (ci := 2) (v := .ref al) (C := RX1) (T := TX1) (N := 5) hx hb hts iX1 hown hK hP 0 rfl rfl 0 (by decide) (hts (.fieldLink RX1 10 "ToyRegatta$Fleet" "boats" "Ljava/util/ArrayList;") (by decide +kernel)) (fun _ h9 => h9) rfl dX1_begin_4 ?_
      refine q_callV (As := []) (rs := [.int (nI i)]) hC (c_AL_size l D T al ar n md) q_no_st q_no_at (cwV 0 hts gX1_begin_Jx4a65c_size_8abf5 rfl rfl rfl (by decide +kernel) ⟨Nat.le_of_ble_eq_true rfl, Nat.le_of_ble_eq_true rfl⟩) (va_recv hK hP (ci := 0) (q0 := 1) rfl rfl) hK hP hD hS hA (q_mask [false, true] _) rfl hl.1 rfl (Nat.le_of_ble_eq_true rfl) dX1_begin_7 ⟨(Nat.le_of_ble_eq_true rfl), (Nat.le_of_ble_eq_true rfl)⟩ (fun v9 C9 H locs hp hP hD hS => ?_)
      obtain ⟨rfl, rfl⟩ := hp
      have hP : va_P D vwCl ([q_fc fl al u, q_ac al md ar n] ++ q_tl (T 1) n ar ad (q_upto i (dEnter F) F)) H := q_P_perm (q_mrg_perm [false, true] _ _) hP
      have hD : va_D A ([q_fc fl al u, q_ac al md ar n] ++ q_tl (T 1) n ar ad (q_upto i (dEnter F) F)) := q_D_perm (q_mrg_perm [false, true] _ _) hD
      refine lv_icmp_ge (tgt := 33) hx hb dX1_begin_10 (by decide) (fun c_10 => ?_) (fun c_10 => ?_)
      · have h9d := (q_exit c_10 h9b (by omega)).symm
        subst h9d
        rw [q_tl_congr (F := q_upto n (dEnter F) F) (F' := (dEnter F)) (fun b hb => q_upto_lt _ _ hb)] at hP hD
        have hP : va_P D vwCl ([q_fc fl al u, q_ac al md ar n] ++ q_tl (T 1) n ar ad (dEnter F)) H := hP
        have hD : va_D A ([q_fc fl al u, q_ac al md ar n] ++ q_tl (T 1) n ar ad (dEnter F)) := hD
        refine lv_aload_n hx hb dX1_begin_33 rfl (lv_at hl 0 rfl) ?_
        refine lv_iconst (v := 1) hx hb dX1_begin_34 (by decide) ?_
        refine va_put (D := D) (ci := 2) (v := .int 1) (ty := .boolean) (C := RX1) (T := TX1) (N := 5) hx hb hts iX1 tyX1 tyX1_ok nmX1 hown hK hP hD hS 0 rfl rfl 3 (by decide) (hts (.fieldLink RX1 37 "ToyRegatta$Fleet" "racing" "Z") (by decide +kernel)) (fun _ h9 => h9) rfl (by decide +kernel) rfl rfl (Nat.le_of_ble_eq_true rfl) dX1_begin_35 (fun H locs hP hD hS => ?_)
        have hP : va_P D vwCl ([q_fc fl al (upd u 2 1), q_ac al md ar n] ++ q_tl (T 1) n ar ad (dEnter F)) H := hP
        have hD : va_D A ([q_fc fl al (upd u 2 1), q_ac al md ar n] ++ q_tl (T 1) n ar ad (dEnter F)) := hD
        refine lv_aload_n hx hb dX1_begin_38 rfl (lv_at hl 0 rfl) ?_
        refine lv_iconst (v := 0) hx hb dX1_begin_39 (by decide) ?_
        refine va_put (D := D) (ci := 2) (v := .int 0) (ty := .int) (C := RX1) (T := TX1) (N := 5) hx hb hts iX1 tyX1 tyX1_ok nmX1 hown hK hP hD hS 0 rfl rfl 4 (by decide) (hts (.fieldLink RX1 41 "ToyRegatta$Fleet" "minutesRaced" "I") (by decide +kernel)) (fun _ h9 => h9) rfl (by decide +kernel) rfl rfl (Nat.le_of_ble_eq_true rfl) dX1_begin_40 (fun H locs hP hD hS => ?_)
        have hP : va_P D vwCl ([q_fc fl al (upd (upd u 2 1) 3 0), q_ac al md ar n] ++ q_tl (T 1) n ar ad (dEnter F)) H := hP
        have hD : va_D A ([q_fc fl al (upd (upd u 2 1) 3 0), q_ac al md ar n] ++ q_tl (T 1) n ar ad (dEnter F)) := hD
        refine lv_aload_n hx hb dX1_begin_43 rfl (lv_at hl 0 rfl) ?_
        refine lv_dup hx hb dX1_begin_44 rfl ?_
        refine va_get (D := D) (ci := 2) (v := .int (u 1)) (C := RX1) (T := TX1) (N := 5) hx hb hts iX1 hown hK hP 0 rfl rfl 2 (by decide) (hts (.fieldLink RX1 34 "ToyRegatta$Fleet" "races" "I") (by decide +kernel)) (fun _ h9 => h9) rfl dX1_begin_45 ?_
        refine lv_iconst (v := 1) hx hb dX1_begin_48 (by decide) ?_
        refine lv_iadd hx hb dX1_begin_49 ?_
        refine va_put (D := D) (ci := 2) (v := .int ((u 1) + 1)) (ty := .int) (C := RX1) (T := TX1) (N := 5) hx hb hts iX1 tyX1 tyX1_ok nmX1 hown hK hP hD hS 0 rfl rfl 2 (by decide) (hts (.fieldLink RX1 34 "ToyRegatta$Fleet" "races" "I") (by decide +kernel)) (fun _ h9 => h9) rfl (by decide +kernel) rfl rfl (Nat.le_of_ble_eq_true rfl) dX1_begin_50 (fun H locs hP hD hS => ?_)
        have hP : va_P D vwCl ([q_fc fl al (upd (upd (upd u 2 1) 3 0) 1 ((u 1) + 1)), q_ac al md ar n] ++ q_tl (T 1) n ar ad (dEnter F)) H := hP
        have hD : va_D A ([q_fc fl al (upd (upd (upd u 2 1) 3 0) 1 ((u 1) + 1)), q_ac al md ar n] ++ q_tl (T 1) n ar ad (dEnter F)) := hD
        exact q_vret hx hb hr hlocks hP hK hD hS (Nat.le_of_ble_eq_true rfl) (Nat.le_of_ble_eq_true rfl) dX1_begin_53 ⟨rfl, rfl⟩
      · have h9d := q_goon c_10 (by omega)
        have hP : va_P D vwCl ([q_bc (ad i) (F i), q_fc fl al u, q_ac al md ar n, q_arc (T 1) n ar ad] ++ q_pl ((List.range n).erase i) ad (q_upto i (dEnter F) F)) H := q_P_perm (q_tlo _ h9d (q_upto_at i (dEnter F) F)) hP
        have hD : va_D A ([q_bc (ad i) (F i), q_fc fl al u, q_ac al md ar n, q_arc (T 1) n ar ad] ++ q_pl ((List.range n).erase i) ad (q_upto i (dEnter F) F)) := q_D_perm (q_tlo _ h9d (q_upto_at i (dEnter F) F)) hD
        refine lv_aload_n hx hb dX1_begin_13 rfl (lv_at hl 0 rfl) ?_
        refine va_get (D := D) (ci := 2) (v := .ref al) (C := RX1) (T := TX1) (N := 5) hx hb hts iX1 hown hK hP 1 rfl rfl 0 (by decide) (hts (.fieldLink RX1 10 "ToyRegatta$Fleet" "boats" "Ljava/util/ArrayList;") (by decide +kernel)) (fun _ h9 => h9) rfl dX1_begin_14 ?_
        refine lv_iload_n hx hb dX1_begin_17 rfl (lv_at hl 1 rfl) ?_
        refine q_callV (As := [.int (nI i)]) (rs := []) hC (c_AL_get l D T al ar n i md ad h9d (by omega)) q_no_st q_no_at (cwV 1 hts gX1_begin_Jx4a65c_get_915e3 rfl rfl rfl (by decide +kernel) ⟨Nat.le_of_ble_eq_true rfl, Nat.le_of_ble_eq_true rfl⟩) (va_recv hK hP (ci := 0) (q0 := 2) rfl rfl) hK hP hD hS hA (q_mask [false, false, true, true] _) rfl hl.1 rfl (Nat.le_of_ble_eq_true rfl) dX1_begin_18 ⟨(Nat.le_of_ble_eq_true rfl), (Nat.le_of_ble_eq_true rfl)⟩ (fun v9 C9 H locs hp hP hD hS => ?_)
        obtain ⟨rfl, rfl⟩ := hp
        have hP : va_P D vwCl ([q_bc (ad i) (F i), q_fc fl al u, q_ac al md ar n, q_arc (T 1) n ar ad] ++ q_pl ((List.range n).erase i) ad (q_upto i (dEnter F) F)) H := q_P_perm (q_mrg_perm [false, false, true, true] _ _) hP
        have hD : va_D A ([q_bc (ad i) (F i), q_fc fl al u, q_ac al md ar n, q_arc (T 1) n ar ad] ++ q_pl ((List.range n).erase i) ad (q_upto i (dEnter F) F)) := q_D_perm (q_mrg_perm [false, false, true, true] _ _) hD
        refine va_castS hx hb hown (hts (.classLink RX1 24 "ToyRegatta$Boat") (by decide +kernel)) (hK.1 1 _ rfl).2 (va_recv hK hP (ci := 1) (q0 := 0) rfl rfl) dX1_begin_21 ?_
        refine q_callV (As := []) (rs := []) hC (c_X0_enterRace l D T (ad i) (F i) ) q_no_st q_no_at (cwV 0 hts gX1_begin_X0_enterRace rfl rfl rfl (by decide +kernel) ⟨Nat.le_of_ble_eq_true rfl, Nat.le_of_ble_eq_true rfl⟩) (va_recv hK hP (ci := 1) (q0 := 0) rfl rfl) hK hP hD hS hA (q_mask [true, false, false, false] _) rfl hl.1 rfl (Nat.le_of_ble_eq_true rfl) dX1_begin_24 ⟨(Nat.le_of_ble_eq_true rfl), (Nat.le_of_ble_eq_true rfl)⟩ (fun v9 C9 H locs hp hP hD hS => ?_)
        obtain ⟨rfl, rfl⟩ := hp
        have hP : va_P D vwCl ([q_bc (ad i) (bEnter (F i)), q_fc fl al u, q_ac al md ar n, q_arc (T 1) n ar ad] ++ q_pl ((List.range n).erase i) ad (q_upto i (dEnter F) F)) H := q_P_perm (q_mrg_perm [true, false, false, false] _ _) hP
        have hD : va_D A ([q_bc (ad i) (bEnter (F i)), q_fc fl al u, q_ac al md ar n, q_arc (T 1) n ar ad] ++ q_pl ((List.range n).erase i) ad (q_upto i (dEnter F) F)) := q_D_perm (q_mrg_perm [true, false, false, false] _ _) hD
        refine lv_iinc (v := (nI (i + 1))) (lv' := [(1, .int (nI (i + 1))), (0, .ref fl)]) hx hb dX1_begin_27 hl (k := 1) rfl (nI_1 i) (by decide) rfl (fun ls hl => ?_)
        refine lv_goto (tgt := 2) hx hb dX1_begin_30 (by decide) ?_
        have hP : va_P D vwCl ([q_fc fl al u, q_ac al md ar n] ++ q_tl (T 1) n ar ad (q_upto (i + 1) (dEnter F) F)) H := q_P_perm (q_tls [q_fc fl al u, q_ac al md ar n] h9d (F := (q_upto i (dEnter F) F)) (q_upto_s i (dEnter F) F)) hP
        have hD : va_D A ([q_fc fl al u, q_ac al md ar n] ++ q_tl (T 1) n ar ad (q_upto (i + 1) (dEnter F) F)) := q_D_perm (q_tls [q_fc fl al u, q_ac al md ar n] h9d (F := (q_upto i (dEnter F) F)) (q_upto_s i (dEnter F) F)) hD
        exact ih (i + 1) (by omega) (by omega)   H locs ls hP hD hS (lv_sub hl [1, 0] rfl)
  exact L2 (n + 1) 0 (by omega) (by omega)   H locs ls hP hD hS (lv_sub hl [1, 0] rfl)
abbrev rmX1_dryAshore : Room := { frames := 3, cells := 0, slots := 0, locals := 64 }
set_option maxHeartbeats 4000000 in
set_option maxRecDepth 100000 in
theorem c_X1_dryAshore (l : Launch) (D : va_G) (T : Nat → ClassId) (fl al ar n : Nat) (md : Int32) (u : Nat → Int32) (ad : Nat → Nat) (F : Nat → Nat → Int32) (hn : n ≤ 8) : q_M l D (q_ty T) yX1_dryAshore wsX1_dryAshore rmX1_dryAshore [.ref fl] ([q_fc fl al u, q_ac al md ar n] ++ q_tl (T 1) n ar ad F) q_no (q_is none ([q_fc fl al u, q_ac al md ar n] ++ q_tl (T 1) n ar ad (dDry F (u 2)))) := by
  refine q_start (cc := cX1_dryAshore) (maxL := 3) (ret := none) (by decide) rfl (Nat.le_of_ble_eq_true rfl) ?_
  intro p e s m args below meth c A H locs hx hb hr hts hown hlocks hml hnm hP hK hD hS hA hG ls hl
  have hown : s.vm.findClass RX1 = some m.cls := hown
  have hC : CallFix p m c cX1_dryAshore 3 s args wsX1_dryAshore RX1 := ⟨hx, hb, hml, hown, hts⟩
  have iX1 : ∀ w ∈ wsX10, w ∈ wsX1_dryAshore := by decide +kernel
  have iX0 : ∀ w ∈ wsX00, w ∈ wsX1_dryAshore := by decide +kernel
  have hl : lv_has ls 3 [(0, .ref fl)] := hl
  refine lv_iconst (v := 0) hx hb dX1_dryAshore_0 (by decide) ?_
  refine lv_istore_n (lv' := [(1, .int 0), (0, .ref fl)]) hx hb dX1_dryAshore_1 rfl hl (by decide) rfl (fun ls hl => ?_)
  have hP : va_P D vwCl ([q_fc fl al u, q_ac al md ar n] ++ q_tl (T 1) n ar ad (q_upto 0 (dDry F (u 2)) F)) H := by rw [q_upto_0]; exact hP
  have hD : va_D A ([q_fc fl al u, q_ac al md ar n] ++ q_tl (T 1) n ar ad (q_upto 0 (dDry F (u 2)) F)) := by rw [q_upto_0]; exact hD
  have L2 : ∀ (f9 i : Nat) (h9a : n < i + f9) (h9b : i ≤ n) (H : Heap) (locs : List Loc) (ls : Array Slot), va_P D vwCl ([q_fc fl al u, q_ac al md ar n] ++ q_tl (T 1) n ar ad (q_upto i (dDry F (u 2)) F)) H → va_D A ([q_fc fl al u, q_ac al md ar n] ++ q_tl (T 1) n ar ad (q_upto i (dDry F (u 2)) F)) → va_S A s.heap H locs → lv_has ls 3 [(0, .ref fl), (1, .int (nI i))] → W p l e rmX1_dryAshore s m args below meth c H locs 0 0 (q_E below D (q_ty T) (q_is none ([q_fc fl al u, q_ac al md ar n] ++ q_tl (T 1) n ar ad (dDry F (u 2)))) A args s rmX1_dryAshore) (F0 m 2 ls []) := by
    intro f9
    induction f9 with
    | zero => intro i h9a h9b; exact absurd h9a (by omega)
    | succ f9 ih =>
      intro i h9a h9b   H locs ls hP hD hS hl
      refine lv_iload_n hx hb dX1_dryAshore_2 rfl (lv_at hl 1 rfl) ?_
      refine lv_aload_n hx hb dX1_dryAshore_3 rfl (lv_at hl 0 rfl) ?_
      refine va_get (D := D) (ci := 2) (v := .ref al) (C := RX1) (T := TX1) (N := 5) hx hb hts iX1 hown hK hP 0 rfl rfl 0 (by decide) (hts (.fieldLink RX1 10 "ToyRegatta$Fleet" "boats" "Ljava/util/ArrayList;") (by decide +kernel)) (fun _ h9 => h9) rfl dX1_dryAshore_4 ?_
      refine q_callV (As := []) (rs := [.int (nI i)]) hC (c_AL_size l D T al ar n md) q_no_st q_no_at (cwV 0 hts gX1_dryAshore_Jx4a65c_size_8abf5 rfl rfl rfl (by decide +kernel) ⟨Nat.le_of_ble_eq_true rfl, Nat.le_of_ble_eq_true rfl⟩) (va_recv hK hP (ci := 0) (q0 := 1) rfl rfl) hK hP hD hS hA (q_mask [false, true] _) rfl hl.1 rfl (Nat.le_of_ble_eq_true rfl) dX1_dryAshore_7 ⟨(Nat.le_of_ble_eq_true rfl), (Nat.le_of_ble_eq_true rfl)⟩ (fun v9 C9 H locs hp hP hD hS => ?_)
      obtain ⟨rfl, rfl⟩ := hp
      have hP : va_P D vwCl ([q_fc fl al u, q_ac al md ar n] ++ q_tl (T 1) n ar ad (q_upto i (dDry F (u 2)) F)) H := q_P_perm (q_mrg_perm [false, true] _ _) hP
      have hD : va_D A ([q_fc fl al u, q_ac al md ar n] ++ q_tl (T 1) n ar ad (q_upto i (dDry F (u 2)) F)) := q_D_perm (q_mrg_perm [false, true] _ _) hD
      refine lv_icmp_ge (tgt := 49) hx hb dX1_dryAshore_10 (by decide) (fun c_10 => ?_) (fun c_10 => ?_)
      · have h9d := (q_exit c_10 h9b (by omega)).symm
        subst h9d
        rw [q_tl_congr (F := q_upto n (dDry F (u 2)) F) (F' := (dDry F (u 2))) (fun b hb => q_upto_lt _ _ hb)] at hP hD
        have hP : va_P D vwCl ([q_fc fl al u, q_ac al md ar n] ++ q_tl (T 1) n ar ad (dDry F (u 2))) H := hP
        have hD : va_D A ([q_fc fl al u, q_ac al md ar n] ++ q_tl (T 1) n ar ad (dDry F (u 2))) := hD
        exact q_vret hx hb hr hlocks hP hK hD hS (Nat.le_of_ble_eq_true rfl) (Nat.le_of_ble_eq_true rfl) dX1_dryAshore_49 ⟨rfl, rfl⟩
      · have h9d := q_goon c_10 (by omega)
        have hP : va_P D vwCl ([q_bc (ad i) (F i), q_fc fl al u, q_ac al md ar n, q_arc (T 1) n ar ad] ++ q_pl ((List.range n).erase i) ad (q_upto i (dDry F (u 2)) F)) H := q_P_perm (q_tlo _ h9d (q_upto_at i (dDry F (u 2)) F)) hP
        have hD : va_D A ([q_bc (ad i) (F i), q_fc fl al u, q_ac al md ar n, q_arc (T 1) n ar ad] ++ q_pl ((List.range n).erase i) ad (q_upto i (dDry F (u 2)) F)) := q_D_perm (q_tlo _ h9d (q_upto_at i (dDry F (u 2)) F)) hD
        refine lv_aload_n hx hb dX1_dryAshore_13 rfl (lv_at hl 0 rfl) ?_
        refine va_get (D := D) (ci := 2) (v := .ref al) (C := RX1) (T := TX1) (N := 5) hx hb hts iX1 hown hK hP 1 rfl rfl 0 (by decide) (hts (.fieldLink RX1 10 "ToyRegatta$Fleet" "boats" "Ljava/util/ArrayList;") (by decide +kernel)) (fun _ h9 => h9) rfl dX1_dryAshore_14 ?_
        refine lv_iload_n hx hb dX1_dryAshore_17 rfl (lv_at hl 1 rfl) ?_
        refine q_callV (As := [.int (nI i)]) (rs := []) hC (c_AL_get l D T al ar n i md ad h9d (by omega)) q_no_st q_no_at (cwV 1 hts gX1_dryAshore_Jx4a65c_get_915e3 rfl rfl rfl (by decide +kernel) ⟨Nat.le_of_ble_eq_true rfl, Nat.le_of_ble_eq_true rfl⟩) (va_recv hK hP (ci := 0) (q0 := 2) rfl rfl) hK hP hD hS hA (q_mask [false, false, true, true] _) rfl hl.1 rfl (Nat.le_of_ble_eq_true rfl) dX1_dryAshore_18 ⟨(Nat.le_of_ble_eq_true rfl), (Nat.le_of_ble_eq_true rfl)⟩ (fun v9 C9 H locs hp hP hD hS => ?_)
        obtain ⟨rfl, rfl⟩ := hp
        have hP : va_P D vwCl ([q_bc (ad i) (F i), q_fc fl al u, q_ac al md ar n, q_arc (T 1) n ar ad] ++ q_pl ((List.range n).erase i) ad (q_upto i (dDry F (u 2)) F)) H := q_P_perm (q_mrg_perm [false, false, true, true] _ _) hP
        have hD : va_D A ([q_bc (ad i) (F i), q_fc fl al u, q_ac al md ar n, q_arc (T 1) n ar ad] ++ q_pl ((List.range n).erase i) ad (q_upto i (dDry F (u 2)) F)) := q_D_perm (q_mrg_perm [false, false, true, true] _ _) hD
        refine va_castS hx hb hown (hts (.classLink RX1 24 "ToyRegatta$Boat") (by decide +kernel)) (hK.1 1 _ rfl).2 (va_recv hK hP (ci := 1) (q0 := 0) rfl rfl) dX1_dryAshore_21 ?_
        refine lv_astore_n (lv' := [(2, .ref (ad i)), (0, .ref fl), (1, .int (nI i))]) hx hb dX1_dryAshore_24 rfl hl (by decide) rfl (fun ls hl => ?_)
        refine lv_aload_n hx hb dX1_dryAshore_25 rfl (lv_at hl 1 rfl) ?_
        refine va_get (D := D) (ci := 2) (v := .int (u 2)) (C := RX1) (T := TX1) (N := 5) hx hb hts iX1 hown hK hP 1 rfl rfl 3 (by decide) (hts (.fieldLink RX1 37 "ToyRegatta$Fleet" "racing" "Z") (by decide +kernel)) (fun _ h9 => h9) rfl dX1_dryAshore_26 ?_
        refine lv_if_eq (tgt := 39) hx hb dX1_dryAshore_29 (by decide) (fun c_29 => ?_) (fun c_29 => ?_)
        · refine lv_aload_n hx hb dX1_dryAshore_39 rfl (lv_at hl 0 rfl) ?_
          refine q_callV (As := []) (rs := []) hC (c_X0_dry l D T (ad i) (F i) ) q_no_st q_no_at (cwV 0 hts gX1_dryAshore_X0_dry rfl rfl rfl (by decide +kernel) ⟨Nat.le_of_ble_eq_true rfl, Nat.le_of_ble_eq_true rfl⟩) (va_recv hK hP (ci := 1) (q0 := 0) rfl rfl) hK hP hD hS hA (q_mask [true, false, false, false] _) rfl hl.1 rfl (Nat.le_of_ble_eq_true rfl) dX1_dryAshore_40 ⟨(Nat.le_of_ble_eq_true rfl), (Nat.le_of_ble_eq_true rfl)⟩ (fun v9 C9 H locs hp hP hD hS => ?_)
          obtain ⟨rfl, rfl⟩ := hp
          have hP : va_P D vwCl ([q_bc (ad i) (bDry (F i)), q_fc fl al u, q_ac al md ar n, q_arc (T 1) n ar ad] ++ q_pl ((List.range n).erase i) ad (q_upto i (dDry F (u 2)) F)) H := q_P_perm (q_mrg_perm [true, false, false, false] _ _) hP
          have hD : va_D A ([q_bc (ad i) (bDry (F i)), q_fc fl al u, q_ac al md ar n, q_arc (T 1) n ar ad] ++ q_pl ((List.range n).erase i) ad (q_upto i (dDry F (u 2)) F)) := q_D_perm (q_mrg_perm [true, false, false, false] _ _) hD
          have hP : va_P D vwCl ([q_bc (ad i) (dDry F (u 2) i), q_fc fl al u, q_ac al md ar n, q_arc (T 1) n ar ad] ++ q_pl ((List.range n).erase i) ad (q_upto i (dDry F (u 2)) F)) H := by rw [show (dDry F (u 2)) i = (bDry (F i)) from by simp only [dDry, if_pos c_29]]; exact hP
          have hD : va_D A ([q_bc (ad i) (dDry F (u 2) i), q_fc fl al u, q_ac al md ar n, q_arc (T 1) n ar ad] ++ q_pl ((List.range n).erase i) ad (q_upto i (dDry F (u 2)) F)) := by rw [show (dDry F (u 2)) i = (bDry (F i)) from by simp only [dDry, if_pos c_29]]; exact hD
          refine lv_iinc (v := (nI (i + 1))) (lv' := [(1, .int (nI (i + 1))), (2, .ref (ad i)), (0, .ref fl)]) hx hb dX1_dryAshore_43 hl (k := 2) rfl (nI_1 i) (by decide) rfl (fun ls hl => ?_)
          refine lv_goto (tgt := 2) hx hb dX1_dryAshore_46 (by decide) ?_
          have hP : va_P D vwCl ([q_fc fl al u, q_ac al md ar n] ++ q_tl (T 1) n ar ad (q_upto (i + 1) (dDry F (u 2)) F)) H := q_P_perm (q_tls [q_fc fl al u, q_ac al md ar n] h9d (F := (q_upto i (dDry F (u 2)) F)) (q_upto_s i (dDry F (u 2)) F)) hP
          have hD : va_D A ([q_fc fl al u, q_ac al md ar n] ++ q_tl (T 1) n ar ad (q_upto (i + 1) (dDry F (u 2)) F)) := q_D_perm (q_tls [q_fc fl al u, q_ac al md ar n] h9d (F := (q_upto i (dDry F (u 2)) F)) (q_upto_s i (dDry F (u 2)) F)) hD
          exact ih (i + 1) (by omega) (by omega)   H locs ls hP hD hS (lv_sub hl [2, 0] rfl)
        · refine lv_aload_n hx hb dX1_dryAshore_32 rfl (lv_at hl 0 rfl) ?_
          refine va_get (D := D) (ci := 1) (v := .int ((F i) 9)) (C := RX0) (T := TX0) (N := 11) hx hb hts iX0 hown hK hP 0 rfl rfl 9 (by decide) (hts (.fieldLink RX1 48 "ToyRegatta$Boat" "state" "I") (by decide +kernel)) (fun _ h9 => h9) rfl dX1_dryAshore_33 ?_
          refine lv_if_ne (tgt := 43) hx hb dX1_dryAshore_36 (by decide) (fun c_36 => ?_) (fun c_36 => ?_)
          · have hP : va_P D vwCl ([q_bc (ad i) (dDry F (u 2) i), q_fc fl al u, q_ac al md ar n, q_arc (T 1) n ar ad] ++ q_pl ((List.range n).erase i) ad (q_upto i (dDry F (u 2)) F)) H := by rw [show (dDry F (u 2)) i = (F i) from by simp only [dDry, if_neg c_29, if_neg c_36]]; exact hP
            have hD : va_D A ([q_bc (ad i) (dDry F (u 2) i), q_fc fl al u, q_ac al md ar n, q_arc (T 1) n ar ad] ++ q_pl ((List.range n).erase i) ad (q_upto i (dDry F (u 2)) F)) := by rw [show (dDry F (u 2)) i = (F i) from by simp only [dDry, if_neg c_29, if_neg c_36]]; exact hD
            refine lv_iinc (v := (nI (i + 1))) (lv' := [(1, .int (nI (i + 1))), (2, .ref (ad i)), (0, .ref fl)]) hx hb dX1_dryAshore_43 hl (k := 2) rfl (nI_1 i) (by decide) rfl (fun ls hl => ?_)
            refine lv_goto (tgt := 2) hx hb dX1_dryAshore_46 (by decide) ?_
            have hP : va_P D vwCl ([q_fc fl al u, q_ac al md ar n] ++ q_tl (T 1) n ar ad (q_upto (i + 1) (dDry F (u 2)) F)) H := q_P_perm (q_tls [q_fc fl al u, q_ac al md ar n] h9d (F := (q_upto i (dDry F (u 2)) F)) (q_upto_s i (dDry F (u 2)) F)) hP
            have hD : va_D A ([q_fc fl al u, q_ac al md ar n] ++ q_tl (T 1) n ar ad (q_upto (i + 1) (dDry F (u 2)) F)) := q_D_perm (q_tls [q_fc fl al u, q_ac al md ar n] h9d (F := (q_upto i (dDry F (u 2)) F)) (q_upto_s i (dDry F (u 2)) F)) hD
            exact ih (i + 1) (by omega) (by omega)   H locs ls hP hD hS (lv_sub hl [2, 0] rfl)
          · refine lv_aload_n hx hb dX1_dryAshore_39 rfl (lv_at hl 0 rfl) ?_
            refine q_callV (As := []) (rs := []) hC (c_X0_dry l D T (ad i) (F i) ) q_no_st q_no_at (cwV 0 hts gX1_dryAshore_X0_dry rfl rfl rfl (by decide +kernel) ⟨Nat.le_of_ble_eq_true rfl, Nat.le_of_ble_eq_true rfl⟩) (va_recv hK hP (ci := 1) (q0 := 0) rfl rfl) hK hP hD hS hA (q_mask [true, false, false, false] _) rfl hl.1 rfl (Nat.le_of_ble_eq_true rfl) dX1_dryAshore_40 ⟨(Nat.le_of_ble_eq_true rfl), (Nat.le_of_ble_eq_true rfl)⟩ (fun v9 C9 H locs hp hP hD hS => ?_)
            obtain ⟨rfl, rfl⟩ := hp
            have hP : va_P D vwCl ([q_bc (ad i) (bDry (F i)), q_fc fl al u, q_ac al md ar n, q_arc (T 1) n ar ad] ++ q_pl ((List.range n).erase i) ad (q_upto i (dDry F (u 2)) F)) H := q_P_perm (q_mrg_perm [true, false, false, false] _ _) hP
            have hD : va_D A ([q_bc (ad i) (bDry (F i)), q_fc fl al u, q_ac al md ar n, q_arc (T 1) n ar ad] ++ q_pl ((List.range n).erase i) ad (q_upto i (dDry F (u 2)) F)) := q_D_perm (q_mrg_perm [true, false, false, false] _ _) hD
            have hP : va_P D vwCl ([q_bc (ad i) (dDry F (u 2) i), q_fc fl al u, q_ac al md ar n, q_arc (T 1) n ar ad] ++ q_pl ((List.range n).erase i) ad (q_upto i (dDry F (u 2)) F)) H := by rw [show (dDry F (u 2)) i = (bDry (F i)) from by simp only [dDry, if_neg c_29, if_pos c_36]]; exact hP
            have hD : va_D A ([q_bc (ad i) (dDry F (u 2) i), q_fc fl al u, q_ac al md ar n, q_arc (T 1) n ar ad] ++ q_pl ((List.range n).erase i) ad (q_upto i (dDry F (u 2)) F)) := by rw [show (dDry F (u 2)) i = (bDry (F i)) from by simp only [dDry, if_neg c_29, if_pos c_36]]; exact hD
            refine lv_iinc (v := (nI (i + 1))) (lv' := [(1, .int (nI (i + 1))), (2, .ref (ad i)), (0, .ref fl)]) hx hb dX1_dryAshore_43 hl (k := 2) rfl (nI_1 i) (by decide) rfl (fun ls hl => ?_)
            refine lv_goto (tgt := 2) hx hb dX1_dryAshore_46 (by decide) ?_
            have hP : va_P D vwCl ([q_fc fl al u, q_ac al md ar n] ++ q_tl (T 1) n ar ad (q_upto (i + 1) (dDry F (u 2)) F)) H := q_P_perm (q_tls [q_fc fl al u, q_ac al md ar n] h9d (F := (q_upto i (dDry F (u 2)) F)) (q_upto_s i (dDry F (u 2)) F)) hP
            have hD : va_D A ([q_fc fl al u, q_ac al md ar n] ++ q_tl (T 1) n ar ad (q_upto (i + 1) (dDry F (u 2)) F)) := q_D_perm (q_tls [q_fc fl al u, q_ac al md ar n] h9d (F := (q_upto i (dDry F (u 2)) F)) (q_upto_s i (dDry F (u 2)) F)) hD
            exact ih (i + 1) (by omega) (by omega)   H locs ls hP hD hS (lv_sub hl [2, 0] rfl)
  exact L2 (n + 1) 0 (by omega) (by omega)   H locs ls hP hD hS (lv_sub hl [1, 0] rfl)
abbrev rmX1_pointsFor : Room := { frames := 0, cells := 0, slots := 0, locals := 0 }
set_option maxHeartbeats 4000000 in
set_option maxRecDepth 100000 in
theorem c_X1_pointsFor (l : Launch) (D : va_G) (T : Nat → ClassId) (fl al : Nat) (u : Nat → Int32) (x : Int32) (hx3 : x = 0 ∨ x = 1 ∨ x = 2 ∨ (2 : Int) < x.toInt) : q_M l D (q_ty T) yX1_pointsFor wsX1_pointsFor rmX1_pointsFor [.ref fl, .int x] [q_fc fl al u] q_no (q_is (some (.int (bPts x))) [q_fc fl al u]) := by
  refine q_start (cc := cX1_pointsFor) (maxL := 2) (ret := (some .int)) (by decide) rfl (Nat.le_of_ble_eq_true rfl) ?_
  intro p e s m args below meth c A H locs hx hb hr hts hown hlocks hml hnm hP hK hD hS hA hG ls hl
  have hown : s.vm.findClass RX1 = some m.cls := hown
  have hC : CallFix p m c cX1_pointsFor 2 s args wsX1_pointsFor RX1 := ⟨hx, hb, hml, hown, hts⟩
  have hl : lv_has ls 2 [(0, .ref fl), (1, .int x)] := hl
  refine lv_iload_n hx hb dX1_pointsFor_0 rfl (lv_at hl 1 rfl) ?_
  rcases hx3 with rfl | rfl | rfl | hx3
  · refine lv_tableIn (off := 27) (tgt := 28) hx hb dX1_pointsFor_1 (by decide) (by decide) rfl (by decide) ?_
    refine lv_bipush (v := 8) hx hb dX1_pointsFor_28 (by decide) ?_
    exact q_iret hx hb hr hlocks hP hK hD hS (Nat.le_of_ble_eq_true rfl) (Nat.le_of_ble_eq_true rfl) dX1_pointsFor_30 ⟨rfl, rfl⟩
  · refine lv_tableIn (off := 30) (tgt := 31) hx hb dX1_pointsFor_1 (by decide) (by decide) rfl (by decide) ?_
    refine lv_iconst (v := 5) hx hb dX1_pointsFor_31 (by decide) ?_
    exact q_iret hx hb hr hlocks hP hK hD hS (Nat.le_of_ble_eq_true rfl) (Nat.le_of_ble_eq_true rfl) dX1_pointsFor_32 ⟨rfl, rfl⟩
  · refine lv_tableIn (off := 32) (tgt := 33) hx hb dX1_pointsFor_1 (by decide) (by decide) rfl (by decide) ?_
    refine lv_iconst (v := 3) hx hb dX1_pointsFor_33 (by decide) ?_
    exact q_iret hx hb hr hlocks hP hK hD hS (Nat.le_of_ble_eq_true rfl) (Nat.le_of_ble_eq_true rfl) dX1_pointsFor_34 ⟨rfl, rfl⟩
  · refine lv_tableOut (tgt := 35) hx hb dX1_pointsFor_1 (Or.inr hx3) (by decide) ?_
    refine lv_iconst (v := 1) hx hb dX1_pointsFor_35 (by decide) ?_
    exact q_iret hx hb hr hlocks hP hK hD hS (Nat.le_of_ble_eq_true rfl) (Nat.le_of_ble_eq_true rfl) dX1_pointsFor_36 ⟨by rw [q_pts3 hx3], rfl⟩
abbrev rmX1_boatsAheadOf : Room := { frames := 3, cells := 0, slots := 0, locals := 64 }
set_option maxHeartbeats 4000000 in
set_option maxRecDepth 100000 in
theorem c_X1_boatsAheadOf (l : Launch) (D : va_G) (T : Nat → ClassId) (fl al ar n : Nat) (md : Int32) (u : Nat → Int32) (ad : Nat → Nat) (F : Nat → Nat → Int32) (hn : n ≤ 8) (i : Nat) (hi : i < n) : q_M l D (q_ty T) yX1_boatsAheadOf wsX1_boatsAheadOf rmX1_boatsAheadOf [.ref fl, .int (nI i)] ([q_fc fl al u, q_ac al md ar n] ++ q_tl (T 1) n ar ad F) q_no (q_is (some (.int (dRank F n i))) ([q_fc fl al u, q_ac al md ar n] ++ q_tl (T 1) n ar ad F)) := by
  refine q_start (cc := cX1_boatsAheadOf) (maxL := 7) (ret := (some .int)) (by decide) rfl (Nat.le_of_ble_eq_true rfl) ?_
  intro p e s m args below meth c A H locs hx hb hr hts hown hlocks hml hnm hP hK hD hS hA hG ls hl
  have hown : s.vm.findClass RX1 = some m.cls := hown
  have hC : CallFix p m c cX1_boatsAheadOf 7 s args wsX1_boatsAheadOf RX1 := ⟨hx, hb, hml, hown, hts⟩
  have iX1 : ∀ w ∈ wsX10, w ∈ wsX1_boatsAheadOf := by decide +kernel
  have iX0 : ∀ w ∈ wsX00, w ∈ wsX1_boatsAheadOf := by decide +kernel
  have hl : lv_has ls 7 [(0, .ref fl), (1, .int (nI i))] := hl
  refine lv_iload_n hx hb dX1_boatsAheadOf_0 rfl (lv_at hl 1 rfl) ?_
  refine lv_if_lt (tgt := 15) hx hb dX1_boatsAheadOf_1 (by decide) (fun c_1 => absurd c_1 (nI_pos (by omega))) (fun c_1 => ?_)
  refine lv_iload_n hx hb dX1_boatsAheadOf_4 rfl (lv_at hl 1 rfl) ?_
  refine lv_aload_n hx hb dX1_boatsAheadOf_5 rfl (lv_at hl 0 rfl) ?_
  refine va_get (D := D) (ci := 2) (v := .ref al) (C := RX1) (T := TX1) (N := 5) hx hb hts iX1 hown hK hP 0 rfl rfl 0 (by decide) (hts (.fieldLink RX1 10 "ToyRegatta$Fleet" "boats" "Ljava/util/ArrayList;") (by decide +kernel)) (fun _ h9 => h9) rfl dX1_boatsAheadOf_6 ?_
  refine q_callV (As := []) (rs := [.int (nI i)]) hC (c_AL_size l D T al ar n md) q_no_st q_no_at (cwV 0 hts gX1_boatsAheadOf_Jx4a65c_size_8abf5 rfl rfl rfl (by decide +kernel) ⟨Nat.le_of_ble_eq_true rfl, Nat.le_of_ble_eq_true rfl⟩) (va_recv hK hP (ci := 0) (q0 := 1) rfl rfl) hK hP hD hS hA (q_mask [false, true] _) rfl hl.1 rfl (Nat.le_of_ble_eq_true rfl) dX1_boatsAheadOf_9 ⟨(Nat.le_of_ble_eq_true rfl), (Nat.le_of_ble_eq_true rfl)⟩ (fun v9 C9 H locs hp hP hD hS => ?_)
  obtain ⟨rfl, rfl⟩ := hp
  have hP : va_P D vwCl ([q_fc fl al u, q_ac al md ar n] ++ q_tl (T 1) n ar ad F) H := q_P_perm (q_mrg_perm [false, true] _ _) hP
  have hD : va_D A ([q_fc fl al u, q_ac al md ar n] ++ q_tl (T 1) n ar ad F) := q_D_perm (q_mrg_perm [false, true] _ _) hD
  refine lv_icmp_lt (tgt := 17) hx hb dX1_boatsAheadOf_12 (by decide) (fun c_12 => ?_) (fun c_12 => absurd (nI_lt hi (by omega)) c_12)
  have hP : va_P D vwCl ([q_bc (ad i) (F i), q_fc fl al u, q_ac al md ar n, q_arc (T 1) n ar ad] ++ q_pl ((List.range n).erase i) ad F) H := q_P_perm (q_tlo _ hi rfl) hP
  have hD : va_D A ([q_bc (ad i) (F i), q_fc fl al u, q_ac al md ar n, q_arc (T 1) n ar ad] ++ q_pl ((List.range n).erase i) ad F) := q_D_perm (q_tlo _ hi rfl) hD
  refine lv_aload_n hx hb dX1_boatsAheadOf_17 rfl (lv_at hl 0 rfl) ?_
  refine va_get (D := D) (ci := 2) (v := .ref al) (C := RX1) (T := TX1) (N := 5) hx hb hts iX1 hown hK hP 1 rfl rfl 0 (by decide) (hts (.fieldLink RX1 10 "ToyRegatta$Fleet" "boats" "Ljava/util/ArrayList;") (by decide +kernel)) (fun _ h9 => h9) rfl dX1_boatsAheadOf_18 ?_
  refine lv_iload_n hx hb dX1_boatsAheadOf_21 rfl (lv_at hl 1 rfl) ?_
  refine q_callV (As := [.int (nI i)]) (rs := []) hC (c_AL_get l D T al ar n i md ad hi (by omega)) q_no_st q_no_at (cwV 1 hts gX1_boatsAheadOf_Jx4a65c_get_915e3 rfl rfl rfl (by decide +kernel) ⟨Nat.le_of_ble_eq_true rfl, Nat.le_of_ble_eq_true rfl⟩) (va_recv hK hP (ci := 0) (q0 := 2) rfl rfl) hK hP hD hS hA (q_mask [false, false, true, true] _) rfl hl.1 rfl (Nat.le_of_ble_eq_true rfl) dX1_boatsAheadOf_22 ⟨(Nat.le_of_ble_eq_true rfl), (Nat.le_of_ble_eq_true rfl)⟩ (fun v9 C9 H locs hp hP hD hS => ?_)
  obtain ⟨rfl, rfl⟩ := hp
  have hP : va_P D vwCl ([q_bc (ad i) (F i), q_fc fl al u, q_ac al md ar n, q_arc (T 1) n ar ad] ++ q_pl ((List.range n).erase i) ad F) H := q_P_perm (q_mrg_perm [false, false, true, true] _ _) hP
  have hD : va_D A ([q_bc (ad i) (F i), q_fc fl al u, q_ac al md ar n, q_arc (T 1) n ar ad] ++ q_pl ((List.range n).erase i) ad F) := q_D_perm (q_mrg_perm [false, false, true, true] _ _) hD
  refine va_castS hx hb hown (hts (.classLink RX1 24 "ToyRegatta$Boat") (by decide +kernel)) (hK.1 1 _ rfl).2 (va_recv hK hP (ci := 1) (q0 := 0) rfl rfl) dX1_boatsAheadOf_25 ?_
  refine q_callV (As := []) (rs := []) hC (c_X0_result l D T (ad i) (F i) ) q_no_st q_no_at (cwV 0 hts gX1_boatsAheadOf_X0_result rfl rfl rfl (by decide +kernel) ⟨Nat.le_of_ble_eq_true rfl, Nat.le_of_ble_eq_true rfl⟩) (va_recv hK hP (ci := 1) (q0 := 0) rfl rfl) hK hP hD hS hA (q_mask [true, false, false, false] _) rfl hl.1 rfl (Nat.le_of_ble_eq_true rfl) dX1_boatsAheadOf_28 ⟨(Nat.le_of_ble_eq_true rfl), (Nat.le_of_ble_eq_true rfl)⟩ (fun v9 C9 H locs hp hP hD hS => ?_)
  obtain ⟨rfl, rfl⟩ := hp
  have hP : va_P D vwCl ([q_bc (ad i) (F i), q_fc fl al u, q_ac al md ar n, q_arc (T 1) n ar ad] ++ q_pl ((List.range n).erase i) ad F) H := q_P_perm (q_mrg_perm [true, false, false, false] _ _) hP
  have hD : va_D A ([q_bc (ad i) (F i), q_fc fl al u, q_ac al md ar n, q_arc (T 1) n ar ad] ++ q_pl ((List.range n).erase i) ad F) := q_D_perm (q_mrg_perm [true, false, false, false] _ _) hD
  have hP : va_P D vwCl ([q_fc fl al u, q_ac al md ar n] ++ q_tl (T 1) n ar ad F) H := q_P_perm (q_tls [q_fc fl al u, q_ac al md ar n] hi (F := F) (q_up_id F i)) hP
  have hD : va_D A ([q_fc fl al u, q_ac al md ar n] ++ q_tl (T 1) n ar ad F) := q_D_perm (q_tls [q_fc fl al u, q_ac al md ar n] hi (F := F) (q_up_id F i)) hD
  refine lv_istore_n (lv' := [(2, .int (bRes (F i))), (0, .ref fl), (1, .int (nI i))]) hx hb dX1_boatsAheadOf_31 rfl hl (by decide) rfl (fun ls hl => ?_)
  refine lv_iconst (v := 0) hx hb dX1_boatsAheadOf_32 (by decide) ?_
  refine lv_istore_n (lv' := [(3, .int 0), (2, .int (bRes (F i))), (0, .ref fl), (1, .int (nI i))]) hx hb dX1_boatsAheadOf_33 rfl hl (by decide) rfl (fun ls hl => ?_)
  refine lv_iconst (v := 0) hx hb dX1_boatsAheadOf_34 (by decide) ?_
  refine lv_istore (lv' := [(4, .int 0), (3, .int 0), (2, .int (bRes (F i))), (0, .ref fl), (1, .int (nI i))]) hx hb dX1_boatsAheadOf_35 hl (by decide) rfl (fun ls hl => ?_)
  have L37 : ∀ (f9 j : Nat) (h9a : n < j + f9) (h9b : j ≤ n) (H : Heap) (locs : List Loc) (ls : Array Slot), va_P D vwCl ([q_fc fl al u, q_ac al md ar n] ++ q_tl (T 1) n ar ad F) H → va_D A ([q_fc fl al u, q_ac al md ar n] ++ q_tl (T 1) n ar ad F) → va_S A s.heap H locs → lv_has ls 7 [(0, .ref fl), (1, .int (nI i)), (2, .int (bRes (F i))), (3, .int (q_sum (dAh F i) j)), (4, .int (nI j))] → W p l e rmX1_boatsAheadOf s m args below meth c H locs 0 0 (q_E below D (q_ty T) (q_is (some (.int (dRank F n i))) ([q_fc fl al u, q_ac al md ar n] ++ q_tl (T 1) n ar ad F)) A args s rmX1_boatsAheadOf) (F0 m 37 ls []) := by
    intro f9
    induction f9 with
    | zero => intro j h9a h9b; exact absurd h9a (by omega)
    | succ f9 ih =>
      intro j h9a h9b   H locs ls hP hD hS hl
      refine lv_iload hx hb dX1_boatsAheadOf_37 (lv_at hl 4 rfl) ?_
      refine lv_aload_n hx hb dX1_boatsAheadOf_39 rfl (lv_at hl 0 rfl) ?_
      refine va_get (D := D) (ci := 2) (v := .ref al) (C := RX1) (T := TX1) (N := 5) hx hb hts iX1 hown hK hP 0 rfl rfl 0 (by decide) (hts (.fieldLink RX1 10 "ToyRegatta$Fleet" "boats" "Ljava/util/ArrayList;") (by decide +kernel)) (fun _ h9 => h9) rfl dX1_boatsAheadOf_40 ?_
      refine q_callV (As := []) (rs := [.int (nI j)]) hC (c_AL_size l D T al ar n md) q_no_st q_no_at (cwV 0 hts gX1_boatsAheadOf_Jx4a65c_size_8abf5 rfl rfl rfl (by decide +kernel) ⟨Nat.le_of_ble_eq_true rfl, Nat.le_of_ble_eq_true rfl⟩) (va_recv hK hP (ci := 0) (q0 := 1) rfl rfl) hK hP hD hS hA (q_mask [false, true] _) rfl hl.1 rfl (Nat.le_of_ble_eq_true rfl) dX1_boatsAheadOf_43 ⟨(Nat.le_of_ble_eq_true rfl), (Nat.le_of_ble_eq_true rfl)⟩ (fun v9 C9 H locs hp hP hD hS => ?_)
      obtain ⟨rfl, rfl⟩ := hp
      have hP : va_P D vwCl ([q_fc fl al u, q_ac al md ar n] ++ q_tl (T 1) n ar ad F) H := q_P_perm (q_mrg_perm [false, true] _ _) hP
      have hD : va_D A ([q_fc fl al u, q_ac al md ar n] ++ q_tl (T 1) n ar ad F) := q_D_perm (q_mrg_perm [false, true] _ _) hD
      refine lv_icmp_ge (tgt := 117) hx hb dX1_boatsAheadOf_46 (by decide) (fun c_46 => ?_) (fun c_46 => ?_)
      · have h9d := (q_exit c_46 h9b (by omega)).symm
        subst h9d
        refine lv_iload_n hx hb dX1_boatsAheadOf_117 rfl (lv_at hl 3 rfl) ?_
        exact q_iret hx hb hr hlocks hP hK hD hS (Nat.le_of_ble_eq_true rfl) (Nat.le_of_ble_eq_true rfl) dX1_boatsAheadOf_118 ⟨rfl, rfl⟩
      · have h9d := q_goon c_46 (by omega)
        have hP : va_P D vwCl ([q_bc (ad j) (F j), q_fc fl al u, q_ac al md ar n, q_arc (T 1) n ar ad] ++ q_pl ((List.range n).erase j) ad F) H := q_P_perm (q_tlo _ h9d rfl) hP
        have hD : va_D A ([q_bc (ad j) (F j), q_fc fl al u, q_ac al md ar n, q_arc (T 1) n ar ad] ++ q_pl ((List.range n).erase j) ad F) := q_D_perm (q_tlo _ h9d rfl) hD
        refine lv_aload_n hx hb dX1_boatsAheadOf_49 rfl (lv_at hl 0 rfl) ?_
        refine va_get (D := D) (ci := 2) (v := .ref al) (C := RX1) (T := TX1) (N := 5) hx hb hts iX1 hown hK hP 1 rfl rfl 0 (by decide) (hts (.fieldLink RX1 10 "ToyRegatta$Fleet" "boats" "Ljava/util/ArrayList;") (by decide +kernel)) (fun _ h9 => h9) rfl dX1_boatsAheadOf_50 ?_
        refine lv_iload hx hb dX1_boatsAheadOf_53 (lv_at hl 4 rfl) ?_
        refine q_callV (As := [.int (nI j)]) (rs := []) hC (c_AL_get l D T al ar n j md ad h9d (by omega)) q_no_st q_no_at (cwV 1 hts gX1_boatsAheadOf_Jx4a65c_get_915e3 rfl rfl rfl (by decide +kernel) ⟨Nat.le_of_ble_eq_true rfl, Nat.le_of_ble_eq_true rfl⟩) (va_recv hK hP (ci := 0) (q0 := 2) rfl rfl) hK hP hD hS hA (q_mask [false, false, true, true] _) rfl hl.1 rfl (Nat.le_of_ble_eq_true rfl) dX1_boatsAheadOf_55 ⟨(Nat.le_of_ble_eq_true rfl), (Nat.le_of_ble_eq_true rfl)⟩ (fun v9 C9 H locs hp hP hD hS => ?_)
        obtain ⟨rfl, rfl⟩ := hp
        have hP : va_P D vwCl ([q_bc (ad j) (F j), q_fc fl al u, q_ac al md ar n, q_arc (T 1) n ar ad] ++ q_pl ((List.range n).erase j) ad F) H := q_P_perm (q_mrg_perm [false, false, true, true] _ _) hP
        have hD : va_D A ([q_bc (ad j) (F j), q_fc fl al u, q_ac al md ar n, q_arc (T 1) n ar ad] ++ q_pl ((List.range n).erase j) ad F) := q_D_perm (q_mrg_perm [false, false, true, true] _ _) hD
        refine va_castS hx hb hown (hts (.classLink RX1 24 "ToyRegatta$Boat") (by decide +kernel)) (hK.1 1 _ rfl).2 (va_recv hK hP (ci := 1) (q0 := 0) rfl rfl) dX1_boatsAheadOf_58 ?_
        refine lv_astore (lv' := [(5, .ref (ad j)), (0, .ref fl), (1, .int (nI i)), (2, .int (bRes (F i))), (3, .int (q_sum (dAh F i) j)), (4, .int (nI j))]) hx hb dX1_boatsAheadOf_61 hl (by decide) rfl (fun ls hl => ?_)
        refine lv_aload hx hb dX1_boatsAheadOf_63 (lv_at hl 0 rfl) ?_
        refine q_callV (As := []) (rs := []) hC (c_X0_result l D T (ad j) (F j) ) q_no_st q_no_at (cwV 0 hts gX1_boatsAheadOf_X0_result rfl rfl rfl (by decide +kernel) ⟨Nat.le_of_ble_eq_true rfl, Nat.le_of_ble_eq_true rfl⟩) (va_recv hK hP (ci := 1) (q0 := 0) rfl rfl) hK hP hD hS hA (q_mask [true, false, false, false] _) rfl hl.1 rfl (Nat.le_of_ble_eq_true rfl) dX1_boatsAheadOf_65 ⟨(Nat.le_of_ble_eq_true rfl), (Nat.le_of_ble_eq_true rfl)⟩ (fun v9 C9 H locs hp hP hD hS => ?_)
        obtain ⟨rfl, rfl⟩ := hp
        have hP : va_P D vwCl ([q_bc (ad j) (F j), q_fc fl al u, q_ac al md ar n, q_arc (T 1) n ar ad] ++ q_pl ((List.range n).erase j) ad F) H := q_P_perm (q_mrg_perm [true, false, false, false] _ _) hP
        have hD : va_D A ([q_bc (ad j) (F j), q_fc fl al u, q_ac al md ar n, q_arc (T 1) n ar ad] ++ q_pl ((List.range n).erase j) ad F) := q_D_perm (q_mrg_perm [true, false, false, false] _ _) hD
        refine lv_iload_n hx hb dX1_boatsAheadOf_68 rfl (lv_at hl 3 rfl) ?_
        refine lv_icmp_lt (tgt := 87) hx hb dX1_boatsAheadOf_69 (by decide) (fun c_69 => ?_) (fun c_69 => ?_)
        · refine lv_iconst (v := 1) hx hb dX1_boatsAheadOf_87 (by decide) ?_
          refine lv_goto (tgt := 92) hx hb dX1_boatsAheadOf_88 (by decide) ?_
          refine lv_istore (lv' := [(6, .int 1), (5, .ref (ad j)), (0, .ref fl), (1, .int (nI i)), (2, .int (bRes (F i))), (3, .int (q_sum (dAh F i) j)), (4, .int (nI j))]) hx hb dX1_boatsAheadOf_92 hl (by decide) rfl (fun ls hl => ?_)
          refine lv_aload hx hb dX1_boatsAheadOf_94 (lv_at hl 1 rfl) ?_
          refine va_get (D := D) (ci := 1) (v := .int ((F j) 9)) (C := RX0) (T := TX0) (N := 11) hx hb hts iX0 hown hK hP 0 rfl rfl 9 (by decide) (hts (.fieldLink RX1 48 "ToyRegatta$Boat" "state" "I") (by decide +kernel)) (fun _ h9 => h9) rfl dX1_boatsAheadOf_96 ?_
          refine lv_iconst (v := 2) hx hb dX1_boatsAheadOf_99 (by decide) ?_
          refine lv_icmp_ne (tgt := 111) hx hb dX1_boatsAheadOf_100 (by decide) (fun c_100 => ?_) (fun c_100 => ?_)
          · refine lv_iinc (v := (nI (j + 1))) (lv' := [(4, .int (nI (j + 1))), (6, .int 1), (5, .ref (ad j)), (0, .ref fl), (1, .int (nI i)), (2, .int (bRes (F i))), (3, .int (q_sum (dAh F i) j))]) hx hb dX1_boatsAheadOf_111 hl (k := 6) rfl (nI_1 j) (by decide) rfl (fun ls hl => ?_)
            refine lv_goto (tgt := 37) hx hb dX1_boatsAheadOf_114 (by decide) ?_
            have hP : va_P D vwCl ([q_fc fl al u, q_ac al md ar n] ++ q_tl (T 1) n ar ad F) H := q_P_perm (q_tls [q_fc fl al u, q_ac al md ar n] h9d (F := F) (q_up_id F j)) hP
            have hD : va_D A ([q_fc fl al u, q_ac al md ar n] ++ q_tl (T 1) n ar ad F) := q_D_perm (q_tls [q_fc fl al u, q_ac al md ar n] h9d (F := F) (q_up_id F j)) hD
            have e9 : q_sum (dAh F i) (j + 1) = (q_sum (dAh F i) j) := by simp only [q_sum, dAh, dBet, if_neg c_1, if_pos c_12, if_pos c_69, if_neg c_100, Int32.add_zero]
            rw [← e9] at hl
            exact ih (j + 1) (by omega) (by omega)   H locs ls hP hD hS (lv_sub hl [3, 4, 5, 6, 0] rfl)
          · refine lv_iload hx hb dX1_boatsAheadOf_103 (lv_at hl 0 rfl) ?_
            refine lv_if_eq (tgt := 111) hx hb dX1_boatsAheadOf_105 (by decide) (fun c_105 => absurd c_105 (by decide)) (fun _ => ?_)
            refine lv_iinc (v := ((q_sum (dAh F i) j) + 1)) (lv' := [(3, .int ((q_sum (dAh F i) j) + 1)), (6, .int 1), (5, .ref (ad j)), (0, .ref fl), (1, .int (nI i)), (2, .int (bRes (F i))), (4, .int (nI j))]) hx hb dX1_boatsAheadOf_108 hl (k := 5) rfl rfl (by decide) rfl (fun ls hl => ?_)
            refine lv_iinc (v := (nI (j + 1))) (lv' := [(4, .int (nI (j + 1))), (3, .int ((q_sum (dAh F i) j) + 1)), (6, .int 1), (5, .ref (ad j)), (0, .ref fl), (1, .int (nI i)), (2, .int (bRes (F i)))]) hx hb dX1_boatsAheadOf_111 hl (k := 6) rfl (nI_1 j) (by decide) rfl (fun ls hl => ?_)
            refine lv_goto (tgt := 37) hx hb dX1_boatsAheadOf_114 (by decide) ?_
            have hP : va_P D vwCl ([q_fc fl al u, q_ac al md ar n] ++ q_tl (T 1) n ar ad F) H := q_P_perm (q_tls [q_fc fl al u, q_ac al md ar n] h9d (F := F) (q_up_id F j)) hP
            have hD : va_D A ([q_fc fl al u, q_ac al md ar n] ++ q_tl (T 1) n ar ad F) := q_D_perm (q_tls [q_fc fl al u, q_ac al md ar n] h9d (F := F) (q_up_id F j)) hD
            have e9 : q_sum (dAh F i) (j + 1) = ((q_sum (dAh F i) j) + 1) := by simp only [q_sum, dAh, dBet, if_neg c_1, if_pos c_12, if_pos c_69, if_pos c_100, Int32.add_zero]
            rw [← e9] at hl
            exact ih (j + 1) (by omega) (by omega)   H locs ls hP hD hS (lv_sub hl [4, 5, 6, 1, 0] rfl)
        · refine lv_aload hx hb dX1_boatsAheadOf_72 (lv_at hl 0 rfl) ?_
          refine q_callV (As := []) (rs := []) hC (c_X0_result l D T (ad j) (F j) ) q_no_st q_no_at (cwV 0 hts gX1_boatsAheadOf_X0_result rfl rfl rfl (by decide +kernel) ⟨Nat.le_of_ble_eq_true rfl, Nat.le_of_ble_eq_true rfl⟩) (va_recv hK hP (ci := 1) (q0 := 0) rfl rfl) hK hP hD hS hA (q_mask [true, false, false, false] _) rfl hl.1 rfl (Nat.le_of_ble_eq_true rfl) dX1_boatsAheadOf_74 ⟨(Nat.le_of_ble_eq_true rfl), (Nat.le_of_ble_eq_true rfl)⟩ (fun v9 C9 H locs hp hP hD hS => ?_)
          obtain ⟨rfl, rfl⟩ := hp
          have hP : va_P D vwCl ([q_bc (ad j) (F j), q_fc fl al u, q_ac al md ar n, q_arc (T 1) n ar ad] ++ q_pl ((List.range n).erase j) ad F) H := q_P_perm (q_mrg_perm [true, false, false, false] _ _) hP
          have hD : va_D A ([q_bc (ad j) (F j), q_fc fl al u, q_ac al md ar n, q_arc (T 1) n ar ad] ++ q_pl ((List.range n).erase j) ad F) := q_D_perm (q_mrg_perm [true, false, false, false] _ _) hD
          refine lv_iload_n hx hb dX1_boatsAheadOf_77 rfl (lv_at hl 3 rfl) ?_
          refine lv_icmp_ne (tgt := 91) hx hb dX1_boatsAheadOf_78 (by decide) (fun c_78 => ?_) (fun c_78 => ?_)
          · refine lv_iconst (v := 0) hx hb dX1_boatsAheadOf_91 (by decide) ?_
            refine lv_istore (lv' := [(6, .int 0), (5, .ref (ad j)), (0, .ref fl), (1, .int (nI i)), (2, .int (bRes (F i))), (3, .int (q_sum (dAh F i) j)), (4, .int (nI j))]) hx hb dX1_boatsAheadOf_92 hl (by decide) rfl (fun ls hl => ?_)
            refine lv_aload hx hb dX1_boatsAheadOf_94 (lv_at hl 1 rfl) ?_
            refine va_get (D := D) (ci := 1) (v := .int ((F j) 9)) (C := RX0) (T := TX0) (N := 11) hx hb hts iX0 hown hK hP 0 rfl rfl 9 (by decide) (hts (.fieldLink RX1 48 "ToyRegatta$Boat" "state" "I") (by decide +kernel)) (fun _ h9 => h9) rfl dX1_boatsAheadOf_96 ?_
            refine lv_iconst (v := 2) hx hb dX1_boatsAheadOf_99 (by decide) ?_
            refine lv_icmp_ne (tgt := 111) hx hb dX1_boatsAheadOf_100 (by decide) (fun c_100 => ?_) (fun c_100 => ?_)
            · refine lv_iinc (v := (nI (j + 1))) (lv' := [(4, .int (nI (j + 1))), (6, .int 0), (5, .ref (ad j)), (0, .ref fl), (1, .int (nI i)), (2, .int (bRes (F i))), (3, .int (q_sum (dAh F i) j))]) hx hb dX1_boatsAheadOf_111 hl (k := 6) rfl (nI_1 j) (by decide) rfl (fun ls hl => ?_)
              refine lv_goto (tgt := 37) hx hb dX1_boatsAheadOf_114 (by decide) ?_
              have hP : va_P D vwCl ([q_fc fl al u, q_ac al md ar n] ++ q_tl (T 1) n ar ad F) H := q_P_perm (q_tls [q_fc fl al u, q_ac al md ar n] h9d (F := F) (q_up_id F j)) hP
              have hD : va_D A ([q_fc fl al u, q_ac al md ar n] ++ q_tl (T 1) n ar ad F) := q_D_perm (q_tls [q_fc fl al u, q_ac al md ar n] h9d (F := F) (q_up_id F j)) hD
              have e9 : q_sum (dAh F i) (j + 1) = (q_sum (dAh F i) j) := by simp only [q_sum, dAh, dBet, if_neg c_1, if_pos c_12, if_neg c_69, if_neg c_78, if_neg c_100, Int32.add_zero]
              rw [← e9] at hl
              exact ih (j + 1) (by omega) (by omega)   H locs ls hP hD hS (lv_sub hl [3, 4, 5, 6, 0] rfl)
            · refine lv_iload hx hb dX1_boatsAheadOf_103 (lv_at hl 0 rfl) ?_
              refine lv_if_eq (tgt := 111) hx hb dX1_boatsAheadOf_105 (by decide) (fun _ => ?_) (fun c_105 => absurd c_105 (by decide))
              refine lv_iinc (v := (nI (j + 1))) (lv' := [(4, .int (nI (j + 1))), (6, .int 0), (5, .ref (ad j)), (0, .ref fl), (1, .int (nI i)), (2, .int (bRes (F i))), (3, .int (q_sum (dAh F i) j))]) hx hb dX1_boatsAheadOf_111 hl (k := 6) rfl (nI_1 j) (by decide) rfl (fun ls hl => ?_)
              refine lv_goto (tgt := 37) hx hb dX1_boatsAheadOf_114 (by decide) ?_
              have hP : va_P D vwCl ([q_fc fl al u, q_ac al md ar n] ++ q_tl (T 1) n ar ad F) H := q_P_perm (q_tls [q_fc fl al u, q_ac al md ar n] h9d (F := F) (q_up_id F j)) hP
              have hD : va_D A ([q_fc fl al u, q_ac al md ar n] ++ q_tl (T 1) n ar ad F) := q_D_perm (q_tls [q_fc fl al u, q_ac al md ar n] h9d (F := F) (q_up_id F j)) hD
              have e9 : q_sum (dAh F i) (j + 1) = (q_sum (dAh F i) j) := by simp only [q_sum, dAh, dBet, if_neg c_1, if_pos c_12, if_neg c_69, if_neg c_78, if_pos c_100, Int32.add_zero]
              rw [← e9] at hl
              exact ih (j + 1) (by omega) (by omega)   H locs ls hP hD hS (lv_sub hl [3, 4, 5, 6, 0] rfl)
          · refine lv_iload hx hb dX1_boatsAheadOf_81 (lv_at hl 5 rfl) ?_
            refine lv_iload_n hx hb dX1_boatsAheadOf_83 rfl (lv_at hl 2 rfl) ?_
            refine lv_icmp_ge (tgt := 91) hx hb dX1_boatsAheadOf_84 (by decide) (fun c_84 => ?_) (fun c_84 => ?_)
            · refine lv_iconst (v := 0) hx hb dX1_boatsAheadOf_91 (by decide) ?_
              refine lv_istore (lv' := [(6, .int 0), (5, .ref (ad j)), (0, .ref fl), (1, .int (nI i)), (2, .int (bRes (F i))), (3, .int (q_sum (dAh F i) j)), (4, .int (nI j))]) hx hb dX1_boatsAheadOf_92 hl (by decide) rfl (fun ls hl => ?_)
              refine lv_aload hx hb dX1_boatsAheadOf_94 (lv_at hl 1 rfl) ?_
              refine va_get (D := D) (ci := 1) (v := .int ((F j) 9)) (C := RX0) (T := TX0) (N := 11) hx hb hts iX0 hown hK hP 0 rfl rfl 9 (by decide) (hts (.fieldLink RX1 48 "ToyRegatta$Boat" "state" "I") (by decide +kernel)) (fun _ h9 => h9) rfl dX1_boatsAheadOf_96 ?_
              refine lv_iconst (v := 2) hx hb dX1_boatsAheadOf_99 (by decide) ?_
              refine lv_icmp_ne (tgt := 111) hx hb dX1_boatsAheadOf_100 (by decide) (fun c_100 => ?_) (fun c_100 => ?_)
              · refine lv_iinc (v := (nI (j + 1))) (lv' := [(4, .int (nI (j + 1))), (6, .int 0), (5, .ref (ad j)), (0, .ref fl), (1, .int (nI i)), (2, .int (bRes (F i))), (3, .int (q_sum (dAh F i) j))]) hx hb dX1_boatsAheadOf_111 hl (k := 6) rfl (nI_1 j) (by decide) rfl (fun ls hl => ?_)
                refine lv_goto (tgt := 37) hx hb dX1_boatsAheadOf_114 (by decide) ?_
                have hP : va_P D vwCl ([q_fc fl al u, q_ac al md ar n] ++ q_tl (T 1) n ar ad F) H := q_P_perm (q_tls [q_fc fl al u, q_ac al md ar n] h9d (F := F) (q_up_id F j)) hP
                have hD : va_D A ([q_fc fl al u, q_ac al md ar n] ++ q_tl (T 1) n ar ad F) := q_D_perm (q_tls [q_fc fl al u, q_ac al md ar n] h9d (F := F) (q_up_id F j)) hD
                have e9 : q_sum (dAh F i) (j + 1) = (q_sum (dAh F i) j) := by simp only [q_sum, dAh, dBet, if_neg c_1, if_pos c_12, if_neg c_69, if_pos c_78, if_pos c_84, if_neg c_100, Int32.add_zero]
                rw [← e9] at hl
                exact ih (j + 1) (by omega) (by omega)   H locs ls hP hD hS (lv_sub hl [3, 4, 5, 6, 0] rfl)
              · refine lv_iload hx hb dX1_boatsAheadOf_103 (lv_at hl 0 rfl) ?_
                refine lv_if_eq (tgt := 111) hx hb dX1_boatsAheadOf_105 (by decide) (fun _ => ?_) (fun c_105 => absurd c_105 (by decide))
                refine lv_iinc (v := (nI (j + 1))) (lv' := [(4, .int (nI (j + 1))), (6, .int 0), (5, .ref (ad j)), (0, .ref fl), (1, .int (nI i)), (2, .int (bRes (F i))), (3, .int (q_sum (dAh F i) j))]) hx hb dX1_boatsAheadOf_111 hl (k := 6) rfl (nI_1 j) (by decide) rfl (fun ls hl => ?_)
                refine lv_goto (tgt := 37) hx hb dX1_boatsAheadOf_114 (by decide) ?_
                have hP : va_P D vwCl ([q_fc fl al u, q_ac al md ar n] ++ q_tl (T 1) n ar ad F) H := q_P_perm (q_tls [q_fc fl al u, q_ac al md ar n] h9d (F := F) (q_up_id F j)) hP
                have hD : va_D A ([q_fc fl al u, q_ac al md ar n] ++ q_tl (T 1) n ar ad F) := q_D_perm (q_tls [q_fc fl al u, q_ac al md ar n] h9d (F := F) (q_up_id F j)) hD
                have e9 : q_sum (dAh F i) (j + 1) = (q_sum (dAh F i) j) := by simp only [q_sum, dAh, dBet, if_neg c_1, if_pos c_12, if_neg c_69, if_pos c_78, if_pos c_84, if_pos c_100, Int32.add_zero]
                rw [← e9] at hl
                exact ih (j + 1) (by omega) (by omega)   H locs ls hP hD hS (lv_sub hl [3, 4, 5, 6, 0] rfl)
            · refine lv_iconst (v := 1) hx hb dX1_boatsAheadOf_87 (by decide) ?_
              refine lv_goto (tgt := 92) hx hb dX1_boatsAheadOf_88 (by decide) ?_
              refine lv_istore (lv' := [(6, .int 1), (5, .ref (ad j)), (0, .ref fl), (1, .int (nI i)), (2, .int (bRes (F i))), (3, .int (q_sum (dAh F i) j)), (4, .int (nI j))]) hx hb dX1_boatsAheadOf_92 hl (by decide) rfl (fun ls hl => ?_)
              refine lv_aload hx hb dX1_boatsAheadOf_94 (lv_at hl 1 rfl) ?_
              refine va_get (D := D) (ci := 1) (v := .int ((F j) 9)) (C := RX0) (T := TX0) (N := 11) hx hb hts iX0 hown hK hP 0 rfl rfl 9 (by decide) (hts (.fieldLink RX1 48 "ToyRegatta$Boat" "state" "I") (by decide +kernel)) (fun _ h9 => h9) rfl dX1_boatsAheadOf_96 ?_
              refine lv_iconst (v := 2) hx hb dX1_boatsAheadOf_99 (by decide) ?_
              refine lv_icmp_ne (tgt := 111) hx hb dX1_boatsAheadOf_100 (by decide) (fun c_100 => ?_) (fun c_100 => ?_)
              · refine lv_iinc (v := (nI (j + 1))) (lv' := [(4, .int (nI (j + 1))), (6, .int 1), (5, .ref (ad j)), (0, .ref fl), (1, .int (nI i)), (2, .int (bRes (F i))), (3, .int (q_sum (dAh F i) j))]) hx hb dX1_boatsAheadOf_111 hl (k := 6) rfl (nI_1 j) (by decide) rfl (fun ls hl => ?_)
                refine lv_goto (tgt := 37) hx hb dX1_boatsAheadOf_114 (by decide) ?_
                have hP : va_P D vwCl ([q_fc fl al u, q_ac al md ar n] ++ q_tl (T 1) n ar ad F) H := q_P_perm (q_tls [q_fc fl al u, q_ac al md ar n] h9d (F := F) (q_up_id F j)) hP
                have hD : va_D A ([q_fc fl al u, q_ac al md ar n] ++ q_tl (T 1) n ar ad F) := q_D_perm (q_tls [q_fc fl al u, q_ac al md ar n] h9d (F := F) (q_up_id F j)) hD
                have e9 : q_sum (dAh F i) (j + 1) = (q_sum (dAh F i) j) := by simp only [q_sum, dAh, dBet, if_neg c_1, if_pos c_12, if_neg c_69, if_pos c_78, if_neg c_84, if_neg c_100, Int32.add_zero]
                rw [← e9] at hl
                exact ih (j + 1) (by omega) (by omega)   H locs ls hP hD hS (lv_sub hl [3, 4, 5, 6, 0] rfl)
              · refine lv_iload hx hb dX1_boatsAheadOf_103 (lv_at hl 0 rfl) ?_
                refine lv_if_eq (tgt := 111) hx hb dX1_boatsAheadOf_105 (by decide) (fun c_105 => absurd c_105 (by decide)) (fun _ => ?_)
                refine lv_iinc (v := ((q_sum (dAh F i) j) + 1)) (lv' := [(3, .int ((q_sum (dAh F i) j) + 1)), (6, .int 1), (5, .ref (ad j)), (0, .ref fl), (1, .int (nI i)), (2, .int (bRes (F i))), (4, .int (nI j))]) hx hb dX1_boatsAheadOf_108 hl (k := 5) rfl rfl (by decide) rfl (fun ls hl => ?_)
                refine lv_iinc (v := (nI (j + 1))) (lv' := [(4, .int (nI (j + 1))), (3, .int ((q_sum (dAh F i) j) + 1)), (6, .int 1), (5, .ref (ad j)), (0, .ref fl), (1, .int (nI i)), (2, .int (bRes (F i)))]) hx hb dX1_boatsAheadOf_111 hl (k := 6) rfl (nI_1 j) (by decide) rfl (fun ls hl => ?_)
                refine lv_goto (tgt := 37) hx hb dX1_boatsAheadOf_114 (by decide) ?_
                have hP : va_P D vwCl ([q_fc fl al u, q_ac al md ar n] ++ q_tl (T 1) n ar ad F) H := q_P_perm (q_tls [q_fc fl al u, q_ac al md ar n] h9d (F := F) (q_up_id F j)) hP
                have hD : va_D A ([q_fc fl al u, q_ac al md ar n] ++ q_tl (T 1) n ar ad F) := q_D_perm (q_tls [q_fc fl al u, q_ac al md ar n] h9d (F := F) (q_up_id F j)) hD
                have e9 : q_sum (dAh F i) (j + 1) = ((q_sum (dAh F i) j) + 1) := by simp only [q_sum, dAh, dBet, if_neg c_1, if_pos c_12, if_neg c_69, if_pos c_78, if_neg c_84, if_pos c_100, Int32.add_zero]
                rw [← e9] at hl
                exact ih (j + 1) (by omega) (by omega)   H locs ls hP hD hS (lv_sub hl [4, 5, 6, 1, 0] rfl)
  exact L37 (n + 1) 0 (by omega) (by omega)   H locs ls hP hD hS (lv_sub hl [3, 4, 2, 1, 0] rfl)
