
def dAbt (F : Nat → Nat → Int32) (u : Nat → Int32) (b o : Nat) : Int32 := if u 1 = 0 then -1 else F b (5 + o)
def mIt (wf ju : Nat → Int32) (k : Nat) (len : Int32) (n : Nat) (S : (Nat → Nat → Int32) × (Nat → Int32)) : Nat → (Nat → Nat → Int32) × (Nat → Int32)
  | 0 => S
  | j + 1 => mS wf ju k len n (mIt wf ju k len n S j)
def mAr (wf ju : Nat → Int32) (k : Nat) (len : Int32) (n : Nat) (S : (Nat → Nat → Int32) × (Nat → Int32)) (j : Nat) : Int32 := mR1 (mIt wf ju k len n S j).1 (mIt wf ju k len n S j).2 (wAt wf ((mIt wf ju k len n S j).2 0)) ju k len n
theorem mIt_0 (wf ju : Nat → Int32) (k : Nat) (len : Int32) (n : Nat) (S : (Nat → Nat → Int32) × (Nat → Int32)) {mk : Nat} (hm : S.2 0 = nI mk) : ∀ j, (mIt wf ju k len n S j).2 0 = nI (mk + j)
  | 0 => hm
  | j + 1 => by rw [mIt, mS_0, mIt_0 wf ju k len n S hm j]; exact nI_1 _
theorem mIt_keep (wf ju : Nat → Int32) (k : Nat) (len : Int32) (n : Nat) (S : (Nat → Nat → Int32) × (Nat → Int32)) : ∀ j, mKeep S.1 (mIt wf ju k len n S j).1
  | 0 => mKeep.rf
  | j + 1 => (mIt_keep wf ju k len n S j).tr (mF_keep _ _ _ _ _ _ _)

abbrev rmX3_told : Room := { frames := 4, cells := 0, slots := 0, locals := 85 }
set_option maxHeartbeats 1000000 in
set_option maxRecDepth 100000 in
theorem c_X3_told_ok (l : Launch) (D : va_G) (T : Nat → ClassId) (x tf tb fl al ar n : Nat) (md : Int32) (u : Nat → Int32) (ad : Nat → Nat) (F : Nat → Nat → Int32) (hn : n ≤ 8) (wa wi ja k mk : Nat) (len : Int32) (ju wf : Nat → Int32) (hk : k ≤ 3) (hm : u 0 = nI mk) (hmk : mk < 2 ^ 31) (i o : Nat) (hi : i < n) (ho : o < 7) (hz : 0 < 2 + F i 0 + F i 2 / 2) : q_M l D (q_ty T) yX3_told wsX3_told rmX3_told [.ref x, .int (nI i), .int (nI o)] ([q_xc x wa fl tf tb, q_fc fl al u, q_ac al md ar n, q_wc wa len wi ja, q_ia T wi 10 wf, q_ia T ja k ju] ++ q_tl (T 1) n ar ad F) q_no (q_is (some (.int (qTold F i o (wf (mk % 10))))) ([q_xc x wa fl tf tb, q_fc fl al u, q_ac al md ar n, q_wc wa len wi ja, q_ia T wi 10 wf, q_ia T ja k ju] ++ q_tl (T 1) n ar ad F)) := by
  refine q_start (cc := cX3_told) (maxL := 4) (ret := (some .int)) (by decide) rfl (Nat.le_of_ble_eq_true rfl) ?_
  intro p e s m args below meth c A H locs hx hb hr hts hown hlocks hml hnm hP hK hD hS hA hG ls hl
  have hown : s.vm.findClass RX3 = some m.cls := hown
  have hC : CallFix p m c cX3_told 4 s args wsX3_told RX3 := ⟨hx, hb, hml, hown, hts⟩
  have iX0 : ∀ w ∈ wsX00, w ∈ wsX3_told := by decide +kernel
  have hl : lv_has ls 4 [(0, .ref x), (1, .int (nI i)), (2, .int (nI o))] := hl
  refine lv_aload_n hx hb dX3_told_0 rfl (lv_at hl 0 rfl) ?_
  refine lv_iload_n hx hb dX3_told_1 rfl (lv_at hl 1 rfl) ?_
  refine q_callV (As := [.int (nI i)]) (rs := []) hC (c_X3_boatAt_ok l D T x wa fl tf tb al ar n md u ad F hn i hi) q_no_st q_no_at (cwV 1 hts gX3_told_X3_boatAt rfl rfl rfl (by decide +kernel) ⟨Nat.le_of_ble_eq_true rfl, Nat.le_of_ble_eq_true rfl⟩) (va_recv hK hP (ci := 4) (q0 := 0) rfl rfl) hK hP hD hS hA (q_tmask [true, true, true, false, false, false] [q_xc x wa fl tf tb, q_fc fl al u, q_ac al md ar n, q_wc wa len wi ja, q_ia T wi 10 wf, q_ia T ja k ju] (q_tl (T 1) n ar ad F)) rfl hl.1 rfl (Nat.le_of_ble_eq_true rfl) dX3_told_2 ⟨(Nat.le_of_ble_eq_true rfl), (Nat.le_of_ble_eq_true rfl)⟩ (fun v9 C9 H locs hp hP hD hS => ?_)
  obtain ⟨rfl, rfl⟩ := hp
  have hP : va_P D vwCl ([q_xc x wa fl tf tb, q_fc fl al u, q_ac al md ar n, q_wc wa len wi ja, q_ia T wi 10 wf, q_ia T ja k ju] ++ q_tl (T 1) n ar ad F) H := q_P_perm (q_tback [true, true, true, false, false, false] [q_xc x wa fl tf tb, q_fc fl al u, q_ac al md ar n] [q_wc wa len wi ja, q_ia T wi 10 wf, q_ia T ja k ju] (q_tl (T 1) n ar ad F)) hP
  have hD : va_D A ([q_xc x wa fl tf tb, q_fc fl al u, q_ac al md ar n, q_wc wa len wi ja, q_ia T wi 10 wf, q_ia T ja k ju] ++ q_tl (T 1) n ar ad F) := q_D_perm (q_tback [true, true, true, false, false, false] [q_xc x wa fl tf tb, q_fc fl al u, q_ac al md ar n] [q_wc wa len wi ja, q_ia T wi 10 wf, q_ia T ja k ju] (q_tl (T 1) n ar ad F)) hD
  refine lv_astore_n (lv' := [(3, .ref (ad i)), (0, .ref x), (1, .int (nI i)), (2, .int (nI o))]) hx hb dX3_told_5 rfl hl (by decide) rfl (fun ls hl => ?_)
  refine lv_aload_n hx hb dX3_told_6 rfl (lv_at hl 1 rfl) ?_
  refine lv_iload_n hx hb dX3_told_7 rfl (lv_at hl 3 rfl) ?_
  refine lv_bipush (v := 7) hx hb dX3_told_8 (by decide) ?_
  refine q_callV (As := [.int (nI o), .int 7]) (rs := []) hC (c_X3_requireKind_ok l D T x wa fl tf tb (nI o) 7 (nI_pos (by omega)) (nI_lt (b := 7) ho (by omega))) q_no_st q_no_at (cwV 2 hts gX3_told_X3_requireKind rfl rfl rfl (by decide +kernel) ⟨Nat.le_of_ble_eq_true rfl, Nat.le_of_ble_eq_true rfl⟩) (va_recv hK hP (ci := 4) (q0 := 0) rfl rfl) hK hP hD hS hA (q_mask [true, false, false, false, false, false] _) rfl hl.1 rfl (Nat.le_of_ble_eq_true rfl) dX3_told_10 ⟨(Nat.le_of_ble_eq_true rfl), (Nat.le_of_ble_eq_true rfl)⟩ (fun v9 C9 H locs hp hP hD hS => ?_)
  obtain ⟨rfl, rfl⟩ := hp
  have hP : va_P D vwCl ([q_xc x wa fl tf tb, q_fc fl al u, q_ac al md ar n, q_wc wa len wi ja, q_ia T wi 10 wf, q_ia T ja k ju] ++ q_tl (T 1) n ar ad F) H := q_P_perm (q_mrg_perm [true, false, false, false, false, false] _ _) hP
  have hD : va_D A ([q_xc x wa fl tf tb, q_fc fl al u, q_ac al md ar n, q_wc wa len wi ja, q_ia T wi 10 wf, q_ia T ja k ju] ++ q_tl (T 1) n ar ad F) := q_D_perm (q_mrg_perm [true, false, false, false, false, false] _ _) hD
  have hP : va_P D vwCl ([q_bc (ad i) (F i), q_xc x wa fl tf tb, q_fc fl al u, q_ac al md ar n, q_wc wa len wi ja, q_ia T wi 10 wf, q_ia T ja k ju, q_arc (T 1) n ar ad] ++ q_pl ((List.range n).erase i) ad F) H := q_P_perm (q_tlo _ hi rfl) hP
  have hD : va_D A ([q_bc (ad i) (F i), q_xc x wa fl tf tb, q_fc fl al u, q_ac al md ar n, q_wc wa len wi ja, q_ia T wi 10 wf, q_ia T ja k ju, q_arc (T 1) n ar ad] ++ q_pl ((List.range n).erase i) ad F) := q_D_perm (q_tlo _ hi rfl) hD
  refine lv_iload_n hx hb dX3_told_13 rfl (lv_at hl 3 rfl) ?_
  rcases (show o = 0 ∨ o = 1 ∨ o = 2 ∨ o = 3 ∨ o = 4 ∨ o = 5 ∨ o = 6 by omega) with rfl | rfl | rfl | rfl | rfl | rfl | rfl
  · refine lv_tableIn (off := 38) (tgt := 52) hx hb dX3_told_14 (by decide) (by decide) rfl (by decide) ?_
    refine lv_aload_n hx hb dX3_told_52 rfl (lv_at hl 0 rfl) ?_
    refine va_get (D := D) (ci := 1) (v := .int ((F i) 0)) (C := RX0) (T := TX0) (N := 11) hx hb hts iX0 hown hK hP 0 rfl rfl 0 (by decide) (hts (.fieldLink RX3 126 "ToyRegatta$Boat" "hull" "I") (by decide +kernel)) (fun _ h9 => h9) rfl dX3_told_53 ?_
    have hP : va_P D vwCl ([q_xc x wa fl tf tb, q_fc fl al u, q_ac al md ar n, q_wc wa len wi ja, q_ia T wi 10 wf, q_ia T ja k ju] ++ q_tl (T 1) n ar ad F) H := q_P_perm (q_tls [q_xc x wa fl tf tb, q_fc fl al u, q_ac al md ar n, q_wc wa len wi ja, q_ia T wi 10 wf, q_ia T ja k ju] hi (F := F) (q_up_id F i)) hP
    have hD : va_D A ([q_xc x wa fl tf tb, q_fc fl al u, q_ac al md ar n, q_wc wa len wi ja, q_ia T wi 10 wf, q_ia T ja k ju] ++ q_tl (T 1) n ar ad F) := q_D_perm (q_tls [q_xc x wa fl tf tb, q_fc fl al u, q_ac al md ar n, q_wc wa len wi ja, q_ia T wi 10 wf, q_ia T ja k ju] hi (F := F) (q_up_id F i)) hD
    exact q_iret hx hb hr hlocks hP hK hD hS (Nat.le_of_ble_eq_true rfl) (Nat.le_of_ble_eq_true rfl) dX3_told_56 ⟨rfl, rfl⟩
  · refine lv_tableIn (off := 43) (tgt := 57) hx hb dX3_told_14 (by decide) (by decide) rfl (by decide) ?_
    refine lv_aload_n hx hb dX3_told_57 rfl (lv_at hl 0 rfl) ?_
    refine va_get (D := D) (ci := 1) (v := .int ((F i) 1)) (C := RX0) (T := TX0) (N := 11) hx hb hts iX0 hown hK hP 0 rfl rfl 1 (by decide) (hts (.fieldLink RX3 129 "ToyRegatta$Boat" "rig" "I") (by decide +kernel)) (fun _ h9 => h9) rfl dX3_told_58 ?_
    have hP : va_P D vwCl ([q_xc x wa fl tf tb, q_fc fl al u, q_ac al md ar n, q_wc wa len wi ja, q_ia T wi 10 wf, q_ia T ja k ju] ++ q_tl (T 1) n ar ad F) H := q_P_perm (q_tls [q_xc x wa fl tf tb, q_fc fl al u, q_ac al md ar n, q_wc wa len wi ja, q_ia T wi 10 wf, q_ia T ja k ju] hi (F := F) (q_up_id F i)) hP
    have hD : va_D A ([q_xc x wa fl tf tb, q_fc fl al u, q_ac al md ar n, q_wc wa len wi ja, q_ia T wi 10 wf, q_ia T ja k ju] ++ q_tl (T 1) n ar ad F) := q_D_perm (q_tls [q_xc x wa fl tf tb, q_fc fl al u, q_ac al md ar n, q_wc wa len wi ja, q_ia T wi 10 wf, q_ia T ja k ju] hi (F := F) (q_up_id F i)) hD
    exact q_iret hx hb hr hlocks hP hK hD hS (Nat.le_of_ble_eq_true rfl) (Nat.le_of_ble_eq_true rfl) dX3_told_61 ⟨rfl, rfl⟩
  · refine lv_tableIn (off := 48) (tgt := 62) hx hb dX3_told_14 (by decide) (by decide) rfl (by decide) ?_
    refine lv_aload_n hx hb dX3_told_62 rfl (lv_at hl 0 rfl) ?_
    refine va_get (D := D) (ci := 1) (v := .int ((F i) 2)) (C := RX0) (T := TX0) (N := 11) hx hb hts iX0 hown hK hP 0 rfl rfl 2 (by decide) (hts (.fieldLink RX3 91 "ToyRegatta$Boat" "lead" "I") (by decide +kernel)) (fun _ h9 => h9) rfl dX3_told_63 ?_
    have hP : va_P D vwCl ([q_xc x wa fl tf tb, q_fc fl al u, q_ac al md ar n, q_wc wa len wi ja, q_ia T wi 10 wf, q_ia T ja k ju] ++ q_tl (T 1) n ar ad F) H := q_P_perm (q_tls [q_xc x wa fl tf tb, q_fc fl al u, q_ac al md ar n, q_wc wa len wi ja, q_ia T wi 10 wf, q_ia T ja k ju] hi (F := F) (q_up_id F i)) hP
    have hD : va_D A ([q_xc x wa fl tf tb, q_fc fl al u, q_ac al md ar n, q_wc wa len wi ja, q_ia T wi 10 wf, q_ia T ja k ju] ++ q_tl (T 1) n ar ad F) := q_D_perm (q_tls [q_xc x wa fl tf tb, q_fc fl al u, q_ac al md ar n, q_wc wa len wi ja, q_ia T wi 10 wf, q_ia T ja k ju] hi (F := F) (q_up_id F i)) hD
    exact q_iret hx hb hr hlocks hP hK hD hS (Nat.le_of_ble_eq_true rfl) (Nat.le_of_ble_eq_true rfl) dX3_told_66 ⟨rfl, rfl⟩
  · refine lv_tableIn (off := 53) (tgt := 67) hx hb dX3_told_14 (by decide) (by decide) rfl (by decide) ?_
    refine lv_aload_n hx hb dX3_told_67 rfl (lv_at hl 0 rfl) ?_
    refine va_get (D := D) (ci := 1) (v := .int ((F i) 3)) (C := RX0) (T := TX0) (N := 11) hx hb hts iX0 hown hK hP 0 rfl rfl 3 (by decide) (hts (.fieldLink RX3 132 "ToyRegatta$Boat" "points" "I") (by decide +kernel)) (fun _ h9 => h9) rfl dX3_told_68 ?_
    have hP : va_P D vwCl ([q_xc x wa fl tf tb, q_fc fl al u, q_ac al md ar n, q_wc wa len wi ja, q_ia T wi 10 wf, q_ia T ja k ju] ++ q_tl (T 1) n ar ad F) H := q_P_perm (q_tls [q_xc x wa fl tf tb, q_fc fl al u, q_ac al md ar n, q_wc wa len wi ja, q_ia T wi 10 wf, q_ia T ja k ju] hi (F := F) (q_up_id F i)) hP
    have hD : va_D A ([q_xc x wa fl tf tb, q_fc fl al u, q_ac al md ar n, q_wc wa len wi ja, q_ia T wi 10 wf, q_ia T ja k ju] ++ q_tl (T 1) n ar ad F) := q_D_perm (q_tls [q_xc x wa fl tf tb, q_fc fl al u, q_ac al md ar n, q_wc wa len wi ja, q_ia T wi 10 wf, q_ia T ja k ju] hi (F := F) (q_up_id F i)) hD
    exact q_iret hx hb hr hlocks hP hK hD hS (Nat.le_of_ble_eq_true rfl) (Nat.le_of_ble_eq_true rfl) dX3_told_71 ⟨rfl, rfl⟩
  · refine lv_tableIn (off := 58) (tgt := 72) hx hb dX3_told_14 (by decide) (by decide) rfl (by decide) ?_
    refine lv_aload_n hx hb dX3_told_72 rfl (lv_at hl 0 rfl) ?_
    refine va_get (D := D) (ci := 1) (v := .int ((F i) 4)) (C := RX0) (T := TX0) (N := 11) hx hb hts iX0 hown hK hP 0 rfl rfl 4 (by decide) (hts (.fieldLink RX3 135 "ToyRegatta$Boat" "soaked" "I") (by decide +kernel)) (fun _ h9 => h9) rfl dX3_told_73 ?_
    have hP : va_P D vwCl ([q_xc x wa fl tf tb, q_fc fl al u, q_ac al md ar n, q_wc wa len wi ja, q_ia T wi 10 wf, q_ia T ja k ju] ++ q_tl (T 1) n ar ad F) H := q_P_perm (q_tls [q_xc x wa fl tf tb, q_fc fl al u, q_ac al md ar n, q_wc wa len wi ja, q_ia T wi 10 wf, q_ia T ja k ju] hi (F := F) (q_up_id F i)) hP
    have hD : va_D A ([q_xc x wa fl tf tb, q_fc fl al u, q_ac al md ar n, q_wc wa len wi ja, q_ia T wi 10 wf, q_ia T ja k ju] ++ q_tl (T 1) n ar ad F) := q_D_perm (q_tls [q_xc x wa fl tf tb, q_fc fl al u, q_ac al md ar n, q_wc wa len wi ja, q_ia T wi 10 wf, q_ia T ja k ju] hi (F := F) (q_up_id F i)) hD
    exact q_iret hx hb hr hlocks hP hK hD hS (Nat.le_of_ble_eq_true rfl) (Nat.le_of_ble_eq_true rfl) dX3_told_76 ⟨rfl, rfl⟩
  · refine lv_tableIn (off := 63) (tgt := 77) hx hb dX3_told_14 (by decide) (by decide) rfl (by decide) ?_
    refine lv_aload_n hx hb dX3_told_77 rfl (lv_at hl 0 rfl) ?_
    refine lv_aload_n hx hb dX3_told_78 rfl (lv_at hl 1 rfl) ?_
    refine q_callV (As := []) (rs := [.ref (ad i)]) hC (c_X3_windNow_ok l D T x wa fl tf tb al wi ja mk len u wf hm hmk) q_no_st q_no_at (cwV 0 hts gX3_told_X3_windNow rfl rfl rfl (by decide +kernel) ⟨Nat.le_of_ble_eq_true rfl, Nat.le_of_ble_eq_true rfl⟩) (va_recv hK hP (ci := 4) (q0 := 1) rfl rfl) hK hP hD hS hA (q_mask [false, true, true, false, true, true, false, false] _) rfl hl.1 rfl (Nat.le_of_ble_eq_true rfl) dX3_told_79 ⟨(Nat.le_of_ble_eq_true rfl), (Nat.le_of_ble_eq_true rfl)⟩ (fun v9 C9 H locs hp hP hD hS => ?_)
    obtain ⟨rfl, rfl⟩ := hp
    have hP : va_P D vwCl ([q_bc (ad i) (F i), q_xc x wa fl tf tb, q_fc fl al u, q_ac al md ar n, q_wc wa len wi ja, q_ia T wi 10 wf, q_ia T ja k ju, q_arc (T 1) n ar ad] ++ q_pl ((List.range n).erase i) ad F) H := q_P_perm (q_mrg_perm [false, true, true, false, true, true, false, false] _ _) hP
    have hD : va_D A ([q_bc (ad i) (F i), q_xc x wa fl tf tb, q_fc fl al u, q_ac al md ar n, q_wc wa len wi ja, q_ia T wi 10 wf, q_ia T ja k ju, q_arc (T 1) n ar ad] ++ q_pl ((List.range n).erase i) ad F) := q_D_perm (q_mrg_perm [false, true, true, false, true, true, false, false] _ _) hD
    refine q_callV (As := [.int (wf (mk % 10))]) (rs := []) hC (c_X0_heel l D T (ad i) (F i) (wf (mk % 10))) q_no_st q_no_at (cwV 1 hts gX3_told_X0_heel rfl rfl rfl (by decide +kernel) ⟨Nat.le_of_ble_eq_true rfl, Nat.le_of_ble_eq_true rfl⟩) (va_recv hK hP (ci := 1) (q0 := 0) rfl rfl) hK hP hD hS hA (q_mask [true, false, false, false, false, false, false, false] _) rfl hl.1 rfl (Nat.le_of_ble_eq_true rfl) dX3_told_82 ⟨(Nat.le_of_ble_eq_true rfl), (Nat.le_of_ble_eq_true rfl)⟩ (fun v9 C9 H locs hp hP hD hS => ?_)
    obtain ⟨rfl, rfl⟩ := hp
    have hP : va_P D vwCl ([q_bc (ad i) (F i), q_xc x wa fl tf tb, q_fc fl al u, q_ac al md ar n, q_wc wa len wi ja, q_ia T wi 10 wf, q_ia T ja k ju, q_arc (T 1) n ar ad] ++ q_pl ((List.range n).erase i) ad F) H := q_P_perm (q_mrg_perm [true, false, false, false, false, false, false, false] _ _) hP
    have hD : va_D A ([q_bc (ad i) (F i), q_xc x wa fl tf tb, q_fc fl al u, q_ac al md ar n, q_wc wa len wi ja, q_ia T wi 10 wf, q_ia T ja k ju, q_arc (T 1) n ar ad] ++ q_pl ((List.range n).erase i) ad F) := q_D_perm (q_mrg_perm [true, false, false, false, false, false, false, false] _ _) hD
    have hP : va_P D vwCl ([q_xc x wa fl tf tb, q_fc fl al u, q_ac al md ar n, q_wc wa len wi ja, q_ia T wi 10 wf, q_ia T ja k ju] ++ q_tl (T 1) n ar ad F) H := q_P_perm (q_tls [q_xc x wa fl tf tb, q_fc fl al u, q_ac al md ar n, q_wc wa len wi ja, q_ia T wi 10 wf, q_ia T ja k ju] hi (F := F) (q_up_id F i)) hP
    have hD : va_D A ([q_xc x wa fl tf tb, q_fc fl al u, q_ac al md ar n, q_wc wa len wi ja, q_ia T wi 10 wf, q_ia T ja k ju] ++ q_tl (T 1) n ar ad F) := q_D_perm (q_tls [q_xc x wa fl tf tb, q_fc fl al u, q_ac al md ar n, q_wc wa len wi ja, q_ia T wi 10 wf, q_ia T ja k ju] hi (F := F) (q_up_id F i)) hD
    exact q_iret hx hb hr hlocks hP hK hD hS (Nat.le_of_ble_eq_true rfl) (Nat.le_of_ble_eq_true rfl) dX3_told_85 ⟨rfl, rfl⟩
  · refine lv_tableOut (tgt := 86) hx hb dX3_told_14 (Or.inr (by decide)) (by decide) ?_
    refine lv_aload_n hx hb dX3_told_86 rfl (lv_at hl 0 rfl) ?_
    refine lv_aload_n hx hb dX3_told_87 rfl (lv_at hl 1 rfl) ?_
    refine q_callV (As := []) (rs := [.ref (ad i)]) hC (c_X3_windNow_ok l D T x wa fl tf tb al wi ja mk len u wf hm hmk) q_no_st q_no_at (cwV 0 hts gX3_told_X3_windNow rfl rfl rfl (by decide +kernel) ⟨Nat.le_of_ble_eq_true rfl, Nat.le_of_ble_eq_true rfl⟩) (va_recv hK hP (ci := 4) (q0 := 1) rfl rfl) hK hP hD hS hA (q_mask [false, true, true, false, true, true, false, false] _) rfl hl.1 rfl (Nat.le_of_ble_eq_true rfl) dX3_told_88 ⟨(Nat.le_of_ble_eq_true rfl), (Nat.le_of_ble_eq_true rfl)⟩ (fun v9 C9 H locs hp hP hD hS => ?_)
    obtain ⟨rfl, rfl⟩ := hp
    have hP : va_P D vwCl ([q_bc (ad i) (F i), q_xc x wa fl tf tb, q_fc fl al u, q_ac al md ar n, q_wc wa len wi ja, q_ia T wi 10 wf, q_ia T ja k ju, q_arc (T 1) n ar ad] ++ q_pl ((List.range n).erase i) ad F) H := q_P_perm (q_mrg_perm [false, true, true, false, true, true, false, false] _ _) hP
    have hD : va_D A ([q_bc (ad i) (F i), q_xc x wa fl tf tb, q_fc fl al u, q_ac al md ar n, q_wc wa len wi ja, q_ia T wi 10 wf, q_ia T ja k ju, q_arc (T 1) n ar ad] ++ q_pl ((List.range n).erase i) ad F) := q_D_perm (q_mrg_perm [false, true, true, false, true, true, false, false] _ _) hD
    refine q_callV (As := [.int (wf (mk % 10))]) (rs := []) hC (c_X0_speed l D T (ad i) (F i) (wf (mk % 10)) hz) q_no_st q_no_at (cwV 1 hts gX3_told_X0_speed rfl rfl rfl (by decide +kernel) ⟨Nat.le_of_ble_eq_true rfl, Nat.le_of_ble_eq_true rfl⟩) (va_recv hK hP (ci := 1) (q0 := 0) rfl rfl) hK hP hD hS hA (q_mask [true, false, false, false, false, false, false, false] _) rfl hl.1 rfl (Nat.le_of_ble_eq_true rfl) dX3_told_91 ⟨(Nat.le_of_ble_eq_true rfl), (Nat.le_of_ble_eq_true rfl)⟩ (fun v9 C9 H locs hp hP hD hS => ?_)
    obtain ⟨rfl, rfl⟩ := hp
    have hP : va_P D vwCl ([q_bc (ad i) (F i), q_xc x wa fl tf tb, q_fc fl al u, q_ac al md ar n, q_wc wa len wi ja, q_ia T wi 10 wf, q_ia T ja k ju, q_arc (T 1) n ar ad] ++ q_pl ((List.range n).erase i) ad F) H := q_P_perm (q_mrg_perm [true, false, false, false, false, false, false, false] _ _) hP
    have hD : va_D A ([q_bc (ad i) (F i), q_xc x wa fl tf tb, q_fc fl al u, q_ac al md ar n, q_wc wa len wi ja, q_ia T wi 10 wf, q_ia T ja k ju, q_arc (T 1) n ar ad] ++ q_pl ((List.range n).erase i) ad F) := q_D_perm (q_mrg_perm [true, false, false, false, false, false, false, false] _ _) hD
    have hP : va_P D vwCl ([q_xc x wa fl tf tb, q_fc fl al u, q_ac al md ar n, q_wc wa len wi ja, q_ia T wi 10 wf, q_ia T ja k ju] ++ q_tl (T 1) n ar ad F) H := q_P_perm (q_tls [q_xc x wa fl tf tb, q_fc fl al u, q_ac al md ar n, q_wc wa len wi ja, q_ia T wi 10 wf, q_ia T ja k ju] hi (F := F) (q_up_id F i)) hP
    have hD : va_D A ([q_xc x wa fl tf tb, q_fc fl al u, q_ac al md ar n, q_wc wa len wi ja, q_ia T wi 10 wf, q_ia T ja k ju] ++ q_tl (T 1) n ar ad F) := q_D_perm (q_tls [q_xc x wa fl tf tb, q_fc fl al u, q_ac al md ar n, q_wc wa len wi ja, q_ia T wi 10 wf, q_ia T ja k ju] hi (F := F) (q_up_id F i)) hD
    exact q_iret hx hb hr hlocks hP hK hD hS (Nat.le_of_ble_eq_true rfl) (Nat.le_of_ble_eq_true rfl) dX3_told_94 ⟨rfl, rfl⟩
abbrev rmX3_about : Room := { frames := 4, cells := 0, slots := 0, locals := 85 }
set_option maxHeartbeats 1000000 in
set_option maxRecDepth 100000 in
theorem c_X3_about_ok (l : Launch) (D : va_G) (T : Nat → ClassId) (x tf tb fl al ar n : Nat) (md : Int32) (u : Nat → Int32) (ad : Nat → Nat) (F : Nat → Nat → Int32) (hn : n ≤ 8) (wa wi ja k mk : Nat) (len : Int32) (ju wf : Nat → Int32) (hk : k ≤ 3) (hm : u 0 = nI mk) (hmk : mk < 2 ^ 31) (i o : Nat) (hi : i < n) (ho : o < 5) : q_M l D (q_ty T) yX3_about wsX3_about rmX3_about [.ref x, .int (nI i), .int (nI o)] ([q_xc x wa fl tf tb, q_fc fl al u, q_ac al md ar n, q_wc wa len wi ja, q_ia T wi 10 wf, q_ia T ja k ju] ++ q_tl (T 1) n ar ad F) q_no (q_is (some (.int (dAbt F u i o))) ([q_xc x wa fl tf tb, q_fc fl al u, q_ac al md ar n, q_wc wa len wi ja, q_ia T wi 10 wf, q_ia T ja k ju] ++ q_tl (T 1) n ar ad F)) := by
  refine q_start (cc := cX3_about) (maxL := 4) (ret := (some .int)) (by decide) rfl (Nat.le_of_ble_eq_true rfl) ?_
  intro p e s m args below meth c A H locs hx hb hr hts hown hlocks hml hnm hP hK hD hS hA hG ls hl
  have hown : s.vm.findClass RX3 = some m.cls := hown
  have hC : CallFix p m c cX3_about 4 s args wsX3_about RX3 := ⟨hx, hb, hml, hown, hts⟩
  have iX3 : ∀ w ∈ wsX30, w ∈ wsX3_about := by decide +kernel
  have iX1 : ∀ w ∈ wsX10, w ∈ wsX3_about := by decide +kernel
  have iX0 : ∀ w ∈ wsX00, w ∈ wsX3_about := by decide +kernel
  have hl : lv_has ls 4 [(0, .ref x), (1, .int (nI i)), (2, .int (nI o))] := hl
  refine lv_aload_n hx hb dX3_about_0 rfl (lv_at hl 0 rfl) ?_
  refine lv_iload_n hx hb dX3_about_1 rfl (lv_at hl 1 rfl) ?_
  refine q_callV (As := [.int (nI i)]) (rs := []) hC (c_X3_boatAt_ok l D T x wa fl tf tb al ar n md u ad F hn i hi) q_no_st q_no_at (cwV 1 hts gX3_about_X3_boatAt rfl rfl rfl (by decide +kernel) ⟨Nat.le_of_ble_eq_true rfl, Nat.le_of_ble_eq_true rfl⟩) (va_recv hK hP (ci := 4) (q0 := 0) rfl rfl) hK hP hD hS hA (q_tmask [true, true, true, false, false, false] [q_xc x wa fl tf tb, q_fc fl al u, q_ac al md ar n, q_wc wa len wi ja, q_ia T wi 10 wf, q_ia T ja k ju] (q_tl (T 1) n ar ad F)) rfl hl.1 rfl (Nat.le_of_ble_eq_true rfl) dX3_about_2 ⟨(Nat.le_of_ble_eq_true rfl), (Nat.le_of_ble_eq_true rfl)⟩ (fun v9 C9 H locs hp hP hD hS => ?_)
  obtain ⟨rfl, rfl⟩ := hp
  have hP : va_P D vwCl ([q_xc x wa fl tf tb, q_fc fl al u, q_ac al md ar n, q_wc wa len wi ja, q_ia T wi 10 wf, q_ia T ja k ju] ++ q_tl (T 1) n ar ad F) H := q_P_perm (q_tback [true, true, true, false, false, false] [q_xc x wa fl tf tb, q_fc fl al u, q_ac al md ar n] [q_wc wa len wi ja, q_ia T wi 10 wf, q_ia T ja k ju] (q_tl (T 1) n ar ad F)) hP
  have hD : va_D A ([q_xc x wa fl tf tb, q_fc fl al u, q_ac al md ar n, q_wc wa len wi ja, q_ia T wi 10 wf, q_ia T ja k ju] ++ q_tl (T 1) n ar ad F) := q_D_perm (q_tback [true, true, true, false, false, false] [q_xc x wa fl tf tb, q_fc fl al u, q_ac al md ar n] [q_wc wa len wi ja, q_ia T wi 10 wf, q_ia T ja k ju] (q_tl (T 1) n ar ad F)) hD
  refine lv_astore_n (lv' := [(3, .ref (ad i)), (0, .ref x), (1, .int (nI i)), (2, .int (nI o))]) hx hb dX3_about_5 rfl hl (by decide) rfl (fun ls hl => ?_)
  refine lv_aload_n hx hb dX3_about_6 rfl (lv_at hl 1 rfl) ?_
  refine lv_iload_n hx hb dX3_about_7 rfl (lv_at hl 3 rfl) ?_
  refine lv_iconst (v := 5) hx hb dX3_about_8 (by decide) ?_
  refine q_callV (As := [.int (nI o), .int 5]) (rs := []) hC (c_X3_requireKind_ok l D T x wa fl tf tb (nI o) 5 (nI_pos (by omega)) (nI_lt (b := 5) ho (by omega))) q_no_st q_no_at (cwV 2 hts gX3_about_X3_requireKind rfl rfl rfl (by decide +kernel) ⟨Nat.le_of_ble_eq_true rfl, Nat.le_of_ble_eq_true rfl⟩) (va_recv hK hP (ci := 4) (q0 := 0) rfl rfl) hK hP hD hS hA (q_mask [true, false, false, false, false, false] _) rfl hl.1 rfl (Nat.le_of_ble_eq_true rfl) dX3_about_9 ⟨(Nat.le_of_ble_eq_true rfl), (Nat.le_of_ble_eq_true rfl)⟩ (fun v9 C9 H locs hp hP hD hS => ?_)
  obtain ⟨rfl, rfl⟩ := hp
  have hP : va_P D vwCl ([q_xc x wa fl tf tb, q_fc fl al u, q_ac al md ar n, q_wc wa len wi ja, q_ia T wi 10 wf, q_ia T ja k ju] ++ q_tl (T 1) n ar ad F) H := q_P_perm (q_mrg_perm [true, false, false, false, false, false] _ _) hP
  have hD : va_D A ([q_xc x wa fl tf tb, q_fc fl al u, q_ac al md ar n, q_wc wa len wi ja, q_ia T wi 10 wf, q_ia T ja k ju] ++ q_tl (T 1) n ar ad F) := q_D_perm (q_mrg_perm [true, false, false, false, false, false] _ _) hD
  refine lv_aload_n hx hb dX3_about_12 rfl (lv_at hl 1 rfl) ?_
  refine va_get (D := D) (ci := 4) (v := .ref fl) (C := RX3) (T := TX3) (N := 4) hx hb hts iX3 hown hK hP 0 rfl rfl 1 (by decide) (hts (.fieldLink RX3 19 "ToyRegatta" "fleet" "LToyRegatta$Fleet;") (by decide +kernel)) (fun _ h9 => h9) rfl dX3_about_13 ?_
  refine va_get (D := D) (ci := 2) (v := .int (u 1)) (C := RX1) (T := TX1) (N := 5) hx hb hts iX1 hown hK hP 1 rfl rfl 2 (by decide) (hts (.fieldLink RX3 147 "ToyRegatta$Fleet" "races" "I") (by decide +kernel)) (fun _ h9 => h9) rfl dX3_about_16 ?_
  refine lv_if_ne (tgt := 24) hx hb dX3_about_19 (by decide) (fun c_19 => ?_) (fun c_19 => ?_)
  · have hP : va_P D vwCl ([q_bc (ad i) (F i), q_xc x wa fl tf tb, q_fc fl al u, q_ac al md ar n, q_wc wa len wi ja, q_ia T wi 10 wf, q_ia T ja k ju, q_arc (T 1) n ar ad] ++ q_pl ((List.range n).erase i) ad F) H := q_P_perm (q_tlo _ hi rfl) hP
    have hD : va_D A ([q_bc (ad i) (F i), q_xc x wa fl tf tb, q_fc fl al u, q_ac al md ar n, q_wc wa len wi ja, q_ia T wi 10 wf, q_ia T ja k ju, q_arc (T 1) n ar ad] ++ q_pl ((List.range n).erase i) ad F) := q_D_perm (q_tlo _ hi rfl) hD
    refine lv_iload_n hx hb dX3_about_24 rfl (lv_at hl 3 rfl) ?_
    rcases (show o = 0 ∨ o = 1 ∨ o = 2 ∨ o = 3 ∨ o = 4 by omega) with rfl | rfl | rfl | rfl | rfl
    · refine lv_tableIn (off := 31) (tgt := 56) hx hb dX3_about_25 (by decide) (by decide) rfl (by decide) ?_
      refine lv_aload_n hx hb dX3_about_56 rfl (lv_at hl 0 rfl) ?_
      refine va_get (D := D) (ci := 1) (v := .int ((F i) 5)) (C := RX0) (T := TX0) (N := 11) hx hb hts iX0 hown hK hP 0 rfl rfl 5 (by decide) (hts (.fieldLink RX3 150 "ToyRegatta$Boat" "place" "I") (by decide +kernel)) (fun _ h9 => h9) rfl dX3_about_57 ?_
      have hP : va_P D vwCl ([q_xc x wa fl tf tb, q_fc fl al u, q_ac al md ar n, q_wc wa len wi ja, q_ia T wi 10 wf, q_ia T ja k ju] ++ q_tl (T 1) n ar ad F) H := q_P_perm (q_tls [q_xc x wa fl tf tb, q_fc fl al u, q_ac al md ar n, q_wc wa len wi ja, q_ia T wi 10 wf, q_ia T ja k ju] hi (F := F) (q_up_id F i)) hP
      have hD : va_D A ([q_xc x wa fl tf tb, q_fc fl al u, q_ac al md ar n, q_wc wa len wi ja, q_ia T wi 10 wf, q_ia T ja k ju] ++ q_tl (T 1) n ar ad F) := q_D_perm (q_tls [q_xc x wa fl tf tb, q_fc fl al u, q_ac al md ar n, q_wc wa len wi ja, q_ia T wi 10 wf, q_ia T ja k ju] hi (F := F) (q_up_id F i)) hD
      exact q_iret hx hb hr hlocks hP hK hD hS (Nat.le_of_ble_eq_true rfl) (Nat.le_of_ble_eq_true rfl) dX3_about_60 ⟨by simp only [dAbt, if_neg c_19], rfl⟩
    · refine lv_tableIn (off := 36) (tgt := 61) hx hb dX3_about_25 (by decide) (by decide) rfl (by decide) ?_
      refine lv_aload_n hx hb dX3_about_61 rfl (lv_at hl 0 rfl) ?_
      refine va_get (D := D) (ci := 1) (v := .int ((F i) 6)) (C := RX0) (T := TX0) (N := 11) hx hb hts iX0 hown hK hP 0 rfl rfl 6 (by decide) (hts (.fieldLink RX3 153 "ToyRegatta$Boat" "time" "I") (by decide +kernel)) (fun _ h9 => h9) rfl dX3_about_62 ?_
      have hP : va_P D vwCl ([q_xc x wa fl tf tb, q_fc fl al u, q_ac al md ar n, q_wc wa len wi ja, q_ia T wi 10 wf, q_ia T ja k ju] ++ q_tl (T 1) n ar ad F) H := q_P_perm (q_tls [q_xc x wa fl tf tb, q_fc fl al u, q_ac al md ar n, q_wc wa len wi ja, q_ia T wi 10 wf, q_ia T ja k ju] hi (F := F) (q_up_id F i)) hP
      have hD : va_D A ([q_xc x wa fl tf tb, q_fc fl al u, q_ac al md ar n, q_wc wa len wi ja, q_ia T wi 10 wf, q_ia T ja k ju] ++ q_tl (T 1) n ar ad F) := q_D_perm (q_tls [q_xc x wa fl tf tb, q_fc fl al u, q_ac al md ar n, q_wc wa len wi ja, q_ia T wi 10 wf, q_ia T ja k ju] hi (F := F) (q_up_id F i)) hD
      exact q_iret hx hb hr hlocks hP hK hD hS (Nat.le_of_ble_eq_true rfl) (Nat.le_of_ble_eq_true rfl) dX3_about_65 ⟨by simp only [dAbt, if_neg c_19], rfl⟩
    · refine lv_tableIn (off := 41) (tgt := 66) hx hb dX3_about_25 (by decide) (by decide) rfl (by decide) ?_
      refine lv_aload_n hx hb dX3_about_66 rfl (lv_at hl 0 rfl) ?_
      refine va_get (D := D) (ci := 1) (v := .int ((F i) 7)) (C := RX0) (T := TX0) (N := 11) hx hb hts iX0 hown hK hP 0 rfl rfl 7 (by decide) (hts (.fieldLink RX3 156 "ToyRegatta$Boat" "fouls" "I") (by decide +kernel)) (fun _ h9 => h9) rfl dX3_about_67 ?_
      have hP : va_P D vwCl ([q_xc x wa fl tf tb, q_fc fl al u, q_ac al md ar n, q_wc wa len wi ja, q_ia T wi 10 wf, q_ia T ja k ju] ++ q_tl (T 1) n ar ad F) H := q_P_perm (q_tls [q_xc x wa fl tf tb, q_fc fl al u, q_ac al md ar n, q_wc wa len wi ja, q_ia T wi 10 wf, q_ia T ja k ju] hi (F := F) (q_up_id F i)) hP
      have hD : va_D A ([q_xc x wa fl tf tb, q_fc fl al u, q_ac al md ar n, q_wc wa len wi ja, q_ia T wi 10 wf, q_ia T ja k ju] ++ q_tl (T 1) n ar ad F) := q_D_perm (q_tls [q_xc x wa fl tf tb, q_fc fl al u, q_ac al md ar n, q_wc wa len wi ja, q_ia T wi 10 wf, q_ia T ja k ju] hi (F := F) (q_up_id F i)) hD
      exact q_iret hx hb hr hlocks hP hK hD hS (Nat.le_of_ble_eq_true rfl) (Nat.le_of_ble_eq_true rfl) dX3_about_70 ⟨by simp only [dAbt, if_neg c_19], rfl⟩
    · refine lv_tableIn (off := 46) (tgt := 71) hx hb dX3_about_25 (by decide) (by decide) rfl (by decide) ?_
      refine lv_aload_n hx hb dX3_about_71 rfl (lv_at hl 0 rfl) ?_
      refine va_get (D := D) (ci := 1) (v := .int ((F i) 8)) (C := RX0) (T := TX0) (N := 11) hx hb hts iX0 hown hK hP 0 rfl rfl 8 (by decide) (hts (.fieldLink RX3 159 "ToyRegatta$Boat" "lying" "I") (by decide +kernel)) (fun _ h9 => h9) rfl dX3_about_72 ?_
      have hP : va_P D vwCl ([q_xc x wa fl tf tb, q_fc fl al u, q_ac al md ar n, q_wc wa len wi ja, q_ia T wi 10 wf, q_ia T ja k ju] ++ q_tl (T 1) n ar ad F) H := q_P_perm (q_tls [q_xc x wa fl tf tb, q_fc fl al u, q_ac al md ar n, q_wc wa len wi ja, q_ia T wi 10 wf, q_ia T ja k ju] hi (F := F) (q_up_id F i)) hP
      have hD : va_D A ([q_xc x wa fl tf tb, q_fc fl al u, q_ac al md ar n, q_wc wa len wi ja, q_ia T wi 10 wf, q_ia T ja k ju] ++ q_tl (T 1) n ar ad F) := q_D_perm (q_tls [q_xc x wa fl tf tb, q_fc fl al u, q_ac al md ar n, q_wc wa len wi ja, q_ia T wi 10 wf, q_ia T ja k ju] hi (F := F) (q_up_id F i)) hD
      exact q_iret hx hb hr hlocks hP hK hD hS (Nat.le_of_ble_eq_true rfl) (Nat.le_of_ble_eq_true rfl) dX3_about_75 ⟨by simp only [dAbt, if_neg c_19], rfl⟩
    · refine lv_tableOut (tgt := 76) hx hb dX3_about_25 (Or.inr (by decide)) (by decide) ?_
      refine lv_aload_n hx hb dX3_about_76 rfl (lv_at hl 0 rfl) ?_
      refine va_get (D := D) (ci := 1) (v := .int ((F i) 9)) (C := RX0) (T := TX0) (N := 11) hx hb hts iX0 hown hK hP 0 rfl rfl 9 (by decide) (hts (.fieldLink RX3 162 "ToyRegatta$Boat" "state" "I") (by decide +kernel)) (fun _ h9 => h9) rfl dX3_about_77 ?_
      have hP : va_P D vwCl ([q_xc x wa fl tf tb, q_fc fl al u, q_ac al md ar n, q_wc wa len wi ja, q_ia T wi 10 wf, q_ia T ja k ju] ++ q_tl (T 1) n ar ad F) H := q_P_perm (q_tls [q_xc x wa fl tf tb, q_fc fl al u, q_ac al md ar n, q_wc wa len wi ja, q_ia T wi 10 wf, q_ia T ja k ju] hi (F := F) (q_up_id F i)) hP
      have hD : va_D A ([q_xc x wa fl tf tb, q_fc fl al u, q_ac al md ar n, q_wc wa len wi ja, q_ia T wi 10 wf, q_ia T ja k ju] ++ q_tl (T 1) n ar ad F) := q_D_perm (q_tls [q_xc x wa fl tf tb, q_fc fl al u, q_ac al md ar n, q_wc wa len wi ja, q_ia T wi 10 wf, q_ia T ja k ju] hi (F := F) (q_up_id F i)) hD
      exact q_iret hx hb hr hlocks hP hK hD hS (Nat.le_of_ble_eq_true rfl) (Nat.le_of_ble_eq_true rfl) dX3_about_80 ⟨by simp only [dAbt, if_neg c_19], rfl⟩
  · refine lv_iconst (v := (-1)) hx hb dX3_about_22 (by decide) ?_
    exact q_iret hx hb hr hlocks hP hK hD hS (Nat.le_of_ble_eq_true rfl) (Nat.le_of_ble_eq_true rfl) dX3_about_23 ⟨by simp only [dAbt, if_pos c_19], rfl⟩
abbrev rmX3_count : Room := { frames := 4, cells := 0, slots := 0, locals := 87 }
set_option maxHeartbeats 1000000 in
set_option maxRecDepth 100000 in
theorem c_X3_count_ok (l : Launch) (D : va_G) (T : Nat → ClassId) (x tf tb fl al ar n : Nat) (md : Int32) (u : Nat → Int32) (ad : Nat → Nat) (F : Nat → Nat → Int32) (hn : n ≤ 8) (wa wi ja k mk : Nat) (len : Int32) (ju wf : Nat → Int32) (hk : k ≤ 3) (hm : u 0 = nI mk) (hmk : mk < 2 ^ 31) (o : Nat) (ho : o < 9) : q_M l D (q_ty T) yX3_count wsX3_count rmX3_count [.ref x, .int (nI o)] ([q_xc x wa fl tf tb, q_fc fl al u, q_ac al md ar n, q_wc wa len wi ja, q_ia T wi 10 wf, q_ia T ja k ju] ++ q_tl (T 1) n ar ad F) q_no (q_is (some (.int ((qCnt (u 0) (wf (mk % 10)) (nI n) (nI k) (u 1) (if u 2 = 0 then 0 else 1) (if u 2 = 0 then 0 else q_sum (dSt F 1) n) (q_sum (dCol F 3) n) (q_sum (dCol F 4) n)) o))) ([q_xc x wa fl tf tb, q_fc fl al u, q_ac al md ar n, q_wc wa len wi ja, q_ia T wi 10 wf, q_ia T ja k ju] ++ q_tl (T 1) n ar ad F)) := by
  refine q_start (cc := cX3_count) (maxL := 2) (ret := (some .int)) (by decide) rfl (Nat.le_of_ble_eq_true rfl) ?_
  intro p e s m args below meth c A H locs hx hb hr hts hown hlocks hml hnm hP hK hD hS hA hG ls hl
  have hown : s.vm.findClass RX3 = some m.cls := hown
  have hC : CallFix p m c cX3_count 2 s args wsX3_count RX3 := ⟨hx, hb, hml, hown, hts⟩
  have iX3 : ∀ w ∈ wsX30, w ∈ wsX3_count := by decide +kernel
  have iX2 : ∀ w ∈ wsX20, w ∈ wsX3_count := by decide +kernel
  have iX1 : ∀ w ∈ wsX10, w ∈ wsX3_count := by decide +kernel
  have hl : lv_has ls 2 [(0, .ref x), (1, .int (nI o))] := hl
  refine lv_aload_n hx hb dX3_count_0 rfl (lv_at hl 0 rfl) ?_
  refine lv_iload_n hx hb dX3_count_1 rfl (lv_at hl 1 rfl) ?_
  refine lv_bipush (v := 9) hx hb dX3_count_2 (by decide) ?_
  refine q_callV (As := [.int (nI o), .int 9]) (rs := []) hC (c_X3_requireKind_ok l D T x wa fl tf tb (nI o) 9 (nI_pos (by omega)) (nI_lt (b := 9) ho (by omega))) q_no_st q_no_at (cwV 2 hts gX3_count_X3_requireKind rfl rfl rfl (by decide +kernel) ⟨Nat.le_of_ble_eq_true rfl, Nat.le_of_ble_eq_true rfl⟩) (va_recv hK hP (ci := 4) (q0 := 0) rfl rfl) hK hP hD hS hA (q_mask [true, false, false, false, false, false] _) rfl hl.1 rfl (Nat.le_of_ble_eq_true rfl) dX3_count_4 ⟨(Nat.le_of_ble_eq_true rfl), (Nat.le_of_ble_eq_true rfl)⟩ (fun v9 C9 H locs hp hP hD hS => ?_)
  obtain ⟨rfl, rfl⟩ := hp
  have hP : va_P D vwCl ([q_xc x wa fl tf tb, q_fc fl al u, q_ac al md ar n, q_wc wa len wi ja, q_ia T wi 10 wf, q_ia T ja k ju] ++ q_tl (T 1) n ar ad F) H := q_P_perm (q_mrg_perm [true, false, false, false, false, false] _ _) hP
  have hD : va_D A ([q_xc x wa fl tf tb, q_fc fl al u, q_ac al md ar n, q_wc wa len wi ja, q_ia T wi 10 wf, q_ia T ja k ju] ++ q_tl (T 1) n ar ad F) := q_D_perm (q_mrg_perm [true, false, false, false, false, false] _ _) hD
  refine lv_iload_n hx hb dX3_count_7 rfl (lv_at hl 1 rfl) ?_
  rcases (show o = 0 ∨ o = 1 ∨ o = 2 ∨ o = 3 ∨ o = 4 ∨ o = 5 ∨ o = 6 ∨ o = 7 ∨ o = 8 by omega) with rfl | rfl | rfl | rfl | rfl | rfl | rfl | rfl | rfl
  · refine lv_tableIn (off := 48) (tgt := 56) hx hb dX3_count_8 (by decide) (by decide) rfl (by decide) ?_
    refine lv_aload_n hx hb dX3_count_56 rfl (lv_at hl 0 rfl) ?_
    refine va_get (D := D) (ci := 4) (v := .ref fl) (C := RX3) (T := TX3) (N := 4) hx hb hts iX3 hown hK hP 0 rfl rfl 1 (by decide) (hts (.fieldLink RX3 19 "ToyRegatta" "fleet" "LToyRegatta$Fleet;") (by decide +kernel)) (fun _ h9 => h9) rfl dX3_count_57 ?_
    refine va_get (D := D) (ci := 2) (v := .int (u 0)) (C := RX1) (T := TX1) (N := 5) hx hb hts iX1 hown hK hP 1 rfl rfl 1 (by decide) (hts (.fieldLink RX3 165 "ToyRegatta$Fleet" "minute" "I") (by decide +kernel)) (fun _ h9 => h9) rfl dX3_count_60 ?_
    exact q_iret hx hb hr hlocks hP hK hD hS (Nat.le_of_ble_eq_true rfl) (Nat.le_of_ble_eq_true rfl) dX3_count_63 ⟨rfl, rfl⟩
  · refine lv_tableIn (off := 56) (tgt := 64) hx hb dX3_count_8 (by decide) (by decide) rfl (by decide) ?_
    refine lv_aload_n hx hb dX3_count_64 rfl (lv_at hl 0 rfl) ?_
    refine q_callV (As := []) (rs := []) hC (c_X3_windNow_ok l D T x wa fl tf tb al wi ja mk len u wf hm hmk) q_no_st q_no_at (cwV 0 hts gX3_count_X3_windNow rfl rfl rfl (by decide +kernel) ⟨Nat.le_of_ble_eq_true rfl, Nat.le_of_ble_eq_true rfl⟩) (va_recv hK hP (ci := 4) (q0 := 0) rfl rfl) hK hP hD hS hA (q_mask [true, true, false, true, true, false] _) rfl hl.1 rfl (Nat.le_of_ble_eq_true rfl) dX3_count_65 ⟨(Nat.le_of_ble_eq_true rfl), (Nat.le_of_ble_eq_true rfl)⟩ (fun v9 C9 H locs hp hP hD hS => ?_)
    obtain ⟨rfl, rfl⟩ := hp
    have hP : va_P D vwCl ([q_xc x wa fl tf tb, q_fc fl al u, q_ac al md ar n, q_wc wa len wi ja, q_ia T wi 10 wf, q_ia T ja k ju] ++ q_tl (T 1) n ar ad F) H := q_P_perm (q_mrg_perm [true, true, false, true, true, false] _ _) hP
    have hD : va_D A ([q_xc x wa fl tf tb, q_fc fl al u, q_ac al md ar n, q_wc wa len wi ja, q_ia T wi 10 wf, q_ia T ja k ju] ++ q_tl (T 1) n ar ad F) := q_D_perm (q_mrg_perm [true, true, false, true, true, false] _ _) hD
    exact q_iret hx hb hr hlocks hP hK hD hS (Nat.le_of_ble_eq_true rfl) (Nat.le_of_ble_eq_true rfl) dX3_count_68 ⟨rfl, rfl⟩
  · refine lv_tableIn (off := 61) (tgt := 69) hx hb dX3_count_8 (by decide) (by decide) rfl (by decide) ?_
    refine lv_aload_n hx hb dX3_count_69 rfl (lv_at hl 0 rfl) ?_
    refine va_get (D := D) (ci := 4) (v := .ref fl) (C := RX3) (T := TX3) (N := 4) hx hb hts iX3 hown hK hP 0 rfl rfl 1 (by decide) (hts (.fieldLink RX3 19 "ToyRegatta" "fleet" "LToyRegatta$Fleet;") (by decide +kernel)) (fun _ h9 => h9) rfl dX3_count_70 ?_
    refine va_get (D := D) (ci := 2) (v := .ref al) (C := RX1) (T := TX1) (N := 5) hx hb hts iX1 hown hK hP 1 rfl rfl 0 (by decide) (hts (.fieldLink RX3 66 "ToyRegatta$Fleet" "boats" "Ljava/util/ArrayList;") (by decide +kernel)) (fun _ h9 => h9) rfl dX3_count_73 ?_
    refine q_callV (As := []) (rs := []) hC (c_AL_size l D T al ar n md) q_no_st q_no_at (cwV 0 hts gX3_count_Jx4a65c_size_8abf5 rfl rfl rfl (by decide +kernel) ⟨Nat.le_of_ble_eq_true rfl, Nat.le_of_ble_eq_true rfl⟩) (va_recv hK hP (ci := 0) (q0 := 2) rfl rfl) hK hP hD hS hA (q_mask [false, false, true, false, false, false] _) rfl hl.1 rfl (Nat.le_of_ble_eq_true rfl) dX3_count_76 ⟨(Nat.le_of_ble_eq_true rfl), (Nat.le_of_ble_eq_true rfl)⟩ (fun v9 C9 H locs hp hP hD hS => ?_)
    obtain ⟨rfl, rfl⟩ := hp
    have hP : va_P D vwCl ([q_xc x wa fl tf tb, q_fc fl al u, q_ac al md ar n, q_wc wa len wi ja, q_ia T wi 10 wf, q_ia T ja k ju] ++ q_tl (T 1) n ar ad F) H := q_P_perm (q_mrg_perm [false, false, true, false, false, false] _ _) hP
    have hD : va_D A ([q_xc x wa fl tf tb, q_fc fl al u, q_ac al md ar n, q_wc wa len wi ja, q_ia T wi 10 wf, q_ia T ja k ju] ++ q_tl (T 1) n ar ad F) := q_D_perm (q_mrg_perm [false, false, true, false, false, false] _ _) hD
    exact q_iret hx hb hr hlocks hP hK hD hS (Nat.le_of_ble_eq_true rfl) (Nat.le_of_ble_eq_true rfl) dX3_count_79 ⟨rfl, rfl⟩
  · refine lv_tableIn (off := 72) (tgt := 80) hx hb dX3_count_8 (by decide) (by decide) rfl (by decide) ?_
    refine lv_aload_n hx hb dX3_count_80 rfl (lv_at hl 0 rfl) ?_
    refine va_get (D := D) (ci := 4) (v := .ref wa) (C := RX3) (T := TX3) (N := 4) hx hb hts iX3 hown hK hP 0 rfl rfl 0 (by decide) (hts (.fieldLink RX3 10 "ToyRegatta" "waters" "LToyRegatta$Waters;") (by decide +kernel)) (fun _ h9 => h9) rfl dX3_count_81 ?_
    refine va_get (D := D) (ci := 3) (v := .ref ja) (C := RX2) (T := TX2) (N := 3) hx hb hts iX2 hown hK hP 3 rfl rfl 2 (by decide) (hts (.fieldLink RX3 96 "ToyRegatta$Waters" "judges" "[I") (by decide +kernel)) (fun _ h9 => h9) rfl dX3_count_84 ?_
    refine va_alen (D := D) (v := nI k) hx hb hK hP 5 0 rfl rfl rfl dX3_count_87 ?_
    exact q_iret hx hb hr hlocks hP hK hD hS (Nat.le_of_ble_eq_true rfl) (Nat.le_of_ble_eq_true rfl) dX3_count_88 ⟨rfl, rfl⟩
  · refine lv_tableIn (off := 81) (tgt := 89) hx hb dX3_count_8 (by decide) (by decide) rfl (by decide) ?_
    refine lv_aload_n hx hb dX3_count_89 rfl (lv_at hl 0 rfl) ?_
    refine va_get (D := D) (ci := 4) (v := .ref fl) (C := RX3) (T := TX3) (N := 4) hx hb hts iX3 hown hK hP 0 rfl rfl 1 (by decide) (hts (.fieldLink RX3 19 "ToyRegatta" "fleet" "LToyRegatta$Fleet;") (by decide +kernel)) (fun _ h9 => h9) rfl dX3_count_90 ?_
    refine va_get (D := D) (ci := 2) (v := .int (u 1)) (C := RX1) (T := TX1) (N := 5) hx hb hts iX1 hown hK hP 1 rfl rfl 2 (by decide) (hts (.fieldLink RX3 147 "ToyRegatta$Fleet" "races" "I") (by decide +kernel)) (fun _ h9 => h9) rfl dX3_count_93 ?_
    exact q_iret hx hb hr hlocks hP hK hD hS (Nat.le_of_ble_eq_true rfl) (Nat.le_of_ble_eq_true rfl) dX3_count_96 ⟨rfl, rfl⟩
  · refine lv_tableIn (off := 89) (tgt := 97) hx hb dX3_count_8 (by decide) (by decide) rfl (by decide) ?_
    refine lv_aload_n hx hb dX3_count_97 rfl (lv_at hl 0 rfl) ?_
    refine va_get (D := D) (ci := 4) (v := .ref fl) (C := RX3) (T := TX3) (N := 4) hx hb hts iX3 hown hK hP 0 rfl rfl 1 (by decide) (hts (.fieldLink RX3 19 "ToyRegatta" "fleet" "LToyRegatta$Fleet;") (by decide +kernel)) (fun _ h9 => h9) rfl dX3_count_98 ?_
    refine va_get (D := D) (ci := 2) (v := .int (u 2)) (C := RX1) (T := TX1) (N := 5) hx hb hts iX1 hown hK hP 1 rfl rfl 3 (by decide) (hts (.fieldLink RX3 168 "ToyRegatta$Fleet" "racing" "Z") (by decide +kernel)) (fun _ h9 => h9) rfl dX3_count_101 ?_
    refine lv_if_eq (tgt := 111) hx hb dX3_count_104 (by decide) (fun c_104 => ?_) (fun c_104 => ?_)
    · refine lv_iconst (v := 0) hx hb dX3_count_111 (by decide) ?_
      exact q_iret hx hb hr hlocks hP hK hD hS (Nat.le_of_ble_eq_true rfl) (Nat.le_of_ble_eq_true rfl) dX3_count_112 ⟨by simp only [qCnt, if_pos c_104], rfl⟩
    · refine lv_iconst (v := 1) hx hb dX3_count_107 (by decide) ?_
      refine lv_goto (tgt := 112) hx hb dX3_count_108 (by decide) ?_
      exact q_iret hx hb hr hlocks hP hK hD hS (Nat.le_of_ble_eq_true rfl) (Nat.le_of_ble_eq_true rfl) dX3_count_112 ⟨by simp only [qCnt, if_neg c_104], rfl⟩
  · refine lv_tableIn (off := 105) (tgt := 113) hx hb dX3_count_8 (by decide) (by decide) rfl (by decide) ?_
    refine lv_aload_n hx hb dX3_count_113 rfl (lv_at hl 0 rfl) ?_
    refine va_get (D := D) (ci := 4) (v := .ref fl) (C := RX3) (T := TX3) (N := 4) hx hb hts iX3 hown hK hP 0 rfl rfl 1 (by decide) (hts (.fieldLink RX3 19 "ToyRegatta" "fleet" "LToyRegatta$Fleet;") (by decide +kernel)) (fun _ h9 => h9) rfl dX3_count_114 ?_
    refine va_get (D := D) (ci := 2) (v := .int (u 2)) (C := RX1) (T := TX1) (N := 5) hx hb hts iX1 hown hK hP 1 rfl rfl 3 (by decide) (hts (.fieldLink RX3 168 "ToyRegatta$Fleet" "racing" "Z") (by decide +kernel)) (fun _ h9 => h9) rfl dX3_count_117 ?_
    refine lv_if_eq (tgt := 134) hx hb dX3_count_120 (by decide) (fun c_120 => ?_) (fun c_120 => ?_)
    · refine lv_iconst (v := 0) hx hb dX3_count_134 (by decide) ?_
      exact q_iret hx hb hr hlocks hP hK hD hS (Nat.le_of_ble_eq_true rfl) (Nat.le_of_ble_eq_true rfl) dX3_count_135 ⟨by simp only [qCnt, if_pos c_120], rfl⟩
    · refine lv_aload_n hx hb dX3_count_123 rfl (lv_at hl 0 rfl) ?_
      refine va_get (D := D) (ci := 4) (v := .ref fl) (C := RX3) (T := TX3) (N := 4) hx hb hts iX3 hown hK hP 0 rfl rfl 1 (by decide) (hts (.fieldLink RX3 19 "ToyRegatta" "fleet" "LToyRegatta$Fleet;") (by decide +kernel)) (fun _ h9 => h9) rfl dX3_count_124 ?_
      refine lv_iconst (v := 1) hx hb dX3_count_127 (by decide) ?_
      refine q_callV (As := [.int 1]) (rs := []) hC (c_X1_inState l D T fl al ar n md u ad F hn 1) q_no_st q_no_at (cwV 1 hts gX3_count_X1_inState rfl rfl rfl (by decide +kernel) ⟨Nat.le_of_ble_eq_true rfl, Nat.le_of_ble_eq_true rfl⟩) (va_recv hK hP (ci := 2) (q0 := 1) rfl rfl) hK hP hD hS hA (q_tmask [false, true, true, false, false, false] [q_xc x wa fl tf tb, q_fc fl al u, q_ac al md ar n, q_wc wa len wi ja, q_ia T wi 10 wf, q_ia T ja k ju] (q_tl (T 1) n ar ad F)) rfl hl.1 rfl (Nat.le_of_ble_eq_true rfl) dX3_count_128 ⟨(Nat.le_of_ble_eq_true rfl), (Nat.le_of_ble_eq_true rfl)⟩ (fun v9 C9 H locs hp hP hD hS => ?_)
      obtain ⟨rfl, rfl⟩ := hp
      have hP : va_P D vwCl ([q_xc x wa fl tf tb, q_fc fl al u, q_ac al md ar n, q_wc wa len wi ja, q_ia T wi 10 wf, q_ia T ja k ju] ++ q_tl (T 1) n ar ad F) H := q_P_perm (q_tback [false, true, true, false, false, false] [q_fc fl al u, q_ac al md ar n] [q_xc x wa fl tf tb, q_wc wa len wi ja, q_ia T wi 10 wf, q_ia T ja k ju] (q_tl (T 1) n ar ad F)) hP
      have hD : va_D A ([q_xc x wa fl tf tb, q_fc fl al u, q_ac al md ar n, q_wc wa len wi ja, q_ia T wi 10 wf, q_ia T ja k ju] ++ q_tl (T 1) n ar ad F) := q_D_perm (q_tback [false, true, true, false, false, false] [q_fc fl al u, q_ac al md ar n] [q_xc x wa fl tf tb, q_wc wa len wi ja, q_ia T wi 10 wf, q_ia T ja k ju] (q_tl (T 1) n ar ad F)) hD
      refine lv_goto (tgt := 135) hx hb dX3_count_131 (by decide) ?_
      exact q_iret hx hb hr hlocks hP hK hD hS (Nat.le_of_ble_eq_true rfl) (Nat.le_of_ble_eq_true rfl) dX3_count_135 ⟨by simp only [qCnt, if_neg c_120], rfl⟩
  · refine lv_tableIn (off := 128) (tgt := 136) hx hb dX3_count_8 (by decide) (by decide) rfl (by decide) ?_
    refine lv_aload_n hx hb dX3_count_136 rfl (lv_at hl 0 rfl) ?_
    refine va_get (D := D) (ci := 4) (v := .ref fl) (C := RX3) (T := TX3) (N := 4) hx hb hts iX3 hown hK hP 0 rfl rfl 1 (by decide) (hts (.fieldLink RX3 19 "ToyRegatta" "fleet" "LToyRegatta$Fleet;") (by decide +kernel)) (fun _ h9 => h9) rfl dX3_count_137 ?_
    refine q_callV (As := []) (rs := []) hC (c_X1_allPoints l D T fl al ar n md u ad F hn ) q_no_st q_no_at (cwV 0 hts gX3_count_X1_allPoints rfl rfl rfl (by decide +kernel) ⟨Nat.le_of_ble_eq_true rfl, Nat.le_of_ble_eq_true rfl⟩) (va_recv hK hP (ci := 2) (q0 := 1) rfl rfl) hK hP hD hS hA (q_tmask [false, true, true, false, false, false] [q_xc x wa fl tf tb, q_fc fl al u, q_ac al md ar n, q_wc wa len wi ja, q_ia T wi 10 wf, q_ia T ja k ju] (q_tl (T 1) n ar ad F)) rfl hl.1 rfl (Nat.le_of_ble_eq_true rfl) dX3_count_140 ⟨(Nat.le_of_ble_eq_true rfl), (Nat.le_of_ble_eq_true rfl)⟩ (fun v9 C9 H locs hp hP hD hS => ?_)
    obtain ⟨rfl, rfl⟩ := hp
    have hP : va_P D vwCl ([q_xc x wa fl tf tb, q_fc fl al u, q_ac al md ar n, q_wc wa len wi ja, q_ia T wi 10 wf, q_ia T ja k ju] ++ q_tl (T 1) n ar ad F) H := q_P_perm (q_tback [false, true, true, false, false, false] [q_fc fl al u, q_ac al md ar n] [q_xc x wa fl tf tb, q_wc wa len wi ja, q_ia T wi 10 wf, q_ia T ja k ju] (q_tl (T 1) n ar ad F)) hP
    have hD : va_D A ([q_xc x wa fl tf tb, q_fc fl al u, q_ac al md ar n, q_wc wa len wi ja, q_ia T wi 10 wf, q_ia T ja k ju] ++ q_tl (T 1) n ar ad F) := q_D_perm (q_tback [false, true, true, false, false, false] [q_fc fl al u, q_ac al md ar n] [q_xc x wa fl tf tb, q_wc wa len wi ja, q_ia T wi 10 wf, q_ia T ja k ju] (q_tl (T 1) n ar ad F)) hD
    exact q_iret hx hb hr hlocks hP hK hD hS (Nat.le_of_ble_eq_true rfl) (Nat.le_of_ble_eq_true rfl) dX3_count_143 ⟨rfl, rfl⟩
  · refine lv_tableOut (tgt := 144) hx hb dX3_count_8 (Or.inr (by decide)) (by decide) ?_
    refine lv_aload_n hx hb dX3_count_144 rfl (lv_at hl 0 rfl) ?_
    refine va_get (D := D) (ci := 4) (v := .ref fl) (C := RX3) (T := TX3) (N := 4) hx hb hts iX3 hown hK hP 0 rfl rfl 1 (by decide) (hts (.fieldLink RX3 19 "ToyRegatta" "fleet" "LToyRegatta$Fleet;") (by decide +kernel)) (fun _ h9 => h9) rfl dX3_count_145 ?_
    refine q_callV (As := []) (rs := []) hC (c_X1_allSoaked l D T fl al ar n md u ad F hn ) q_no_st q_no_at (cwV 0 hts gX3_count_X1_allSoaked rfl rfl rfl (by decide +kernel) ⟨Nat.le_of_ble_eq_true rfl, Nat.le_of_ble_eq_true rfl⟩) (va_recv hK hP (ci := 2) (q0 := 1) rfl rfl) hK hP hD hS hA (q_tmask [false, true, true, false, false, false] [q_xc x wa fl tf tb, q_fc fl al u, q_ac al md ar n, q_wc wa len wi ja, q_ia T wi 10 wf, q_ia T ja k ju] (q_tl (T 1) n ar ad F)) rfl hl.1 rfl (Nat.le_of_ble_eq_true rfl) dX3_count_148 ⟨(Nat.le_of_ble_eq_true rfl), (Nat.le_of_ble_eq_true rfl)⟩ (fun v9 C9 H locs hp hP hD hS => ?_)
    obtain ⟨rfl, rfl⟩ := hp
    have hP : va_P D vwCl ([q_xc x wa fl tf tb, q_fc fl al u, q_ac al md ar n, q_wc wa len wi ja, q_ia T wi 10 wf, q_ia T ja k ju] ++ q_tl (T 1) n ar ad F) H := q_P_perm (q_tback [false, true, true, false, false, false] [q_fc fl al u, q_ac al md ar n] [q_xc x wa fl tf tb, q_wc wa len wi ja, q_ia T wi 10 wf, q_ia T ja k ju] (q_tl (T 1) n ar ad F)) hP
    have hD : va_D A ([q_xc x wa fl tf tb, q_fc fl al u, q_ac al md ar n, q_wc wa len wi ja, q_ia T wi 10 wf, q_ia T ja k ju] ++ q_tl (T 1) n ar ad F) := q_D_perm (q_tback [false, true, true, false, false, false] [q_fc fl al u, q_ac al md ar n] [q_xc x wa fl tf tb, q_wc wa len wi ja, q_ia T wi 10 wf, q_ia T ja k ju] (q_tl (T 1) n ar ad F)) hD
    exact q_iret hx hb hr hlocks hP hK hD hS (Nat.le_of_ble_eq_true rfl) (Nat.le_of_ble_eq_true rfl) dX3_count_151 ⟨rfl, rfl⟩
abbrev rmX3_pass : Room := { frames := 6, cells := 0, slots := 0, locals := 134 }
set_option maxHeartbeats 1000000 in
set_option maxRecDepth 100000 in
theorem c_X3_pass_ok (l : Launch) (D : va_G) (T : Nat → ClassId) (x tf tb fl al ar n : Nat) (md : Int32) (u : Nat → Int32) (ad : Nat → Nat) (F : Nat → Nat → Int32) (hn : n ≤ 8) (wa wi ja k mk : Nat) (len : Int32) (ju wf : Nat → Int32) (hk : k ≤ 3) (hm : u 0 = nI mk) (hmk : mk < 2 ^ 31) (hmk2 : mk < 2 ^ 30) (q : Nat) (hz : mHz F n) (h1 : 1 ≤ q) (h2 : q ≤ 90) : q_M l D (q_ty T) yX3_pass wsX3_pass rmX3_pass [.ref x, .int (nI q)] ([q_xc x wa fl tf tb, q_fc fl al u, q_ac al md ar n, q_wc wa len wi ja, q_ia T wi 10 wf, q_ia T ja k ju] ++ q_tl (T 1) n ar ad F) q_no (q_is (some (.int (q_sum (mAr wf ju k len n (F, u)) q))) ([q_xc x wa fl tf tb, q_fc fl al ((mIt wf ju k len n (F, u) q).2), q_ac al md ar n, q_wc wa len wi ja, q_ia T wi 10 wf, q_ia T ja k ju] ++ q_tl (T 1) n ar ad ((mIt wf ju k len n (F, u) q).1))) := by
  refine q_start (cc := cX3_pass) (maxL := 4) (ret := (some .int)) (by decide) rfl (Nat.le_of_ble_eq_true rfl) ?_
  intro p e s m args below meth c A H locs hx hb hr hts hown hlocks hml hnm hP hK hD hS hA hG ls hl
  have hown : s.vm.findClass RX3 = some m.cls := hown
  have hC : CallFix p m c cX3_pass 4 s args wsX3_pass RX3 := ⟨hx, hb, hml, hown, hts⟩
  have iX3 : ∀ w ∈ wsX30, w ∈ wsX3_pass := by decide +kernel
  have hl : lv_has ls 4 [(0, .ref x), (1, .int (nI q))] := hl
  refine lv_iload_n hx hb dX3_pass_0 rfl (lv_at hl 1 rfl) ?_
  refine lv_iconst (v := 1) hx hb dX3_pass_1 (by decide) ?_
  refine lv_icmp_lt (tgt := 11) hx hb dX3_pass_2 (by decide) (fun c_2 => absurd c_2 (nI_nlt (b := 1) h1 (by omega))) (fun c_2 => ?_)
  refine lv_iload_n hx hb dX3_pass_5 rfl (lv_at hl 1 rfl) ?_
  refine lv_bipush (v := 90) hx hb dX3_pass_6 (by decide) ?_
  refine lv_icmp_le (tgt := 21) hx hb dX3_pass_8 (by decide) (fun c_8 => ?_) (fun c_8 => absurd (nI_le (b := 90) h2 (by omega)) c_8)
  refine lv_iconst (v := 0) hx hb dX3_pass_21 (by decide) ?_
  refine lv_istore_n (lv' := [(2, .int 0), (0, .ref x), (1, .int (nI q))]) hx hb dX3_pass_22 rfl hl (by decide) rfl (fun ls hl => ?_)
  refine lv_iconst (v := 0) hx hb dX3_pass_23 (by decide) ?_
  refine lv_istore_n (lv' := [(3, .int 0), (2, .int 0), (0, .ref x), (1, .int (nI q))]) hx hb dX3_pass_24 rfl hl (by decide) rfl (fun ls hl => ?_)
  have L25 : ∀ (f9 j : Nat) (h9a : q < j + f9) (h9b : j ≤ q) (H : Heap) (locs : List Loc) (ls : Array Slot), va_P D vwCl ([q_xc x wa fl tf tb, q_fc fl al ((mIt wf ju k len n (F, u) j).2), q_ac al md ar n, q_wc wa len wi ja, q_ia T wi 10 wf, q_ia T ja k ju] ++ q_tl (T 1) n ar ad ((mIt wf ju k len n (F, u) j).1)) H → va_D A ([q_xc x wa fl tf tb, q_fc fl al ((mIt wf ju k len n (F, u) j).2), q_ac al md ar n, q_wc wa len wi ja, q_ia T wi 10 wf, q_ia T ja k ju] ++ q_tl (T 1) n ar ad ((mIt wf ju k len n (F, u) j).1)) → va_S A s.heap H locs → lv_has ls 4 [(0, .ref x), (1, .int (nI q)), (2, .int (q_sum (mAr wf ju k len n (F, u)) j)), (3, .int (nI j))] → W p l e rmX3_pass s m args below meth c H locs 0 0 (q_E below D (q_ty T) (q_is (some (.int (q_sum (mAr wf ju k len n (F, u)) q))) ([q_xc x wa fl tf tb, q_fc fl al ((mIt wf ju k len n (F, u) q).2), q_ac al md ar n, q_wc wa len wi ja, q_ia T wi 10 wf, q_ia T ja k ju] ++ q_tl (T 1) n ar ad ((mIt wf ju k len n (F, u) q).1))) A args s rmX3_pass) (F0 m 25 ls []) := by
    intro f9
    induction f9 with
    | zero => intro j h9a h9b; exact absurd h9a (by omega)
    | succ f9 ih25 =>
      intro j h9a h9b   H locs ls hP hD hS hl
      refine lv_iload_n hx hb dX3_pass_25 rfl (lv_at hl 3 rfl) ?_
      refine lv_iload_n hx hb dX3_pass_26 rfl (lv_at hl 1 rfl) ?_
      refine lv_icmp_ge (tgt := 50) hx hb dX3_pass_27 (by decide) (fun c_27 => ?_) (fun c_27 => ?_)
      · have h9d := (q_exit c_27 h9b (by omega)).symm
        subst h9d
        refine lv_iload_n hx hb dX3_pass_50 rfl (lv_at hl 2 rfl) ?_
        exact q_iret hx hb hr hlocks hP hK hD hS (Nat.le_of_ble_eq_true rfl) (Nat.le_of_ble_eq_true rfl) dX3_pass_51 ⟨rfl, rfl⟩
      · have h9d := q_goon c_27 (by omega)
        refine lv_iload_n hx hb dX3_pass_30 rfl (lv_at hl 2 rfl) ?_
        refine lv_aload_n hx hb dX3_pass_31 rfl (lv_at hl 0 rfl) ?_
        refine va_get (D := D) (ci := 4) (v := .ref fl) (C := RX3) (T := TX3) (N := 4) hx hb hts iX3 hown hK hP 0 rfl rfl 1 (by decide) (hts (.fieldLink RX3 19 "ToyRegatta" "fleet" "LToyRegatta$Fleet;") (by decide +kernel)) (fun _ h9 => h9) rfl dX3_pass_32 ?_
        refine lv_aload_n hx hb dX3_pass_35 rfl (lv_at hl 0 rfl) ?_
        refine va_get (D := D) (ci := 4) (v := .ref wa) (C := RX3) (T := TX3) (N := 4) hx hb hts iX3 hown hK hP 0 rfl rfl 0 (by decide) (hts (.fieldLink RX3 10 "ToyRegatta" "waters" "LToyRegatta$Waters;") (by decide +kernel)) (fun _ h9 => h9) rfl dX3_pass_36 ?_
        refine q_callV (As := [.ref wa]) (rs := [.int (q_sum (mAr wf ju k len n (F, u)) j)]) hC (c_X1_passMinute l D T fl al ar n md (mIt wf ju k len n (F, u) j).2 ad (mIt wf ju k len n (F, u) j).1 hn wa wi ja k (mk + j) len ju wf hk (mIt_0 wf ju k len n (F, u) hm j) (by omega) (hz.keep (mIt_keep wf ju k len n (F, u) j))) q_no_st q_no_at (cwV 1 hts gX3_pass_X1_passMinute rfl rfl rfl (by decide +kernel) ⟨Nat.le_of_ble_eq_true rfl, Nat.le_of_ble_eq_true rfl⟩) (va_recv hK hP (ci := 2) (q0 := 1) rfl rfl) hK hP hD hS hA (q_tmask [false, true, true, true, true, true] [q_xc x wa fl tf tb, q_fc fl al ((mIt wf ju k len n (F, u) j).2), q_ac al md ar n, q_wc wa len wi ja, q_ia T wi 10 wf, q_ia T ja k ju] (q_tl (T 1) n ar ad ((mIt wf ju k len n (F, u) j).1))) rfl hl.1 rfl (Nat.le_of_ble_eq_true rfl) dX3_pass_39 ⟨(Nat.le_of_ble_eq_true rfl), (Nat.le_of_ble_eq_true rfl)⟩ (fun v9 C9 H locs hp hP hD hS => ?_)
        obtain ⟨rfl, rfl⟩ := hp
        have hP : va_P D vwCl ([q_xc x wa fl tf tb, q_fc fl al (mU (mIt wf ju k len n (F, u) j).1 (mIt wf ju k len n (F, u) j).2 (wf ((mk + j) % 10)) ju k len n), q_ac al md ar n, q_wc wa len wi ja, q_ia T wi 10 wf, q_ia T ja k ju] ++ q_tl (T 1) n ar ad (mF (mIt wf ju k len n (F, u) j).1 (mIt wf ju k len n (F, u) j).2 (wf ((mk + j) % 10)) ju k len n)) H := q_P_perm (q_tback [false, true, true, true, true, true] [q_fc fl al (mU (mIt wf ju k len n (F, u) j).1 (mIt wf ju k len n (F, u) j).2 (wf ((mk + j) % 10)) ju k len n), q_ac al md ar n, q_wc wa len wi ja, q_ia T wi 10 wf, q_ia T ja k ju] [q_xc x wa fl tf tb] (q_tl (T 1) n ar ad (mF (mIt wf ju k len n (F, u) j).1 (mIt wf ju k len n (F, u) j).2 (wf ((mk + j) % 10)) ju k len n))) hP
        have hD : va_D A ([q_xc x wa fl tf tb, q_fc fl al (mU (mIt wf ju k len n (F, u) j).1 (mIt wf ju k len n (F, u) j).2 (wf ((mk + j) % 10)) ju k len n), q_ac al md ar n, q_wc wa len wi ja, q_ia T wi 10 wf, q_ia T ja k ju] ++ q_tl (T 1) n ar ad (mF (mIt wf ju k len n (F, u) j).1 (mIt wf ju k len n (F, u) j).2 (wf ((mk + j) % 10)) ju k len n)) := q_D_perm (q_tback [false, true, true, true, true, true] [q_fc fl al (mU (mIt wf ju k len n (F, u) j).1 (mIt wf ju k len n (F, u) j).2 (wf ((mk + j) % 10)) ju k len n), q_ac al md ar n, q_wc wa len wi ja, q_ia T wi 10 wf, q_ia T ja k ju] [q_xc x wa fl tf tb] (q_tl (T 1) n ar ad (mF (mIt wf ju k len n (F, u) j).1 (mIt wf ju k len n (F, u) j).2 (wf ((mk + j) % 10)) ju k len n))) hD
        refine lv_iadd hx hb dX3_pass_42 ?_
        refine lv_istore_n (lv' := [(2, .int ((q_sum (mAr wf ju k len n (F, u)) j) + (mR1 (mIt wf ju k len n (F, u) j).1 (mIt wf ju k len n (F, u) j).2 (wf ((mk + j) % 10)) ju k len n))), (0, .ref x), (1, .int (nI q)), (3, .int (nI j))]) hx hb dX3_pass_43 rfl hl (by decide) rfl (fun ls hl => ?_)
        refine lv_iinc (v := (nI (j + 1))) (lv' := [(3, .int (nI (j + 1))), (2, .int ((q_sum (mAr wf ju k len n (F, u)) j) + (mR1 (mIt wf ju k len n (F, u) j).1 (mIt wf ju k len n (F, u) j).2 (wf ((mk + j) % 10)) ju k len n))), (0, .ref x), (1, .int (nI q))]) hx hb dX3_pass_44 hl (k := 3) rfl (nI_1 j) (by decide) rfl (fun ls hl => ?_)
        refine lv_goto (tgt := 25) hx hb dX3_pass_47 (by decide) ?_
        have h9e : mIt wf ju k len n (F, u) (j + 1) = (mF (mIt wf ju k len n (F, u) j).1 (mIt wf ju k len n (F, u) j).2 (wf ((mk + j) % 10)) ju k len n, mU (mIt wf ju k len n (F, u) j).1 (mIt wf ju k len n (F, u) j).2 (wf ((mk + j) % 10)) ju k len n) := by rw [mIt, mS, wAt_eq (mIt_0 wf ju k len n (F, u) hm j) (by omega)]
        have hP : va_P D vwCl ([q_xc x wa fl tf tb, q_fc fl al ((mIt wf ju k len n (F, u) (j + 1)).2), q_ac al md ar n, q_wc wa len wi ja, q_ia T wi 10 wf, q_ia T ja k ju] ++ q_tl (T 1) n ar ad ((mIt wf ju k len n (F, u) (j + 1)).1)) H := by rw [h9e]; exact hP
        have hD : va_D A ([q_xc x wa fl tf tb, q_fc fl al ((mIt wf ju k len n (F, u) (j + 1)).2), q_ac al md ar n, q_wc wa len wi ja, q_ia T wi 10 wf, q_ia T ja k ju] ++ q_tl (T 1) n ar ad ((mIt wf ju k len n (F, u) (j + 1)).1)) := by rw [h9e]; exact hD
        have h9f : (q_sum (mAr wf ju k len n (F, u)) (j + 1)) = ((q_sum (mAr wf ju k len n (F, u)) j) + (mR1 (mIt wf ju k len n (F, u) j).1 (mIt wf ju k len n (F, u) j).2 (wf ((mk + j) % 10)) ju k len n)) := by rw [q_sum, mAr, wAt_eq (mIt_0 wf ju k len n (F, u) hm j) (by omega)]
        rw [← h9f] at hl
        exact ih25 (j + 1) (by omega) (by omega)   _ _ ls hP hD hS (lv_sub hl [2, 3, 1, 0] rfl)
  exact L25 (q + 1) 0 (by omega) (by omega)   _ _ ls hP hD hS (lv_sub hl [2, 3, 1, 0] rfl)
abbrev rmX3_judge : Room := { frames := 3, cells := 1, slots := 4, locals := 84 }
set_option maxHeartbeats 1000000 in
set_option maxRecDepth 100000 in
theorem c_X3_judge_ok (l : Launch) (D : va_G) (T : Nat → ClassId) (x tf tb fl al ar n : Nat) (md : Int32) (u : Nat → Int32) (ad : Nat → Nat) (F : Nat → Nat → Int32) (hn : n ≤ 8) (wa wi ja k mk : Nat) (len : Int32) (ju wf : Nat → Int32) (hk : k ≤ 3) (hm : u 0 = nI mk) (hmk : mk < 2 ^ 31) (v : Int32) (hk3 : k < 3) (h1 : ¬ v < 0) (h2 : v ≤ 199) : q_M l D (q_ty T) yX3_judge wsX3_judge rmX3_judge [.ref x, .int v] ([q_xc x wa fl tf tb, q_fc fl al u, q_ac al md ar n, q_wc wa len wi ja, q_ia T wi 10 wf, q_ia T ja k ju] ++ q_tl (T 1) n ar ad F) q_no (fun v9 w9 => ∃ q, v9 = some (.int (nI (k + 1))) ∧ w9 = ([q_wc wa len wi q, q_ia T ja k ju, q_ia T q (k + 1) (q_jAdd ju k v), q_xc x wa fl tf tb, q_fc fl al u, q_ac al md ar n, q_ia T wi 10 wf] ++ q_tl (T 1) n ar ad F)) := by
  refine q_start (cc := cX3_judge) (maxL := 2) (ret := (some .int)) (by decide) rfl (Nat.le_of_ble_eq_true rfl) ?_
  intro p e s m args below meth c A H locs hx hb hr hts hown hlocks hml hnm hP hK hD hS hA hG ls hl
  have hown : s.vm.findClass RX3 = some m.cls := hown
  have hC : CallFix p m c cX3_judge 2 s args wsX3_judge RX3 := ⟨hx, hb, hml, hown, hts⟩
  have iX3 : ∀ w ∈ wsX30, w ∈ wsX3_judge := by decide +kernel
  have iX2 : ∀ w ∈ wsX20, w ∈ wsX3_judge := by decide +kernel
  have hl : lv_has ls 2 [(0, .ref x), (1, .int v)] := hl
  refine lv_iload_n hx hb dX3_judge_0 rfl (lv_at hl 1 rfl) ?_
  refine lv_if_lt (tgt := 11) hx hb dX3_judge_1 (by decide) (fun c_1 => absurd c_1 h1) (fun c_1 => ?_)
  refine lv_iload_n hx hb dX3_judge_4 rfl (lv_at hl 1 rfl) ?_
  refine lv_sipush (v := 199) hx hb dX3_judge_5 (by decide) ?_
  refine lv_icmp_le (tgt := 21) hx hb dX3_judge_8 (by decide) (fun c_8 => ?_) (fun c_8 => absurd h2 c_8)
  refine lv_aload_n hx hb dX3_judge_21 rfl (lv_at hl 0 rfl) ?_
  refine va_get (D := D) (ci := 4) (v := .ref wa) (C := RX3) (T := TX3) (N := 4) hx hb hts iX3 hown hK hP 0 rfl rfl 0 (by decide) (hts (.fieldLink RX3 10 "ToyRegatta" "waters" "LToyRegatta$Waters;") (by decide +kernel)) (fun _ h9 => h9) rfl dX3_judge_22 ?_
  refine va_get (D := D) (ci := 3) (v := .ref ja) (C := RX2) (T := TX2) (N := 3) hx hb hts iX2 hown hK hP 3 rfl rfl 2 (by decide) (hts (.fieldLink RX3 96 "ToyRegatta$Waters" "judges" "[I") (by decide +kernel)) (fun _ h9 => h9) rfl dX3_judge_25 ?_
  refine va_alen (D := D) (v := nI k) hx hb hK hP 5 0 rfl rfl rfl dX3_judge_28 ?_
  refine lv_iconst (v := 3) hx hb dX3_judge_29 (by decide) ?_
  refine lv_icmp_lt (tgt := 43) hx hb dX3_judge_30 (by decide) (fun c_30 => ?_) (fun c_30 => absurd (nI_lt (b := 3) hk3 (by omega)) c_30)
  refine lv_aload_n hx hb dX3_judge_43 rfl (lv_at hl 0 rfl) ?_
  refine va_get (D := D) (ci := 4) (v := .ref wa) (C := RX3) (T := TX3) (N := 4) hx hb hts iX3 hown hK hP 0 rfl rfl 0 (by decide) (hts (.fieldLink RX3 10 "ToyRegatta" "waters" "LToyRegatta$Waters;") (by decide +kernel)) (fun _ h9 => h9) rfl dX3_judge_44 ?_
  refine lv_iload_n hx hb dX3_judge_47 rfl (lv_at hl 1 rfl) ?_
  refine q_callV (As := [.int v]) (rs := []) hC (c_X2_addJudge l D T wa wi ja k len v ju hk3) q_no_st q_no_at (cwV 1 hts gX3_judge_X2_addJudge rfl rfl rfl (by decide +kernel) ⟨Nat.le_of_ble_eq_true rfl, Nat.le_of_ble_eq_true rfl⟩) (va_recv hK hP (ci := 3) (q0 := 3) rfl rfl) hK hP hD hS hA (q_mask [false, false, false, true, false, true] _) rfl hl.1 rfl (Nat.le_of_ble_eq_true rfl) dX3_judge_48 ⟨(Nat.le_of_ble_eq_true rfl), (Nat.le_of_ble_eq_true rfl)⟩ (fun v9 C9 H locs hp hP hD hS => ?_)
  obtain ⟨q, rfl, rfl⟩ := hp
  have hP : va_P D vwCl ([q_wc wa len wi q, q_ia T ja k ju, q_ia T q (k + 1) (q_jAdd ju k v), q_xc x wa fl tf tb, q_fc fl al u, q_ac al md ar n, q_ia T wi 10 wf] ++ q_tl (T 1) n ar ad F) H := q_P_perm (List.Perm.refl _) hP
  have hD : va_D A ([q_wc wa len wi q, q_ia T ja k ju, q_ia T q (k + 1) (q_jAdd ju k v), q_xc x wa fl tf tb, q_fc fl al u, q_ac al md ar n, q_ia T wi 10 wf] ++ q_tl (T 1) n ar ad F) := q_D_perm (List.Perm.refl _) hD
  refine lv_aload_n hx hb dX3_judge_51 rfl (lv_at hl 0 rfl) ?_
  refine va_get (D := D) (ci := 4) (v := .ref wa) (C := RX3) (T := TX3) (N := 4) hx hb hts iX3 hown hK hP 3 rfl rfl 0 (by decide) (hts (.fieldLink RX3 10 "ToyRegatta" "waters" "LToyRegatta$Waters;") (by decide +kernel)) (fun _ h9 => h9) rfl dX3_judge_52 ?_
  refine va_get (D := D) (ci := 3) (v := .ref q) (C := RX2) (T := TX2) (N := 3) hx hb hts iX2 hown hK hP 0 rfl rfl 2 (by decide) (hts (.fieldLink RX3 96 "ToyRegatta$Waters" "judges" "[I") (by decide +kernel)) (fun _ h9 => h9) rfl dX3_judge_55 ?_
  refine va_alen (D := D) (v := nI (k + 1)) hx hb hK hP 2 0 rfl rfl rfl dX3_judge_58 ?_
  exact q_iret hx hb hr hlocks hP hK hD hS (Nat.le_of_ble_eq_true rfl) (Nat.le_of_ble_eq_true rfl) dX3_judge_59 ⟨q, rfl, rfl⟩