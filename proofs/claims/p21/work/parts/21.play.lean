abbrev rmX3_requireNoRace : Room := { frames := 0, cells := 0, slots := 0, locals := 0 }
set_option maxHeartbeats 1000000 in
set_option maxRecDepth 100000 in
theorem c_X3_requireNoRace_ok (l : Launch) (D : va_G) (T : Nat → ClassId) (x wa fl tf tb al : Nat) (u : Nat → Int32) (h : u 2 = 0) : q_M l D (q_ty T) yX3_requireNoRace wsX3_requireNoRace rmX3_requireNoRace [.ref x] [q_xc x wa fl tf tb, q_fc fl al u] q_no (q_is none [q_xc x wa fl tf tb, q_fc fl al u]) := by
  refine q_start (cc := cX3_requireNoRace) (maxL := 1) (ret := none) (by decide) rfl (Nat.le_of_ble_eq_true rfl) ?_
  intro p e s m args below meth c A H locs hx hb hr hts hown hlocks hml hnm hP hK hD hS hA hG ls hl
  have hown : s.vm.findClass RX3 = some m.cls := hown
  have hC : CallFix p m c cX3_requireNoRace 1 s args wsX3_requireNoRace RX3 := ⟨hx, hb, hml, hown, hts⟩
  have iX3 : ∀ w ∈ wsX30, w ∈ wsX3_requireNoRace := by decide +kernel
  have iX1 : ∀ w ∈ wsX10, w ∈ wsX3_requireNoRace := by decide +kernel
  have hl : lv_has ls 1 [(0, .ref x)] := hl
  refine lv_aload_n hx hb dX3_requireNoRace_0 rfl (lv_at hl 0 rfl) ?_
  refine va_get (D := D) (ci := 4) (v := .ref fl) (C := RX3) (T := TX3) (N := 4) hx hb hts iX3 hown hK hP 0 rfl rfl 1 (by decide) (hts (.fieldLink RX3 19 "ToyRegatta" "fleet" "LToyRegatta$Fleet;") (by decide +kernel)) (fun _ h9 => h9) rfl dX3_requireNoRace_1 ?_
  refine va_get (D := D) (ci := 2) (v := .int (u 2)) (C := RX1) (T := TX1) (N := 5) hx hb hts iX1 hown hK hP 1 rfl rfl 3 (by decide) (hts (.fieldLink RX3 168 "ToyRegatta$Fleet" "racing" "Z") (by decide +kernel)) (fun _ h9 => h9) rfl dX3_requireNoRace_4 ?_
  refine lv_if_eq (tgt := 20) hx hb dX3_requireNoRace_7 (by decide) (fun c_7 => ?_) (fun c_7 => absurd h c_7)
  exact q_vret hx hb hr hlocks hP hK hD hS (Nat.le_of_ble_eq_true rfl) (Nat.le_of_ble_eq_true rfl) dX3_requireNoRace_20 ⟨rfl, rfl⟩
abbrev rmX3_requireWind : Room := { frames := 0, cells := 0, slots := 0, locals := 0 }
set_option maxHeartbeats 1000000 in
set_option maxRecDepth 100000 in
theorem c_X3_requireWind_ok (l : Launch) (D : va_G) (T : Nat → ClassId) (x wa fl tf tb : Nat) (v : Int32) (h : ¬ v < 0) (h2 : v ≤ 9) : q_M l D (q_ty T) yX3_requireWind wsX3_requireWind rmX3_requireWind [.ref x, .int v] [q_xc x wa fl tf tb] q_no (q_is none [q_xc x wa fl tf tb]) := by
  refine q_start (cc := cX3_requireWind) (maxL := 2) (ret := none) (by decide) rfl (Nat.le_of_ble_eq_true rfl) ?_
  intro p e s m args below meth c A H locs hx hb hr hts hown hlocks hml hnm hP hK hD hS hA hG ls hl
  have hown : s.vm.findClass RX3 = some m.cls := hown
  have hC : CallFix p m c cX3_requireWind 2 s args wsX3_requireWind RX3 := ⟨hx, hb, hml, hown, hts⟩
  have hl : lv_has ls 2 [(0, .ref x), (1, .int v)] := hl
  refine lv_iload_n hx hb dX3_requireWind_0 rfl (lv_at hl 1 rfl) ?_
  refine lv_if_lt (tgt := 10) hx hb dX3_requireWind_1 (by decide) (fun c_1 => absurd c_1 h) (fun c_1 => ?_)
  refine lv_iload_n hx hb dX3_requireWind_4 rfl (lv_at hl 1 rfl) ?_
  refine lv_bipush (v := 9) hx hb dX3_requireWind_5 (by decide) ?_
  refine lv_icmp_le (tgt := 20) hx hb dX3_requireWind_7 (by decide) (fun c_7 => ?_) (fun c_7 => absurd h2 c_7)
  exact q_vret hx hb hr hlocks hP hK hD hS (Nat.le_of_ble_eq_true rfl) (Nat.le_of_ble_eq_true rfl) dX3_requireWind_20 ⟨rfl, rfl⟩
abbrev rmX3_requireKind : Room := { frames := 0, cells := 0, slots := 0, locals := 0 }
set_option maxHeartbeats 1000000 in
set_option maxRecDepth 100000 in
theorem c_X3_requireKind_ok (l : Launch) (D : va_G) (T : Nat → ClassId) (x wa fl tf tb : Nat) (v y : Int32) (h : ¬ v < 0) (h2 : v < y) : q_M l D (q_ty T) yX3_requireKind wsX3_requireKind rmX3_requireKind [.ref x, .int v, .int y] [q_xc x wa fl tf tb] q_no (q_is none [q_xc x wa fl tf tb]) := by
  refine q_start (cc := cX3_requireKind) (maxL := 3) (ret := none) (by decide) rfl (Nat.le_of_ble_eq_true rfl) ?_
  intro p e s m args below meth c A H locs hx hb hr hts hown hlocks hml hnm hP hK hD hS hA hG ls hl
  have hown : s.vm.findClass RX3 = some m.cls := hown
  have hC : CallFix p m c cX3_requireKind 3 s args wsX3_requireKind RX3 := ⟨hx, hb, hml, hown, hts⟩
  have hl : lv_has ls 3 [(0, .ref x), (1, .int v), (2, .int y)] := hl
  refine lv_iload_n hx hb dX3_requireKind_0 rfl (lv_at hl 1 rfl) ?_
  refine lv_if_lt (tgt := 9) hx hb dX3_requireKind_1 (by decide) (fun c_1 => absurd c_1 h) (fun c_1 => ?_)
  refine lv_iload_n hx hb dX3_requireKind_4 rfl (lv_at hl 1 rfl) ?_
  refine lv_iload_n hx hb dX3_requireKind_5 rfl (lv_at hl 2 rfl) ?_
  refine lv_icmp_lt (tgt := 19) hx hb dX3_requireKind_6 (by decide) (fun c_6 => ?_) (fun c_6 => absurd h2 c_6)
  exact q_vret hx hb hr hlocks hP hK hD hS (Nat.le_of_ble_eq_true rfl) (Nat.le_of_ble_eq_true rfl) dX3_requireKind_19 ⟨rfl, rfl⟩
abbrev rmX3_requireBoat : Room := { frames := 1, cells := 0, slots := 0, locals := 20 }
set_option maxHeartbeats 1000000 in
set_option maxRecDepth 100000 in
theorem c_X3_requireBoat_ok (l : Launch) (D : va_G) (T : Nat → ClassId) (x wa fl tf tb al ar n : Nat) (md : Int32) (u : Nat → Int32) (hn : n ≤ 8) (i : Nat) (hi : i < n) : q_M l D (q_ty T) yX3_requireBoat wsX3_requireBoat rmX3_requireBoat [.ref x, .int (nI i)] [q_xc x wa fl tf tb, q_fc fl al u, q_ac al md ar n] q_no (q_is none [q_xc x wa fl tf tb, q_fc fl al u, q_ac al md ar n]) := by
  refine q_start (cc := cX3_requireBoat) (maxL := 2) (ret := none) (by decide) rfl (Nat.le_of_ble_eq_true rfl) ?_
  intro p e s m args below meth c A H locs hx hb hr hts hown hlocks hml hnm hP hK hD hS hA hG ls hl
  have hown : s.vm.findClass RX3 = some m.cls := hown
  have hC : CallFix p m c cX3_requireBoat 2 s args wsX3_requireBoat RX3 := ⟨hx, hb, hml, hown, hts⟩
  have iX3 : ∀ w ∈ wsX30, w ∈ wsX3_requireBoat := by decide +kernel
  have iX1 : ∀ w ∈ wsX10, w ∈ wsX3_requireBoat := by decide +kernel
  have hl : lv_has ls 2 [(0, .ref x), (1, .int (nI i))] := hl
  refine lv_iload_n hx hb dX3_requireBoat_0 rfl (lv_at hl 1 rfl) ?_
  refine lv_if_lt (tgt := 18) hx hb dX3_requireBoat_1 (by decide) (fun c_1 => absurd c_1 (nI_pos (by omega))) (fun c_1 => ?_)
  refine lv_iload_n hx hb dX3_requireBoat_4 rfl (lv_at hl 1 rfl) ?_
  refine lv_aload_n hx hb dX3_requireBoat_5 rfl (lv_at hl 0 rfl) ?_
  refine va_get (D := D) (ci := 4) (v := .ref fl) (C := RX3) (T := TX3) (N := 4) hx hb hts iX3 hown hK hP 0 rfl rfl 1 (by decide) (hts (.fieldLink RX3 19 "ToyRegatta" "fleet" "LToyRegatta$Fleet;") (by decide +kernel)) (fun _ h9 => h9) rfl dX3_requireBoat_6 ?_
  refine va_get (D := D) (ci := 2) (v := .ref al) (C := RX1) (T := TX1) (N := 5) hx hb hts iX1 hown hK hP 1 rfl rfl 0 (by decide) (hts (.fieldLink RX3 66 "ToyRegatta$Fleet" "boats" "Ljava/util/ArrayList;") (by decide +kernel)) (fun _ h9 => h9) rfl dX3_requireBoat_9 ?_
  refine q_callV (As := []) (rs := [.int (nI i)]) hC (c_AL_size l D T al ar n md) q_no_st q_no_at (cwV 0 hts gX3_requireBoat_Jx4a65c_size_8abf5 rfl rfl rfl (by decide +kernel) ⟨Nat.le_of_ble_eq_true rfl, Nat.le_of_ble_eq_true rfl⟩) (va_recv hK hP (ci := 0) (q0 := 2) rfl rfl) hK hP hD hS hA (q_mask [false, false, true] _) rfl hl.1 rfl (Nat.le_of_ble_eq_true rfl) dX3_requireBoat_12 ⟨(Nat.le_of_ble_eq_true rfl), (Nat.le_of_ble_eq_true rfl)⟩ (fun v9 C9 H locs hp hP hD hS => ?_)
  obtain ⟨rfl, rfl⟩ := hp
  have hP : va_P D vwCl [q_xc x wa fl tf tb, q_fc fl al u, q_ac al md ar n] H := q_P_perm (q_mrg_perm [false, false, true] _ _) hP
  have hD : va_D A [q_xc x wa fl tf tb, q_fc fl al u, q_ac al md ar n] := q_D_perm (q_mrg_perm [false, false, true] _ _) hD
  refine lv_icmp_lt (tgt := 28) hx hb dX3_requireBoat_15 (by decide) (fun c_15 => ?_) (fun c_15 => absurd (nI_lt hi (by omega)) c_15)
  exact q_vret hx hb hr hlocks hP hK hD hS (Nat.le_of_ble_eq_true rfl) (Nat.le_of_ble_eq_true rfl) dX3_requireBoat_28 ⟨rfl, rfl⟩
abbrev rmX3_boatAt : Room := { frames := 3, cells := 0, slots := 0, locals := 64 }
set_option maxHeartbeats 1000000 in
set_option maxRecDepth 100000 in
theorem c_X3_boatAt_ok (l : Launch) (D : va_G) (T : Nat → ClassId) (x wa fl tf tb al ar n : Nat) (md : Int32) (u : Nat → Int32) (ad : Nat → Nat) (F : Nat → Nat → Int32) (hn : n ≤ 8) (i : Nat) (hi : i < n) : q_M l D (q_ty T) yX3_boatAt wsX3_boatAt rmX3_boatAt [.ref x, .int (nI i)] ([q_xc x wa fl tf tb, q_fc fl al u, q_ac al md ar n] ++ q_tl (T 1) n ar ad F) q_no (q_is (some (.ref (ad i))) ([q_xc x wa fl tf tb, q_fc fl al u, q_ac al md ar n] ++ q_tl (T 1) n ar ad F)) := by
  refine q_start (cc := cX3_boatAt) (maxL := 2) (ret := (some (.object "ToyRegatta$Boat"))) (by decide) rfl (Nat.le_of_ble_eq_true rfl) ?_
  intro p e s m args below meth c A H locs hx hb hr hts hown hlocks hml hnm hP hK hD hS hA hG ls hl
  have hown : s.vm.findClass RX3 = some m.cls := hown
  have hC : CallFix p m c cX3_boatAt 2 s args wsX3_boatAt RX3 := ⟨hx, hb, hml, hown, hts⟩
  have iX3 : ∀ w ∈ wsX30, w ∈ wsX3_boatAt := by decide +kernel
  have iX1 : ∀ w ∈ wsX10, w ∈ wsX3_boatAt := by decide +kernel
  have hl : lv_has ls 2 [(0, .ref x), (1, .int (nI i))] := hl
  refine lv_aload_n hx hb dX3_boatAt_0 rfl (lv_at hl 0 rfl) ?_
  refine lv_iload_n hx hb dX3_boatAt_1 rfl (lv_at hl 1 rfl) ?_
  refine q_callV (As := [.int (nI i)]) (rs := []) hC (c_X3_requireBoat_ok l D T x wa fl tf tb al ar n md u hn i hi) q_no_st q_no_at (cwV 1 hts gX3_boatAt_X3_requireBoat rfl rfl rfl (by decide +kernel) ⟨Nat.le_of_ble_eq_true rfl, Nat.le_of_ble_eq_true rfl⟩) (va_recv hK hP (ci := 4) (q0 := 0) rfl rfl) hK hP hD hS hA (q_mask [true, true, true] _) rfl hl.1 rfl (Nat.le_of_ble_eq_true rfl) dX3_boatAt_2 ⟨(Nat.le_of_ble_eq_true rfl), (Nat.le_of_ble_eq_true rfl)⟩ (fun v9 C9 H locs hp hP hD hS => ?_)
  obtain ⟨rfl, rfl⟩ := hp
  have hP : va_P D vwCl ([q_xc x wa fl tf tb, q_fc fl al u, q_ac al md ar n] ++ q_tl (T 1) n ar ad F) H := q_P_perm (q_mrg_perm [true, true, true] _ _) hP
  have hD : va_D A ([q_xc x wa fl tf tb, q_fc fl al u, q_ac al md ar n] ++ q_tl (T 1) n ar ad F) := q_D_perm (q_mrg_perm [true, true, true] _ _) hD
  have hP : va_P D vwCl ([q_bc (ad i) (F i), q_xc x wa fl tf tb, q_fc fl al u, q_ac al md ar n, q_arc (T 1) n ar ad] ++ q_pl ((List.range n).erase i) ad F) H := q_P_perm (q_tlo _ hi rfl) hP
  have hD : va_D A ([q_bc (ad i) (F i), q_xc x wa fl tf tb, q_fc fl al u, q_ac al md ar n, q_arc (T 1) n ar ad] ++ q_pl ((List.range n).erase i) ad F) := q_D_perm (q_tlo _ hi rfl) hD
  refine lv_aload_n hx hb dX3_boatAt_5 rfl (lv_at hl 0 rfl) ?_
  refine va_get (D := D) (ci := 4) (v := .ref fl) (C := RX3) (T := TX3) (N := 4) hx hb hts iX3 hown hK hP 1 rfl rfl 1 (by decide) (hts (.fieldLink RX3 19 "ToyRegatta" "fleet" "LToyRegatta$Fleet;") (by decide +kernel)) (fun _ h9 => h9) rfl dX3_boatAt_6 ?_
  refine va_get (D := D) (ci := 2) (v := .ref al) (C := RX1) (T := TX1) (N := 5) hx hb hts iX1 hown hK hP 2 rfl rfl 0 (by decide) (hts (.fieldLink RX3 66 "ToyRegatta$Fleet" "boats" "Ljava/util/ArrayList;") (by decide +kernel)) (fun _ h9 => h9) rfl dX3_boatAt_9 ?_
  refine lv_iload_n hx hb dX3_boatAt_12 rfl (lv_at hl 1 rfl) ?_
  refine q_callV (As := [.int (nI i)]) (rs := []) hC (c_AL_get l D T al ar n i md ad hi (by omega)) q_no_st q_no_at (cwV 1 hts gX3_boatAt_Jx4a65c_get_915e3 rfl rfl rfl (by decide +kernel) ⟨Nat.le_of_ble_eq_true rfl, Nat.le_of_ble_eq_true rfl⟩) (va_recv hK hP (ci := 0) (q0 := 3) rfl rfl) hK hP hD hS hA (q_mask [false, false, false, true, true] _) rfl hl.1 rfl (Nat.le_of_ble_eq_true rfl) dX3_boatAt_13 ⟨(Nat.le_of_ble_eq_true rfl), (Nat.le_of_ble_eq_true rfl)⟩ (fun v9 C9 H locs hp hP hD hS => ?_)
  obtain ⟨rfl, rfl⟩ := hp
  have hP : va_P D vwCl ([q_bc (ad i) (F i), q_xc x wa fl tf tb, q_fc fl al u, q_ac al md ar n, q_arc (T 1) n ar ad] ++ q_pl ((List.range n).erase i) ad F) H := q_P_perm (q_mrg_perm [false, false, false, true, true] _ _) hP
  have hD : va_D A ([q_bc (ad i) (F i), q_xc x wa fl tf tb, q_fc fl al u, q_ac al md ar n, q_arc (T 1) n ar ad] ++ q_pl ((List.range n).erase i) ad F) := q_D_perm (q_mrg_perm [false, false, false, true, true] _ _) hD
  refine va_castS hx hb hown (hts (.classLink RX3 26 "ToyRegatta$Boat") (by decide +kernel)) (hK.1 1 _ rfl).2 (va_recv hK hP (ci := 1) (q0 := 0) rfl rfl) dX3_boatAt_16 ?_
  have hP : va_P D vwCl ([q_xc x wa fl tf tb, q_fc fl al u, q_ac al md ar n] ++ q_tl (T 1) n ar ad F) H := q_P_perm (q_tls [q_xc x wa fl tf tb, q_fc fl al u, q_ac al md ar n] hi (F := F) (q_up_id F i)) hP
  have hD : va_D A ([q_xc x wa fl tf tb, q_fc fl al u, q_ac al md ar n] ++ q_tl (T 1) n ar ad F) := q_D_perm (q_tls [q_xc x wa fl tf tb, q_fc fl al u, q_ac al md ar n] hi (F := F) (q_up_id F i)) hD
  exact q_aret hx hb hr (Or.inl ⟨_, rfl⟩) hlocks hP hK hD hS (Nat.le_of_ble_eq_true rfl) (Nat.le_of_ble_eq_true rfl) dX3_boatAt_19 ⟨rfl, rfl⟩
abbrev rmX3_windNow : Room := { frames := 2, cells := 0, slots := 0, locals := 43 }
set_option maxHeartbeats 1000000 in
set_option maxRecDepth 100000 in
theorem c_X3_windNow_ok (l : Launch) (D : va_G) (T : Nat → ClassId) (x wa fl tf tb al wi ja mk : Nat) (len : Int32) (u wf : Nat → Int32) (hm : u 0 = nI mk) (hmk : mk < 2 ^ 31) : q_M l D (q_ty T) yX3_windNow wsX3_windNow rmX3_windNow [.ref x] [q_xc x wa fl tf tb, q_fc fl al u, q_wc wa len wi ja, q_ia T wi 10 wf] q_no (q_is (some (.int (wf (mk % 10)))) [q_xc x wa fl tf tb, q_fc fl al u, q_wc wa len wi ja, q_ia T wi 10 wf]) := by
  refine q_start (cc := cX3_windNow) (maxL := 1) (ret := (some .int)) (by decide) rfl (Nat.le_of_ble_eq_true rfl) ?_
  intro p e s m args below meth c A H locs hx hb hr hts hown hlocks hml hnm hP hK hD hS hA hG ls hl
  have hown : s.vm.findClass RX3 = some m.cls := hown
  have hC : CallFix p m c cX3_windNow 1 s args wsX3_windNow RX3 := ⟨hx, hb, hml, hown, hts⟩
  have iX3 : ∀ w ∈ wsX30, w ∈ wsX3_windNow := by decide +kernel
  have iX1 : ∀ w ∈ wsX10, w ∈ wsX3_windNow := by decide +kernel
  have hl : lv_has ls 1 [(0, .ref x)] := hl
  refine lv_aload_n hx hb dX3_windNow_0 rfl (lv_at hl 0 rfl) ?_
  refine va_get (D := D) (ci := 4) (v := .ref wa) (C := RX3) (T := TX3) (N := 4) hx hb hts iX3 hown hK hP 0 rfl rfl 0 (by decide) (hts (.fieldLink RX3 10 "ToyRegatta" "waters" "LToyRegatta$Waters;") (by decide +kernel)) (fun _ h9 => h9) rfl dX3_windNow_1 ?_
  refine lv_aload_n hx hb dX3_windNow_4 rfl (lv_at hl 0 rfl) ?_
  refine va_get (D := D) (ci := 4) (v := .ref fl) (C := RX3) (T := TX3) (N := 4) hx hb hts iX3 hown hK hP 0 rfl rfl 1 (by decide) (hts (.fieldLink RX3 19 "ToyRegatta" "fleet" "LToyRegatta$Fleet;") (by decide +kernel)) (fun _ h9 => h9) rfl dX3_windNow_5 ?_
  refine va_get (D := D) (ci := 2) (v := .int (u 0)) (C := RX1) (T := TX1) (N := 5) hx hb hts iX1 hown hK hP 1 rfl rfl 1 (by decide) (hts (.fieldLink RX3 165 "ToyRegatta$Fleet" "minute" "I") (by decide +kernel)) (fun _ h9 => h9) rfl dX3_windNow_8 ?_
  refine W.eq (g2 := F0 m 11 ls [.int (nI mk), .ref wa]) (by rw [hm]) ?_
  refine q_callV (As := [.int (nI mk)]) (rs := []) hC (c_X2_windOf l D T wa wi ja mk len wf hmk) q_no_st q_no_at (cwV 1 hts gX3_windNow_X2_windOf rfl rfl rfl (by decide +kernel) ⟨Nat.le_of_ble_eq_true rfl, Nat.le_of_ble_eq_true rfl⟩) (va_recv hK hP (ci := 3) (q0 := 2) rfl rfl) hK hP hD hS hA (q_mask [false, false, true, true] _) rfl hl.1 rfl (Nat.le_of_ble_eq_true rfl) dX3_windNow_11 ⟨(Nat.le_of_ble_eq_true rfl), (Nat.le_of_ble_eq_true rfl)⟩ (fun v9 C9 H locs hp hP hD hS => ?_)
  obtain ⟨rfl, rfl⟩ := hp
  have hP : va_P D vwCl [q_xc x wa fl tf tb, q_fc fl al u, q_wc wa len wi ja, q_ia T wi 10 wf] H := q_P_perm (q_mrg_perm [false, false, true, true] _ _) hP
  have hD : va_D A [q_xc x wa fl tf tb, q_fc fl al u, q_wc wa len wi ja, q_ia T wi 10 wf] := q_D_perm (q_mrg_perm [false, false, true, true] _ _) hD
  exact q_iret hx hb hr hlocks hP hK hD hS (Nat.le_of_ble_eq_true rfl) (Nat.le_of_ble_eq_true rfl) dX3_windNow_14 ⟨rfl, rfl⟩
abbrev rmX3_pond : Room := { frames := 1, cells := 0, slots := 0, locals := 20 }
set_option maxHeartbeats 1000000 in
set_option maxRecDepth 100000 in
theorem c_X3_pond_ok (l : Launch) (D : va_G) (T : Nat → ClassId) (x tf tb fl al ar n : Nat) (md : Int32) (u : Nat → Int32) (ad : Nat → Nat) (F : Nat → Nat → Int32) (hn : n ≤ 8) (wa wi ja k mk : Nat) (len : Int32) (ju wf : Nat → Int32) (hk : k ≤ 3) (hm : u 0 = nI mk) (hmk : mk < 2 ^ 31) (v : Int32) (h1 : ¬ v < 20) (h2 : v ≤ 200) (h3 : u 2 = 0) : q_M l D (q_ty T) yX3_pond wsX3_pond rmX3_pond [.ref x, .int v] ([q_xc x wa fl tf tb, q_fc fl al u, q_ac al md ar n, q_wc wa len wi ja, q_ia T wi 10 wf, q_ia T ja k ju] ++ q_tl (T 1) n ar ad F) q_no (q_is (some (.int len)) ([q_xc x wa fl tf tb, q_fc fl al u, q_ac al md ar n, q_wc wa v wi ja, q_ia T wi 10 wf, q_ia T ja k ju] ++ q_tl (T 1) n ar ad F)) := by
  refine q_start (cc := cX3_pond) (maxL := 3) (ret := (some .int)) (by decide) rfl (Nat.le_of_ble_eq_true rfl) ?_
  intro p e s m args below meth c A H locs hx hb hr hts hown hlocks hml hnm hP hK hD hS hA hG ls hl
  have hown : s.vm.findClass RX3 = some m.cls := hown
  have hC : CallFix p m c cX3_pond 3 s args wsX3_pond RX3 := ⟨hx, hb, hml, hown, hts⟩
  have iX3 : ∀ w ∈ wsX30, w ∈ wsX3_pond := by decide +kernel
  have iX2 : ∀ w ∈ wsX20, w ∈ wsX3_pond := by decide +kernel
  have hl : lv_has ls 3 [(0, .ref x), (1, .int v)] := hl
  refine lv_iload_n hx hb dX3_pond_0 rfl (lv_at hl 1 rfl) ?_
  refine lv_bipush (v := 20) hx hb dX3_pond_1 (by decide) ?_
  refine lv_icmp_lt (tgt := 13) hx hb dX3_pond_3 (by decide) (fun c_3 => absurd c_3 h1) (fun c_3 => ?_)
  refine lv_iload_n hx hb dX3_pond_6 rfl (lv_at hl 1 rfl) ?_
  refine lv_sipush (v := 200) hx hb dX3_pond_7 (by decide) ?_
  refine lv_icmp_le (tgt := 23) hx hb dX3_pond_10 (by decide) (fun c_10 => ?_) (fun c_10 => absurd h2 c_10)
  refine lv_aload_n hx hb dX3_pond_23 rfl (lv_at hl 0 rfl) ?_
  refine q_callV (As := []) (rs := []) hC (c_X3_requireNoRace_ok l D T x wa fl tf tb al u h3) q_no_st q_no_at (cwV 0 hts gX3_pond_X3_requireNoRace rfl rfl rfl (by decide +kernel) ⟨Nat.le_of_ble_eq_true rfl, Nat.le_of_ble_eq_true rfl⟩) (va_recv hK hP (ci := 4) (q0 := 0) rfl rfl) hK hP hD hS hA (q_mask [true, true, false, false, false, false] _) rfl hl.1 rfl (Nat.le_of_ble_eq_true rfl) dX3_pond_24 ⟨(Nat.le_of_ble_eq_true rfl), (Nat.le_of_ble_eq_true rfl)⟩ (fun v9 C9 H locs hp hP hD hS => ?_)
  obtain ⟨rfl, rfl⟩ := hp
  have hP : va_P D vwCl ([q_xc x wa fl tf tb, q_fc fl al u, q_ac al md ar n, q_wc wa len wi ja, q_ia T wi 10 wf, q_ia T ja k ju] ++ q_tl (T 1) n ar ad F) H := q_P_perm (q_mrg_perm [true, true, false, false, false, false] _ _) hP
  have hD : va_D A ([q_xc x wa fl tf tb, q_fc fl al u, q_ac al md ar n, q_wc wa len wi ja, q_ia T wi 10 wf, q_ia T ja k ju] ++ q_tl (T 1) n ar ad F) := q_D_perm (q_mrg_perm [true, true, false, false, false, false] _ _) hD
  refine lv_aload_n hx hb dX3_pond_27 rfl (lv_at hl 0 rfl) ?_
  refine va_get (D := D) (ci := 4) (v := .ref wa) (C := RX3) (T := TX3) (N := 4) hx hb hts iX3 hown hK hP 0 rfl rfl 0 (by decide) (hts (.fieldLink RX3 10 "ToyRegatta" "waters" "LToyRegatta$Waters;") (by decide +kernel)) (fun _ h9 => h9) rfl dX3_pond_28 ?_
  refine va_get (D := D) (ci := 3) (v := .int len) (C := RX2) (T := TX2) (N := 3) hx hb hts iX2 hown hK hP 3 rfl rfl 0 (by decide) (hts (.fieldLink RX3 45 "ToyRegatta$Waters" "length" "I") (by decide +kernel)) (fun _ h9 => h9) rfl dX3_pond_31 ?_
  refine lv_istore_n (lv' := [(2, .int len), (0, .ref x), (1, .int v)]) hx hb dX3_pond_34 rfl hl (by decide) rfl (fun ls hl => ?_)
  refine lv_aload_n hx hb dX3_pond_35 rfl (lv_at hl 1 rfl) ?_
  refine va_get (D := D) (ci := 4) (v := .ref wa) (C := RX3) (T := TX3) (N := 4) hx hb hts iX3 hown hK hP 0 rfl rfl 0 (by decide) (hts (.fieldLink RX3 10 "ToyRegatta" "waters" "LToyRegatta$Waters;") (by decide +kernel)) (fun _ h9 => h9) rfl dX3_pond_36 ?_
  refine lv_iload_n hx hb dX3_pond_39 rfl (lv_at hl 2 rfl) ?_
  refine va_put (D := D) (ci := 3) (v := .int v) (ty := .int) (C := RX2) (T := TX2) (N := 3) hx hb hts iX2 tyX2 tyX2_ok nmX2 hown hK hP hD hS 3 rfl rfl 0 (by decide) (hts (.fieldLink RX3 45 "ToyRegatta$Waters" "length" "I") (by decide +kernel)) (fun _ h9 => h9) rfl (by decide +kernel) rfl rfl (Nat.le_of_ble_eq_true rfl) dX3_pond_40 (fun H locs hP hD hS => ?_)
  have hP : va_P D vwCl ([q_xc x wa fl tf tb, q_fc fl al u, q_ac al md ar n, q_wc wa v wi ja, q_ia T wi 10 wf, q_ia T ja k ju] ++ q_tl (T 1) n ar ad F) H := hP
  have hD : va_D A ([q_xc x wa fl tf tb, q_fc fl al u, q_ac al md ar n, q_wc wa v wi ja, q_ia T wi 10 wf, q_ia T ja k ju] ++ q_tl (T 1) n ar ad F) := hD
  refine lv_iload_n hx hb dX3_pond_43 rfl (lv_at hl 0 rfl) ?_
  exact q_iret hx hb hr hlocks hP hK hD hS (Nat.le_of_ble_eq_true rfl) (Nat.le_of_ble_eq_true rfl) dX3_pond_44 ⟨rfl, rfl⟩
abbrev rmX3_setWind : Room := { frames := 2, cells := 0, slots := 0, locals := 46 }
set_option maxHeartbeats 1000000 in
set_option maxRecDepth 100000 in
theorem c_X3_setWind_ok (l : Launch) (D : va_G) (T : Nat → ClassId) (x tf tb fl al ar n : Nat) (md : Int32) (u : Nat → Int32) (ad : Nat → Nat) (F : Nat → Nat → Int32) (hn : n ≤ 8) (wa wi ja k mk : Nat) (len : Int32) (ju wf : Nat → Int32) (hk : k ≤ 3) (hm : u 0 = nI mk) (hmk : mk < 2 ^ 31) (o : Nat) (v : Int32) (hc : o < 10) (h1 : ¬ v < 0) (h2 : v ≤ 9) : q_M l D (q_ty T) yX3_setWind wsX3_setWind rmX3_setWind [.ref x, .int (nI o), .int v] ([q_xc x wa fl tf tb, q_fc fl al u, q_ac al md ar n, q_wc wa len wi ja, q_ia T wi 10 wf, q_ia T ja k ju] ++ q_tl (T 1) n ar ad F) q_no (q_is (some (.int (wf (o % 10)))) ([q_xc x wa fl tf tb, q_fc fl al u, q_ac al md ar n, q_wc wa len wi ja, q_ia T wi 10 (upd wf (o % 10) v), q_ia T ja k ju] ++ q_tl (T 1) n ar ad F)) := by
  refine q_start (cc := cX3_setWind) (maxL := 3) (ret := (some .int)) (by decide) rfl (Nat.le_of_ble_eq_true rfl) ?_
  intro p e s m args below meth c A H locs hx hb hr hts hown hlocks hml hnm hP hK hD hS hA hG ls hl
  have hown : s.vm.findClass RX3 = some m.cls := hown
  have hC : CallFix p m c cX3_setWind 3 s args wsX3_setWind RX3 := ⟨hx, hb, hml, hown, hts⟩
  have iX3 : ∀ w ∈ wsX30, w ∈ wsX3_setWind := by decide +kernel
  have hl : lv_has ls 3 [(0, .ref x), (1, .int (nI o)), (2, .int v)] := hl
  refine lv_iload_n hx hb dX3_setWind_0 rfl (lv_at hl 1 rfl) ?_
  refine lv_if_lt (tgt := 10) hx hb dX3_setWind_1 (by decide) (fun c_1 => absurd c_1 (nI_pos (by omega))) (fun c_1 => ?_)
  refine lv_iload_n hx hb dX3_setWind_4 rfl (lv_at hl 1 rfl) ?_
  refine lv_bipush (v := 10) hx hb dX3_setWind_5 (by decide) ?_
  refine lv_icmp_lt (tgt := 20) hx hb dX3_setWind_7 (by decide) (fun c_7 => ?_) (fun c_7 => absurd (nI_lt (b := 10) hc (by omega)) c_7)
  refine lv_aload_n hx hb dX3_setWind_20 rfl (lv_at hl 0 rfl) ?_
  refine lv_iload_n hx hb dX3_setWind_21 rfl (lv_at hl 2 rfl) ?_
  refine q_callV (As := [.int v]) (rs := []) hC (c_X3_requireWind_ok l D T x wa fl tf tb v h1 h2) q_no_st q_no_at (cwV 1 hts gX3_setWind_X3_requireWind rfl rfl rfl (by decide +kernel) ⟨Nat.le_of_ble_eq_true rfl, Nat.le_of_ble_eq_true rfl⟩) (va_recv hK hP (ci := 4) (q0 := 0) rfl rfl) hK hP hD hS hA (q_mask [true, false, false, false, false, false] _) rfl hl.1 rfl (Nat.le_of_ble_eq_true rfl) dX3_setWind_22 ⟨(Nat.le_of_ble_eq_true rfl), (Nat.le_of_ble_eq_true rfl)⟩ (fun v9 C9 H locs hp hP hD hS => ?_)
  obtain ⟨rfl, rfl⟩ := hp
  have hP : va_P D vwCl ([q_xc x wa fl tf tb, q_fc fl al u, q_ac al md ar n, q_wc wa len wi ja, q_ia T wi 10 wf, q_ia T ja k ju] ++ q_tl (T 1) n ar ad F) H := q_P_perm (q_mrg_perm [true, false, false, false, false, false] _ _) hP
  have hD : va_D A ([q_xc x wa fl tf tb, q_fc fl al u, q_ac al md ar n, q_wc wa len wi ja, q_ia T wi 10 wf, q_ia T ja k ju] ++ q_tl (T 1) n ar ad F) := q_D_perm (q_mrg_perm [true, false, false, false, false, false] _ _) hD
  refine lv_aload_n hx hb dX3_setWind_25 rfl (lv_at hl 0 rfl) ?_
  refine va_get (D := D) (ci := 4) (v := .ref wa) (C := RX3) (T := TX3) (N := 4) hx hb hts iX3 hown hK hP 0 rfl rfl 0 (by decide) (hts (.fieldLink RX3 10 "ToyRegatta" "waters" "LToyRegatta$Waters;") (by decide +kernel)) (fun _ h9 => h9) rfl dX3_setWind_26 ?_
  refine lv_iload_n hx hb dX3_setWind_29 rfl (lv_at hl 1 rfl) ?_
  refine lv_iload_n hx hb dX3_setWind_30 rfl (lv_at hl 2 rfl) ?_
  refine q_callV (As := [.int (nI o), .int v]) (rs := []) hC (c_X2_changeWind l D T wa wi ja o len v wf (by omega)) q_no_st q_no_at (cwV 2 hts gX3_setWind_X2_changeWind rfl rfl rfl (by decide +kernel) ⟨Nat.le_of_ble_eq_true rfl, Nat.le_of_ble_eq_true rfl⟩) (va_recv hK hP (ci := 3) (q0 := 3) rfl rfl) hK hP hD hS hA (q_mask [false, false, false, true, true, false] _) rfl hl.1 rfl (Nat.le_of_ble_eq_true rfl) dX3_setWind_31 ⟨(Nat.le_of_ble_eq_true rfl), (Nat.le_of_ble_eq_true rfl)⟩ (fun v9 C9 H locs hp hP hD hS => ?_)
  obtain ⟨rfl, rfl⟩ := hp
  have hP : va_P D vwCl ([q_xc x wa fl tf tb, q_fc fl al u, q_ac al md ar n, q_wc wa len wi ja, q_ia T wi 10 (upd wf (o % 10) v), q_ia T ja k ju] ++ q_tl (T 1) n ar ad F) H := q_P_perm (q_mrg_perm [false, false, false, true, true, false] _ _) hP
  have hD : va_D A ([q_xc x wa fl tf tb, q_fc fl al u, q_ac al md ar n, q_wc wa len wi ja, q_ia T wi 10 (upd wf (o % 10) v), q_ia T ja k ju] ++ q_tl (T 1) n ar ad F) := q_D_perm (q_mrg_perm [false, false, false, true, true, false] _ _) hD
  exact q_iret hx hb hr hlocks hP hK hD hS (Nat.le_of_ble_eq_true rfl) (Nat.le_of_ble_eq_true rfl) dX3_setWind_34 ⟨rfl, rfl⟩
abbrev rmX3_ballast : Room := { frames := 4, cells := 0, slots := 0, locals := 85 }
set_option maxHeartbeats 1000000 in
set_option maxRecDepth 100000 in
theorem c_X3_ballast_ok (l : Launch) (D : va_G) (T : Nat → ClassId) (x tf tb fl al ar n : Nat) (md : Int32) (u : Nat → Int32) (ad : Nat → Nat) (F : Nat → Nat → Int32) (hn : n ≤ 8) (wa wi ja k mk : Nat) (len : Int32) (ju wf : Nat → Int32) (hk : k ≤ 3) (hm : u 0 = nI mk) (hmk : mk < 2 ^ 31) (i : Nat) (v : Int32) (hi : i < n) (h1 : ¬ v < 0) (h2 : v ≤ 9) (h3 : u 2 = 0) : q_M l D (q_ty T) yX3_ballast wsX3_ballast rmX3_ballast [.ref x, .int (nI i), .int v] ([q_xc x wa fl tf tb, q_fc fl al u, q_ac al md ar n, q_wc wa len wi ja, q_ia T wi 10 wf, q_ia T ja k ju] ++ q_tl (T 1) n ar ad F) q_no (q_is (some (.int (F i 2))) ([q_xc x wa fl tf tb, q_fc fl al u, q_ac al md ar n, q_wc wa len wi ja, q_ia T wi 10 wf, q_ia T ja k ju] ++ q_tl (T 1) n ar ad (va_up F i (upd (F i) 2 v)))) := by
  refine q_start (cc := cX3_ballast) (maxL := 5) (ret := (some .int)) (by decide) rfl (Nat.le_of_ble_eq_true rfl) ?_
  intro p e s m args below meth c A H locs hx hb hr hts hown hlocks hml hnm hP hK hD hS hA hG ls hl
  have hown : s.vm.findClass RX3 = some m.cls := hown
  have hC : CallFix p m c cX3_ballast 5 s args wsX3_ballast RX3 := ⟨hx, hb, hml, hown, hts⟩
  have iX0 : ∀ w ∈ wsX00, w ∈ wsX3_ballast := by decide +kernel
  have hl : lv_has ls 5 [(0, .ref x), (1, .int (nI i)), (2, .int v)] := hl
  refine lv_aload_n hx hb dX3_ballast_0 rfl (lv_at hl 0 rfl) ?_
  refine lv_iload_n hx hb dX3_ballast_1 rfl (lv_at hl 1 rfl) ?_
  refine q_callV (As := [.int (nI i)]) (rs := []) hC (c_X3_boatAt_ok l D T x wa fl tf tb al ar n md u ad F hn i hi) q_no_st q_no_at (cwV 1 hts gX3_ballast_X3_boatAt rfl rfl rfl (by decide +kernel) ⟨Nat.le_of_ble_eq_true rfl, Nat.le_of_ble_eq_true rfl⟩) (va_recv hK hP (ci := 4) (q0 := 0) rfl rfl) hK hP hD hS hA (q_tmask [true, true, true, false, false, false] [q_xc x wa fl tf tb, q_fc fl al u, q_ac al md ar n, q_wc wa len wi ja, q_ia T wi 10 wf, q_ia T ja k ju] (q_tl (T 1) n ar ad F)) rfl hl.1 rfl (Nat.le_of_ble_eq_true rfl) dX3_ballast_2 ⟨(Nat.le_of_ble_eq_true rfl), (Nat.le_of_ble_eq_true rfl)⟩ (fun v9 C9 H locs hp hP hD hS => ?_)
  obtain ⟨rfl, rfl⟩ := hp
  have hP : va_P D vwCl ([q_xc x wa fl tf tb, q_fc fl al u, q_ac al md ar n, q_wc wa len wi ja, q_ia T wi 10 wf, q_ia T ja k ju] ++ q_tl (T 1) n ar ad F) H := q_P_perm (q_tback [true, true, true, false, false, false] [q_xc x wa fl tf tb, q_fc fl al u, q_ac al md ar n] [q_wc wa len wi ja, q_ia T wi 10 wf, q_ia T ja k ju] (q_tl (T 1) n ar ad F)) hP
  have hD : va_D A ([q_xc x wa fl tf tb, q_fc fl al u, q_ac al md ar n, q_wc wa len wi ja, q_ia T wi 10 wf, q_ia T ja k ju] ++ q_tl (T 1) n ar ad F) := q_D_perm (q_tback [true, true, true, false, false, false] [q_xc x wa fl tf tb, q_fc fl al u, q_ac al md ar n] [q_wc wa len wi ja, q_ia T wi 10 wf, q_ia T ja k ju] (q_tl (T 1) n ar ad F)) hD
  refine lv_astore_n (lv' := [(3, .ref (ad i)), (0, .ref x), (1, .int (nI i)), (2, .int v)]) hx hb dX3_ballast_5 rfl hl (by decide) rfl (fun ls hl => ?_)
  refine lv_iload_n hx hb dX3_ballast_6 rfl (lv_at hl 3 rfl) ?_
  refine lv_if_lt (tgt := 16) hx hb dX3_ballast_7 (by decide) (fun c_7 => absurd c_7 h1) (fun c_7 => ?_)
  refine lv_iload_n hx hb dX3_ballast_10 rfl (lv_at hl 3 rfl) ?_
  refine lv_bipush (v := 9) hx hb dX3_ballast_11 (by decide) ?_
  refine lv_icmp_le (tgt := 26) hx hb dX3_ballast_13 (by decide) (fun c_13 => ?_) (fun c_13 => absurd h2 c_13)
  refine lv_aload_n hx hb dX3_ballast_26 rfl (lv_at hl 1 rfl) ?_
  refine q_callV (As := []) (rs := []) hC (c_X3_requireNoRace_ok l D T x wa fl tf tb al u h3) q_no_st q_no_at (cwV 0 hts gX3_ballast_X3_requireNoRace rfl rfl rfl (by decide +kernel) ⟨Nat.le_of_ble_eq_true rfl, Nat.le_of_ble_eq_true rfl⟩) (va_recv hK hP (ci := 4) (q0 := 0) rfl rfl) hK hP hD hS hA (q_mask [true, true, false, false, false, false] _) rfl hl.1 rfl (Nat.le_of_ble_eq_true rfl) dX3_ballast_27 ⟨(Nat.le_of_ble_eq_true rfl), (Nat.le_of_ble_eq_true rfl)⟩ (fun v9 C9 H locs hp hP hD hS => ?_)
  obtain ⟨rfl, rfl⟩ := hp
  have hP : va_P D vwCl ([q_xc x wa fl tf tb, q_fc fl al u, q_ac al md ar n, q_wc wa len wi ja, q_ia T wi 10 wf, q_ia T ja k ju] ++ q_tl (T 1) n ar ad F) H := q_P_perm (q_mrg_perm [true, true, false, false, false, false] _ _) hP
  have hD : va_D A ([q_xc x wa fl tf tb, q_fc fl al u, q_ac al md ar n, q_wc wa len wi ja, q_ia T wi 10 wf, q_ia T ja k ju] ++ q_tl (T 1) n ar ad F) := q_D_perm (q_mrg_perm [true, true, false, false, false, false] _ _) hD
  have hP : va_P D vwCl ([q_bc (ad i) (F i), q_xc x wa fl tf tb, q_fc fl al u, q_ac al md ar n, q_wc wa len wi ja, q_ia T wi 10 wf, q_ia T ja k ju, q_arc (T 1) n ar ad] ++ q_pl ((List.range n).erase i) ad F) H := q_P_perm (q_tlo _ hi rfl) hP
  have hD : va_D A ([q_bc (ad i) (F i), q_xc x wa fl tf tb, q_fc fl al u, q_ac al md ar n, q_wc wa len wi ja, q_ia T wi 10 wf, q_ia T ja k ju, q_arc (T 1) n ar ad] ++ q_pl ((List.range n).erase i) ad F) := q_D_perm (q_tlo _ hi rfl) hD
  refine lv_aload_n hx hb dX3_ballast_30 rfl (lv_at hl 0 rfl) ?_
  refine va_get (D := D) (ci := 1) (v := .int ((F i) 2)) (C := RX0) (T := TX0) (N := 11) hx hb hts iX0 hown hK hP 0 rfl rfl 2 (by decide) (hts (.fieldLink RX3 91 "ToyRegatta$Boat" "lead" "I") (by decide +kernel)) (fun _ h9 => h9) rfl dX3_ballast_31 ?_
  refine lv_istore (lv' := [(4, .int ((F i) 2)), (3, .ref (ad i)), (0, .ref x), (1, .int (nI i)), (2, .int v)]) hx hb dX3_ballast_34 hl (by decide) rfl (fun ls hl => ?_)
  refine lv_aload_n hx hb dX3_ballast_36 rfl (lv_at hl 1 rfl) ?_
  refine lv_iload_n hx hb dX3_ballast_37 rfl (lv_at hl 4 rfl) ?_
  refine va_put (D := D) (ci := 1) (v := .int v) (ty := .int) (C := RX0) (T := TX0) (N := 11) hx hb hts iX0 tyX0 tyX0_ok nmX0 hown hK hP hD hS 0 rfl rfl 2 (by decide) (hts (.fieldLink RX3 91 "ToyRegatta$Boat" "lead" "I") (by decide +kernel)) (fun _ h9 => h9) rfl (by decide +kernel) rfl rfl (Nat.le_of_ble_eq_true rfl) dX3_ballast_38 (fun H locs hP hD hS => ?_)
  have hP : va_P D vwCl ([q_bc (ad i) (upd (F i) 2 v), q_xc x wa fl tf tb, q_fc fl al u, q_ac al md ar n, q_wc wa len wi ja, q_ia T wi 10 wf, q_ia T ja k ju, q_arc (T 1) n ar ad] ++ q_pl ((List.range n).erase i) ad F) H := hP
  have hD : va_D A ([q_bc (ad i) (upd (F i) 2 v), q_xc x wa fl tf tb, q_fc fl al u, q_ac al md ar n, q_wc wa len wi ja, q_ia T wi 10 wf, q_ia T ja k ju, q_arc (T 1) n ar ad] ++ q_pl ((List.range n).erase i) ad F) := hD
  have hP : va_P D vwCl ([q_xc x wa fl tf tb, q_fc fl al u, q_ac al md ar n, q_wc wa len wi ja, q_ia T wi 10 wf, q_ia T ja k ju] ++ q_tl (T 1) n ar ad (va_up F i (upd (F i) 2 v))) H := q_P_perm (q_tls [q_xc x wa fl tf tb, q_fc fl al u, q_ac al md ar n, q_wc wa len wi ja, q_ia T wi 10 wf, q_ia T ja k ju] hi (F := F) rfl) hP
  have hD : va_D A ([q_xc x wa fl tf tb, q_fc fl al u, q_ac al md ar n, q_wc wa len wi ja, q_ia T wi 10 wf, q_ia T ja k ju] ++ q_tl (T 1) n ar ad (va_up F i (upd (F i) 2 v))) := q_D_perm (q_tls [q_xc x wa fl tf tb, q_fc fl al u, q_ac al md ar n, q_wc wa len wi ja, q_ia T wi 10 wf, q_ia T ja k ju] hi (F := F) rfl) hD
  refine lv_iload hx hb dX3_ballast_41 (lv_at hl 0 rfl) ?_
  exact q_iret hx hb hr hlocks hP hK hD hS (Nat.le_of_ble_eq_true rfl) (Nat.le_of_ble_eq_true rfl) dX3_ballast_43 ⟨rfl, rfl⟩
abbrev rmX3_start : Room := { frames := 4, cells := 0, slots := 0, locals := 87 }
set_option maxHeartbeats 1000000 in
set_option maxRecDepth 100000 in
theorem c_X3_start_ok (l : Launch) (D : va_G) (T : Nat → ClassId) (x tf tb fl al ar n : Nat) (md : Int32) (u : Nat → Int32) (ad : Nat → Nat) (F : Nat → Nat → Int32) (hn : n ≤ 8) (wa wi ja k mk : Nat) (len : Int32) (ju wf : Nat → Int32) (hk : k ≤ 3) (hm : u 0 = nI mk) (hmk : mk < 2 ^ 31) (h3 : u 2 = 0) (h4 : ¬ q_sum (dCan F) n = 0) : q_M l D (q_ty T) yX3_start wsX3_start rmX3_start [.ref x] ([q_xc x wa fl tf tb, q_fc fl al u, q_ac al md ar n, q_wc wa len wi ja, q_ia T wi 10 wf, q_ia T ja k ju] ++ q_tl (T 1) n ar ad F) q_no (q_is (some (.int (q_sum (dSt (dEnter F) 1) n))) ([q_xc x wa fl tf tb, q_fc fl al (dBegU u), q_ac al md ar n, q_wc wa len wi ja, q_ia T wi 10 wf, q_ia T ja k ju] ++ q_tl (T 1) n ar ad (dEnter F))) := by
  refine q_start (cc := cX3_start) (maxL := 1) (ret := (some .int)) (by decide) rfl (Nat.le_of_ble_eq_true rfl) ?_
  intro p e s m args below meth c A H locs hx hb hr hts hown hlocks hml hnm hP hK hD hS hA hG ls hl
  have hown : s.vm.findClass RX3 = some m.cls := hown
  have hC : CallFix p m c cX3_start 1 s args wsX3_start RX3 := ⟨hx, hb, hml, hown, hts⟩
  have iX3 : ∀ w ∈ wsX30, w ∈ wsX3_start := by decide +kernel
  have hl : lv_has ls 1 [(0, .ref x)] := hl
  refine lv_aload_n hx hb dX3_start_0 rfl (lv_at hl 0 rfl) ?_
  refine q_callV (As := []) (rs := []) hC (c_X3_requireNoRace_ok l D T x wa fl tf tb al u h3) q_no_st q_no_at (cwV 0 hts gX3_start_X3_requireNoRace rfl rfl rfl (by decide +kernel) ⟨Nat.le_of_ble_eq_true rfl, Nat.le_of_ble_eq_true rfl⟩) (va_recv hK hP (ci := 4) (q0 := 0) rfl rfl) hK hP hD hS hA (q_mask [true, true, false, false, false, false] _) rfl hl.1 rfl (Nat.le_of_ble_eq_true rfl) dX3_start_1 ⟨(Nat.le_of_ble_eq_true rfl), (Nat.le_of_ble_eq_true rfl)⟩ (fun v9 C9 H locs hp hP hD hS => ?_)
  obtain ⟨rfl, rfl⟩ := hp
  have hP : va_P D vwCl ([q_xc x wa fl tf tb, q_fc fl al u, q_ac al md ar n, q_wc wa len wi ja, q_ia T wi 10 wf, q_ia T ja k ju] ++ q_tl (T 1) n ar ad F) H := q_P_perm (q_mrg_perm [true, true, false, false, false, false] _ _) hP
  have hD : va_D A ([q_xc x wa fl tf tb, q_fc fl al u, q_ac al md ar n, q_wc wa len wi ja, q_ia T wi 10 wf, q_ia T ja k ju] ++ q_tl (T 1) n ar ad F) := q_D_perm (q_mrg_perm [true, true, false, false, false, false] _ _) hD
  refine lv_aload_n hx hb dX3_start_4 rfl (lv_at hl 0 rfl) ?_
  refine va_get (D := D) (ci := 4) (v := .ref fl) (C := RX3) (T := TX3) (N := 4) hx hb hts iX3 hown hK hP 0 rfl rfl 1 (by decide) (hts (.fieldLink RX3 19 "ToyRegatta" "fleet" "LToyRegatta$Fleet;") (by decide +kernel)) (fun _ h9 => h9) rfl dX3_start_5 ?_
  refine q_callV (As := []) (rs := []) hC (c_X1_starters l D T fl al ar n md u ad F hn ) q_no_st q_no_at (cwV 0 hts gX3_start_X1_starters rfl rfl rfl (by decide +kernel) ⟨Nat.le_of_ble_eq_true rfl, Nat.le_of_ble_eq_true rfl⟩) (va_recv hK hP (ci := 2) (q0 := 1) rfl rfl) hK hP hD hS hA (q_tmask [false, true, true, false, false, false] [q_xc x wa fl tf tb, q_fc fl al u, q_ac al md ar n, q_wc wa len wi ja, q_ia T wi 10 wf, q_ia T ja k ju] (q_tl (T 1) n ar ad F)) rfl hl.1 rfl (Nat.le_of_ble_eq_true rfl) dX3_start_8 ⟨(Nat.le_of_ble_eq_true rfl), (Nat.le_of_ble_eq_true rfl)⟩ (fun v9 C9 H locs hp hP hD hS => ?_)
  obtain ⟨rfl, rfl⟩ := hp
  have hP : va_P D vwCl ([q_xc x wa fl tf tb, q_fc fl al u, q_ac al md ar n, q_wc wa len wi ja, q_ia T wi 10 wf, q_ia T ja k ju] ++ q_tl (T 1) n ar ad F) H := q_P_perm (q_tback [false, true, true, false, false, false] [q_fc fl al u, q_ac al md ar n] [q_xc x wa fl tf tb, q_wc wa len wi ja, q_ia T wi 10 wf, q_ia T ja k ju] (q_tl (T 1) n ar ad F)) hP
  have hD : va_D A ([q_xc x wa fl tf tb, q_fc fl al u, q_ac al md ar n, q_wc wa len wi ja, q_ia T wi 10 wf, q_ia T ja k ju] ++ q_tl (T 1) n ar ad F) := q_D_perm (q_tback [false, true, true, false, false, false] [q_fc fl al u, q_ac al md ar n] [q_xc x wa fl tf tb, q_wc wa len wi ja, q_ia T wi 10 wf, q_ia T ja k ju] (q_tl (T 1) n ar ad F)) hD
  refine lv_if_ne (tgt := 24) hx hb dX3_start_11 (by decide) (fun c_11 => ?_) (fun c_11 => absurd c_11 h4)
  refine lv_aload_n hx hb dX3_start_24 rfl (lv_at hl 0 rfl) ?_
  refine va_get (D := D) (ci := 4) (v := .ref fl) (C := RX3) (T := TX3) (N := 4) hx hb hts iX3 hown hK hP 0 rfl rfl 1 (by decide) (hts (.fieldLink RX3 19 "ToyRegatta" "fleet" "LToyRegatta$Fleet;") (by decide +kernel)) (fun _ h9 => h9) rfl dX3_start_25 ?_
  refine q_callV (As := []) (rs := []) hC (c_X1_begin l D T fl al ar n md u ad F hn ) q_no_st q_no_at (cwV 0 hts gX3_start_X1_begin rfl rfl rfl (by decide +kernel) ⟨Nat.le_of_ble_eq_true rfl, Nat.le_of_ble_eq_true rfl⟩) (va_recv hK hP (ci := 2) (q0 := 1) rfl rfl) hK hP hD hS hA (q_tmask [false, true, true, false, false, false] [q_xc x wa fl tf tb, q_fc fl al u, q_ac al md ar n, q_wc wa len wi ja, q_ia T wi 10 wf, q_ia T ja k ju] (q_tl (T 1) n ar ad F)) rfl hl.1 rfl (Nat.le_of_ble_eq_true rfl) dX3_start_28 ⟨(Nat.le_of_ble_eq_true rfl), (Nat.le_of_ble_eq_true rfl)⟩ (fun v9 C9 H locs hp hP hD hS => ?_)
  obtain ⟨rfl, rfl⟩ := hp
  have hP : va_P D vwCl ([q_xc x wa fl tf tb, q_fc fl al (dBegU u), q_ac al md ar n, q_wc wa len wi ja, q_ia T wi 10 wf, q_ia T ja k ju] ++ q_tl (T 1) n ar ad (dEnter F)) H := q_P_perm (q_tback [false, true, true, false, false, false] [q_fc fl al (dBegU u), q_ac al md ar n] [q_xc x wa fl tf tb, q_wc wa len wi ja, q_ia T wi 10 wf, q_ia T ja k ju] (q_tl (T 1) n ar ad (dEnter F))) hP
  have hD : va_D A ([q_xc x wa fl tf tb, q_fc fl al (dBegU u), q_ac al md ar n, q_wc wa len wi ja, q_ia T wi 10 wf, q_ia T ja k ju] ++ q_tl (T 1) n ar ad (dEnter F)) := q_D_perm (q_tback [false, true, true, false, false, false] [q_fc fl al (dBegU u), q_ac al md ar n] [q_xc x wa fl tf tb, q_wc wa len wi ja, q_ia T wi 10 wf, q_ia T ja k ju] (q_tl (T 1) n ar ad (dEnter F))) hD
  refine lv_aload_n hx hb dX3_start_31 rfl (lv_at hl 0 rfl) ?_
  refine va_get (D := D) (ci := 4) (v := .ref fl) (C := RX3) (T := TX3) (N := 4) hx hb hts iX3 hown hK hP 0 rfl rfl 1 (by decide) (hts (.fieldLink RX3 19 "ToyRegatta" "fleet" "LToyRegatta$Fleet;") (by decide +kernel)) (fun _ h9 => h9) rfl dX3_start_32 ?_
  refine lv_iconst (v := 1) hx hb dX3_start_35 (by decide) ?_
  refine q_callV (As := [.int 1]) (rs := []) hC (c_X1_inState l D T fl al ar n md (dBegU u) ad (dEnter F) hn 1) q_no_st q_no_at (cwV 1 hts gX3_start_X1_inState rfl rfl rfl (by decide +kernel) ⟨Nat.le_of_ble_eq_true rfl, Nat.le_of_ble_eq_true rfl⟩) (va_recv hK hP (ci := 2) (q0 := 1) rfl rfl) hK hP hD hS hA (q_tmask [false, true, true, false, false, false] [q_xc x wa fl tf tb, q_fc fl al (dBegU u), q_ac al md ar n, q_wc wa len wi ja, q_ia T wi 10 wf, q_ia T ja k ju] (q_tl (T 1) n ar ad (dEnter F))) rfl hl.1 rfl (Nat.le_of_ble_eq_true rfl) dX3_start_36 ⟨(Nat.le_of_ble_eq_true rfl), (Nat.le_of_ble_eq_true rfl)⟩ (fun v9 C9 H locs hp hP hD hS => ?_)
  obtain ⟨rfl, rfl⟩ := hp
  have hP : va_P D vwCl ([q_xc x wa fl tf tb, q_fc fl al (dBegU u), q_ac al md ar n, q_wc wa len wi ja, q_ia T wi 10 wf, q_ia T ja k ju] ++ q_tl (T 1) n ar ad (dEnter F)) H := q_P_perm (q_tback [false, true, true, false, false, false] [q_fc fl al (dBegU u), q_ac al md ar n] [q_xc x wa fl tf tb, q_wc wa len wi ja, q_ia T wi 10 wf, q_ia T ja k ju] (q_tl (T 1) n ar ad (dEnter F))) hP
  have hD : va_D A ([q_xc x wa fl tf tb, q_fc fl al (dBegU u), q_ac al md ar n, q_wc wa len wi ja, q_ia T wi 10 wf, q_ia T ja k ju] ++ q_tl (T 1) n ar ad (dEnter F)) := q_D_perm (q_tback [false, true, true, false, false, false] [q_fc fl al (dBegU u), q_ac al md ar n] [q_xc x wa fl tf tb, q_wc wa len wi ja, q_ia T wi 10 wf, q_ia T ja k ju] (q_tl (T 1) n ar ad (dEnter F))) hD
  exact q_iret hx hb hr hlocks hP hK hD hS (Nat.le_of_ble_eq_true rfl) (Nat.le_of_ble_eq_true rfl) dX3_start_39 ⟨rfl, rfl⟩
abbrev rmX3_ahead : Room := { frames := 4, cells := 0, slots := 0, locals := 89 }
set_option maxHeartbeats 1000000 in
set_option maxRecDepth 100000 in
theorem c_X3_ahead_ok (l : Launch) (D : va_G) (T : Nat → ClassId) (x tf tb fl al ar n : Nat) (md : Int32) (u : Nat → Int32) (ad : Nat → Nat) (F : Nat → Nat → Int32) (hn : n ≤ 8) (wa wi ja k mk : Nat) (len : Int32) (ju wf : Nat → Int32) (hk : k ≤ 3) (hm : u 0 = nI mk) (hmk : mk < 2 ^ 31) : q_M l D (q_ty T) yX3_ahead wsX3_ahead rmX3_ahead [.ref x] ([q_xc x wa fl tf tb, q_fc fl al u, q_ac al md ar n, q_wc wa len wi ja, q_ia T wi 10 wf, q_ia T ja k ju] ++ q_tl (T 1) n ar ad F) q_no (q_is (some (.int (if u 2 = 0 then -1 else (dFarS F n).1))) ([q_xc x wa fl tf tb, q_fc fl al u, q_ac al md ar n, q_wc wa len wi ja, q_ia T wi 10 wf, q_ia T ja k ju] ++ q_tl (T 1) n ar ad F)) := by
  refine q_start (cc := cX3_ahead) (maxL := 1) (ret := (some .int)) (by decide) rfl (Nat.le_of_ble_eq_true rfl) ?_
  intro p e s m args below meth c A H locs hx hb hr hts hown hlocks hml hnm hP hK hD hS hA hG ls hl
  have hown : s.vm.findClass RX3 = some m.cls := hown
  have hC : CallFix p m c cX3_ahead 1 s args wsX3_ahead RX3 := ⟨hx, hb, hml, hown, hts⟩
  have iX3 : ∀ w ∈ wsX30, w ∈ wsX3_ahead := by decide +kernel
  have iX1 : ∀ w ∈ wsX10, w ∈ wsX3_ahead := by decide +kernel
  have hl : lv_has ls 1 [(0, .ref x)] := hl
  refine lv_aload_n hx hb dX3_ahead_0 rfl (lv_at hl 0 rfl) ?_
  refine va_get (D := D) (ci := 4) (v := .ref fl) (C := RX3) (T := TX3) (N := 4) hx hb hts iX3 hown hK hP 0 rfl rfl 1 (by decide) (hts (.fieldLink RX3 19 "ToyRegatta" "fleet" "LToyRegatta$Fleet;") (by decide +kernel)) (fun _ h9 => h9) rfl dX3_ahead_1 ?_
  refine va_get (D := D) (ci := 2) (v := .int (u 2)) (C := RX1) (T := TX1) (N := 5) hx hb hts iX1 hown hK hP 1 rfl rfl 3 (by decide) (hts (.fieldLink RX3 168 "ToyRegatta$Fleet" "racing" "Z") (by decide +kernel)) (fun _ h9 => h9) rfl dX3_ahead_4 ?_
  refine lv_if_eq (tgt := 20) hx hb dX3_ahead_7 (by decide) (fun c_7 => ?_) (fun c_7 => ?_)
  · refine lv_iconst (v := (-1)) hx hb dX3_ahead_20 (by decide) ?_
    exact q_iret hx hb hr hlocks hP hK hD hS (Nat.le_of_ble_eq_true rfl) (Nat.le_of_ble_eq_true rfl) dX3_ahead_21 ⟨by simp only [if_pos c_7], rfl⟩
  · refine lv_aload_n hx hb dX3_ahead_10 rfl (lv_at hl 0 rfl) ?_
    refine va_get (D := D) (ci := 4) (v := .ref fl) (C := RX3) (T := TX3) (N := 4) hx hb hts iX3 hown hK hP 0 rfl rfl 1 (by decide) (hts (.fieldLink RX3 19 "ToyRegatta" "fleet" "LToyRegatta$Fleet;") (by decide +kernel)) (fun _ h9 => h9) rfl dX3_ahead_11 ?_
    refine q_callV (As := []) (rs := []) hC (c_X1_farthest l D T fl al ar n md u ad F hn ) q_no_st q_no_at (cwV 0 hts gX3_ahead_X1_farthest rfl rfl rfl (by decide +kernel) ⟨Nat.le_of_ble_eq_true rfl, Nat.le_of_ble_eq_true rfl⟩) (va_recv hK hP (ci := 2) (q0 := 1) rfl rfl) hK hP hD hS hA (q_tmask [false, true, true, false, false, false] [q_xc x wa fl tf tb, q_fc fl al u, q_ac al md ar n, q_wc wa len wi ja, q_ia T wi 10 wf, q_ia T ja k ju] (q_tl (T 1) n ar ad F)) rfl hl.1 rfl (Nat.le_of_ble_eq_true rfl) dX3_ahead_14 ⟨(Nat.le_of_ble_eq_true rfl), (Nat.le_of_ble_eq_true rfl)⟩ (fun v9 C9 H locs hp hP hD hS => ?_)
    obtain ⟨rfl, rfl⟩ := hp
    have hP : va_P D vwCl ([q_xc x wa fl tf tb, q_fc fl al u, q_ac al md ar n, q_wc wa len wi ja, q_ia T wi 10 wf, q_ia T ja k ju] ++ q_tl (T 1) n ar ad F) H := q_P_perm (q_tback [false, true, true, false, false, false] [q_fc fl al u, q_ac al md ar n] [q_xc x wa fl tf tb, q_wc wa len wi ja, q_ia T wi 10 wf, q_ia T ja k ju] (q_tl (T 1) n ar ad F)) hP
    have hD : va_D A ([q_xc x wa fl tf tb, q_fc fl al u, q_ac al md ar n, q_wc wa len wi ja, q_ia T wi 10 wf, q_ia T ja k ju] ++ q_tl (T 1) n ar ad F) := q_D_perm (q_tback [false, true, true, false, false, false] [q_fc fl al u, q_ac al md ar n] [q_xc x wa fl tf tb, q_wc wa len wi ja, q_ia T wi 10 wf, q_ia T ja k ju] (q_tl (T 1) n ar ad F)) hD
    refine lv_goto (tgt := 21) hx hb dX3_ahead_17 (by decide) ?_
    exact q_iret hx hb hr hlocks hP hK hD hS (Nat.le_of_ble_eq_true rfl) (Nat.le_of_ble_eq_true rfl) dX3_ahead_21 ⟨by simp only [if_neg c_7], rfl⟩
abbrev rmX3_champion : Room := { frames := 4, cells := 0, slots := 0, locals := 90 }
set_option maxHeartbeats 1000000 in
set_option maxRecDepth 100000 in
theorem c_X3_champion_ok (l : Launch) (D : va_G) (T : Nat → ClassId) (x tf tb fl al ar n : Nat) (md : Int32) (u : Nat → Int32) (ad : Nat → Nat) (F : Nat → Nat → Int32) (hn : n ≤ 8) (wa wi ja k mk : Nat) (len : Int32) (ju wf : Nat → Int32) (hk : k ≤ 3) (hm : u 0 = nI mk) (hmk : mk < 2 ^ 31) : q_M l D (q_ty T) yX3_champion wsX3_champion rmX3_champion [.ref x] ([q_xc x wa fl tf tb, q_fc fl al u, q_ac al md ar n, q_wc wa len wi ja, q_ia T wi 10 wf, q_ia T ja k ju] ++ q_tl (T 1) n ar ad F) q_no (q_is (some (.int ((dBestS F n).1))) ([q_xc x wa fl tf tb, q_fc fl al u, q_ac al md ar n, q_wc wa len wi ja, q_ia T wi 10 wf, q_ia T ja k ju] ++ q_tl (T 1) n ar ad F)) := by
  refine q_start (cc := cX3_champion) (maxL := 1) (ret := (some .int)) (by decide) rfl (Nat.le_of_ble_eq_true rfl) ?_
  intro p e s m args below meth c A H locs hx hb hr hts hown hlocks hml hnm hP hK hD hS hA hG ls hl
  have hown : s.vm.findClass RX3 = some m.cls := hown
  have hC : CallFix p m c cX3_champion 1 s args wsX3_champion RX3 := ⟨hx, hb, hml, hown, hts⟩
  have iX3 : ∀ w ∈ wsX30, w ∈ wsX3_champion := by decide +kernel
  have hl : lv_has ls 1 [(0, .ref x)] := hl
  refine lv_aload_n hx hb dX3_champion_0 rfl (lv_at hl 0 rfl) ?_
  refine va_get (D := D) (ci := 4) (v := .ref fl) (C := RX3) (T := TX3) (N := 4) hx hb hts iX3 hown hK hP 0 rfl rfl 1 (by decide) (hts (.fieldLink RX3 19 "ToyRegatta" "fleet" "LToyRegatta$Fleet;") (by decide +kernel)) (fun _ h9 => h9) rfl dX3_champion_1 ?_
  refine q_callV (As := []) (rs := []) hC (c_X1_best l D T fl al ar n md u ad F hn ) q_no_st q_no_at (cwV 0 hts gX3_champion_X1_best rfl rfl rfl (by decide +kernel) ⟨Nat.le_of_ble_eq_true rfl, Nat.le_of_ble_eq_true rfl⟩) (va_recv hK hP (ci := 2) (q0 := 1) rfl rfl) hK hP hD hS hA (q_tmask [false, true, true, false, false, false] [q_xc x wa fl tf tb, q_fc fl al u, q_ac al md ar n, q_wc wa len wi ja, q_ia T wi 10 wf, q_ia T ja k ju] (q_tl (T 1) n ar ad F)) rfl hl.1 rfl (Nat.le_of_ble_eq_true rfl) dX3_champion_4 ⟨(Nat.le_of_ble_eq_true rfl), (Nat.le_of_ble_eq_true rfl)⟩ (fun v9 C9 H locs hp hP hD hS => ?_)
  obtain ⟨rfl, rfl⟩ := hp
  have hP : va_P D vwCl ([q_xc x wa fl tf tb, q_fc fl al u, q_ac al md ar n, q_wc wa len wi ja, q_ia T wi 10 wf, q_ia T ja k ju] ++ q_tl (T 1) n ar ad F) H := q_P_perm (q_tback [false, true, true, false, false, false] [q_fc fl al u, q_ac al md ar n] [q_xc x wa fl tf tb, q_wc wa len wi ja, q_ia T wi 10 wf, q_ia T ja k ju] (q_tl (T 1) n ar ad F)) hP
  have hD : va_D A ([q_xc x wa fl tf tb, q_fc fl al u, q_ac al md ar n, q_wc wa len wi ja, q_ia T wi 10 wf, q_ia T ja k ju] ++ q_tl (T 1) n ar ad F) := q_D_perm (q_tback [false, true, true, false, false, false] [q_fc fl al u, q_ac al md ar n] [q_xc x wa fl tf tb, q_wc wa len wi ja, q_ia T wi 10 wf, q_ia T ja k ju] (q_tl (T 1) n ar ad F)) hD
  exact q_iret hx hb hr hlocks hP hK hD hS (Nat.le_of_ble_eq_true rfl) (Nat.le_of_ble_eq_true rfl) dX3_champion_7 ⟨rfl, rfl⟩
abbrev rmX3_falls : Room := { frames := 4, cells := 0, slots := 0, locals := 85 }
set_option maxHeartbeats 1000000 in
set_option maxRecDepth 100000 in
theorem c_X3_falls_ok (l : Launch) (D : va_G) (T : Nat → ClassId) (x tf tb fl al ar n : Nat) (md : Int32) (u : Nat → Int32) (ad : Nat → Nat) (F : Nat → Nat → Int32) (hn : n ≤ 8) (wa wi ja k mk : Nat) (len : Int32) (ju wf : Nat → Int32) (hk : k ≤ 3) (hm : u 0 = nI mk) (hmk : mk < 2 ^ 31) (i : Nat) (v : Int32) (hi : i < n) (h1 : ¬ v < 0) (h2 : v ≤ 9) : q_M l D (q_ty T) yX3_falls wsX3_falls rmX3_falls [.ref x, .int (nI i), .int v] ([q_xc x wa fl tf tb, q_fc fl al u, q_ac al md ar n, q_wc wa len wi ja, q_ia T wi 10 wf, q_ia T ja k ju] ++ q_tl (T 1) n ar ad F) q_no (q_is (some (.int (if bHeel (F i) v ≤ 30 then 0 else 1))) ([q_xc x wa fl tf tb, q_fc fl al u, q_ac al md ar n, q_wc wa len wi ja, q_ia T wi 10 wf, q_ia T ja k ju] ++ q_tl (T 1) n ar ad F)) := by
  refine q_start (cc := cX3_falls) (maxL := 4) (ret := (some .boolean)) (by decide) rfl (Nat.le_of_ble_eq_true rfl) ?_
  intro p e s m args below meth c A H locs hx hb hr hts hown hlocks hml hnm hP hK hD hS hA hG ls hl
  have hown : s.vm.findClass RX3 = some m.cls := hown
  have hC : CallFix p m c cX3_falls 4 s args wsX3_falls RX3 := ⟨hx, hb, hml, hown, hts⟩
  have hl : lv_has ls 4 [(0, .ref x), (1, .int (nI i)), (2, .int v)] := hl
  refine lv_aload_n hx hb dX3_falls_0 rfl (lv_at hl 0 rfl) ?_
  refine lv_iload_n hx hb dX3_falls_1 rfl (lv_at hl 1 rfl) ?_
  refine q_callV (As := [.int (nI i)]) (rs := []) hC (c_X3_boatAt_ok l D T x wa fl tf tb al ar n md u ad F hn i hi) q_no_st q_no_at (cwV 1 hts gX3_falls_X3_boatAt rfl rfl rfl (by decide +kernel) ⟨Nat.le_of_ble_eq_true rfl, Nat.le_of_ble_eq_true rfl⟩) (va_recv hK hP (ci := 4) (q0 := 0) rfl rfl) hK hP hD hS hA (q_tmask [true, true, true, false, false, false] [q_xc x wa fl tf tb, q_fc fl al u, q_ac al md ar n, q_wc wa len wi ja, q_ia T wi 10 wf, q_ia T ja k ju] (q_tl (T 1) n ar ad F)) rfl hl.1 rfl (Nat.le_of_ble_eq_true rfl) dX3_falls_2 ⟨(Nat.le_of_ble_eq_true rfl), (Nat.le_of_ble_eq_true rfl)⟩ (fun v9 C9 H locs hp hP hD hS => ?_)
  obtain ⟨rfl, rfl⟩ := hp
  have hP : va_P D vwCl ([q_xc x wa fl tf tb, q_fc fl al u, q_ac al md ar n, q_wc wa len wi ja, q_ia T wi 10 wf, q_ia T ja k ju] ++ q_tl (T 1) n ar ad F) H := q_P_perm (q_tback [true, true, true, false, false, false] [q_xc x wa fl tf tb, q_fc fl al u, q_ac al md ar n] [q_wc wa len wi ja, q_ia T wi 10 wf, q_ia T ja k ju] (q_tl (T 1) n ar ad F)) hP
  have hD : va_D A ([q_xc x wa fl tf tb, q_fc fl al u, q_ac al md ar n, q_wc wa len wi ja, q_ia T wi 10 wf, q_ia T ja k ju] ++ q_tl (T 1) n ar ad F) := q_D_perm (q_tback [true, true, true, false, false, false] [q_xc x wa fl tf tb, q_fc fl al u, q_ac al md ar n] [q_wc wa len wi ja, q_ia T wi 10 wf, q_ia T ja k ju] (q_tl (T 1) n ar ad F)) hD
  refine lv_astore_n (lv' := [(3, .ref (ad i)), (0, .ref x), (1, .int (nI i)), (2, .int v)]) hx hb dX3_falls_5 rfl hl (by decide) rfl (fun ls hl => ?_)
  refine lv_aload_n hx hb dX3_falls_6 rfl (lv_at hl 1 rfl) ?_
  refine lv_iload_n hx hb dX3_falls_7 rfl (lv_at hl 3 rfl) ?_
  refine q_callV (As := [.int v]) (rs := []) hC (c_X3_requireWind_ok l D T x wa fl tf tb v h1 h2) q_no_st q_no_at (cwV 1 hts gX3_falls_X3_requireWind rfl rfl rfl (by decide +kernel) ⟨Nat.le_of_ble_eq_true rfl, Nat.le_of_ble_eq_true rfl⟩) (va_recv hK hP (ci := 4) (q0 := 0) rfl rfl) hK hP hD hS hA (q_mask [true, false, false, false, false, false] _) rfl hl.1 rfl (Nat.le_of_ble_eq_true rfl) dX3_falls_8 ⟨(Nat.le_of_ble_eq_true rfl), (Nat.le_of_ble_eq_true rfl)⟩ (fun v9 C9 H locs hp hP hD hS => ?_)
  obtain ⟨rfl, rfl⟩ := hp
  have hP : va_P D vwCl ([q_xc x wa fl tf tb, q_fc fl al u, q_ac al md ar n, q_wc wa len wi ja, q_ia T wi 10 wf, q_ia T ja k ju] ++ q_tl (T 1) n ar ad F) H := q_P_perm (q_mrg_perm [true, false, false, false, false, false] _ _) hP
  have hD : va_D A ([q_xc x wa fl tf tb, q_fc fl al u, q_ac al md ar n, q_wc wa len wi ja, q_ia T wi 10 wf, q_ia T ja k ju] ++ q_tl (T 1) n ar ad F) := q_D_perm (q_mrg_perm [true, false, false, false, false, false] _ _) hD
  have hP : va_P D vwCl ([q_bc (ad i) (F i), q_xc x wa fl tf tb, q_fc fl al u, q_ac al md ar n, q_wc wa len wi ja, q_ia T wi 10 wf, q_ia T ja k ju, q_arc (T 1) n ar ad] ++ q_pl ((List.range n).erase i) ad F) H := q_P_perm (q_tlo _ hi rfl) hP
  have hD : va_D A ([q_bc (ad i) (F i), q_xc x wa fl tf tb, q_fc fl al u, q_ac al md ar n, q_wc wa len wi ja, q_ia T wi 10 wf, q_ia T ja k ju, q_arc (T 1) n ar ad] ++ q_pl ((List.range n).erase i) ad F) := q_D_perm (q_tlo _ hi rfl) hD
  refine lv_aload_n hx hb dX3_falls_11 rfl (lv_at hl 0 rfl) ?_
  refine lv_iload_n hx hb dX3_falls_12 rfl (lv_at hl 3 rfl) ?_
  refine q_callV (As := [.int v]) (rs := []) hC (c_X0_heel l D T (ad i) (F i) v) q_no_st q_no_at (cwV 1 hts gX3_falls_X0_heel rfl rfl rfl (by decide +kernel) ⟨Nat.le_of_ble_eq_true rfl, Nat.le_of_ble_eq_true rfl⟩) (va_recv hK hP (ci := 1) (q0 := 0) rfl rfl) hK hP hD hS hA (q_mask [true, false, false, false, false, false, false, false] _) rfl hl.1 rfl (Nat.le_of_ble_eq_true rfl) dX3_falls_13 ⟨(Nat.le_of_ble_eq_true rfl), (Nat.le_of_ble_eq_true rfl)⟩ (fun v9 C9 H locs hp hP hD hS => ?_)
  obtain ⟨rfl, rfl⟩ := hp
  have hP : va_P D vwCl ([q_bc (ad i) (F i), q_xc x wa fl tf tb, q_fc fl al u, q_ac al md ar n, q_wc wa len wi ja, q_ia T wi 10 wf, q_ia T ja k ju, q_arc (T 1) n ar ad] ++ q_pl ((List.range n).erase i) ad F) H := q_P_perm (q_mrg_perm [true, false, false, false, false, false, false, false] _ _) hP
  have hD : va_D A ([q_bc (ad i) (F i), q_xc x wa fl tf tb, q_fc fl al u, q_ac al md ar n, q_wc wa len wi ja, q_ia T wi 10 wf, q_ia T ja k ju, q_arc (T 1) n ar ad] ++ q_pl ((List.range n).erase i) ad F) := q_D_perm (q_mrg_perm [true, false, false, false, false, false, false, false] _ _) hD
  refine lv_bipush (v := 30) hx hb dX3_falls_16 (by decide) ?_
  refine lv_icmp_le (tgt := 25) hx hb dX3_falls_18 (by decide) (fun c_18 => ?_) (fun c_18 => ?_)
  · refine lv_iconst (v := 0) hx hb dX3_falls_25 (by decide) ?_
    have hP : va_P D vwCl ([q_xc x wa fl tf tb, q_fc fl al u, q_ac al md ar n, q_wc wa len wi ja, q_ia T wi 10 wf, q_ia T ja k ju] ++ q_tl (T 1) n ar ad F) H := q_P_perm (q_tls [q_xc x wa fl tf tb, q_fc fl al u, q_ac al md ar n, q_wc wa len wi ja, q_ia T wi 10 wf, q_ia T ja k ju] hi (F := F) (q_up_id F i)) hP
    have hD : va_D A ([q_xc x wa fl tf tb, q_fc fl al u, q_ac al md ar n, q_wc wa len wi ja, q_ia T wi 10 wf, q_ia T ja k ju] ++ q_tl (T 1) n ar ad F) := q_D_perm (q_tls [q_xc x wa fl tf tb, q_fc fl al u, q_ac al md ar n, q_wc wa len wi ja, q_ia T wi 10 wf, q_ia T ja k ju] hi (F := F) (q_up_id F i)) hD
    exact q_zret hx hb hr hlocks hP hK hD hS rfl (Nat.le_of_ble_eq_true rfl) (Nat.le_of_ble_eq_true rfl) dX3_falls_26 ⟨by simp only [if_pos c_18], rfl⟩
  · refine lv_iconst (v := 1) hx hb dX3_falls_21 (by decide) ?_
    refine lv_goto (tgt := 26) hx hb dX3_falls_22 (by decide) ?_
    have hP : va_P D vwCl ([q_xc x wa fl tf tb, q_fc fl al u, q_ac al md ar n, q_wc wa len wi ja, q_ia T wi 10 wf, q_ia T ja k ju] ++ q_tl (T 1) n ar ad F) H := q_P_perm (q_tls [q_xc x wa fl tf tb, q_fc fl al u, q_ac al md ar n, q_wc wa len wi ja, q_ia T wi 10 wf, q_ia T ja k ju] hi (F := F) (q_up_id F i)) hP
    have hD : va_D A ([q_xc x wa fl tf tb, q_fc fl al u, q_ac al md ar n, q_wc wa len wi ja, q_ia T wi 10 wf, q_ia T ja k ju] ++ q_tl (T 1) n ar ad F) := q_D_perm (q_tls [q_xc x wa fl tf tb, q_fc fl al u, q_ac al md ar n, q_wc wa len wi ja, q_ia T wi 10 wf, q_ia T ja k ju] hi (F := F) (q_up_id F i)) hD
    exact q_zret hx hb hr hlocks hP hK hD hS rfl (Nat.le_of_ble_eq_true rfl) (Nat.le_of_ble_eq_true rfl) dX3_falls_26 ⟨by simp only [if_neg c_18], rfl⟩
abbrev rmX3_mean : Room := { frames := 4, cells := 0, slots := 0, locals := 86 }
set_option maxHeartbeats 1000000 in
set_option maxRecDepth 100000 in
theorem c_X3_mean_ok (l : Launch) (D : va_G) (T : Nat → ClassId) (x tf tb fl al ar n : Nat) (md : Int32) (u : Nat → Int32) (ad : Nat → Nat) (F : Nat → Nat → Int32) (hn : n ≤ 8) (wa wi ja k mk : Nat) (len : Int32) (ju wf : Nat → Int32) (hk : k ≤ 3) (hm : u 0 = nI mk) (hmk : mk < 2 ^ 31) (hle : ∀ b, b < n → ∃ m, m ≤ 9 ∧ F b 2 = nI m) : q_M l D (q_ty T) yX3_mean wsX3_mean rmX3_mean [.ref x] ([q_xc x wa fl tf tb, q_fc fl al u, q_ac al md ar n, q_wc wa len wi ja, q_ia T wi 10 wf, q_ia T ja k ju] ++ q_tl (T 1) n ar ad F) q_no (q_is (some (.double (qMean (q_sum (dCol F 2) n) n))) ([q_xc x wa fl tf tb, q_fc fl al u, q_ac al md ar n, q_wc wa len wi ja, q_ia T wi 10 wf, q_ia T ja k ju] ++ q_tl (T 1) n ar ad F)) := by
  refine q_start (cc := cX3_mean) (maxL := 2) (ret := (some .double)) (by decide) rfl (Nat.le_of_ble_eq_true rfl) ?_
  intro p e s m args below meth c A H locs hx hb hr hts hown hlocks hml hnm hP hK hD hS hA hG ls hl
  have hown : s.vm.findClass RX3 = some m.cls := hown
  have hC : CallFix p m c cX3_mean 2 s args wsX3_mean RX3 := ⟨hx, hb, hml, hown, hts⟩
  have iX3 : ∀ w ∈ wsX30, w ∈ wsX3_mean := by decide +kernel
  have iX1 : ∀ w ∈ wsX10, w ∈ wsX3_mean := by decide +kernel
  have hl : lv_has ls 2 [(0, .ref x)] := hl
  refine lv_aload_n hx hb dX3_mean_0 rfl (lv_at hl 0 rfl) ?_
  refine va_get (D := D) (ci := 4) (v := .ref fl) (C := RX3) (T := TX3) (N := 4) hx hb hts iX3 hown hK hP 0 rfl rfl 1 (by decide) (hts (.fieldLink RX3 19 "ToyRegatta" "fleet" "LToyRegatta$Fleet;") (by decide +kernel)) (fun _ h9 => h9) rfl dX3_mean_1 ?_
  refine va_get (D := D) (ci := 2) (v := .ref al) (C := RX1) (T := TX1) (N := 5) hx hb hts iX1 hown hK hP 1 rfl rfl 0 (by decide) (hts (.fieldLink RX3 66 "ToyRegatta$Fleet" "boats" "Ljava/util/ArrayList;") (by decide +kernel)) (fun _ h9 => h9) rfl dX3_mean_4 ?_
  refine q_callV (As := []) (rs := []) hC (c_AL_size l D T al ar n md) q_no_st q_no_at (cwV 0 hts gX3_mean_Jx4a65c_size_8abf5 rfl rfl rfl (by decide +kernel) ⟨Nat.le_of_ble_eq_true rfl, Nat.le_of_ble_eq_true rfl⟩) (va_recv hK hP (ci := 0) (q0 := 2) rfl rfl) hK hP hD hS hA (q_mask [false, false, true, false, false, false] _) rfl hl.1 rfl (Nat.le_of_ble_eq_true rfl) dX3_mean_7 ⟨(Nat.le_of_ble_eq_true rfl), (Nat.le_of_ble_eq_true rfl)⟩ (fun v9 C9 H locs hp hP hD hS => ?_)
  obtain ⟨rfl, rfl⟩ := hp
  have hP : va_P D vwCl ([q_xc x wa fl tf tb, q_fc fl al u, q_ac al md ar n, q_wc wa len wi ja, q_ia T wi 10 wf, q_ia T ja k ju] ++ q_tl (T 1) n ar ad F) H := q_P_perm (q_mrg_perm [false, false, true, false, false, false] _ _) hP
  have hD : va_D A ([q_xc x wa fl tf tb, q_fc fl al u, q_ac al md ar n, q_wc wa len wi ja, q_ia T wi 10 wf, q_ia T ja k ju] ++ q_tl (T 1) n ar ad F) := q_D_perm (q_mrg_perm [false, false, true, false, false, false] _ _) hD
  refine lv_istore_n (lv' := [(1, .int (nI n)), (0, .ref x)]) hx hb dX3_mean_10 rfl hl (by decide) rfl (fun ls hl => ?_)
  refine lv_iload_n hx hb dX3_mean_11 rfl (lv_at hl 0 rfl) ?_
  refine lv_if_ne (tgt := 17) hx hb dX3_mean_12 (by decide) (fun c_12 => ?_) (fun c_12 => ?_)
  · refine lv_aload_n hx hb dX3_mean_17 rfl (lv_at hl 1 rfl) ?_
    refine va_get (D := D) (ci := 4) (v := .ref fl) (C := RX3) (T := TX3) (N := 4) hx hb hts iX3 hown hK hP 0 rfl rfl 1 (by decide) (hts (.fieldLink RX3 19 "ToyRegatta" "fleet" "LToyRegatta$Fleet;") (by decide +kernel)) (fun _ h9 => h9) rfl dX3_mean_18 ?_
    refine q_callV (As := []) (rs := []) hC (c_X1_allLead l D T fl al ar n md u ad F hn ) q_no_st q_no_at (cwV 0 hts gX3_mean_X1_allLead rfl rfl rfl (by decide +kernel) ⟨Nat.le_of_ble_eq_true rfl, Nat.le_of_ble_eq_true rfl⟩) (va_recv hK hP (ci := 2) (q0 := 1) rfl rfl) hK hP hD hS hA (q_tmask [false, true, true, false, false, false] [q_xc x wa fl tf tb, q_fc fl al u, q_ac al md ar n, q_wc wa len wi ja, q_ia T wi 10 wf, q_ia T ja k ju] (q_tl (T 1) n ar ad F)) rfl hl.1 rfl (Nat.le_of_ble_eq_true rfl) dX3_mean_21 ⟨(Nat.le_of_ble_eq_true rfl), (Nat.le_of_ble_eq_true rfl)⟩ (fun v9 C9 H locs hp hP hD hS => ?_)
    obtain ⟨rfl, rfl⟩ := hp
    have hP : va_P D vwCl ([q_xc x wa fl tf tb, q_fc fl al u, q_ac al md ar n, q_wc wa len wi ja, q_ia T wi 10 wf, q_ia T ja k ju] ++ q_tl (T 1) n ar ad F) H := q_P_perm (q_tback [false, true, true, false, false, false] [q_fc fl al u, q_ac al md ar n] [q_xc x wa fl tf tb, q_wc wa len wi ja, q_ia T wi 10 wf, q_ia T ja k ju] (q_tl (T 1) n ar ad F)) hP
    have hD : va_D A ([q_xc x wa fl tf tb, q_fc fl al u, q_ac al md ar n, q_wc wa len wi ja, q_ia T wi 10 wf, q_ia T ja k ju] ++ q_tl (T 1) n ar ad F) := q_D_perm (q_tback [false, true, true, false, false, false] [q_fc fl al u, q_ac al md ar n] [q_xc x wa fl tf tb, q_wc wa len wi ja, q_ia T wi 10 wf, q_ia T ja k ju] (q_tl (T 1) n ar ad F)) hD
    refine lv_i2d hx hb dX3_mean_24 ?_
    refine lv_iload_n hx hb dX3_mean_25 rfl (lv_at hl 0 rfl) ?_
    refine lv_i2d hx hb dX3_mean_26 ?_
    refine lv_ddiv hx hb dX3_mean_27 (q_mean_n hn c_12 hle) ?_
    exact q_dret hx hb hr hlocks hP hK hD hS (Nat.le_of_ble_eq_true rfl) (Nat.le_of_ble_eq_true rfl) dX3_mean_28 ⟨by simp only [qMean, if_neg c_12], rfl⟩
  · refine lv_dconst0 hx hb dX3_mean_15 ?_
    exact q_dret hx hb hr hlocks hP hK hD hS (Nat.le_of_ble_eq_true rfl) (Nat.le_of_ble_eq_true rfl) dX3_mean_16 ⟨by simp only [qMean, if_pos c_12], rfl⟩
