
theorem q_tmask1 {α : Type} (m : List Bool) (w t1 t2 : List α) : (w ++ (t1 ++ t2)).Perm ((q_sel m w ++ t1) ++ (q_rst m w ++ t2)) := by
  have h := q_mask m w
  refine (h.append_right (t1 ++ t2)).trans (q_pc fun _ a => ?_)
  simp only [List.count_append]
  omega
theorem q_tback1 {α : Type} (m : List Bool) (c r t1 t2 : List α) : ((c ++ t1) ++ (r ++ t2)).Perm (q_mrg m c r ++ (t1 ++ t2)) := by
  refine List.Perm.trans ?_ ((q_mrg_perm m c r).append_right (t1 ++ t2))
  refine q_pc fun _ a => ?_
  simp only [List.count_append]
  omega
theorem q_newt {α : Type} (L t : List α) (c : α) : ((L ++ t) ++ [c]).Perm ((L ++ [c]) ++ t) := by
  refine q_pc fun _ a => ?_
  simp only [List.count_append]
  omega
theorem q_tl2o (X : va_W) {cO : ClassId} {n ar br : Nat} (h0 : 0 < n) {ad bd : Nat → Nat} {F G : Nat → Nat → Int32} :
    (X ++ (q_tl cO n ar ad F ++ q_tl cO n br bd G)).Perm ((X ++ [q_arc cO n ar ad, q_arc cO n br bd]) ++ (q_pl (List.range n) ad F ++ q_pl (List.range n) bd G)) := by
  rw [q_tl_pos h0, q_tl_pos h0]
  refine q_pc fun _ a => ?_
  simp only [List.count_append, List.count_cons, List.count_nil]
  omega
theorem q_pl_up {n : Nat} {ad : Nat → Nat} {F : Nat → Nat → Int32} {b : Nat} {r : Nat → Int32} : q_pl (List.range (n + 1)) (va_up ad n b) (va_up F n r) = q_pl (List.range n) ad F ++ [q_bc b r] := by
  unfold q_pl
  rw [List.range_succ, List.map_append]
  have h1 : (List.range n).map (fun i => q_bc (va_up ad n b i) (va_up F n r i)) = (List.range n).map (fun i => q_bc (ad i) (F i)) := by
    refine List.map_congr_left fun i hi => ?_
    have hi2 := List.mem_range.mp hi
    simp only [va_up, if_neg (show ¬ i = n by omega)]
  rw [h1]
  simp [va_up]
theorem q_tl_up {cO : ClassId} {n ar : Nat} {ad : Nat → Nat} {F : Nat → Nat → Int32} {b : Nat} {r : Nat → Int32} : (q_arc cO (n + 1) ar (va_up ad n b) :: (q_pl (List.range n) ad F ++ [q_bc b r])) = q_tl cO (n + 1) ar (va_up ad n b) (va_up F n r) := by
  rw [q_tl_pos (by omega), q_pl_up]

abbrev rmX3_when : Room := { frames := 7, cells := 0, slots := 0, locals := 156 }
set_option maxHeartbeats 1000000 in
set_option maxRecDepth 100000 in
theorem c_X3_when_no (l : Launch) (D : va_G) (T : Nat → ClassId) (x tf tb fl al ar n ta br : Nat) (md me : Int32) (u v : Nat → Int32) (ad bd : Nat → Nat) (F K : Nat → Nat → Int32) (hn : n ≤ 8) (wa wi ja k mk : Nat) (len : Int32) (ju wf : Nat → Int32) (hk : k ≤ 3) (hm : u 0 = nI mk) (hmk : mk < 2 ^ 30) (i : Nat) (hi : i < n) (h3 : u 2 = 0) : q_M l D (q_ty T) yX3_when wsX3_when rmX3_when [.ref x, .int (nI i)] ([q_xc x wa fl tf tb, q_fc tf ta v, q_ac ta me br n, q_fc fl al u, q_ac al md ar n, q_wc wa len wi ja, q_ia T wi 10 wf, q_ia T ja k ju] ++ (q_tl (T 1) n br bd K ++ q_tl (T 1) n ar ad F)) q_no (q_is (some (.int (-1))) ([q_xc x wa fl tf tb, q_fc tf ta v, q_ac ta me br n, q_fc fl al u, q_ac al md ar n, q_wc wa len wi ja, q_ia T wi 10 wf, q_ia T ja k ju] ++ (q_tl (T 1) n br bd K ++ q_tl (T 1) n ar ad F))) := by
  refine q_start (cc := cX3_when) (maxL := 2) (ret := (some .int)) (by decide) rfl (Nat.le_of_ble_eq_true rfl) ?_
  intro p e s m args below meth c A H locs hx hb hr hts hown hlocks hml hnm hP hK hD hS hA hG ls hl
  have hown : s.vm.findClass RX3 = some m.cls := hown
  have hC : CallFix p m c cX3_when 2 s args wsX3_when RX3 := ⟨hx, hb, hml, hown, hts⟩
  have iX3 : ∀ w ∈ wsX30, w ∈ wsX3_when := by decide +kernel
  have iX1 : ∀ w ∈ wsX10, w ∈ wsX3_when := by decide +kernel
  have hl : lv_has ls 2 [(0, .ref x), (1, .int (nI i))] := hl
  refine lv_aload_n hx hb dX3_when_0 rfl (lv_at hl 0 rfl) ?_
  refine lv_iload_n hx hb dX3_when_1 rfl (lv_at hl 1 rfl) ?_
  refine q_callV (As := [.int (nI i)]) (rs := []) hC (c_X3_requireBoat_ok l D T x wa fl tf tb al ar n md u hn i hi) q_no_st q_no_at (cwV 1 hts gX3_when_X3_requireBoat rfl rfl rfl (by decide +kernel) ⟨Nat.le_of_ble_eq_true rfl, Nat.le_of_ble_eq_true rfl⟩) (va_recv hK hP (ci := 4) (q0 := 0) rfl rfl) hK hP hD hS hA (q_mask [true, false, false, true, true, false, false, false] _) rfl hl.1 rfl (Nat.le_of_ble_eq_true rfl) dX3_when_2 ⟨(Nat.le_of_ble_eq_true rfl), (Nat.le_of_ble_eq_true rfl)⟩ (fun v9 C9 H locs hp hP hD hS => ?_)
  obtain ⟨rfl, rfl⟩ := hp
  have hP : va_P D vwCl ([q_xc x wa fl tf tb, q_fc tf ta v, q_ac ta me br n, q_fc fl al u, q_ac al md ar n, q_wc wa len wi ja, q_ia T wi 10 wf, q_ia T ja k ju] ++ (q_tl (T 1) n br bd K ++ q_tl (T 1) n ar ad F)) H := q_P_perm (q_mrg_perm [true, false, false, true, true, false, false, false] _ _) hP
  have hD : va_D A ([q_xc x wa fl tf tb, q_fc tf ta v, q_ac ta me br n, q_fc fl al u, q_ac al md ar n, q_wc wa len wi ja, q_ia T wi 10 wf, q_ia T ja k ju] ++ (q_tl (T 1) n br bd K ++ q_tl (T 1) n ar ad F)) := q_D_perm (q_mrg_perm [true, false, false, true, true, false, false, false] _ _) hD
  refine lv_aload_n hx hb dX3_when_5 rfl (lv_at hl 0 rfl) ?_
  refine va_get (D := D) (ci := 4) (v := .ref fl) (C := RX3) (T := TX3) (N := 4) hx hb hts iX3 hown hK hP 0 rfl rfl 1 (by decide) (hts (.fieldLink RX3 19 "ToyRegatta" "fleet" "LToyRegatta$Fleet;") (by decide +kernel)) (fun _ h9 => h9) rfl dX3_when_6 ?_
  refine va_get (D := D) (ci := 2) (v := .int (u 2)) (C := RX1) (T := TX1) (N := 5) hx hb hts iX1 hown hK hP 3 rfl rfl 3 (by decide) (hts (.fieldLink RX3 168 "ToyRegatta$Fleet" "racing" "Z") (by decide +kernel)) (fun _ h9 => h9) rfl dX3_when_9 ?_
  refine lv_if_ne (tgt := 17) hx hb dX3_when_12 (by decide) (fun c_12 => absurd h3 c_12) (fun c_12 => ?_)
  refine lv_iconst (v := (-1)) hx hb dX3_when_15 (by decide) ?_
  exact q_iret hx hb hr hlocks hP hK hD hS (Nat.le_of_ble_eq_true rfl) (Nat.le_of_ble_eq_true rfl) dX3_when_16 ⟨rfl, rfl⟩
set_option maxHeartbeats 1000000 in
set_option maxRecDepth 100000 in
theorem c_X3_when_ok (l : Launch) (D : va_G) (T : Nat → ClassId) (x tf tb fl al ar n ta br : Nat) (md me : Int32) (u v : Nat → Int32) (ad bd : Nat → Nat) (F K : Nat → Nat → Int32) (hn : n ≤ 8) (wa wi ja k mk : Nat) (len : Int32) (ju wf : Nat → Int32) (hk : k ≤ 3) (hm : u 0 = nI mk) (hmk : mk < 2 ^ 30) (i : Nat) (hi : i < n) (hz : mHz F n) (h3 : ¬ u 2 = 0) (hF10 : ∀ b, b < n → F b 10 = 0 ∨ F b 10 = 1) (hu2 : u 2 = 0 ∨ u 2 = 1) : q_M l D (q_ty T) yX3_when wsX3_when rmX3_when [.ref x, .int (nI i)] ([q_xc x wa fl tf tb, q_fc tf ta v, q_ac ta me br n, q_fc fl al u, q_ac al md ar n, q_wc wa len wi ja, q_ia T wi 10 wf, q_ia T ja k ju] ++ (q_tl (T 1) n br bd K ++ q_tl (T 1) n ar ad F)) q_no (q_is (some (.int ((mRun wf ju k len n 60 (F, u)).1 i 6))) ([q_xc x wa fl tf tb, q_fc tf ta ((mRun wf ju k len n 60 (F, u)).2), q_ac ta me br n, q_fc fl al u, q_ac al md ar n, q_wc wa len wi ja, q_ia T wi 10 wf, q_ia T ja k ju] ++ (q_tl (T 1) n br bd ((mRun wf ju k len n 60 (F, u)).1) ++ q_tl (T 1) n ar ad F))) := by
  refine q_start (cc := cX3_when) (maxL := 2) (ret := (some .int)) (by decide) rfl (Nat.le_of_ble_eq_true rfl) ?_
  intro p e s m args below meth c A H locs hx hb hr hts hown hlocks hml hnm hP hK hD hS hA hG ls hl
  have hown : s.vm.findClass RX3 = some m.cls := hown
  have hC : CallFix p m c cX3_when 2 s args wsX3_when RX3 := ⟨hx, hb, hml, hown, hts⟩
  have iX3 : ∀ w ∈ wsX30, w ∈ wsX3_when := by decide +kernel
  have iX1 : ∀ w ∈ wsX10, w ∈ wsX3_when := by decide +kernel
  have hl : lv_has ls 2 [(0, .ref x), (1, .int (nI i))] := hl
  refine lv_aload_n hx hb dX3_when_0 rfl (lv_at hl 0 rfl) ?_
  refine lv_iload_n hx hb dX3_when_1 rfl (lv_at hl 1 rfl) ?_
  refine q_callV (As := [.int (nI i)]) (rs := []) hC (c_X3_requireBoat_ok l D T x wa fl tf tb al ar n md u hn i hi) q_no_st q_no_at (cwV 1 hts gX3_when_X3_requireBoat rfl rfl rfl (by decide +kernel) ⟨Nat.le_of_ble_eq_true rfl, Nat.le_of_ble_eq_true rfl⟩) (va_recv hK hP (ci := 4) (q0 := 0) rfl rfl) hK hP hD hS hA (q_mask [true, false, false, true, true, false, false, false] _) rfl hl.1 rfl (Nat.le_of_ble_eq_true rfl) dX3_when_2 ⟨(Nat.le_of_ble_eq_true rfl), (Nat.le_of_ble_eq_true rfl)⟩ (fun v9 C9 H locs hp hP hD hS => ?_)
  obtain ⟨rfl, rfl⟩ := hp
  have hP : va_P D vwCl ([q_xc x wa fl tf tb, q_fc tf ta v, q_ac ta me br n, q_fc fl al u, q_ac al md ar n, q_wc wa len wi ja, q_ia T wi 10 wf, q_ia T ja k ju] ++ (q_tl (T 1) n br bd K ++ q_tl (T 1) n ar ad F)) H := q_P_perm (q_mrg_perm [true, false, false, true, true, false, false, false] _ _) hP
  have hD : va_D A ([q_xc x wa fl tf tb, q_fc tf ta v, q_ac ta me br n, q_fc fl al u, q_ac al md ar n, q_wc wa len wi ja, q_ia T wi 10 wf, q_ia T ja k ju] ++ (q_tl (T 1) n br bd K ++ q_tl (T 1) n ar ad F)) := q_D_perm (q_mrg_perm [true, false, false, true, true, false, false, false] _ _) hD
  refine lv_aload_n hx hb dX3_when_5 rfl (lv_at hl 0 rfl) ?_
  refine va_get (D := D) (ci := 4) (v := .ref fl) (C := RX3) (T := TX3) (N := 4) hx hb hts iX3 hown hK hP 0 rfl rfl 1 (by decide) (hts (.fieldLink RX3 19 "ToyRegatta" "fleet" "LToyRegatta$Fleet;") (by decide +kernel)) (fun _ h9 => h9) rfl dX3_when_6 ?_
  refine va_get (D := D) (ci := 2) (v := .int (u 2)) (C := RX1) (T := TX1) (N := 5) hx hb hts iX1 hown hK hP 3 rfl rfl 3 (by decide) (hts (.fieldLink RX3 168 "ToyRegatta$Fleet" "racing" "Z") (by decide +kernel)) (fun _ h9 => h9) rfl dX3_when_9 ?_
  refine lv_if_ne (tgt := 17) hx hb dX3_when_12 (by decide) (fun c_12 => ?_) (fun c_12 => absurd c_12 h3)
  refine lv_aload_n hx hb dX3_when_17 rfl (lv_at hl 0 rfl) ?_
  refine va_get (D := D) (ci := 4) (v := .ref tf) (C := RX3) (T := TX3) (N := 4) hx hb hts iX3 hown hK hP 0 rfl rfl 2 (by decide) (hts (.fieldLink RX3 23 "ToyRegatta" "trialFleet" "LToyRegatta$Fleet;") (by decide +kernel)) (fun _ h9 => h9) rfl dX3_when_18 ?_
  refine lv_aload_n hx hb dX3_when_21 rfl (lv_at hl 0 rfl) ?_
  refine va_get (D := D) (ci := 4) (v := .ref fl) (C := RX3) (T := TX3) (N := 4) hx hb hts iX3 hown hK hP 0 rfl rfl 1 (by decide) (hts (.fieldLink RX3 19 "ToyRegatta" "fleet" "LToyRegatta$Fleet;") (by decide +kernel)) (fun _ h9 => h9) rfl dX3_when_22 ?_
  refine q_callV (As := [.ref fl]) (rs := []) hC (c_X1_copyFrom l D T tf ta br fl al ar n me md v u bd ad K F hn hF10 hu2) q_no_st q_no_at (cwV 1 hts gX3_when_X1_copyFrom rfl rfl rfl (by decide +kernel) ⟨Nat.le_of_ble_eq_true rfl, Nat.le_of_ble_eq_true rfl⟩) (va_recv hK hP (ci := 2) (q0 := 1) rfl rfl) hK hP hD hS hA (q_tmask [false, true, true, true, true, false, false, false] [q_xc x wa fl tf tb, q_fc tf ta v, q_ac ta me br n, q_fc fl al u, q_ac al md ar n, q_wc wa len wi ja, q_ia T wi 10 wf, q_ia T ja k ju] ((q_tl (T 1) n br bd K ++ q_tl (T 1) n ar ad F))) rfl hl.1 rfl (Nat.le_of_ble_eq_true rfl) dX3_when_25 ⟨(Nat.le_of_ble_eq_true rfl), (Nat.le_of_ble_eq_true rfl)⟩ (fun v9 C9 H locs hp hP hD hS => ?_)
  obtain ⟨rfl, rfl⟩ := hp
  have hP : va_P D vwCl ([q_xc x wa fl tf tb, q_fc tf ta u, q_ac ta me br n, q_fc fl al u, q_ac al md ar n, q_wc wa len wi ja, q_ia T wi 10 wf, q_ia T ja k ju] ++ (q_tl (T 1) n br bd F ++ q_tl (T 1) n ar ad F)) H := q_P_perm (q_tback [false, true, true, true, true, false, false, false] [q_fc tf ta u, q_ac ta me br n, q_fc fl al u, q_ac al md ar n] [q_xc x wa fl tf tb, q_wc wa len wi ja, q_ia T wi 10 wf, q_ia T ja k ju] ((q_tl (T 1) n br bd F ++ q_tl (T 1) n ar ad F))) hP
  have hD : va_D A ([q_xc x wa fl tf tb, q_fc tf ta u, q_ac ta me br n, q_fc fl al u, q_ac al md ar n, q_wc wa len wi ja, q_ia T wi 10 wf, q_ia T ja k ju] ++ (q_tl (T 1) n br bd F ++ q_tl (T 1) n ar ad F)) := q_D_perm (q_tback [false, true, true, true, true, false, false, false] [q_fc tf ta u, q_ac ta me br n, q_fc fl al u, q_ac al md ar n] [q_xc x wa fl tf tb, q_wc wa len wi ja, q_ia T wi 10 wf, q_ia T ja k ju] ((q_tl (T 1) n br bd F ++ q_tl (T 1) n ar ad F))) hD
  refine lv_aload_n hx hb dX3_when_28 rfl (lv_at hl 0 rfl) ?_
  refine va_get (D := D) (ci := 4) (v := .ref tf) (C := RX3) (T := TX3) (N := 4) hx hb hts iX3 hown hK hP 0 rfl rfl 2 (by decide) (hts (.fieldLink RX3 23 "ToyRegatta" "trialFleet" "LToyRegatta$Fleet;") (by decide +kernel)) (fun _ h9 => h9) rfl dX3_when_29 ?_
  refine lv_aload_n hx hb dX3_when_32 rfl (lv_at hl 0 rfl) ?_
  refine va_get (D := D) (ci := 4) (v := .ref wa) (C := RX3) (T := TX3) (N := 4) hx hb hts iX3 hown hK hP 0 rfl rfl 0 (by decide) (hts (.fieldLink RX3 10 "ToyRegatta" "waters" "LToyRegatta$Waters;") (by decide +kernel)) (fun _ h9 => h9) rfl dX3_when_33 ?_
  refine q_callV (As := [.ref wa]) (rs := []) hC (c_X1_finish l D T tf ta br n me u bd F hn wa wi ja k mk len ju wf hk hm hmk hz) q_no_st q_no_at (cwV 1 hts gX3_when_X1_finish rfl rfl rfl (by decide +kernel) ⟨Nat.le_of_ble_eq_true rfl, Nat.le_of_ble_eq_true rfl⟩) (va_recv hK hP (ci := 2) (q0 := 1) rfl rfl) hK hP hD hS hA (q_tmask1 [false, true, true, false, false, true, true, true] [q_xc x wa fl tf tb, q_fc tf ta u, q_ac ta me br n, q_fc fl al u, q_ac al md ar n, q_wc wa len wi ja, q_ia T wi 10 wf, q_ia T ja k ju] (q_tl (T 1) n br bd F) (q_tl (T 1) n ar ad F)) rfl hl.1 rfl (Nat.le_of_ble_eq_true rfl) dX3_when_36 ⟨(Nat.le_of_ble_eq_true rfl), (Nat.le_of_ble_eq_true rfl)⟩ (fun v9 C9 H locs hp hP hD hS => ?_)
  obtain ⟨rfl, rfl⟩ := hp
  have hP : va_P D vwCl ([q_xc x wa fl tf tb, q_fc tf ta ((mRun wf ju k len n 60 (F, u)).2), q_ac ta me br n, q_fc fl al u, q_ac al md ar n, q_wc wa len wi ja, q_ia T wi 10 wf, q_ia T ja k ju] ++ (q_tl (T 1) n br bd ((mRun wf ju k len n 60 (F, u)).1) ++ q_tl (T 1) n ar ad F)) H := q_P_perm (q_tback1 [false, true, true, false, false, true, true, true] [q_fc tf ta ((mRun wf ju k len n 60 (F, u)).2), q_ac ta me br n, q_wc wa len wi ja, q_ia T wi 10 wf, q_ia T ja k ju] [q_xc x wa fl tf tb, q_fc fl al u, q_ac al md ar n] (q_tl (T 1) n br bd ((mRun wf ju k len n 60 (F, u)).1)) (q_tl (T 1) n ar ad F)) hP
  have hD : va_D A ([q_xc x wa fl tf tb, q_fc tf ta ((mRun wf ju k len n 60 (F, u)).2), q_ac ta me br n, q_fc fl al u, q_ac al md ar n, q_wc wa len wi ja, q_ia T wi 10 wf, q_ia T ja k ju] ++ (q_tl (T 1) n br bd ((mRun wf ju k len n 60 (F, u)).1) ++ q_tl (T 1) n ar ad F)) := q_D_perm (q_tback1 [false, true, true, false, false, true, true, true] [q_fc tf ta ((mRun wf ju k len n 60 (F, u)).2), q_ac ta me br n, q_wc wa len wi ja, q_ia T wi 10 wf, q_ia T ja k ju] [q_xc x wa fl tf tb, q_fc fl al u, q_ac al md ar n] (q_tl (T 1) n br bd ((mRun wf ju k len n 60 (F, u)).1)) (q_tl (T 1) n ar ad F)) hD
  refine lv_aload_n hx hb dX3_when_39 rfl (lv_at hl 0 rfl) ?_
  refine va_get (D := D) (ci := 4) (v := .ref tf) (C := RX3) (T := TX3) (N := 4) hx hb hts iX3 hown hK hP 0 rfl rfl 2 (by decide) (hts (.fieldLink RX3 23 "ToyRegatta" "trialFleet" "LToyRegatta$Fleet;") (by decide +kernel)) (fun _ h9 => h9) rfl dX3_when_40 ?_
  refine lv_iload_n hx hb dX3_when_43 rfl (lv_at hl 1 rfl) ?_
  refine q_callV (As := [.int (nI i)]) (rs := []) hC (c_X1_timeOf l D T tf ta br n me ((mRun wf ju k len n 60 (F, u)).2) bd ((mRun wf ju k len n 60 (F, u)).1) hn i hi) q_no_st q_no_at (cwV 1 hts gX3_when_X1_timeOf rfl rfl rfl (by decide +kernel) ⟨Nat.le_of_ble_eq_true rfl, Nat.le_of_ble_eq_true rfl⟩) (va_recv hK hP (ci := 2) (q0 := 1) rfl rfl) hK hP hD hS hA (q_tmask1 [false, true, true, false, false, false, false, false] [q_xc x wa fl tf tb, q_fc tf ta ((mRun wf ju k len n 60 (F, u)).2), q_ac ta me br n, q_fc fl al u, q_ac al md ar n, q_wc wa len wi ja, q_ia T wi 10 wf, q_ia T ja k ju] (q_tl (T 1) n br bd ((mRun wf ju k len n 60 (F, u)).1)) (q_tl (T 1) n ar ad F)) rfl hl.1 rfl (Nat.le_of_ble_eq_true rfl) dX3_when_44 ⟨(Nat.le_of_ble_eq_true rfl), (Nat.le_of_ble_eq_true rfl)⟩ (fun v9 C9 H locs hp hP hD hS => ?_)
  obtain ⟨rfl, rfl⟩ := hp
  have hP : va_P D vwCl ([q_xc x wa fl tf tb, q_fc tf ta ((mRun wf ju k len n 60 (F, u)).2), q_ac ta me br n, q_fc fl al u, q_ac al md ar n, q_wc wa len wi ja, q_ia T wi 10 wf, q_ia T ja k ju] ++ (q_tl (T 1) n br bd ((mRun wf ju k len n 60 (F, u)).1) ++ q_tl (T 1) n ar ad F)) H := q_P_perm (q_tback1 [false, true, true, false, false, false, false, false] [q_fc tf ta ((mRun wf ju k len n 60 (F, u)).2), q_ac ta me br n] [q_xc x wa fl tf tb, q_fc fl al u, q_ac al md ar n, q_wc wa len wi ja, q_ia T wi 10 wf, q_ia T ja k ju] (q_tl (T 1) n br bd ((mRun wf ju k len n 60 (F, u)).1)) (q_tl (T 1) n ar ad F)) hP
  have hD : va_D A ([q_xc x wa fl tf tb, q_fc tf ta ((mRun wf ju k len n 60 (F, u)).2), q_ac ta me br n, q_fc fl al u, q_ac al md ar n, q_wc wa len wi ja, q_ia T wi 10 wf, q_ia T ja k ju] ++ (q_tl (T 1) n br bd ((mRun wf ju k len n 60 (F, u)).1) ++ q_tl (T 1) n ar ad F)) := q_D_perm (q_tback1 [false, true, true, false, false, false, false, false] [q_fc tf ta ((mRun wf ju k len n 60 (F, u)).2), q_ac ta me br n] [q_xc x wa fl tf tb, q_fc fl al u, q_ac al md ar n, q_wc wa len wi ja, q_ia T wi 10 wf, q_ia T ja k ju] (q_tl (T 1) n br bd ((mRun wf ju k len n 60 (F, u)).1)) (q_tl (T 1) n ar ad F)) hD
  exact q_iret hx hb hr hlocks hP hK hD hS (Nat.le_of_ble_eq_true rfl) (Nat.le_of_ble_eq_true rfl) dX3_when_47 ⟨rfl, rfl⟩
theorem dEnter_keep (F : Nat → Nat → Int32) : mKeep F (dEnter F) := fun b => by simp [dEnter, bEnter, upd]
theorem dBegU_0 (u : Nat → Int32) : dBegU u 0 = u 0 := by simp [dBegU, upd]

/-- a boat alone, with z pounds of lead, after so many minutes of a race -/
def dAl (r wf : Nat → Int32) (mk : Nat) (len : Int32) (z : Nat) : Nat → Nat → Int32
  | 0 => bEnter (upd (upd r 2 (nI z)) 4 0)
  | j + 1 => bIn (bSail (dAl r wf mk len z j) (wf ((mk + j) % 10))) len (nI (j + 1))
theorem dAl_keep (r wf : Nat → Int32) (mk : Nat) (len : Int32) (z : Nat) : ∀ j, dAl r wf mk len z j 0 = r 0 ∧ dAl r wf mk len z j 2 = nI z
  | 0 => by simp [dAl, bEnter, upd]
  | j + 1 => by
    obtain ⟨h1, h2⟩ := dAl_keep r wf mk len z j
    exact ⟨by rw [dAl, (bIn_keep _ _ _).1, (bSail_keep _ _).1, h1], by rw [dAl, (bIn_keep _ _ _).2.2, (bSail_keep _ _).2.2, h2]⟩
def dAT (r wf : Nat → Int32) (mk : Nat) (len : Int32) (z : Nat) : Int32 := dAl r wf mk len z 60 6
def dAdv (t : Nat → Int32) : Nat → Int32 × Int32
  | 0 => (-1, 0)
  | z + 1 => if t z = -1 then dAdv t z else if (dAdv t z).1 < 0 then (nI z, t z) else if (dAdv t z).2 ≤ t z then dAdv t z else (nI z, t z)
def dATb (rt r wf : Nat → Int32) (mk : Nat) (len : Int32) : Nat → Nat → Int32
  | 0 => rt
  | z + 1 => dAl r wf mk len z 60

theorem q_rot1 {α : Type} (b : α) (X : List α) (c : α) (t : List α) : ((b :: (X ++ [c])) ++ t).Perm ((X ++ [b, c]) ++ t) := by
  refine q_pc fun _ a => ?_
  simp only [List.count_append, List.count_cons, List.count_nil]
  omega
