
theorem q_tmask1 {α : Type} (m : List Bool) (w t1 t2 : List α) : (w ++ (t1 ++ t2)).Perm ((q_sel m w ++ t1) ++ (q_rst m w ++ t2)) := by
  have h := q_mask m w
  refine (h.append_right (t1 ++ t2)).trans (q_pc fun _ a => ?_)
  simp only [List.count_append]
  omega
theorem q_tback1 {α : Type} (m : List Bool) (c r t1 t2 : List α) : ((c ++ t1) ++ (r ++ t2)).Perm (q_mrg m c r ++ (t1 ++ t2)) := by
  refine List.Perm.trans ?_ ((q_mrg_perm m c r).append_right (t1 ++ t2))
  refine q_pc fun _ a => ?_
  simp only [List.count_append]
  omega
theorem q_newt {α : Type} (L t : List α) (c : α) : ((L ++ t) ++ [c]).Perm ((L ++ [c]) ++ t) := by
  refine q_pc fun _ a => ?_
  simp only [List.count_append]
  omega
theorem q_tl2o (X : va_W) {cO : ClassId} {n ar br : Nat} (h0 : 0 < n) {ad bd : Nat → Nat} {F G : Nat → Nat → Int32} :
    (X ++ (q_tl cO n ar ad F ++ q_tl cO n br bd G)).Perm ((X ++ [q_arc cO n ar ad, q_arc cO n br bd]) ++ (q_pl (List.range n) ad F ++ q_pl (List.range n) bd G)) := by
  rw [q_tl_pos h0, q_tl_pos h0]
  refine q_pc fun _ a => ?_
  simp only [List.count_append, List.count_cons, List.count_nil]
  omega
theorem q_pl_up {n : Nat} {ad : Nat → Nat} {F : Nat → Nat → Int32} {b : Nat} {r : Nat → Int32} : q_pl (List.range (n + 1)) (va_up ad n b) (va_up F n r) = q_pl (List.range n) ad F ++ [q_bc b r] := by
  unfold q_pl
  rw [List.range_succ, List.map_append]
  have h1 : (List.range n).map (fun i => q_bc (va_up ad n b i) (va_up F n r i)) = (List.range n).map (fun i => q_bc (ad i) (F i)) := by
    refine List.map_congr_left fun i hi => ?_
    have hi2 := List.mem_range.mp hi
    simp only [va_up, if_neg (show ¬ i = n by omega)]
  rw [h1]
  simp [va_up]
theorem q_tl_up {cO : ClassId} {n ar : Nat} {ad : Nat → Nat} {F : Nat → Nat → Int32} {b : Nat} {r : Nat → Int32} : (q_arc cO (n + 1) ar (va_up ad n b) :: (q_pl (List.range n) ad F ++ [q_bc b r])) = q_tl cO (n + 1) ar (va_up ad n b) (va_up F n r) := by
  rw [q_tl_pos (by omega), q_pl_up]

abbrev rmX3_when : Room := { frames := 7, cells := 0, slots := 0, locals := 156 }
set_option maxHeartbeats 1000000 in
set_option maxRecDepth 100000 in
theorem c_X3_when_no (l : Launch) (D : va_G) (T : Nat → ClassId) (x tf tb fl al ar n ta br : Nat) (md me : Int32) (u v : Nat → Int32) (ad bd : Nat → Nat) (F K : Nat → Nat → Int32) (hn : n ≤ 8) (wa wi ja k mk : Nat) (len : Int32) (ju wf : Nat → Int32) (hk : k ≤ 3) (hm : u 0 = nI mk) (hmk : mk < 2 ^ 30) (i : Nat) (hi : i < n) (h3 : u 2 = 0) : q_M l D (q_ty T) yX3_when wsX3_when rmX3_when [.ref x, .int (nI i)] ([q_xc x wa fl tf tb, q_fc tf ta v, q_ac ta me br n, q_fc fl al u, q_ac al md ar n, q_wc wa len wi ja, q_ia T wi 10 wf, q_ia T ja k ju] ++ (q_tl (T 1) n br bd K ++ q_tl (T 1) n ar ad F)) q_no (q_is (some (.int (-1))) ([q_xc x wa fl tf tb, q_fc tf ta v, q_ac ta me br n, q_fc fl al u, q_ac al md ar n, q_wc wa len wi ja, q_ia T wi 10 wf, q_ia T ja k ju] ++ (q_tl (T 1) n br bd K ++ q_tl (T 1) n ar ad F))) := by
  refine q_start (cc := cX3_when) (maxL := 2) (ret := (some .int)) (by decide) rfl (Nat.le_of_ble_eq_true rfl) ?_
  intro p e s m args below meth c A H locs hx hb hr hts hown hlocks hml hnm hP hK hD hS hA hG ls hl
  have hown : s.vm.findClass RX3 = some m.cls := hown
  have hC : CallFix p m c cX3_when 2 s args wsX3_when RX3 := ⟨hx, hb, hml, hown, hts⟩
  have iX3 : ∀ w ∈ wsX30, w ∈ wsX3_when := by decide +kernel
  have iX1 : ∀ w ∈ wsX10, w ∈ wsX3_when := by decide +kernel
  have hl : lv_has ls 2 [(0, .ref x), (1, .int (nI i))] := hl
  refine lv_aload_n hx hb dX3_when_0 rfl (lv_at hl 0 rfl) ?_
  refine lv_iload_n hx hb dX3_when_1 rfl (lv_at hl 1 rfl) ?_
  refine q_callV (As := [.int (nI i)]) (rs := []) hC (c_X3_requireBoat_ok l D T x wa fl tf tb al ar n md u hn i hi) q_no_st q_no_at (cwV 1 hts gX3_when_X3_requireBoat rfl rfl rfl (by decide +kernel) ⟨Nat.le_of_ble_eq_true rfl, Nat.le_of_ble_eq_true rfl⟩) (va_recv hK hP (ci := 4) (q0 := 0) rfl rfl) hK hP hD hS hA (q_mask [true, false, false, true, true, false, false, false] _) rfl hl.1 rfl (Nat.le_of_ble_eq_true rfl) dX3_when_2 ⟨(Nat.le_of_ble_eq_true rfl), (Nat.le_of_ble_eq_true rfl)⟩ (fun v9 C9 H locs hp hP hD hS => ?_)
  obtain ⟨rfl, rfl⟩ := hp
  have hP : va_P D vwCl ([q_xc x wa fl tf tb, q_fc tf ta v, q_ac ta me br n, q_fc fl al u, q_ac al md ar n, q_wc wa len wi ja, q_ia T wi 10 wf, q_ia T ja k ju] ++ (q_tl (T 1) n br bd K ++ q_tl (T 1) n ar ad F)) H := q_P_perm (q_mrg_perm [true, false, false, true, true, false, false, false] _ _) hP
  have hD : va_D A ([q_xc x wa fl tf tb, q_fc tf ta v, q_ac ta me br n, q_fc fl al u, q_ac al md ar n, q_wc wa len wi ja, q_ia T wi 10 wf, q_ia T ja k ju] ++ (q_tl (T 1) n br bd K ++ q_tl (T 1) n ar ad F)) := q_D_perm (q_mrg_perm [true, false, false, true, true, false, false, false] _ _) hD
  refine lv_aload_n hx hb dX3_when_5 rfl (lv_at hl 0 rfl) ?_
  refine va_get (D := D) (ci := 4) (v := .ref fl) (C := RX3) (T := TX3) (N := 4) hx hb hts iX3 hown hK hP 0 rfl rfl 1 (by decide) (hts (.fieldLink RX3 19 "ToyRegatta" "fleet" "LToyRegatta$Fleet;") (by decide +kernel)) (fun _ h9 => h9) rfl dX3_when_6 ?_
  refine va_get (D := D) (ci := 2) (v := .int (u 2)) (C := RX1) (T := TX1) (N := 5) hx hb hts iX1 hown hK hP 3 rfl rfl 3 (by decide) (hts (.fieldLink RX3 168 "ToyRegatta$Fleet" "racing" "Z") (by decide +kernel)) (fun _ h9 => h9) rfl dX3_when_9 ?_
  refine lv_if_ne (tgt := 17) hx hb dX3_when_12 (by decide) (fun c_12 => absurd h3 c_12) (fun c_12 => ?_)
  refine lv_iconst (v := (-1)) hx hb dX3_when_15 (by decide) ?_
  exact q_iret hx hb hr hlocks hP hK hD hS (Nat.le_of_ble_eq_true rfl) (Nat.le_of_ble_eq_true rfl) dX3_when_16 ⟨rfl, rfl⟩
set_option maxHeartbeats 1000000 in
set_option maxRecDepth 100000 in
theorem c_X3_when_ok (l : Launch) (D : va_G) (T : Nat → ClassId) (x tf tb fl al ar n ta br : Nat) (md me : Int32) (u v : Nat → Int32) (ad bd : Nat → Nat) (F K : Nat → Nat → Int32) (hn : n ≤ 8) (wa wi ja k mk : Nat) (len : Int32) (ju wf : Nat → Int32) (hk : k ≤ 3) (hm : u 0 = nI mk) (hmk : mk < 2 ^ 30) (i : Nat) (hi : i < n) (hz : mHz F n) (h3 : ¬ u 2 = 0) (hF10 : ∀ b, b < n → F b 10 = 0 ∨ F b 10 = 1) (hu2 : u 2 = 0 ∨ u 2 = 1) : q_M l D (q_ty T) yX3_when wsX3_when rmX3_when [.ref x, .int (nI i)] ([q_xc x wa fl tf tb, q_fc tf ta v, q_ac ta me br n, q_fc fl al u, q_ac al md ar n, q_wc wa len wi ja, q_ia T wi 10 wf, q_ia T ja k ju] ++ (q_tl (T 1) n br bd K ++ q_tl (T 1) n ar ad F)) q_no (q_is (some (.int ((mRun wf ju k len n 60 (F, u)).1 i 6))) ([q_xc x wa fl tf tb, q_fc tf ta ((mRun wf ju k len n 60 (F, u)).2), q_ac ta me br n, q_fc fl al u, q_ac al md ar n, q_wc wa len wi ja, q_ia T wi 10 wf, q_ia T ja k ju] ++ (q_tl (T 1) n br bd ((mRun wf ju k len n 60 (F, u)).1) ++ q_tl (T 1) n ar ad F))) := by
  refine q_start (cc := cX3_when) (maxL := 2) (ret := (some .int)) (by decide) rfl (Nat.le_of_ble_eq_true rfl) ?_
  intro p e s m args below meth c A H locs hx hb hr hts hown hlocks hml hnm hP hK hD hS hA hG ls hl
  have hown : s.vm.findClass RX3 = some m.cls := hown
  have hC : CallFix p m c cX3_when 2 s args wsX3_when RX3 := ⟨hx, hb, hml, hown, hts⟩
  have iX3 : ∀ w ∈ wsX30, w ∈ wsX3_when := by decide +kernel
  have iX1 : ∀ w ∈ wsX10, w ∈ wsX3_when := by decide +kernel
  have hl : lv_has ls 2 [(0, .ref x), (1, .int (nI i))] := hl
  refine lv_aload_n hx hb dX3_when_0 rfl (lv_at hl 0 rfl) ?_
  refine lv_iload_n hx hb dX3_when_1 rfl (lv_at hl 1 rfl) ?_
  refine q_callV (As := [.int (nI i)]) (rs := []) hC (c_X3_requireBoat_ok l D T x wa fl tf tb al ar n md u hn i hi) q_no_st q_no_at (cwV 1 hts gX3_when_X3_requireBoat rfl rfl rfl (by decide +kernel) ⟨Nat.le_of_ble_eq_true rfl, Nat.le_of_ble_eq_true rfl⟩) (va_recv hK hP (ci := 4) (q0 := 0) rfl rfl) hK hP hD hS hA (q_mask [true, false, false, true, true, false, false, false] _) rfl hl.1 rfl (Nat.le_of_ble_eq_true rfl) dX3_when_2 ⟨(Nat.le_of_ble_eq_true rfl), (Nat.le_of_ble_eq_true rfl)⟩ (fun v9 C9 H locs hp hP hD hS => ?_)
  obtain ⟨rfl, rfl⟩ := hp
  have hP : va_P D vwCl ([q_xc x wa fl tf tb, q_fc tf ta v, q_ac ta me br n, q_fc fl al u, q_ac al md ar n, q_wc wa len wi ja, q_ia T wi 10 wf, q_ia T ja k ju] ++ (q_tl (T 1) n br bd K ++ q_tl (T 1) n ar ad F)) H := q_P_perm (q_mrg_perm [true, false, false, true, true, false, false, false] _ _) hP
  have hD : va_D A ([q_xc x wa fl tf tb, q_fc tf ta v, q_ac ta me br n, q_fc fl al u, q_ac al md ar n, q_wc wa len wi ja, q_ia T wi 10 wf, q_ia T ja k ju] ++ (q_tl (T 1) n br bd K ++ q_tl (T 1) n ar ad F)) := q_D_perm (q_mrg_perm [true, false, false, true, true, false, false, false] _ _) hD
  refine lv_aload_n hx hb dX3_when_5 rfl (lv_at hl 0 rfl) ?_
  refine va_get (D := D) (ci := 4) (v := .ref fl) (C := RX3) (T := TX3) (N := 4) hx hb hts iX3 hown hK hP 0 rfl rfl 1 (by decide) (hts (.fieldLink RX3 19 "ToyRegatta" "fleet" "LToyRegatta$Fleet;") (by decide +kernel)) (fun _ h9 => h9) rfl dX3_when_6 ?_
  refine va_get (D := D) (ci := 2) (v := .int (u 2)) (C := RX1) (T := TX1) (N := 5) hx hb hts iX1 hown hK hP 3 rfl rfl 3 (by decide) (hts (.fieldLink RX3 168 "ToyRegatta$Fleet" "racing" "Z") (by decide +kernel)) (fun _ h9 => h9) rfl dX3_when_9 ?_
  refine lv_if_ne (tgt := 17) hx hb dX3_when_12 (by decide) (fun c_12 => ?_) (fun c_12 => absurd c_12 h3)
  refine lv_aload_n hx hb dX3_when_17 rfl (lv_at hl 0 rfl) ?_
  refine va_get (D := D) (ci := 4) (v := .ref tf) (C := RX3) (T := TX3) (N := 4) hx hb hts iX3 hown hK hP 0 rfl rfl 2 (by decide) (hts (.fieldLink RX3 23 "ToyRegatta" "trialFleet" "LToyRegatta$Fleet;") (by decide +kernel)) (fun _ h9 => h9) rfl dX3_when_18 ?_
  refine lv_aload_n hx hb dX3_when_21 rfl (lv_at hl 0 rfl) ?_
  refine va_get (D := D) (ci := 4) (v := .ref fl) (C := RX3) (T := TX3) (N := 4) hx hb hts iX3 hown hK hP 0 rfl rfl 1 (by decide) (hts (.fieldLink RX3 19 "ToyRegatta" "fleet" "LToyRegatta$Fleet;") (by decide +kernel)) (fun _ h9 => h9) rfl dX3_when_22 ?_
  refine q_callV (As := [.ref fl]) (rs := []) hC (c_X1_copyFrom l D T tf ta br fl al ar n me md v u bd ad K F hn hF10 hu2) q_no_st q_no_at (cwV 1 hts gX3_when_X1_copyFrom rfl rfl rfl (by decide +kernel) ⟨Nat.le_of_ble_eq_true rfl, Nat.le_of_ble_eq_true rfl⟩) (va_recv hK hP (ci := 2) (q0 := 1) rfl rfl) hK hP hD hS hA (q_tmask [false, true, true, true, true, false, false, false] [q_xc x wa fl tf tb, q_fc tf ta v, q_ac ta me br n, q_fc fl al u, q_ac al md ar n, q_wc wa len wi ja, q_ia T wi 10 wf, q_ia T ja k ju] ((q_tl (T 1) n br bd K ++ q_tl (T 1) n ar ad F))) rfl hl.1 rfl (Nat.le_of_ble_eq_true rfl) dX3_when_25 ⟨(Nat.le_of_ble_eq_true rfl), (Nat.le_of_ble_eq_true rfl)⟩ (fun v9 C9 H locs hp hP hD hS => ?_)
  obtain ⟨rfl, rfl⟩ := hp
  have hP : va_P D vwCl ([q_xc x wa fl tf tb, q_fc tf ta u, q_ac ta me br n, q_fc fl al u, q_ac al md ar n, q_wc wa len wi ja, q_ia T wi 10 wf, q_ia T ja k ju] ++ (q_tl (T 1) n br bd F ++ q_tl (T 1) n ar ad F)) H := q_P_perm (q_tback [false, true, true, true, true, false, false, false] [q_fc tf ta u, q_ac ta me br n, q_fc fl al u, q_ac al md ar n] [q_xc x wa fl tf tb, q_wc wa len wi ja, q_ia T wi 10 wf, q_ia T ja k ju] ((q_tl (T 1) n br bd F ++ q_tl (T 1) n ar ad F))) hP
  have hD : va_D A ([q_xc x wa fl tf tb, q_fc tf ta u, q_ac ta me br n, q_fc fl al u, q_ac al md ar n, q_wc wa len wi ja, q_ia T wi 10 wf, q_ia T ja k ju] ++ (q_tl (T 1) n br bd F ++ q_tl (T 1) n ar ad F)) := q_D_perm (q_tback [false, true, true, true, true, false, false, false] [q_fc tf ta u, q_ac ta me br n, q_fc fl al u, q_ac al md ar n] [q_xc x wa fl tf tb, q_wc wa len wi ja, q_ia T wi 10 wf, q_ia T ja k ju] ((q_tl (T 1) n br bd F ++ q_tl (T 1) n ar ad F))) hD
  refine lv_aload_n hx hb dX3_when_28 rfl (lv_at hl 0 rfl) ?_
  refine va_get (D := D) (ci := 4) (v := .ref tf) (C := RX3) (T := TX3) (N := 4) hx hb hts iX3 hown hK hP 0 rfl rfl 2 (by decide) (hts (.fieldLink RX3 23 "ToyRegatta" "trialFleet" "LToyRegatta$Fleet;") (by decide +kernel)) (fun _ h9 => h9) rfl dX3_when_29 ?_
  refine lv_aload_n hx hb dX3_when_32 rfl (lv_at hl 0 rfl) ?_
  refine va_get (D := D) (ci := 4) (v := .ref wa) (C := RX3) (T := TX3) (N := 4) hx hb hts iX3 hown hK hP 0 rfl rfl 0 (by decide) (hts (.fieldLink RX3 10 "ToyRegatta" "waters" "LToyRegatta$Waters;") (by decide +kernel)) (fun _ h9 => h9) rfl dX3_when_33 ?_
  refine q_callV (As := [.ref wa]) (rs := []) hC (c_X1_finish l D T tf ta br n me u bd F hn wa wi ja k mk len ju wf hk hm hmk hz) q_no_st q_no_at (cwV 1 hts gX3_when_X1_finish rfl rfl rfl (by decide +kernel) ⟨Nat.le_of_ble_eq_true rfl, Nat.le_of_ble_eq_true rfl⟩) (va_recv hK hP (ci := 2) (q0 := 1) rfl rfl) hK hP hD hS hA (q_tmask1 [false, true, true, false, false, true, true, true] [q_xc x wa fl tf tb, q_fc tf ta u, q_ac ta me br n, q_fc fl al u, q_ac al md ar n, q_wc wa len wi ja, q_ia T wi 10 wf, q_ia T ja k ju] (q_tl (T 1) n br bd F) (q_tl (T 1) n ar ad F)) rfl hl.1 rfl (Nat.le_of_ble_eq_true rfl) dX3_when_36 ⟨(Nat.le_of_ble_eq_true rfl), (Nat.le_of_ble_eq_true rfl)⟩ (fun v9 C9 H locs hp hP hD hS => ?_)
  obtain ⟨rfl, rfl⟩ := hp
  have hP : va_P D vwCl ([q_xc x wa fl tf tb, q_fc tf ta ((mRun wf ju k len n 60 (F, u)).2), q_ac ta me br n, q_fc fl al u, q_ac al md ar n, q_wc wa len wi ja, q_ia T wi 10 wf, q_ia T ja k ju] ++ (q_tl (T 1) n br bd ((mRun wf ju k len n 60 (F, u)).1) ++ q_tl (T 1) n ar ad F)) H := q_P_perm (q_tback1 [false, true, true, false, false, true, true, true] [q_fc tf ta ((mRun wf ju k len n 60 (F, u)).2), q_ac ta me br n, q_wc wa len wi ja, q_ia T wi 10 wf, q_ia T ja k ju] [q_xc x wa fl tf tb, q_fc fl al u, q_ac al md ar n] (q_tl (T 1) n br bd ((mRun wf ju k len n 60 (F, u)).1)) (q_tl (T 1) n ar ad F)) hP
  have hD : va_D A ([q_xc x wa fl tf tb, q_fc tf ta ((mRun wf ju k len n 60 (F, u)).2), q_ac ta me br n, q_fc fl al u, q_ac al md ar n, q_wc wa len wi ja, q_ia T wi 10 wf, q_ia T ja k ju] ++ (q_tl (T 1) n br bd ((mRun wf ju k len n 60 (F, u)).1) ++ q_tl (T 1) n ar ad F)) := q_D_perm (q_tback1 [false, true, true, false, false, true, true, true] [q_fc tf ta ((mRun wf ju k len n 60 (F, u)).2), q_ac ta me br n, q_wc wa len wi ja, q_ia T wi 10 wf, q_ia T ja k ju] [q_xc x wa fl tf tb, q_fc fl al u, q_ac al md ar n] (q_tl (T 1) n br bd ((mRun wf ju k len n 60 (F, u)).1)) (q_tl (T 1) n ar ad F)) hD
  refine lv_aload_n hx hb dX3_when_39 rfl (lv_at hl 0 rfl) ?_
  refine va_get (D := D) (ci := 4) (v := .ref tf) (C := RX3) (T := TX3) (N := 4) hx hb hts iX3 hown hK hP 0 rfl rfl 2 (by decide) (hts (.fieldLink RX3 23 "ToyRegatta" "trialFleet" "LToyRegatta$Fleet;") (by decide +kernel)) (fun _ h9 => h9) rfl dX3_when_40 ?_
  refine lv_iload_n hx hb dX3_when_43 rfl (lv_at hl 1 rfl) ?_
  refine q_callV (As := [.int (nI i)]) (rs := []) hC (c_X1_timeOf l D T tf ta br n me ((mRun wf ju k len n 60 (F, u)).2) bd ((mRun wf ju k len n 60 (F, u)).1) hn i hi) q_no_st q_no_at (cwV 1 hts gX3_when_X1_timeOf rfl rfl rfl (by decide +kernel) ⟨Nat.le_of_ble_eq_true rfl, Nat.le_of_ble_eq_true rfl⟩) (va_recv hK hP (ci := 2) (q0 := 1) rfl rfl) hK hP hD hS hA (q_tmask1 [false, true, true, false, false, false, false, false] [q_xc x wa fl tf tb, q_fc tf ta ((mRun wf ju k len n 60 (F, u)).2), q_ac ta me br n, q_fc fl al u, q_ac al md ar n, q_wc wa len wi ja, q_ia T wi 10 wf, q_ia T ja k ju] (q_tl (T 1) n br bd ((mRun wf ju k len n 60 (F, u)).1)) (q_tl (T 1) n ar ad F)) rfl hl.1 rfl (Nat.le_of_ble_eq_true rfl) dX3_when_44 ⟨(Nat.le_of_ble_eq_true rfl), (Nat.le_of_ble_eq_true rfl)⟩ (fun v9 C9 H locs hp hP hD hS => ?_)
  obtain ⟨rfl, rfl⟩ := hp
  have hP : va_P D vwCl ([q_xc x wa fl tf tb, q_fc tf ta ((mRun wf ju k len n 60 (F, u)).2), q_ac ta me br n, q_fc fl al u, q_ac al md ar n, q_wc wa len wi ja, q_ia T wi 10 wf, q_ia T ja k ju] ++ (q_tl (T 1) n br bd ((mRun wf ju k len n 60 (F, u)).1) ++ q_tl (T 1) n ar ad F)) H := q_P_perm (q_tback1 [false, true, true, false, false, false, false, false] [q_fc tf ta ((mRun wf ju k len n 60 (F, u)).2), q_ac ta me br n] [q_xc x wa fl tf tb, q_fc fl al u, q_ac al md ar n, q_wc wa len wi ja, q_ia T wi 10 wf, q_ia T ja k ju] (q_tl (T 1) n br bd ((mRun wf ju k len n 60 (F, u)).1)) (q_tl (T 1) n ar ad F)) hP
  have hD : va_D A ([q_xc x wa fl tf tb, q_fc tf ta ((mRun wf ju k len n 60 (F, u)).2), q_ac ta me br n, q_fc fl al u, q_ac al md ar n, q_wc wa len wi ja, q_ia T wi 10 wf, q_ia T ja k ju] ++ (q_tl (T 1) n br bd ((mRun wf ju k len n 60 (F, u)).1) ++ q_tl (T 1) n ar ad F)) := q_D_perm (q_tback1 [false, true, true, false, false, false, false, false] [q_fc tf ta ((mRun wf ju k len n 60 (F, u)).2), q_ac ta me br n] [q_xc x wa fl tf tb, q_fc fl al u, q_ac al md ar n, q_wc wa len wi ja, q_ia T wi 10 wf, q_ia T ja k ju] (q_tl (T 1) n br bd ((mRun wf ju k len n 60 (F, u)).1)) (q_tl (T 1) n ar ad F)) hD
  exact q_iret hx hb hr hlocks hP hK hD hS (Nat.le_of_ble_eq_true rfl) (Nat.le_of_ble_eq_true rfl) dX3_when_47 ⟨rfl, rfl⟩
abbrev rmX3_winner : Room := { frames := 7, cells := 0, slots := 0, locals := 156 }
set_option maxHeartbeats 1000000 in
set_option maxRecDepth 100000 in
theorem c_X3_winner_ok1 (l : Launch) (D : va_G) (T : Nat → ClassId) (x tf tb fl al ar n ta br : Nat) (md me : Int32) (u v : Nat → Int32) (ad bd : Nat → Nat) (F K : Nat → Nat → Int32) (hn : n ≤ 8) (wa wi ja k mk : Nat) (len : Int32) (ju wf : Nat → Int32) (hk : k ≤ 3) (hm : u 0 = nI mk) (hmk : mk < 2 ^ 30) (hz : mHz F n) (h3 : ¬ u 2 = 0) (hF10 : ∀ b, b < n → F b 10 = 0 ∨ F b 10 = 1) (hu2 : u 2 = 0 ∨ u 2 = 1) : q_M l D (q_ty T) yX3_winner wsX3_winner rmX3_winner [.ref x] ([q_xc x wa fl tf tb, q_fc tf ta v, q_ac ta me br n, q_fc fl al u, q_ac al md ar n, q_wc wa len wi ja, q_ia T wi 10 wf, q_ia T ja k ju] ++ (q_tl (T 1) n br bd K ++ q_tl (T 1) n ar ad F)) q_no (q_is (some (.int (dFst (mRun wf ju k len n 60 (F, u)).1 n n 0))) ([q_xc x wa fl tf tb, q_fc tf ta ((mRun wf ju k len n 60 (F, u)).2), q_ac ta me br n, q_fc fl al u, q_ac al md ar n, q_wc wa len wi ja, q_ia T wi 10 wf, q_ia T ja k ju] ++ (q_tl (T 1) n br bd ((mRun wf ju k len n 60 (F, u)).1) ++ q_tl (T 1) n ar ad F))) := by
  refine q_start (cc := cX3_winner) (maxL := 1) (ret := (some .int)) (by decide) rfl (Nat.le_of_ble_eq_true rfl) ?_
  intro p e s m args below meth c A H locs hx hb hr hts hown hlocks hml hnm hP hK hD hS hA hG ls hl
  have hown : s.vm.findClass RX3 = some m.cls := hown
  have hC : CallFix p m c cX3_winner 1 s args wsX3_winner RX3 := ⟨hx, hb, hml, hown, hts⟩
  have iX3 : ∀ w ∈ wsX30, w ∈ wsX3_winner := by decide +kernel
  have iX1 : ∀ w ∈ wsX10, w ∈ wsX3_winner := by decide +kernel
  have hl : lv_has ls 1 [(0, .ref x)] := hl
  refine lv_aload_n hx hb dX3_winner_0 rfl (lv_at hl 0 rfl) ?_
  refine va_get (D := D) (ci := 4) (v := .ref tf) (C := RX3) (T := TX3) (N := 4) hx hb hts iX3 hown hK hP 0 rfl rfl 2 (by decide) (hts (.fieldLink RX3 23 "ToyRegatta" "trialFleet" "LToyRegatta$Fleet;") (by decide +kernel)) (fun _ h9 => h9) rfl dX3_winner_1 ?_
  refine lv_aload_n hx hb dX3_winner_4 rfl (lv_at hl 0 rfl) ?_
  refine va_get (D := D) (ci := 4) (v := .ref fl) (C := RX3) (T := TX3) (N := 4) hx hb hts iX3 hown hK hP 0 rfl rfl 1 (by decide) (hts (.fieldLink RX3 19 "ToyRegatta" "fleet" "LToyRegatta$Fleet;") (by decide +kernel)) (fun _ h9 => h9) rfl dX3_winner_5 ?_
  refine q_callV (As := [.ref fl]) (rs := []) hC (c_X1_copyFrom l D T tf ta br fl al ar n me md v u bd ad K F hn hF10 hu2) q_no_st q_no_at (cwV 1 hts gX3_winner_X1_copyFrom rfl rfl rfl (by decide +kernel) ⟨Nat.le_of_ble_eq_true rfl, Nat.le_of_ble_eq_true rfl⟩) (va_recv hK hP (ci := 2) (q0 := 1) rfl rfl) hK hP hD hS hA (q_tmask [false, true, true, true, true, false, false, false] [q_xc x wa fl tf tb, q_fc tf ta v, q_ac ta me br n, q_fc fl al u, q_ac al md ar n, q_wc wa len wi ja, q_ia T wi 10 wf, q_ia T ja k ju] ((q_tl (T 1) n br bd K ++ q_tl (T 1) n ar ad F))) rfl hl.1 rfl (Nat.le_of_ble_eq_true rfl) dX3_winner_8 ⟨(Nat.le_of_ble_eq_true rfl), (Nat.le_of_ble_eq_true rfl)⟩ (fun v9 C9 H locs hp hP hD hS => ?_)
  obtain ⟨rfl, rfl⟩ := hp
  have hP : va_P D vwCl ([q_xc x wa fl tf tb, q_fc tf ta u, q_ac ta me br n, q_fc fl al u, q_ac al md ar n, q_wc wa len wi ja, q_ia T wi 10 wf, q_ia T ja k ju] ++ (q_tl (T 1) n br bd F ++ q_tl (T 1) n ar ad F)) H := q_P_perm (q_tback [false, true, true, true, true, false, false, false] [q_fc tf ta u, q_ac ta me br n, q_fc fl al u, q_ac al md ar n] [q_xc x wa fl tf tb, q_wc wa len wi ja, q_ia T wi 10 wf, q_ia T ja k ju] ((q_tl (T 1) n br bd F ++ q_tl (T 1) n ar ad F))) hP
  have hD : va_D A ([q_xc x wa fl tf tb, q_fc tf ta u, q_ac ta me br n, q_fc fl al u, q_ac al md ar n, q_wc wa len wi ja, q_ia T wi 10 wf, q_ia T ja k ju] ++ (q_tl (T 1) n br bd F ++ q_tl (T 1) n ar ad F)) := q_D_perm (q_tback [false, true, true, true, true, false, false, false] [q_fc tf ta u, q_ac ta me br n, q_fc fl al u, q_ac al md ar n] [q_xc x wa fl tf tb, q_wc wa len wi ja, q_ia T wi 10 wf, q_ia T ja k ju] ((q_tl (T 1) n br bd F ++ q_tl (T 1) n ar ad F))) hD
  refine lv_aload_n hx hb dX3_winner_11 rfl (lv_at hl 0 rfl) ?_
  refine va_get (D := D) (ci := 4) (v := .ref tf) (C := RX3) (T := TX3) (N := 4) hx hb hts iX3 hown hK hP 0 rfl rfl 2 (by decide) (hts (.fieldLink RX3 23 "ToyRegatta" "trialFleet" "LToyRegatta$Fleet;") (by decide +kernel)) (fun _ h9 => h9) rfl dX3_winner_12 ?_
  refine va_get (D := D) (ci := 2) (v := .int (u 2)) (C := RX1) (T := TX1) (N := 5) hx hb hts iX1 hown hK hP 1 rfl rfl 3 (by decide) (hts (.fieldLink RX3 168 "ToyRegatta$Fleet" "racing" "Z") (by decide +kernel)) (fun _ h9 => h9) rfl dX3_winner_15 ?_
  refine lv_if_ne (tgt := 40) hx hb dX3_winner_18 (by decide) (fun c_18 => ?_) (fun c_18 => absurd c_18 h3)
  refine lv_aload_n hx hb dX3_winner_40 rfl (lv_at hl 0 rfl) ?_
  refine va_get (D := D) (ci := 4) (v := .ref tf) (C := RX3) (T := TX3) (N := 4) hx hb hts iX3 hown hK hP 0 rfl rfl 2 (by decide) (hts (.fieldLink RX3 23 "ToyRegatta" "trialFleet" "LToyRegatta$Fleet;") (by decide +kernel)) (fun _ h9 => h9) rfl dX3_winner_41 ?_
  refine lv_aload_n hx hb dX3_winner_44 rfl (lv_at hl 0 rfl) ?_
  refine va_get (D := D) (ci := 4) (v := .ref wa) (C := RX3) (T := TX3) (N := 4) hx hb hts iX3 hown hK hP 0 rfl rfl 0 (by decide) (hts (.fieldLink RX3 10 "ToyRegatta" "waters" "LToyRegatta$Waters;") (by decide +kernel)) (fun _ h9 => h9) rfl dX3_winner_45 ?_
  refine q_callV (As := [.ref wa]) (rs := []) hC (c_X1_finish l D T tf ta br n me u bd F hn wa wi ja k mk len ju wf hk hm hmk hz) q_no_st q_no_at (cwV 1 hts gX3_winner_X1_finish rfl rfl rfl (by decide +kernel) ⟨Nat.le_of_ble_eq_true rfl, Nat.le_of_ble_eq_true rfl⟩) (va_recv hK hP (ci := 2) (q0 := 1) rfl rfl) hK hP hD hS hA (q_tmask1 [false, true, true, false, false, true, true, true] [q_xc x wa fl tf tb, q_fc tf ta u, q_ac ta me br n, q_fc fl al u, q_ac al md ar n, q_wc wa len wi ja, q_ia T wi 10 wf, q_ia T ja k ju] (q_tl (T 1) n br bd F) (q_tl (T 1) n ar ad F)) rfl hl.1 rfl (Nat.le_of_ble_eq_true rfl) dX3_winner_48 ⟨(Nat.le_of_ble_eq_true rfl), (Nat.le_of_ble_eq_true rfl)⟩ (fun v9 C9 H locs hp hP hD hS => ?_)
  obtain ⟨rfl, rfl⟩ := hp
  have hP : va_P D vwCl ([q_xc x wa fl tf tb, q_fc tf ta ((mRun wf ju k len n 60 (F, u)).2), q_ac ta me br n, q_fc fl al u, q_ac al md ar n, q_wc wa len wi ja, q_ia T wi 10 wf, q_ia T ja k ju] ++ (q_tl (T 1) n br bd ((mRun wf ju k len n 60 (F, u)).1) ++ q_tl (T 1) n ar ad F)) H := q_P_perm (q_tback1 [false, true, true, false, false, true, true, true] [q_fc tf ta ((mRun wf ju k len n 60 (F, u)).2), q_ac ta me br n, q_wc wa len wi ja, q_ia T wi 10 wf, q_ia T ja k ju] [q_xc x wa fl tf tb, q_fc fl al u, q_ac al md ar n] (q_tl (T 1) n br bd ((mRun wf ju k len n 60 (F, u)).1)) (q_tl (T 1) n ar ad F)) hP
  have hD : va_D A ([q_xc x wa fl tf tb, q_fc tf ta ((mRun wf ju k len n 60 (F, u)).2), q_ac ta me br n, q_fc fl al u, q_ac al md ar n, q_wc wa len wi ja, q_ia T wi 10 wf, q_ia T ja k ju] ++ (q_tl (T 1) n br bd ((mRun wf ju k len n 60 (F, u)).1) ++ q_tl (T 1) n ar ad F)) := q_D_perm (q_tback1 [false, true, true, false, false, true, true, true] [q_fc tf ta ((mRun wf ju k len n 60 (F, u)).2), q_ac ta me br n, q_wc wa len wi ja, q_ia T wi 10 wf, q_ia T ja k ju] [q_xc x wa fl tf tb, q_fc fl al u, q_ac al md ar n] (q_tl (T 1) n br bd ((mRun wf ju k len n 60 (F, u)).1)) (q_tl (T 1) n ar ad F)) hD
  refine lv_aload_n hx hb dX3_winner_51 rfl (lv_at hl 0 rfl) ?_
  refine va_get (D := D) (ci := 4) (v := .ref tf) (C := RX3) (T := TX3) (N := 4) hx hb hts iX3 hown hK hP 0 rfl rfl 2 (by decide) (hts (.fieldLink RX3 23 "ToyRegatta" "trialFleet" "LToyRegatta$Fleet;") (by decide +kernel)) (fun _ h9 => h9) rfl dX3_winner_52 ?_
  refine q_callV (As := []) (rs := []) hC (c_X1_first l D T tf ta br n me ((mRun wf ju k len n 60 (F, u)).2) bd ((mRun wf ju k len n 60 (F, u)).1) hn) q_no_st q_no_at (cwV 0 hts gX3_winner_X1_first rfl rfl rfl (by decide +kernel) ⟨Nat.le_of_ble_eq_true rfl, Nat.le_of_ble_eq_true rfl⟩) (va_recv hK hP (ci := 2) (q0 := 1) rfl rfl) hK hP hD hS hA (q_tmask1 [false, true, true, false, false, false, false, false] [q_xc x wa fl tf tb, q_fc tf ta ((mRun wf ju k len n 60 (F, u)).2), q_ac ta me br n, q_fc fl al u, q_ac al md ar n, q_wc wa len wi ja, q_ia T wi 10 wf, q_ia T ja k ju] (q_tl (T 1) n br bd ((mRun wf ju k len n 60 (F, u)).1)) (q_tl (T 1) n ar ad F)) rfl hl.1 rfl (Nat.le_of_ble_eq_true rfl) dX3_winner_55 ⟨(Nat.le_of_ble_eq_true rfl), (Nat.le_of_ble_eq_true rfl)⟩ (fun v9 C9 H locs hp hP hD hS => ?_)
  obtain ⟨rfl, rfl⟩ := hp
  have hP : va_P D vwCl ([q_xc x wa fl tf tb, q_fc tf ta ((mRun wf ju k len n 60 (F, u)).2), q_ac ta me br n, q_fc fl al u, q_ac al md ar n, q_wc wa len wi ja, q_ia T wi 10 wf, q_ia T ja k ju] ++ (q_tl (T 1) n br bd ((mRun wf ju k len n 60 (F, u)).1) ++ q_tl (T 1) n ar ad F)) H := q_P_perm (q_tback1 [false, true, true, false, false, false, false, false] [q_fc tf ta ((mRun wf ju k len n 60 (F, u)).2), q_ac ta me br n] [q_xc x wa fl tf tb, q_fc fl al u, q_ac al md ar n, q_wc wa len wi ja, q_ia T wi 10 wf, q_ia T ja k ju] (q_tl (T 1) n br bd ((mRun wf ju k len n 60 (F, u)).1)) (q_tl (T 1) n ar ad F)) hP
  have hD : va_D A ([q_xc x wa fl tf tb, q_fc tf ta ((mRun wf ju k len n 60 (F, u)).2), q_ac ta me br n, q_fc fl al u, q_ac al md ar n, q_wc wa len wi ja, q_ia T wi 10 wf, q_ia T ja k ju] ++ (q_tl (T 1) n br bd ((mRun wf ju k len n 60 (F, u)).1) ++ q_tl (T 1) n ar ad F)) := q_D_perm (q_tback1 [false, true, true, false, false, false, false, false] [q_fc tf ta ((mRun wf ju k len n 60 (F, u)).2), q_ac ta me br n] [q_xc x wa fl tf tb, q_fc fl al u, q_ac al md ar n, q_wc wa len wi ja, q_ia T wi 10 wf, q_ia T ja k ju] (q_tl (T 1) n br bd ((mRun wf ju k len n 60 (F, u)).1)) (q_tl (T 1) n ar ad F)) hD
  exact q_iret hx hb hr hlocks hP hK hD hS (Nat.le_of_ble_eq_true rfl) (Nat.le_of_ble_eq_true rfl) dX3_winner_58 ⟨rfl, rfl⟩

theorem dEnter_keep (F : Nat → Nat → Int32) : mKeep F (dEnter F) := fun b => by simp [dEnter, bEnter, upd]
theorem dBegU_0 (u : Nat → Int32) : dBegU u 0 = u 0 := by simp [dBegU, upd]

set_option maxHeartbeats 1000000 in
set_option maxRecDepth 100000 in
theorem c_X3_winner_no (l : Launch) (D : va_G) (T : Nat → ClassId) (x tf tb fl al ar n ta br : Nat) (md me : Int32) (u v : Nat → Int32) (ad bd : Nat → Nat) (F K : Nat → Nat → Int32) (hn : n ≤ 8) (wa wi ja k mk : Nat) (len : Int32) (ju wf : Nat → Int32) (hk : k ≤ 3) (hm : u 0 = nI mk) (hmk : mk < 2 ^ 30) (h3 : u 2 = 0) (h4 : q_sum (dCan F) n = 0) (hF10 : ∀ b, b < n → F b 10 = 0 ∨ F b 10 = 1) (hu2 : u 2 = 0 ∨ u 2 = 1) : q_M l D (q_ty T) yX3_winner wsX3_winner rmX3_winner [.ref x] ([q_xc x wa fl tf tb, q_fc tf ta v, q_ac ta me br n, q_fc fl al u, q_ac al md ar n, q_wc wa len wi ja, q_ia T wi 10 wf, q_ia T ja k ju] ++ (q_tl (T 1) n br bd K ++ q_tl (T 1) n ar ad F)) q_no (q_is (some (.int (-1))) ([q_xc x wa fl tf tb, q_fc tf ta u, q_ac ta me br n, q_fc fl al u, q_ac al md ar n, q_wc wa len wi ja, q_ia T wi 10 wf, q_ia T ja k ju] ++ (q_tl (T 1) n br bd F ++ q_tl (T 1) n ar ad F))) := by
  refine q_start (cc := cX3_winner) (maxL := 1) (ret := (some .int)) (by decide) rfl (Nat.le_of_ble_eq_true rfl) ?_
  intro p e s m args below meth c A H locs hx hb hr hts hown hlocks hml hnm hP hK hD hS hA hG ls hl
  have hown : s.vm.findClass RX3 = some m.cls := hown
  have hC : CallFix p m c cX3_winner 1 s args wsX3_winner RX3 := ⟨hx, hb, hml, hown, hts⟩
  have iX3 : ∀ w ∈ wsX30, w ∈ wsX3_winner := by decide +kernel
  have iX1 : ∀ w ∈ wsX10, w ∈ wsX3_winner := by decide +kernel
  have hl : lv_has ls 1 [(0, .ref x)] := hl
  refine lv_aload_n hx hb dX3_winner_0 rfl (lv_at hl 0 rfl) ?_
  refine va_get (D := D) (ci := 4) (v := .ref tf) (C := RX3) (T := TX3) (N := 4) hx hb hts iX3 hown hK hP 0 rfl rfl 2 (by decide) (hts (.fieldLink RX3 23 "ToyRegatta" "trialFleet" "LToyRegatta$Fleet;") (by decide +kernel)) (fun _ h9 => h9) rfl dX3_winner_1 ?_
  refine lv_aload_n hx hb dX3_winner_4 rfl (lv_at hl 0 rfl) ?_
  refine va_get (D := D) (ci := 4) (v := .ref fl) (C := RX3) (T := TX3) (N := 4) hx hb hts iX3 hown hK hP 0 rfl rfl 1 (by decide) (hts (.fieldLink RX3 19 "ToyRegatta" "fleet" "LToyRegatta$Fleet;") (by decide +kernel)) (fun _ h9 => h9) rfl dX3_winner_5 ?_
  refine q_callV (As := [.ref fl]) (rs := []) hC (c_X1_copyFrom l D T tf ta br fl al ar n me md v u bd ad K F hn hF10 hu2) q_no_st q_no_at (cwV 1 hts gX3_winner_X1_copyFrom rfl rfl rfl (by decide +kernel) ⟨Nat.le_of_ble_eq_true rfl, Nat.le_of_ble_eq_true rfl⟩) (va_recv hK hP (ci := 2) (q0 := 1) rfl rfl) hK hP hD hS hA (q_tmask [false, true, true, true, true, false, false, false] [q_xc x wa fl tf tb, q_fc tf ta v, q_ac ta me br n, q_fc fl al u, q_ac al md ar n, q_wc wa len wi ja, q_ia T wi 10 wf, q_ia T ja k ju] ((q_tl (T 1) n br bd K ++ q_tl (T 1) n ar ad F))) rfl hl.1 rfl (Nat.le_of_ble_eq_true rfl) dX3_winner_8 ⟨(Nat.le_of_ble_eq_true rfl), (Nat.le_of_ble_eq_true rfl)⟩ (fun v9 C9 H locs hp hP hD hS => ?_)
  obtain ⟨rfl, rfl⟩ := hp
  have hP : va_P D vwCl ([q_xc x wa fl tf tb, q_fc tf ta u, q_ac ta me br n, q_fc fl al u, q_ac al md ar n, q_wc wa len wi ja, q_ia T wi 10 wf, q_ia T ja k ju] ++ (q_tl (T 1) n br bd F ++ q_tl (T 1) n ar ad F)) H := q_P_perm (q_tback [false, true, true, true, true, false, false, false] [q_fc tf ta u, q_ac ta me br n, q_fc fl al u, q_ac al md ar n] [q_xc x wa fl tf tb, q_wc wa len wi ja, q_ia T wi 10 wf, q_ia T ja k ju] ((q_tl (T 1) n br bd F ++ q_tl (T 1) n ar ad F))) hP
  have hD : va_D A ([q_xc x wa fl tf tb, q_fc tf ta u, q_ac ta me br n, q_fc fl al u, q_ac al md ar n, q_wc wa len wi ja, q_ia T wi 10 wf, q_ia T ja k ju] ++ (q_tl (T 1) n br bd F ++ q_tl (T 1) n ar ad F)) := q_D_perm (q_tback [false, true, true, true, true, false, false, false] [q_fc tf ta u, q_ac ta me br n, q_fc fl al u, q_ac al md ar n] [q_xc x wa fl tf tb, q_wc wa len wi ja, q_ia T wi 10 wf, q_ia T ja k ju] ((q_tl (T 1) n br bd F ++ q_tl (T 1) n ar ad F))) hD
  refine lv_aload_n hx hb dX3_winner_11 rfl (lv_at hl 0 rfl) ?_
  refine va_get (D := D) (ci := 4) (v := .ref tf) (C := RX3) (T := TX3) (N := 4) hx hb hts iX3 hown hK hP 0 rfl rfl 2 (by decide) (hts (.fieldLink RX3 23 "ToyRegatta" "trialFleet" "LToyRegatta$Fleet;") (by decide +kernel)) (fun _ h9 => h9) rfl dX3_winner_12 ?_
  refine va_get (D := D) (ci := 2) (v := .int (u 2)) (C := RX1) (T := TX1) (N := 5) hx hb hts iX1 hown hK hP 1 rfl rfl 3 (by decide) (hts (.fieldLink RX3 168 "ToyRegatta$Fleet" "racing" "Z") (by decide +kernel)) (fun _ h9 => h9) rfl dX3_winner_15 ?_
  refine lv_if_ne (tgt := 40) hx hb dX3_winner_18 (by decide) (fun c_18 => absurd h3 c_18) (fun c_18 => ?_)
  refine lv_aload_n hx hb dX3_winner_21 rfl (lv_at hl 0 rfl) ?_
  refine va_get (D := D) (ci := 4) (v := .ref tf) (C := RX3) (T := TX3) (N := 4) hx hb hts iX3 hown hK hP 0 rfl rfl 2 (by decide) (hts (.fieldLink RX3 23 "ToyRegatta" "trialFleet" "LToyRegatta$Fleet;") (by decide +kernel)) (fun _ h9 => h9) rfl dX3_winner_22 ?_
  refine q_callV (As := []) (rs := []) hC (c_X1_starters l D T tf ta br n me u bd F hn) q_no_st q_no_at (cwV 0 hts gX3_winner_X1_starters rfl rfl rfl (by decide +kernel) ⟨Nat.le_of_ble_eq_true rfl, Nat.le_of_ble_eq_true rfl⟩) (va_recv hK hP (ci := 2) (q0 := 1) rfl rfl) hK hP hD hS hA (q_tmask1 [false, true, true, false, false, false, false, false] [q_xc x wa fl tf tb, q_fc tf ta u, q_ac ta me br n, q_fc fl al u, q_ac al md ar n, q_wc wa len wi ja, q_ia T wi 10 wf, q_ia T ja k ju] (q_tl (T 1) n br bd F) (q_tl (T 1) n ar ad F)) rfl hl.1 rfl (Nat.le_of_ble_eq_true rfl) dX3_winner_25 ⟨(Nat.le_of_ble_eq_true rfl), (Nat.le_of_ble_eq_true rfl)⟩ (fun v9 C9 H locs hp hP hD hS => ?_)
  obtain ⟨rfl, rfl⟩ := hp
  have hP : va_P D vwCl ([q_xc x wa fl tf tb, q_fc tf ta u, q_ac ta me br n, q_fc fl al u, q_ac al md ar n, q_wc wa len wi ja, q_ia T wi 10 wf, q_ia T ja k ju] ++ (q_tl (T 1) n br bd F ++ q_tl (T 1) n ar ad F)) H := q_P_perm (q_tback1 [false, true, true, false, false, false, false, false] [q_fc tf ta u, q_ac ta me br n] [q_xc x wa fl tf tb, q_fc fl al u, q_ac al md ar n, q_wc wa len wi ja, q_ia T wi 10 wf, q_ia T ja k ju] (q_tl (T 1) n br bd F) (q_tl (T 1) n ar ad F)) hP
  have hD : va_D A ([q_xc x wa fl tf tb, q_fc tf ta u, q_ac ta me br n, q_fc fl al u, q_ac al md ar n, q_wc wa len wi ja, q_ia T wi 10 wf, q_ia T ja k ju] ++ (q_tl (T 1) n br bd F ++ q_tl (T 1) n ar ad F)) := q_D_perm (q_tback1 [false, true, true, false, false, false, false, false] [q_fc tf ta u, q_ac ta me br n] [q_xc x wa fl tf tb, q_fc fl al u, q_ac al md ar n, q_wc wa len wi ja, q_ia T wi 10 wf, q_ia T ja k ju] (q_tl (T 1) n br bd F) (q_tl (T 1) n ar ad F)) hD
  refine lv_if_ne (tgt := 33) hx hb dX3_winner_28 (by decide) (fun c_28 => absurd h4 c_28) (fun c_28 => ?_)
  refine lv_iconst (v := (-1)) hx hb dX3_winner_31 (by decide) ?_
  exact q_iret hx hb hr hlocks hP hK hD hS (Nat.le_of_ble_eq_true rfl) (Nat.le_of_ble_eq_true rfl) dX3_winner_32 ⟨rfl, rfl⟩
set_option maxHeartbeats 1000000 in
set_option maxRecDepth 100000 in
theorem c_X3_winner_ok2 (l : Launch) (D : va_G) (T : Nat → ClassId) (x tf tb fl al ar n ta br : Nat) (md me : Int32) (u v : Nat → Int32) (ad bd : Nat → Nat) (F K : Nat → Nat → Int32) (hn : n ≤ 8) (wa wi ja k mk : Nat) (len : Int32) (ju wf : Nat → Int32) (hk : k ≤ 3) (hm : u 0 = nI mk) (hmk : mk < 2 ^ 30) (hz : mHz F n) (h3 : u 2 = 0) (h4 : ¬ q_sum (dCan F) n = 0) (hF10 : ∀ b, b < n → F b 10 = 0 ∨ F b 10 = 1) (hu2 : u 2 = 0 ∨ u 2 = 1) : q_M l D (q_ty T) yX3_winner wsX3_winner rmX3_winner [.ref x] ([q_xc x wa fl tf tb, q_fc tf ta v, q_ac ta me br n, q_fc fl al u, q_ac al md ar n, q_wc wa len wi ja, q_ia T wi 10 wf, q_ia T ja k ju] ++ (q_tl (T 1) n br bd K ++ q_tl (T 1) n ar ad F)) q_no (q_is (some (.int (dFst (mRun wf ju k len n 60 ((dEnter F), (dBegU u))).1 n n 0))) ([q_xc x wa fl tf tb, q_fc tf ta ((mRun wf ju k len n 60 ((dEnter F), (dBegU u))).2), q_ac ta me br n, q_fc fl al u, q_ac al md ar n, q_wc wa len wi ja, q_ia T wi 10 wf, q_ia T ja k ju] ++ (q_tl (T 1) n br bd ((mRun wf ju k len n 60 ((dEnter F), (dBegU u))).1) ++ q_tl (T 1) n ar ad F))) := by
  refine q_start (cc := cX3_winner) (maxL := 1) (ret := (some .int)) (by decide) rfl (Nat.le_of_ble_eq_true rfl) ?_
  intro p e s m args below meth c A H locs hx hb hr hts hown hlocks hml hnm hP hK hD hS hA hG ls hl
  have hown : s.vm.findClass RX3 = some m.cls := hown
  have hC : CallFix p m c cX3_winner 1 s args wsX3_winner RX3 := ⟨hx, hb, hml, hown, hts⟩
  have iX3 : ∀ w ∈ wsX30, w ∈ wsX3_winner := by decide +kernel
  have iX1 : ∀ w ∈ wsX10, w ∈ wsX3_winner := by decide +kernel
  have hl : lv_has ls 1 [(0, .ref x)] := hl
  refine lv_aload_n hx hb dX3_winner_0 rfl (lv_at hl 0 rfl) ?_
  refine va_get (D := D) (ci := 4) (v := .ref tf) (C := RX3) (T := TX3) (N := 4) hx hb hts iX3 hown hK hP 0 rfl rfl 2 (by decide) (hts (.fieldLink RX3 23 "ToyRegatta" "trialFleet" "LToyRegatta$Fleet;") (by decide +kernel)) (fun _ h9 => h9) rfl dX3_winner_1 ?_
  refine lv_aload_n hx hb dX3_winner_4 rfl (lv_at hl 0 rfl) ?_
  refine va_get (D := D) (ci := 4) (v := .ref fl) (C := RX3) (T := TX3) (N := 4) hx hb hts iX3 hown hK hP 0 rfl rfl 1 (by decide) (hts (.fieldLink RX3 19 "ToyRegatta" "fleet" "LToyRegatta$Fleet;") (by decide +kernel)) (fun _ h9 => h9) rfl dX3_winner_5 ?_
  refine q_callV (As := [.ref fl]) (rs := []) hC (c_X1_copyFrom l D T tf ta br fl al ar n me md v u bd ad K F hn hF10 hu2) q_no_st q_no_at (cwV 1 hts gX3_winner_X1_copyFrom rfl rfl rfl (by decide +kernel) ⟨Nat.le_of_ble_eq_true rfl, Nat.le_of_ble_eq_true rfl⟩) (va_recv hK hP (ci := 2) (q0 := 1) rfl rfl) hK hP hD hS hA (q_tmask [false, true, true, true, true, false, false, false] [q_xc x wa fl tf tb, q_fc tf ta v, q_ac ta me br n, q_fc fl al u, q_ac al md ar n, q_wc wa len wi ja, q_ia T wi 10 wf, q_ia T ja k ju] ((q_tl (T 1) n br bd K ++ q_tl (T 1) n ar ad F))) rfl hl.1 rfl (Nat.le_of_ble_eq_true rfl) dX3_winner_8 ⟨(Nat.le_of_ble_eq_true rfl), (Nat.le_of_ble_eq_true rfl)⟩ (fun v9 C9 H locs hp hP hD hS => ?_)
  obtain ⟨rfl, rfl⟩ := hp
  have hP : va_P D vwCl ([q_xc x wa fl tf tb, q_fc tf ta u, q_ac ta me br n, q_fc fl al u, q_ac al md ar n, q_wc wa len wi ja, q_ia T wi 10 wf, q_ia T ja k ju] ++ (q_tl (T 1) n br bd F ++ q_tl (T 1) n ar ad F)) H := q_P_perm (q_tback [false, true, true, true, true, false, false, false] [q_fc tf ta u, q_ac ta me br n, q_fc fl al u, q_ac al md ar n] [q_xc x wa fl tf tb, q_wc wa len wi ja, q_ia T wi 10 wf, q_ia T ja k ju] ((q_tl (T 1) n br bd F ++ q_tl (T 1) n ar ad F))) hP
  have hD : va_D A ([q_xc x wa fl tf tb, q_fc tf ta u, q_ac ta me br n, q_fc fl al u, q_ac al md ar n, q_wc wa len wi ja, q_ia T wi 10 wf, q_ia T ja k ju] ++ (q_tl (T 1) n br bd F ++ q_tl (T 1) n ar ad F)) := q_D_perm (q_tback [false, true, true, true, true, false, false, false] [q_fc tf ta u, q_ac ta me br n, q_fc fl al u, q_ac al md ar n] [q_xc x wa fl tf tb, q_wc wa len wi ja, q_ia T wi 10 wf, q_ia T ja k ju] ((q_tl (T 1) n br bd F ++ q_tl (T 1) n ar ad F))) hD
  refine lv_aload_n hx hb dX3_winner_11 rfl (lv_at hl 0 rfl) ?_
  refine va_get (D := D) (ci := 4) (v := .ref tf) (C := RX3) (T := TX3) (N := 4) hx hb hts iX3 hown hK hP 0 rfl rfl 2 (by decide) (hts (.fieldLink RX3 23 "ToyRegatta" "trialFleet" "LToyRegatta$Fleet;") (by decide +kernel)) (fun _ h9 => h9) rfl dX3_winner_12 ?_
  refine va_get (D := D) (ci := 2) (v := .int (u 2)) (C := RX1) (T := TX1) (N := 5) hx hb hts iX1 hown hK hP 1 rfl rfl 3 (by decide) (hts (.fieldLink RX3 168 "ToyRegatta$Fleet" "racing" "Z") (by decide +kernel)) (fun _ h9 => h9) rfl dX3_winner_15 ?_
  refine lv_if_ne (tgt := 40) hx hb dX3_winner_18 (by decide) (fun c_18 => absurd h3 c_18) (fun c_18 => ?_)
  refine lv_aload_n hx hb dX3_winner_21 rfl (lv_at hl 0 rfl) ?_
  refine va_get (D := D) (ci := 4) (v := .ref tf) (C := RX3) (T := TX3) (N := 4) hx hb hts iX3 hown hK hP 0 rfl rfl 2 (by decide) (hts (.fieldLink RX3 23 "ToyRegatta" "trialFleet" "LToyRegatta$Fleet;") (by decide +kernel)) (fun _ h9 => h9) rfl dX3_winner_22 ?_
  refine q_callV (As := []) (rs := []) hC (c_X1_starters l D T tf ta br n me u bd F hn) q_no_st q_no_at (cwV 0 hts gX3_winner_X1_starters rfl rfl rfl (by decide +kernel) ⟨Nat.le_of_ble_eq_true rfl, Nat.le_of_ble_eq_true rfl⟩) (va_recv hK hP (ci := 2) (q0 := 1) rfl rfl) hK hP hD hS hA (q_tmask1 [false, true, true, false, false, false, false, false] [q_xc x wa fl tf tb, q_fc tf ta u, q_ac ta me br n, q_fc fl al u, q_ac al md ar n, q_wc wa len wi ja, q_ia T wi 10 wf, q_ia T ja k ju] (q_tl (T 1) n br bd F) (q_tl (T 1) n ar ad F)) rfl hl.1 rfl (Nat.le_of_ble_eq_true rfl) dX3_winner_25 ⟨(Nat.le_of_ble_eq_true rfl), (Nat.le_of_ble_eq_true rfl)⟩ (fun v9 C9 H locs hp hP hD hS => ?_)
  obtain ⟨rfl, rfl⟩ := hp
  have hP : va_P D vwCl ([q_xc x wa fl tf tb, q_fc tf ta u, q_ac ta me br n, q_fc fl al u, q_ac al md ar n, q_wc wa len wi ja, q_ia T wi 10 wf, q_ia T ja k ju] ++ (q_tl (T 1) n br bd F ++ q_tl (T 1) n ar ad F)) H := q_P_perm (q_tback1 [false, true, true, false, false, false, false, false] [q_fc tf ta u, q_ac ta me br n] [q_xc x wa fl tf tb, q_fc fl al u, q_ac al md ar n, q_wc wa len wi ja, q_ia T wi 10 wf, q_ia T ja k ju] (q_tl (T 1) n br bd F) (q_tl (T 1) n ar ad F)) hP
  have hD : va_D A ([q_xc x wa fl tf tb, q_fc tf ta u, q_ac ta me br n, q_fc fl al u, q_ac al md ar n, q_wc wa len wi ja, q_ia T wi 10 wf, q_ia T ja k ju] ++ (q_tl (T 1) n br bd F ++ q_tl (T 1) n ar ad F)) := q_D_perm (q_tback1 [false, true, true, false, false, false, false, false] [q_fc tf ta u, q_ac ta me br n] [q_xc x wa fl tf tb, q_fc fl al u, q_ac al md ar n, q_wc wa len wi ja, q_ia T wi 10 wf, q_ia T ja k ju] (q_tl (T 1) n br bd F) (q_tl (T 1) n ar ad F)) hD
  refine lv_if_ne (tgt := 33) hx hb dX3_winner_28 (by decide) (fun c_28 => ?_) (fun c_28 => absurd c_28 h4)
  refine lv_aload_n hx hb dX3_winner_33 rfl (lv_at hl 0 rfl) ?_
  refine va_get (D := D) (ci := 4) (v := .ref tf) (C := RX3) (T := TX3) (N := 4) hx hb hts iX3 hown hK hP 0 rfl rfl 2 (by decide) (hts (.fieldLink RX3 23 "ToyRegatta" "trialFleet" "LToyRegatta$Fleet;") (by decide +kernel)) (fun _ h9 => h9) rfl dX3_winner_34 ?_
  refine q_callV (As := []) (rs := []) hC (c_X1_begin l D T tf ta br n me u bd F hn) q_no_st q_no_at (cwV 0 hts gX3_winner_X1_begin rfl rfl rfl (by decide +kernel) ⟨Nat.le_of_ble_eq_true rfl, Nat.le_of_ble_eq_true rfl⟩) (va_recv hK hP (ci := 2) (q0 := 1) rfl rfl) hK hP hD hS hA (q_tmask1 [false, true, true, false, false, false, false, false] [q_xc x wa fl tf tb, q_fc tf ta u, q_ac ta me br n, q_fc fl al u, q_ac al md ar n, q_wc wa len wi ja, q_ia T wi 10 wf, q_ia T ja k ju] (q_tl (T 1) n br bd F) (q_tl (T 1) n ar ad F)) rfl hl.1 rfl (Nat.le_of_ble_eq_true rfl) dX3_winner_37 ⟨(Nat.le_of_ble_eq_true rfl), (Nat.le_of_ble_eq_true rfl)⟩ (fun v9 C9 H locs hp hP hD hS => ?_)
  obtain ⟨rfl, rfl⟩ := hp
  have hP : va_P D vwCl ([q_xc x wa fl tf tb, q_fc tf ta (dBegU u), q_ac ta me br n, q_fc fl al u, q_ac al md ar n, q_wc wa len wi ja, q_ia T wi 10 wf, q_ia T ja k ju] ++ (q_tl (T 1) n br bd (dEnter F) ++ q_tl (T 1) n ar ad F)) H := q_P_perm (q_tback1 [false, true, true, false, false, false, false, false] [q_fc tf ta (dBegU u), q_ac ta me br n] [q_xc x wa fl tf tb, q_fc fl al u, q_ac al md ar n, q_wc wa len wi ja, q_ia T wi 10 wf, q_ia T ja k ju] (q_tl (T 1) n br bd (dEnter F)) (q_tl (T 1) n ar ad F)) hP
  have hD : va_D A ([q_xc x wa fl tf tb, q_fc tf ta (dBegU u), q_ac ta me br n, q_fc fl al u, q_ac al md ar n, q_wc wa len wi ja, q_ia T wi 10 wf, q_ia T ja k ju] ++ (q_tl (T 1) n br bd (dEnter F) ++ q_tl (T 1) n ar ad F)) := q_D_perm (q_tback1 [false, true, true, false, false, false, false, false] [q_fc tf ta (dBegU u), q_ac ta me br n] [q_xc x wa fl tf tb, q_fc fl al u, q_ac al md ar n, q_wc wa len wi ja, q_ia T wi 10 wf, q_ia T ja k ju] (q_tl (T 1) n br bd (dEnter F)) (q_tl (T 1) n ar ad F)) hD
  refine lv_aload_n hx hb dX3_winner_40 rfl (lv_at hl 0 rfl) ?_
  refine va_get (D := D) (ci := 4) (v := .ref tf) (C := RX3) (T := TX3) (N := 4) hx hb hts iX3 hown hK hP 0 rfl rfl 2 (by decide) (hts (.fieldLink RX3 23 "ToyRegatta" "trialFleet" "LToyRegatta$Fleet;") (by decide +kernel)) (fun _ h9 => h9) rfl dX3_winner_41 ?_
  refine lv_aload_n hx hb dX3_winner_44 rfl (lv_at hl 0 rfl) ?_
  refine va_get (D := D) (ci := 4) (v := .ref wa) (C := RX3) (T := TX3) (N := 4) hx hb hts iX3 hown hK hP 0 rfl rfl 0 (by decide) (hts (.fieldLink RX3 10 "ToyRegatta" "waters" "LToyRegatta$Waters;") (by decide +kernel)) (fun _ h9 => h9) rfl dX3_winner_45 ?_
  refine q_callV (As := [.ref wa]) (rs := []) hC (c_X1_finish l D T tf ta br n me (dBegU u) bd (dEnter F) hn wa wi ja k mk len ju wf hk ((dBegU_0 u).trans hm) hmk (hz.keep (dEnter_keep F))) q_no_st q_no_at (cwV 1 hts gX3_winner_X1_finish rfl rfl rfl (by decide +kernel) ⟨Nat.le_of_ble_eq_true rfl, Nat.le_of_ble_eq_true rfl⟩) (va_recv hK hP (ci := 2) (q0 := 1) rfl rfl) hK hP hD hS hA (q_tmask1 [false, true, true, false, false, true, true, true] [q_xc x wa fl tf tb, q_fc tf ta (dBegU u), q_ac ta me br n, q_fc fl al u, q_ac al md ar n, q_wc wa len wi ja, q_ia T wi 10 wf, q_ia T ja k ju] (q_tl (T 1) n br bd (dEnter F)) (q_tl (T 1) n ar ad F)) rfl hl.1 rfl (Nat.le_of_ble_eq_true rfl) dX3_winner_48 ⟨(Nat.le_of_ble_eq_true rfl), (Nat.le_of_ble_eq_true rfl)⟩ (fun v9 C9 H locs hp hP hD hS => ?_)
  obtain ⟨rfl, rfl⟩ := hp
  have hP : va_P D vwCl ([q_xc x wa fl tf tb, q_fc tf ta ((mRun wf ju k len n 60 ((dEnter F), (dBegU u))).2), q_ac ta me br n, q_fc fl al u, q_ac al md ar n, q_wc wa len wi ja, q_ia T wi 10 wf, q_ia T ja k ju] ++ (q_tl (T 1) n br bd ((mRun wf ju k len n 60 ((dEnter F), (dBegU u))).1) ++ q_tl (T 1) n ar ad F)) H := q_P_perm (q_tback1 [false, true, true, false, false, true, true, true] [q_fc tf ta ((mRun wf ju k len n 60 ((dEnter F), (dBegU u))).2), q_ac ta me br n, q_wc wa len wi ja, q_ia T wi 10 wf, q_ia T ja k ju] [q_xc x wa fl tf tb, q_fc fl al u, q_ac al md ar n] (q_tl (T 1) n br bd ((mRun wf ju k len n 60 ((dEnter F), (dBegU u))).1)) (q_tl (T 1) n ar ad F)) hP
  have hD : va_D A ([q_xc x wa fl tf tb, q_fc tf ta ((mRun wf ju k len n 60 ((dEnter F), (dBegU u))).2), q_ac ta me br n, q_fc fl al u, q_ac al md ar n, q_wc wa len wi ja, q_ia T wi 10 wf, q_ia T ja k ju] ++ (q_tl (T 1) n br bd ((mRun wf ju k len n 60 ((dEnter F), (dBegU u))).1) ++ q_tl (T 1) n ar ad F)) := q_D_perm (q_tback1 [false, true, true, false, false, true, true, true] [q_fc tf ta ((mRun wf ju k len n 60 ((dEnter F), (dBegU u))).2), q_ac ta me br n, q_wc wa len wi ja, q_ia T wi 10 wf, q_ia T ja k ju] [q_xc x wa fl tf tb, q_fc fl al u, q_ac al md ar n] (q_tl (T 1) n br bd ((mRun wf ju k len n 60 ((dEnter F), (dBegU u))).1)) (q_tl (T 1) n ar ad F)) hD
  refine lv_aload_n hx hb dX3_winner_51 rfl (lv_at hl 0 rfl) ?_
  refine va_get (D := D) (ci := 4) (v := .ref tf) (C := RX3) (T := TX3) (N := 4) hx hb hts iX3 hown hK hP 0 rfl rfl 2 (by decide) (hts (.fieldLink RX3 23 "ToyRegatta" "trialFleet" "LToyRegatta$Fleet;") (by decide +kernel)) (fun _ h9 => h9) rfl dX3_winner_52 ?_
  refine q_callV (As := []) (rs := []) hC (c_X1_first l D T tf ta br n me ((mRun wf ju k len n 60 ((dEnter F), (dBegU u))).2) bd ((mRun wf ju k len n 60 ((dEnter F), (dBegU u))).1) hn) q_no_st q_no_at (cwV 0 hts gX3_winner_X1_first rfl rfl rfl (by decide +kernel) ⟨Nat.le_of_ble_eq_true rfl, Nat.le_of_ble_eq_true rfl⟩) (va_recv hK hP (ci := 2) (q0 := 1) rfl rfl) hK hP hD hS hA (q_tmask1 [false, true, true, false, false, false, false, false] [q_xc x wa fl tf tb, q_fc tf ta ((mRun wf ju k len n 60 ((dEnter F), (dBegU u))).2), q_ac ta me br n, q_fc fl al u, q_ac al md ar n, q_wc wa len wi ja, q_ia T wi 10 wf, q_ia T ja k ju] (q_tl (T 1) n br bd ((mRun wf ju k len n 60 ((dEnter F), (dBegU u))).1)) (q_tl (T 1) n ar ad F)) rfl hl.1 rfl (Nat.le_of_ble_eq_true rfl) dX3_winner_55 ⟨(Nat.le_of_ble_eq_true rfl), (Nat.le_of_ble_eq_true rfl)⟩ (fun v9 C9 H locs hp hP hD hS => ?_)
  obtain ⟨rfl, rfl⟩ := hp
  have hP : va_P D vwCl ([q_xc x wa fl tf tb, q_fc tf ta ((mRun wf ju k len n 60 ((dEnter F), (dBegU u))).2), q_ac ta me br n, q_fc fl al u, q_ac al md ar n, q_wc wa len wi ja, q_ia T wi 10 wf, q_ia T ja k ju] ++ (q_tl (T 1) n br bd ((mRun wf ju k len n 60 ((dEnter F), (dBegU u))).1) ++ q_tl (T 1) n ar ad F)) H := q_P_perm (q_tback1 [false, true, true, false, false, false, false, false] [q_fc tf ta ((mRun wf ju k len n 60 ((dEnter F), (dBegU u))).2), q_ac ta me br n] [q_xc x wa fl tf tb, q_fc fl al u, q_ac al md ar n, q_wc wa len wi ja, q_ia T wi 10 wf, q_ia T ja k ju] (q_tl (T 1) n br bd ((mRun wf ju k len n 60 ((dEnter F), (dBegU u))).1)) (q_tl (T 1) n ar ad F)) hP
  have hD : va_D A ([q_xc x wa fl tf tb, q_fc tf ta ((mRun wf ju k len n 60 ((dEnter F), (dBegU u))).2), q_ac ta me br n, q_fc fl al u, q_ac al md ar n, q_wc wa len wi ja, q_ia T wi 10 wf, q_ia T ja k ju] ++ (q_tl (T 1) n br bd ((mRun wf ju k len n 60 ((dEnter F), (dBegU u))).1) ++ q_tl (T 1) n ar ad F)) := q_D_perm (q_tback1 [false, true, true, false, false, false, false, false] [q_fc tf ta ((mRun wf ju k len n 60 ((dEnter F), (dBegU u))).2), q_ac ta me br n] [q_xc x wa fl tf tb, q_fc fl al u, q_ac al md ar n, q_wc wa len wi ja, q_ia T wi 10 wf, q_ia T ja k ju] (q_tl (T 1) n br bd ((mRun wf ju k len n 60 ((dEnter F), (dBegU u))).1)) (q_tl (T 1) n ar ad F)) hD
  exact q_iret hx hb hr hlocks hP hK hD hS (Nat.le_of_ble_eq_true rfl) (Nat.le_of_ble_eq_true rfl) dX3_winner_58 ⟨rfl, rfl⟩

/-- a boat alone, with z pounds of lead, after so many minutes of a race -/
def dAl (r wf : Nat → Int32) (mk : Nat) (len : Int32) (z : Nat) : Nat → Nat → Int32
  | 0 => bEnter (upd (upd r 2 (nI z)) 4 0)
  | j + 1 => bIn (bSail (dAl r wf mk len z j) (wf ((mk + j) % 10))) len (nI (j + 1))
theorem dAl_keep (r wf : Nat → Int32) (mk : Nat) (len : Int32) (z : Nat) : ∀ j, dAl r wf mk len z j 0 = r 0 ∧ dAl r wf mk len z j 2 = nI z
  | 0 => by simp [dAl, bEnter, upd]
  | j + 1 => by
    obtain ⟨h1, h2⟩ := dAl_keep r wf mk len z j
    exact ⟨by rw [dAl, (bIn_keep _ _ _).1, (bSail_keep _ _).1, h1], by rw [dAl, (bIn_keep _ _ _).2.2, (bSail_keep _ _).2.2, h2]⟩
def dAT (r wf : Nat → Int32) (mk : Nat) (len : Int32) (z : Nat) : Int32 := dAl r wf mk len z 60 6
def dAdv (t : Nat → Int32) : Nat → Int32 × Int32
  | 0 => (-1, 0)
  | z + 1 => if t z = -1 then dAdv t z else if (dAdv t z).1 < 0 then (nI z, t z) else if (dAdv t z).2 ≤ t z then dAdv t z else (nI z, t z)
def dATb (rt r wf : Nat → Int32) (mk : Nat) (len : Int32) : Nat → Nat → Int32
  | 0 => rt
  | z + 1 => dAl r wf mk len z 60

abbrev rmX3_timeAlone : Room := { frames := 3, cells := 0, slots := 0, locals := 64 }
set_option maxHeartbeats 1000000 in
set_option maxRecDepth 100000 in
theorem c_X3_timeAlone_ok (l : Launch) (D : va_G) (T : Nat → ClassId) (x tf tb fl al wa wi ja mk bo z : Nat) (len : Int32) (u wf rt r : Nat → Int32) (hm : u 0 = nI mk) (hmk : mk < 2 ^ 30) (hz : 0 < 2 + r 0 + nI z / 2) (h10 : r 10 = 0 ∨ r 10 = 1) : q_M l D (q_ty T) yX3_timeAlone wsX3_timeAlone rmX3_timeAlone [.ref x, .ref bo, .int (nI z)] [q_xc x wa fl tf tb, q_fc fl al u, q_wc wa len wi ja, q_ia T wi 10 wf, q_bc tb rt, q_bc bo r] q_no (q_is (some (.int (dAT r wf mk len z))) [q_xc x wa fl tf tb, q_fc fl al u, q_wc wa len wi ja, q_ia T wi 10 wf, q_bc tb (dAl r wf mk len z 60), q_bc bo r]) := by
  refine q_start (cc := cX3_timeAlone) (maxL := 4) (ret := (some .int)) (by decide) rfl (Nat.le_of_ble_eq_true rfl) ?_
  intro p e s m args below meth c A H locs hx hb hr hts hown hlocks hml hnm hP hK hD hS hA hG ls hl
  have hown : s.vm.findClass RX3 = some m.cls := hown
  have hC : CallFix p m c cX3_timeAlone 4 s args wsX3_timeAlone RX3 := ⟨hx, hb, hml, hown, hts⟩
  have iX3 : ∀ w ∈ wsX30, w ∈ wsX3_timeAlone := by decide +kernel
  have iX2 : ∀ w ∈ wsX20, w ∈ wsX3_timeAlone := by decide +kernel
  have iX1 : ∀ w ∈ wsX10, w ∈ wsX3_timeAlone := by decide +kernel
  have iX0 : ∀ w ∈ wsX00, w ∈ wsX3_timeAlone := by decide +kernel
  have hl : lv_has ls 4 [(0, .ref x), (1, .ref bo), (2, .int (nI z))] := hl
  refine lv_aload_n hx hb dX3_timeAlone_0 rfl (lv_at hl 0 rfl) ?_
  refine va_get (D := D) (ci := 4) (v := .ref tb) (C := RX3) (T := TX3) (N := 4) hx hb hts iX3 hown hK hP 0 rfl rfl 3 (by decide) (hts (.fieldLink RX3 31 "ToyRegatta" "trialBoat" "LToyRegatta$Boat;") (by decide +kernel)) (fun _ h9 => h9) rfl dX3_timeAlone_1 ?_
  refine lv_aload_n hx hb dX3_timeAlone_4 rfl (lv_at hl 1 rfl) ?_
  refine q_callV (As := [.ref bo]) (rs := []) hC (c_X0_copyFrom l D T tb bo rt r h10) q_no_st q_no_at (cwV 1 hts gX3_timeAlone_X0_copyFrom rfl rfl rfl (by decide +kernel) ⟨Nat.le_of_ble_eq_true rfl, Nat.le_of_ble_eq_true rfl⟩) (va_recv hK hP (ci := 1) (q0 := 4) rfl rfl) hK hP hD hS hA (q_mask [false, false, false, false, true, true] _) rfl hl.1 rfl (Nat.le_of_ble_eq_true rfl) dX3_timeAlone_5 ⟨(Nat.le_of_ble_eq_true rfl), (Nat.le_of_ble_eq_true rfl)⟩ (fun v9 C9 H locs hp hP hD hS => ?_)
  obtain ⟨rfl, rfl⟩ := hp
  have hP : va_P D vwCl [q_xc x wa fl tf tb, q_fc fl al u, q_wc wa len wi ja, q_ia T wi 10 wf, q_bc tb r, q_bc bo r] H := q_P_perm (q_mrg_perm [false, false, false, false, true, true] _ _) hP
  have hD : va_D A [q_xc x wa fl tf tb, q_fc fl al u, q_wc wa len wi ja, q_ia T wi 10 wf, q_bc tb r, q_bc bo r] := q_D_perm (q_mrg_perm [false, false, false, false, true, true] _ _) hD
  refine lv_aload_n hx hb dX3_timeAlone_8 rfl (lv_at hl 0 rfl) ?_
  refine va_get (D := D) (ci := 4) (v := .ref tb) (C := RX3) (T := TX3) (N := 4) hx hb hts iX3 hown hK hP 0 rfl rfl 3 (by decide) (hts (.fieldLink RX3 31 "ToyRegatta" "trialBoat" "LToyRegatta$Boat;") (by decide +kernel)) (fun _ h9 => h9) rfl dX3_timeAlone_9 ?_
  refine lv_iload_n hx hb dX3_timeAlone_12 rfl (lv_at hl 2 rfl) ?_
  refine va_put (D := D) (ci := 1) (v := .int (nI z)) (ty := .int) (C := RX0) (T := TX0) (N := 11) hx hb hts iX0 tyX0 tyX0_ok nmX0 hown hK hP hD hS 4 rfl rfl 2 (by decide) (hts (.fieldLink RX3 91 "ToyRegatta$Boat" "lead" "I") (by decide +kernel)) (fun _ h9 => h9) rfl (by decide +kernel) rfl rfl (Nat.le_of_ble_eq_true rfl) dX3_timeAlone_13 (fun H locs hP hD hS => ?_)
  have hP : va_P D vwCl [q_xc x wa fl tf tb, q_fc fl al u, q_wc wa len wi ja, q_ia T wi 10 wf, q_bc tb (upd r 2 (nI z)), q_bc bo r] H := hP
  have hD : va_D A [q_xc x wa fl tf tb, q_fc fl al u, q_wc wa len wi ja, q_ia T wi 10 wf, q_bc tb (upd r 2 (nI z)), q_bc bo r] := hD
  refine lv_aload_n hx hb dX3_timeAlone_16 rfl (lv_at hl 0 rfl) ?_
  refine va_get (D := D) (ci := 4) (v := .ref tb) (C := RX3) (T := TX3) (N := 4) hx hb hts iX3 hown hK hP 0 rfl rfl 3 (by decide) (hts (.fieldLink RX3 31 "ToyRegatta" "trialBoat" "LToyRegatta$Boat;") (by decide +kernel)) (fun _ h9 => h9) rfl dX3_timeAlone_17 ?_
  refine lv_iconst (v := 0) hx hb dX3_timeAlone_20 (by decide) ?_
  refine va_put (D := D) (ci := 1) (v := .int 0) (ty := .int) (C := RX0) (T := TX0) (N := 11) hx hb hts iX0 tyX0 tyX0_ok nmX0 hown hK hP hD hS 4 rfl rfl 4 (by decide) (hts (.fieldLink RX3 135 "ToyRegatta$Boat" "soaked" "I") (by decide +kernel)) (fun _ h9 => h9) rfl (by decide +kernel) rfl rfl (Nat.le_of_ble_eq_true rfl) dX3_timeAlone_21 (fun H locs hP hD hS => ?_)
  have hP : va_P D vwCl [q_xc x wa fl tf tb, q_fc fl al u, q_wc wa len wi ja, q_ia T wi 10 wf, q_bc tb (upd (upd r 2 (nI z)) 4 0), q_bc bo r] H := hP
  have hD : va_D A [q_xc x wa fl tf tb, q_fc fl al u, q_wc wa len wi ja, q_ia T wi 10 wf, q_bc tb (upd (upd r 2 (nI z)) 4 0), q_bc bo r] := hD
  refine lv_aload_n hx hb dX3_timeAlone_24 rfl (lv_at hl 0 rfl) ?_
  refine va_get (D := D) (ci := 4) (v := .ref tb) (C := RX3) (T := TX3) (N := 4) hx hb hts iX3 hown hK hP 0 rfl rfl 3 (by decide) (hts (.fieldLink RX3 31 "ToyRegatta" "trialBoat" "LToyRegatta$Boat;") (by decide +kernel)) (fun _ h9 => h9) rfl dX3_timeAlone_25 ?_
  refine q_callV (As := []) (rs := []) hC (c_X0_enterRace l D T tb (upd (upd r 2 (nI z)) 4 0) ) q_no_st q_no_at (cwV 0 hts gX3_timeAlone_X0_enterRace rfl rfl rfl (by decide +kernel) ⟨Nat.le_of_ble_eq_true rfl, Nat.le_of_ble_eq_true rfl⟩) (va_recv hK hP (ci := 1) (q0 := 4) rfl rfl) hK hP hD hS hA (q_mask [false, false, false, false, true, false] _) rfl hl.1 rfl (Nat.le_of_ble_eq_true rfl) dX3_timeAlone_28 ⟨(Nat.le_of_ble_eq_true rfl), (Nat.le_of_ble_eq_true rfl)⟩ (fun v9 C9 H locs hp hP hD hS => ?_)
  obtain ⟨rfl, rfl⟩ := hp
  have hP : va_P D vwCl [q_xc x wa fl tf tb, q_fc fl al u, q_wc wa len wi ja, q_ia T wi 10 wf, q_bc tb (bEnter (upd (upd r 2 (nI z)) 4 0)), q_bc bo r] H := q_P_perm (q_mrg_perm [false, false, false, false, true, false] _ _) hP
  have hD : va_D A [q_xc x wa fl tf tb, q_fc fl al u, q_wc wa len wi ja, q_ia T wi 10 wf, q_bc tb (bEnter (upd (upd r 2 (nI z)) 4 0)), q_bc bo r] := q_D_perm (q_mrg_perm [false, false, false, false, true, false] _ _) hD
  refine lv_iconst (v := 1) hx hb dX3_timeAlone_31 (by decide) ?_
  refine lv_istore_n (lv' := [(3, .int 1), (0, .ref x), (1, .ref bo), (2, .int (nI z))]) hx hb dX3_timeAlone_32 rfl hl (by decide) rfl (fun ls hl => ?_)
  have hP : va_P D vwCl [q_xc x wa fl tf tb, q_fc fl al u, q_wc wa len wi ja, q_ia T wi 10 wf, q_bc tb (dAl r wf mk len z 0), q_bc bo r] H := hP
  have hD : va_D A [q_xc x wa fl tf tb, q_fc fl al u, q_wc wa len wi ja, q_ia T wi 10 wf, q_bc tb (dAl r wf mk len z 0), q_bc bo r] := hD
  have hl : lv_has ls 4 [(3, .int (nI (0 + 1))), (0, .ref x), (1, .ref bo), (2, .int (nI z))] := hl
  have L33 : ∀ (f9 j : Nat) (h9a : 60 < j + f9) (h9b : j ≤ 60) (H : Heap) (locs : List Loc) (ls : Array Slot), va_P D vwCl [q_xc x wa fl tf tb, q_fc fl al u, q_wc wa len wi ja, q_ia T wi 10 wf, q_bc tb (dAl r wf mk len z j), q_bc bo r] H → va_D A [q_xc x wa fl tf tb, q_fc fl al u, q_wc wa len wi ja, q_ia T wi 10 wf, q_bc tb (dAl r wf mk len z j), q_bc bo r] → va_S A s.heap H locs → lv_has ls 4 [(0, .ref x), (1, .ref bo), (2, .int (nI z)), (3, .int (nI (j + 1)))] → W p l e rmX3_timeAlone s m args below meth c H locs 0 0 (q_E below D (q_ty T) (q_is (some (.int (dAT r wf mk len z))) [q_xc x wa fl tf tb, q_fc fl al u, q_wc wa len wi ja, q_ia T wi 10 wf, q_bc tb (dAl r wf mk len z 60), q_bc bo r]) A args s rmX3_timeAlone) (F0 m 33 ls []) := by
    intro f9
    induction f9 with
    | zero => intro j h9a h9b; exact absurd h9a (by omega)
    | succ f9 ih33 =>
      intro j h9a h9b   H locs ls hP hD hS hl
      refine lv_iload_n hx hb dX3_timeAlone_33 rfl (lv_at hl 3 rfl) ?_
      refine lv_bipush (v := 60) hx hb dX3_timeAlone_34 (by decide) ?_
      refine lv_icmp_gt (tgt := 86) hx hb dX3_timeAlone_36 (by decide) (fun c_36 => ?_) (fun c_36 => ?_)
      · have h9d := (q_exit_gt (n := 60) c_36 (by omega) (by omega))
        have h9e : j = 60 := by omega
        subst h9e
        refine lv_aload_n hx hb dX3_timeAlone_86 rfl (lv_at hl 0 rfl) ?_
        refine va_get (D := D) (ci := 4) (v := .ref tb) (C := RX3) (T := TX3) (N := 4) hx hb hts iX3 hown hK hP 0 rfl rfl 3 (by decide) (hts (.fieldLink RX3 31 "ToyRegatta" "trialBoat" "LToyRegatta$Boat;") (by decide +kernel)) (fun _ h9 => h9) rfl dX3_timeAlone_87 ?_
        refine va_get (D := D) (ci := 1) (v := .int ((dAl r wf mk len z 60) 6)) (C := RX0) (T := TX0) (N := 11) hx hb hts iX0 hown hK hP 4 rfl rfl 6 (by decide) (hts (.fieldLink RX3 153 "ToyRegatta$Boat" "time" "I") (by decide +kernel)) (fun _ h9 => h9) rfl dX3_timeAlone_90 ?_
        exact q_iret hx hb hr hlocks hP hK hD hS (Nat.le_of_ble_eq_true rfl) (Nat.le_of_ble_eq_true rfl) dX3_timeAlone_93 ⟨rfl, rfl⟩
      · have h9d := q_goon_gt (n := 60) c_36 (by omega)
        refine lv_aload_n hx hb dX3_timeAlone_39 rfl (lv_at hl 0 rfl) ?_
        refine va_get (D := D) (ci := 4) (v := .ref tb) (C := RX3) (T := TX3) (N := 4) hx hb hts iX3 hown hK hP 0 rfl rfl 3 (by decide) (hts (.fieldLink RX3 31 "ToyRegatta" "trialBoat" "LToyRegatta$Boat;") (by decide +kernel)) (fun _ h9 => h9) rfl dX3_timeAlone_40 ?_
        refine lv_aload_n hx hb dX3_timeAlone_43 rfl (lv_at hl 0 rfl) ?_
        refine va_get (D := D) (ci := 4) (v := .ref wa) (C := RX3) (T := TX3) (N := 4) hx hb hts iX3 hown hK hP 0 rfl rfl 0 (by decide) (hts (.fieldLink RX3 10 "ToyRegatta" "waters" "LToyRegatta$Waters;") (by decide +kernel)) (fun _ h9 => h9) rfl dX3_timeAlone_44 ?_
        refine lv_aload_n hx hb dX3_timeAlone_47 rfl (lv_at hl 0 rfl) ?_
        refine va_get (D := D) (ci := 4) (v := .ref fl) (C := RX3) (T := TX3) (N := 4) hx hb hts iX3 hown hK hP 0 rfl rfl 1 (by decide) (hts (.fieldLink RX3 19 "ToyRegatta" "fleet" "LToyRegatta$Fleet;") (by decide +kernel)) (fun _ h9 => h9) rfl dX3_timeAlone_48 ?_
        refine va_get (D := D) (ci := 2) (v := .int (u 0)) (C := RX1) (T := TX1) (N := 5) hx hb hts iX1 hown hK hP 1 rfl rfl 1 (by decide) (hts (.fieldLink RX3 165 "ToyRegatta$Fleet" "minute" "I") (by decide +kernel)) (fun _ h9 => h9) rfl dX3_timeAlone_51 ?_
        refine lv_iload_n hx hb dX3_timeAlone_54 rfl (lv_at hl 3 rfl) ?_
        refine lv_iadd hx hb dX3_timeAlone_55 ?_
        refine lv_iconst (v := 1) hx hb dX3_timeAlone_56 (by decide) ?_
        refine lv_isub hx hb dX3_timeAlone_57 ?_
        refine W.eq (g2 := F0 m 58 ls [.int (nI (mk + j)), .ref wa, .ref tb]) (by rw [hm, nI_add, show mk + (j + 1) = (mk + j) + 1 from by omega, nI_pred] <;> rfl) ?_
        refine q_callV (As := [.int (nI (mk + j))]) (rs := [.ref tb]) hC (c_X2_windOf l D T wa wi ja (mk + j) len wf (by omega)) q_no_st q_no_at (cwV 1 hts gX3_timeAlone_X2_windOf rfl rfl rfl (by decide +kernel) ⟨Nat.le_of_ble_eq_true rfl, Nat.le_of_ble_eq_true rfl⟩) (va_recv hK hP (ci := 3) (q0 := 2) rfl rfl) hK hP hD hS hA (q_mask [false, false, true, true, false, false] _) rfl hl.1 rfl (Nat.le_of_ble_eq_true rfl) dX3_timeAlone_58 ⟨(Nat.le_of_ble_eq_true rfl), (Nat.le_of_ble_eq_true rfl)⟩ (fun v9 C9 H locs hp hP hD hS => ?_)
        obtain ⟨rfl, rfl⟩ := hp
        have hP : va_P D vwCl [q_xc x wa fl tf tb, q_fc fl al u, q_wc wa len wi ja, q_ia T wi 10 wf, q_bc tb (dAl r wf mk len z j), q_bc bo r] H := q_P_perm (q_mrg_perm [false, false, true, true, false, false] _ _) hP
        have hD : va_D A [q_xc x wa fl tf tb, q_fc fl al u, q_wc wa len wi ja, q_ia T wi 10 wf, q_bc tb (dAl r wf mk len z j), q_bc bo r] := q_D_perm (q_mrg_perm [false, false, true, true, false, false] _ _) hD
        refine q_callV (As := [.int (wf ((mk + j) % 10))]) (rs := []) hC (c_X0_sail l D T tb (dAl r wf mk len z j) (wf ((mk + j) % 10)) (by rw [(dAl_keep r wf mk len z j).1, (dAl_keep r wf mk len z j).2]; exact hz)) q_no_st q_no_at (cwV 1 hts gX3_timeAlone_X0_sail rfl rfl rfl (by decide +kernel) ⟨Nat.le_of_ble_eq_true rfl, Nat.le_of_ble_eq_true rfl⟩) (va_recv hK hP (ci := 1) (q0 := 4) rfl rfl) hK hP hD hS hA (q_mask [false, false, false, false, true, false] _) rfl hl.1 rfl (Nat.le_of_ble_eq_true rfl) dX3_timeAlone_61 ⟨(Nat.le_of_ble_eq_true rfl), (Nat.le_of_ble_eq_true rfl)⟩ (fun v9 C9 H locs hp hP hD hS => ?_)
        obtain ⟨rfl, rfl⟩ := hp
        have hP : va_P D vwCl [q_xc x wa fl tf tb, q_fc fl al u, q_wc wa len wi ja, q_ia T wi 10 wf, q_bc tb (bSail (dAl r wf mk len z j) (wf ((mk + j) % 10))), q_bc bo r] H := q_P_perm (q_mrg_perm [false, false, false, false, true, false] _ _) hP
        have hD : va_D A [q_xc x wa fl tf tb, q_fc fl al u, q_wc wa len wi ja, q_ia T wi 10 wf, q_bc tb (bSail (dAl r wf mk len z j) (wf ((mk + j) % 10))), q_bc bo r] := q_D_perm (q_mrg_perm [false, false, false, false, true, false] _ _) hD
        refine lv_aload_n hx hb dX3_timeAlone_64 rfl (lv_at hl 0 rfl) ?_
        refine va_get (D := D) (ci := 4) (v := .ref tb) (C := RX3) (T := TX3) (N := 4) hx hb hts iX3 hown hK hP 0 rfl rfl 3 (by decide) (hts (.fieldLink RX3 31 "ToyRegatta" "trialBoat" "LToyRegatta$Boat;") (by decide +kernel)) (fun _ h9 => h9) rfl dX3_timeAlone_65 ?_
        refine lv_aload_n hx hb dX3_timeAlone_68 rfl (lv_at hl 0 rfl) ?_
        refine va_get (D := D) (ci := 4) (v := .ref wa) (C := RX3) (T := TX3) (N := 4) hx hb hts iX3 hown hK hP 0 rfl rfl 0 (by decide) (hts (.fieldLink RX3 10 "ToyRegatta" "waters" "LToyRegatta$Waters;") (by decide +kernel)) (fun _ h9 => h9) rfl dX3_timeAlone_69 ?_
        refine va_get (D := D) (ci := 3) (v := .int len) (C := RX2) (T := TX2) (N := 3) hx hb hts iX2 hown hK hP 2 rfl rfl 0 (by decide) (hts (.fieldLink RX3 45 "ToyRegatta$Waters" "length" "I") (by decide +kernel)) (fun _ h9 => h9) rfl dX3_timeAlone_72 ?_
        refine lv_iload_n hx hb dX3_timeAlone_75 rfl (lv_at hl 3 rfl) ?_
        refine q_callV (As := [.int len, .int (nI (j + 1))]) (rs := []) hC (c_X0_comeIn l D T tb (bSail (dAl r wf mk len z j) (wf ((mk + j) % 10))) len (nI (j + 1))) q_no_st q_no_at (cwV 2 hts gX3_timeAlone_X0_comeIn rfl rfl rfl (by decide +kernel) ⟨Nat.le_of_ble_eq_true rfl, Nat.le_of_ble_eq_true rfl⟩) (va_recv hK hP (ci := 1) (q0 := 4) rfl rfl) hK hP hD hS hA (q_mask [false, false, false, false, true, false] _) rfl hl.1 rfl (Nat.le_of_ble_eq_true rfl) dX3_timeAlone_76 ⟨(Nat.le_of_ble_eq_true rfl), (Nat.le_of_ble_eq_true rfl)⟩ (fun v9 C9 H locs hp hP hD hS => ?_)
        obtain ⟨rfl, rfl⟩ := hp
        have hP : va_P D vwCl [q_xc x wa fl tf tb, q_fc fl al u, q_wc wa len wi ja, q_ia T wi 10 wf, q_bc tb (bIn (bSail (dAl r wf mk len z j) (wf ((mk + j) % 10))) len (nI (j + 1))), q_bc bo r] H := q_P_perm (q_mrg_perm [false, false, false, false, true, false] _ _) hP
        have hD : va_D A [q_xc x wa fl tf tb, q_fc fl al u, q_wc wa len wi ja, q_ia T wi 10 wf, q_bc tb (bIn (bSail (dAl r wf mk len z j) (wf ((mk + j) % 10))) len (nI (j + 1))), q_bc bo r] := q_D_perm (q_mrg_perm [false, false, false, false, true, false] _ _) hD
        refine lv_pop hx hb dX3_timeAlone_79 rfl ?_
        refine lv_iinc (v := (nI ((j + 1) + 1))) (lv' := [(3, .int (nI ((j + 1) + 1))), (0, .ref x), (1, .ref bo), (2, .int (nI z))]) hx hb dX3_timeAlone_80 hl (k := 3) rfl (nI_1 (j + 1)) (by decide) rfl (fun ls hl => ?_)
        refine lv_goto (tgt := 33) hx hb dX3_timeAlone_83 (by decide) ?_
        have hP : va_P D vwCl [q_xc x wa fl tf tb, q_fc fl al u, q_wc wa len wi ja, q_ia T wi 10 wf, q_bc tb (dAl r wf mk len z (j + 1)), q_bc bo r] H := hP
        have hD : va_D A [q_xc x wa fl tf tb, q_fc fl al u, q_wc wa len wi ja, q_ia T wi 10 wf, q_bc tb (dAl r wf mk len z (j + 1)), q_bc bo r] := hD
        exact ih33 (j + 1) (by omega) (by omega)   _ _ ls hP hD hS (lv_sub hl [1, 2, 3, 0] rfl)
  exact L33 (60 + 1) 0 (by omega) (by omega)   _ _ ls hP hD hS (lv_sub hl [1, 2, 3, 0] rfl)

theorem c_X3_timeAlone_g (l : Launch) (D : va_G) (T : Nat → ClassId) (x tf tb fl al wa wi ja mk bo z : Nat) (len : Int32) (u wf rt r : Nat → Int32) (hm : u 0 = nI mk) (hmk : mk < 2 ^ 30) (hz : 0 < 2 + r 0 + nI z / 2) (h10 : r 10 = 0 ∨ r 10 = 1) (tv : Int32) (r2 : Nat → Int32) (h1 : dAT r wf mk len z = tv) (h2 : dAl r wf mk len z 60 = r2) : q_M l D (q_ty T) yX3_timeAlone wsX3_timeAlone rmX3_timeAlone [.ref x, .ref bo, .int (nI z)] [q_xc x wa fl tf tb, q_fc fl al u, q_wc wa len wi ja, q_ia T wi 10 wf, q_bc tb rt, q_bc bo r] q_no (q_is (some (.int tv)) [q_xc x wa fl tf tb, q_fc fl al u, q_wc wa len wi ja, q_ia T wi 10 wf, q_bc tb r2, q_bc bo r]) := by
  subst h1
  subst h2
  exact c_X3_timeAlone_ok l D T x tf tb fl al wa wi ja mk bo z len u wf rt r hm hmk hz h10

abbrev rmX3_advise : Room := { frames := 4, cells := 0, slots := 0, locals := 87 }

theorem q_rot1 {α : Type} (b : α) (X : List α) (c : α) (t : List α) : ((b :: (X ++ [c])) ++ t).Perm ((X ++ [b, c]) ++ t) := by
  refine q_pc fun _ a => ?_
  simp only [List.count_append, List.count_cons, List.count_nil]
  omega

set_option maxHeartbeats 1000000 in
set_option maxRecDepth 100000 in
theorem c_X3_advise_g (l : Launch) (D : va_G) (T : Nat → ClassId) (x tf tb fl al ar n : Nat) (md : Int32) (u : Nat → Int32) (ad : Nat → Nat) (F : Nat → Nat → Int32) (hn : n ≤ 8) (wa wi ja mk : Nat) (len : Int32) (wf : Nat → Int32) (hm : u 0 = nI mk) (hmk : mk < 2 ^ 30) (i : Nat) (hi : i < n) (hzl : ∀ z, z ≤ 9 → 0 < 2 + F i 0 + nI z / 2) (h10 : F i 10 = 0 ∨ F i 10 = 1) (t : Nat → Int32) (Kt : Nat → Nat → Int32) (ht : ∀ z, dAT (F i) wf mk len z = t z) (hKt : ∀ z, dAl (F i) wf mk len z 60 = Kt (z + 1)) : q_M l D (q_ty T) yX3_advise wsX3_advise rmX3_advise [.ref x, .int (nI i)] ([q_xc x wa fl tf tb, q_fc fl al u, q_ac al md ar n, q_wc wa len wi ja, q_ia T wi 10 wf, q_bc tb (Kt 0)] ++ q_tl (T 1) n ar ad F) q_no (q_is (some (.int (dAdv t 10).1)) ([q_xc x wa fl tf tb, q_fc fl al u, q_ac al md ar n, q_wc wa len wi ja, q_ia T wi 10 wf, q_bc tb (Kt 10)] ++ q_tl (T 1) n ar ad F)) := by
  refine q_start (cc := cX3_advise) (maxL := 7) (ret := (some .int)) (by decide) rfl (Nat.le_of_ble_eq_true rfl) ?_
  intro p e s m args below meth c A H locs hx hb hr hts hown hlocks hml hnm hP hK hD hS hA hG ls hl
  have hown : s.vm.findClass RX3 = some m.cls := hown
  have hC : CallFix p m c cX3_advise 7 s args wsX3_advise RX3 := ⟨hx, hb, hml, hown, hts⟩
  have hl : lv_has ls 7 [(0, .ref x), (1, .int (nI i))] := hl
  refine lv_aload_n hx hb dX3_advise_0 rfl (lv_at hl 0 rfl) ?_
  refine lv_iload_n hx hb dX3_advise_1 rfl (lv_at hl 1 rfl) ?_
  refine q_callV (As := [.int (nI i)]) (rs := []) hC (c_X3_boatAt_ok l D T x wa fl tf tb al ar n md u ad F hn i hi) q_no_st q_no_at (cwV 1 hts gX3_advise_X3_boatAt rfl rfl rfl (by decide +kernel) ⟨Nat.le_of_ble_eq_true rfl, Nat.le_of_ble_eq_true rfl⟩) (va_recv hK hP (ci := 4) (q0 := 0) rfl rfl) hK hP hD hS hA (q_tmask [true, true, true, false, false, false] [q_xc x wa fl tf tb, q_fc fl al u, q_ac al md ar n, q_wc wa len wi ja, q_ia T wi 10 wf, q_bc tb (Kt 0)] (q_tl (T 1) n ar ad F)) rfl hl.1 rfl (Nat.le_of_ble_eq_true rfl) dX3_advise_2 ⟨(Nat.le_of_ble_eq_true rfl), (Nat.le_of_ble_eq_true rfl)⟩ (fun v9 C9 H locs hp hP hD hS => ?_)
  obtain ⟨rfl, rfl⟩ := hp
  have hP : va_P D vwCl ([q_xc x wa fl tf tb, q_fc fl al u, q_ac al md ar n, q_wc wa len wi ja, q_ia T wi 10 wf, q_bc tb (Kt 0)] ++ q_tl (T 1) n ar ad F) H := q_P_perm (q_tback [true, true, true, false, false, false] [q_xc x wa fl tf tb, q_fc fl al u, q_ac al md ar n] [q_wc wa len wi ja, q_ia T wi 10 wf, q_bc tb (Kt 0)] (q_tl (T 1) n ar ad F)) hP
  have hD : va_D A ([q_xc x wa fl tf tb, q_fc fl al u, q_ac al md ar n, q_wc wa len wi ja, q_ia T wi 10 wf, q_bc tb (Kt 0)] ++ q_tl (T 1) n ar ad F) := q_D_perm (q_tback [true, true, true, false, false, false] [q_xc x wa fl tf tb, q_fc fl al u, q_ac al md ar n] [q_wc wa len wi ja, q_ia T wi 10 wf, q_bc tb (Kt 0)] (q_tl (T 1) n ar ad F)) hD
  refine lv_astore_n (lv' := [(2, .ref (ad i)), (0, .ref x), (1, .int (nI i))]) hx hb dX3_advise_5 rfl hl (by decide) rfl (fun ls hl => ?_)
  refine lv_iconst (v := (-1)) hx hb dX3_advise_6 (by decide) ?_
  refine lv_istore_n (lv' := [(3, .int (-1)), (2, .ref (ad i)), (0, .ref x), (1, .int (nI i))]) hx hb dX3_advise_7 rfl hl (by decide) rfl (fun ls hl => ?_)
  refine lv_iconst (v := 0) hx hb dX3_advise_8 (by decide) ?_
  refine lv_istore (lv' := [(4, .int 0), (3, .int (-1)), (2, .ref (ad i)), (0, .ref x), (1, .int (nI i))]) hx hb dX3_advise_9 hl (by decide) rfl (fun ls hl => ?_)
  refine lv_iconst (v := 0) hx hb dX3_advise_11 (by decide) ?_
  refine lv_istore (lv' := [(5, .int 0), (4, .int 0), (3, .int (-1)), (2, .ref (ad i)), (0, .ref x), (1, .int (nI i))]) hx hb dX3_advise_12 hl (by decide) rfl (fun ls hl => ?_)
  have hP : va_P D vwCl ([q_bc (ad i) (F i), q_xc x wa fl tf tb, q_fc fl al u, q_ac al md ar n, q_wc wa len wi ja, q_ia T wi 10 wf, q_bc tb (Kt 0), q_arc (T 1) n ar ad] ++ q_pl ((List.range n).erase i) ad F) H := q_P_perm (q_tlo _ hi rfl) hP
  have hD : va_D A ([q_bc (ad i) (F i), q_xc x wa fl tf tb, q_fc fl al u, q_ac al md ar n, q_wc wa len wi ja, q_ia T wi 10 wf, q_bc tb (Kt 0), q_arc (T 1) n ar ad] ++ q_pl ((List.range n).erase i) ad F) := q_D_perm (q_tlo _ hi rfl) hD
  have hP : va_P D vwCl ([q_bc (ad i) (F i), q_xc x wa fl tf tb, q_fc fl al u, q_ac al md ar n, q_wc wa len wi ja, q_ia T wi 10 wf, q_bc tb (Kt 0), q_arc (T 1) n ar ad] ++ q_pl ((List.range n).erase i) ad F) H := hP
  have hD : va_D A ([q_bc (ad i) (F i), q_xc x wa fl tf tb, q_fc fl al u, q_ac al md ar n, q_wc wa len wi ja, q_ia T wi 10 wf, q_bc tb (Kt 0), q_arc (T 1) n ar ad] ++ q_pl ((List.range n).erase i) ad F) := hD
  have L14 : ∀ (f9 z : Nat) (h9a : 10 < z + f9) (h9b : z ≤ 10) (H : Heap) (locs : List Loc) (ls : Array Slot), va_P D vwCl ([q_bc (ad i) (F i), q_xc x wa fl tf tb, q_fc fl al u, q_ac al md ar n, q_wc wa len wi ja, q_ia T wi 10 wf, q_bc tb (Kt z), q_arc (T 1) n ar ad] ++ q_pl ((List.range n).erase i) ad F) H → va_D A ([q_bc (ad i) (F i), q_xc x wa fl tf tb, q_fc fl al u, q_ac al md ar n, q_wc wa len wi ja, q_ia T wi 10 wf, q_bc tb (Kt z), q_arc (T 1) n ar ad] ++ q_pl ((List.range n).erase i) ad F) → va_S A s.heap H locs → lv_has ls 7 [(0, .ref x), (2, .ref (ad i)), (3, .int ((dAdv t z).1)), (4, .int ((dAdv t z).2)), (5, .int (nI z))] → W p l e rmX3_advise s m args below meth c H locs 0 0 (q_E below D (q_ty T) (q_is (some (.int (dAdv t 10).1)) ([q_xc x wa fl tf tb, q_fc fl al u, q_ac al md ar n, q_wc wa len wi ja, q_ia T wi 10 wf, q_bc tb (Kt 10)] ++ q_tl (T 1) n ar ad F)) A args s rmX3_advise) (F0 m 14 ls []) := by
    intro f9
    induction f9 with
    | zero => intro z h9a h9b; exact absurd h9a (by omega)
    | succ f9 ih14 =>
      intro z h9a h9b   H locs ls hP hD hS hl
      refine lv_iload hx hb dX3_advise_14 (lv_at hl 4 rfl) ?_
      refine lv_bipush (v := 9) hx hb dX3_advise_16 (by decide) ?_
      refine lv_icmp_gt (tgt := 60) hx hb dX3_advise_18 (by decide) (fun c_18 => ?_) (fun c_18 => ?_)
      · have h9d := (q_exit_gt (n := 9) c_18 h9b (by omega))
        subst h9d
        have hP : va_P D vwCl ([q_xc x wa fl tf tb, q_fc fl al u, q_ac al md ar n, q_wc wa len wi ja, q_ia T wi 10 wf, q_bc tb (Kt 10)] ++ q_tl (T 1) n ar ad F) H := q_P_perm (q_tls [q_xc x wa fl tf tb, q_fc fl al u, q_ac al md ar n, q_wc wa len wi ja, q_ia T wi 10 wf, q_bc tb (Kt 10)] hi (F := F) (q_up_id F i)) hP
        have hD : va_D A ([q_xc x wa fl tf tb, q_fc fl al u, q_ac al md ar n, q_wc wa len wi ja, q_ia T wi 10 wf, q_bc tb (Kt 10)] ++ q_tl (T 1) n ar ad F) := q_D_perm (q_tls [q_xc x wa fl tf tb, q_fc fl al u, q_ac al md ar n, q_wc wa len wi ja, q_ia T wi 10 wf, q_bc tb (Kt 10)] hi (F := F) (q_up_id F i)) hD
        refine lv_iload_n hx hb dX3_advise_60 rfl (lv_at hl 2 rfl) ?_
        exact q_iret hx hb hr hlocks hP hK hD hS (Nat.le_of_ble_eq_true rfl) (Nat.le_of_ble_eq_true rfl) dX3_advise_61 ⟨rfl, rfl⟩
      · have h9d := q_goon_gt (n := 9) c_18 (by omega)
        refine lv_aload_n hx hb dX3_advise_21 rfl (lv_at hl 0 rfl) ?_
        refine lv_aload_n hx hb dX3_advise_22 rfl (lv_at hl 1 rfl) ?_
        refine lv_iload hx hb dX3_advise_23 (lv_at hl 4 rfl) ?_
        have hP : va_P D vwCl ([q_xc x wa fl tf tb, q_fc fl al u, q_ac al md ar n, q_wc wa len wi ja, q_ia T wi 10 wf, q_bc tb (Kt z), q_bc (ad i) (F i), q_arc (T 1) n ar ad] ++ q_pl ((List.range n).erase i) ad F) H := q_P_perm (q_rot1 (q_bc (ad i) (F i)) [q_xc x wa fl tf tb, q_fc fl al u, q_ac al md ar n, q_wc wa len wi ja, q_ia T wi 10 wf, q_bc tb (Kt z)] (q_arc (T 1) n ar ad) (q_pl ((List.range n).erase i) ad F)) hP
        have hD : va_D A ([q_xc x wa fl tf tb, q_fc fl al u, q_ac al md ar n, q_wc wa len wi ja, q_ia T wi 10 wf, q_bc tb (Kt z), q_bc (ad i) (F i), q_arc (T 1) n ar ad] ++ q_pl ((List.range n).erase i) ad F) := q_D_perm (q_rot1 (q_bc (ad i) (F i)) [q_xc x wa fl tf tb, q_fc fl al u, q_ac al md ar n, q_wc wa len wi ja, q_ia T wi 10 wf, q_bc tb (Kt z)] (q_arc (T 1) n ar ad) (q_pl ((List.range n).erase i) ad F)) hD
        refine q_callV (As := [.ref (ad i), .int (nI z)]) (rs := []) hC (c_X3_timeAlone_g l D T x tf tb fl al wa wi ja mk (ad i) z len u wf (Kt z) (F i) hm hmk (hzl z (by omega)) h10 (t z) (Kt (z + 1)) (ht z) (hKt z)) q_no_st q_no_at (cwV 2 hts gX3_advise_X3_timeAlone rfl rfl rfl (by decide +kernel) ⟨Nat.le_of_ble_eq_true rfl, Nat.le_of_ble_eq_true rfl⟩) (va_recv hK hP (ci := 4) (q0 := 0) rfl rfl) hK hP hD hS hA (q_mask [true, true, false, true, true, true, true, false] _) rfl hl.1 rfl (Nat.le_of_ble_eq_true rfl) dX3_advise_25 ⟨(Nat.le_of_ble_eq_true rfl), (Nat.le_of_ble_eq_true rfl)⟩ (fun v9 C9 H locs hp hP hD hS => ?_)
        obtain ⟨rfl, rfl⟩ := hp
        have hP : va_P D vwCl ([q_xc x wa fl tf tb, q_fc fl al u, q_ac al md ar n, q_wc wa len wi ja, q_ia T wi 10 wf, q_bc tb (Kt (z + 1)), q_bc (ad i) (F i), q_arc (T 1) n ar ad] ++ q_pl ((List.range n).erase i) ad F) H := q_P_perm (q_mrg_perm [true, true, false, true, true, true, true, false] _ _) hP
        have hD : va_D A ([q_xc x wa fl tf tb, q_fc fl al u, q_ac al md ar n, q_wc wa len wi ja, q_ia T wi 10 wf, q_bc tb (Kt (z + 1)), q_bc (ad i) (F i), q_arc (T 1) n ar ad] ++ q_pl ((List.range n).erase i) ad F) := q_D_perm (q_mrg_perm [true, true, false, true, true, true, true, false] _ _) hD
        have hP : va_P D vwCl ([q_bc (ad i) (F i), q_xc x wa fl tf tb, q_fc fl al u, q_ac al md ar n, q_wc wa len wi ja, q_ia T wi 10 wf, q_bc tb (Kt (z + 1)), q_arc (T 1) n ar ad] ++ q_pl ((List.range n).erase i) ad F) H := q_P_perm (q_rot1 (q_bc (ad i) (F i)) [q_xc x wa fl tf tb, q_fc fl al u, q_ac al md ar n, q_wc wa len wi ja, q_ia T wi 10 wf, q_bc tb (Kt (z + 1))] (q_arc (T 1) n ar ad) (q_pl ((List.range n).erase i) ad F)).symm hP
        have hD : va_D A ([q_bc (ad i) (F i), q_xc x wa fl tf tb, q_fc fl al u, q_ac al md ar n, q_wc wa len wi ja, q_ia T wi 10 wf, q_bc tb (Kt (z + 1)), q_arc (T 1) n ar ad] ++ q_pl ((List.range n).erase i) ad F) := q_D_perm (q_rot1 (q_bc (ad i) (F i)) [q_xc x wa fl tf tb, q_fc fl al u, q_ac al md ar n, q_wc wa len wi ja, q_ia T wi 10 wf, q_bc tb (Kt (z + 1))] (q_arc (T 1) n ar ad) (q_pl ((List.range n).erase i) ad F)).symm hD
        refine lv_istore (lv' := [(6, .int (t z)), (0, .ref x), (2, .ref (ad i)), (3, .int ((dAdv t z).1)), (4, .int ((dAdv t z).2)), (5, .int (nI z))]) hx hb dX3_advise_28 hl (by decide) rfl (fun ls hl => ?_)
        refine lv_iload hx hb dX3_advise_30 (lv_at hl 0 rfl) ?_
        refine lv_iconst (v := (-1)) hx hb dX3_advise_32 (by decide) ?_
        refine lv_icmp_eq (tgt := 54) hx hb dX3_advise_33 (by decide) (fun c_33 => ?_) (fun c_33 => ?_)
        · refine lv_iinc (v := (nI (z + 1))) (lv' := [(5, .int (nI (z + 1))), (6, .int (t z)), (0, .ref x), (2, .ref (ad i)), (3, .int ((dAdv t z).1)), (4, .int ((dAdv t z).2))]) hx hb dX3_advise_54 hl (k := 5) rfl (nI_1 z) (by decide) rfl (fun ls hl => ?_)
          refine lv_goto (tgt := 14) hx hb dX3_advise_57 (by decide) ?_
          have hP : va_P D vwCl ([q_bc (ad i) (F i), q_xc x wa fl tf tb, q_fc fl al u, q_ac al md ar n, q_wc wa len wi ja, q_ia T wi 10 wf, q_bc tb (Kt (z + 1)), q_arc (T 1) n ar ad] ++ q_pl ((List.range n).erase i) ad F) H := hP
          have hD : va_D A ([q_bc (ad i) (F i), q_xc x wa fl tf tb, q_fc fl al u, q_ac al md ar n, q_wc wa len wi ja, q_ia T wi 10 wf, q_bc tb (Kt (z + 1)), q_arc (T 1) n ar ad] ++ q_pl ((List.range n).erase i) ad F) := hD
          have e9 : dAdv t (z + 1) = dAdv t z := by simp only [dAdv, if_pos c_33]
          have hl : lv_has ls 7 [(5, .int (nI (z + 1))), (6, .int (t z)), (0, .ref x), (2, .ref (ad i)), (3, .int ((dAdv t (z + 1)).1)), (4, .int ((dAdv t (z + 1)).2))] := by rw [e9]; exact hl
          exact ih14 (z + 1) (by omega) (by omega)   _ _ ls hP hD hS (lv_sub hl [2, 3, 4, 5, 0] rfl)
        · refine lv_iload_n hx hb dX3_advise_36 rfl (lv_at hl 3 rfl) ?_
          refine lv_if_lt (tgt := 47) hx hb dX3_advise_37 (by decide) (fun c_37 => ?_) (fun c_37 => ?_)
          · refine lv_iload hx hb dX3_advise_47 (lv_at hl 5 rfl) ?_
            refine lv_istore_n (lv' := [(3, .int (nI z)), (6, .int (t z)), (0, .ref x), (2, .ref (ad i)), (4, .int ((dAdv t z).2)), (5, .int (nI z))]) hx hb dX3_advise_49 rfl hl (by decide) rfl (fun ls hl => ?_)
            refine lv_iload hx hb dX3_advise_50 (lv_at hl 1 rfl) ?_
            refine lv_istore (lv' := [(4, .int (t z)), (3, .int (nI z)), (6, .int (t z)), (0, .ref x), (2, .ref (ad i)), (5, .int (nI z))]) hx hb dX3_advise_52 hl (by decide) rfl (fun ls hl => ?_)
            refine lv_iinc (v := (nI (z + 1))) (lv' := [(5, .int (nI (z + 1))), (4, .int (t z)), (3, .int (nI z)), (6, .int (t z)), (0, .ref x), (2, .ref (ad i))]) hx hb dX3_advise_54 hl (k := 5) rfl (nI_1 z) (by decide) rfl (fun ls hl => ?_)
            refine lv_goto (tgt := 14) hx hb dX3_advise_57 (by decide) ?_
            have hP : va_P D vwCl ([q_bc (ad i) (F i), q_xc x wa fl tf tb, q_fc fl al u, q_ac al md ar n, q_wc wa len wi ja, q_ia T wi 10 wf, q_bc tb (Kt (z + 1)), q_arc (T 1) n ar ad] ++ q_pl ((List.range n).erase i) ad F) H := hP
            have hD : va_D A ([q_bc (ad i) (F i), q_xc x wa fl tf tb, q_fc fl al u, q_ac al md ar n, q_wc wa len wi ja, q_ia T wi 10 wf, q_bc tb (Kt (z + 1)), q_arc (T 1) n ar ad] ++ q_pl ((List.range n).erase i) ad F) := hD
            have e9 : dAdv t (z + 1) = ((nI z), (t z)) := by simp only [dAdv, if_neg c_33, if_pos c_37]
            have hl : lv_has ls 7 [(5, .int (nI (z + 1))), (4, .int ((dAdv t (z + 1)).2)), (3, .int ((dAdv t (z + 1)).1)), (6, .int (t z)), (0, .ref x), (2, .ref (ad i))] := by rw [e9]; exact hl
            exact ih14 (z + 1) (by omega) (by omega)   _ _ ls hP hD hS (lv_sub hl [4, 5, 2, 1, 0] rfl)
          · refine lv_iload hx hb dX3_advise_40 (lv_at hl 0 rfl) ?_
            refine lv_iload hx hb dX3_advise_42 (lv_at hl 4 rfl) ?_
            refine lv_icmp_ge (tgt := 54) hx hb dX3_advise_44 (by decide) (fun c_44 => ?_) (fun c_44 => ?_)
            · refine lv_iinc (v := (nI (z + 1))) (lv' := [(5, .int (nI (z + 1))), (6, .int (t z)), (0, .ref x), (2, .ref (ad i)), (3, .int ((dAdv t z).1)), (4, .int ((dAdv t z).2))]) hx hb dX3_advise_54 hl (k := 5) rfl (nI_1 z) (by decide) rfl (fun ls hl => ?_)
              refine lv_goto (tgt := 14) hx hb dX3_advise_57 (by decide) ?_
              have hP : va_P D vwCl ([q_bc (ad i) (F i), q_xc x wa fl tf tb, q_fc fl al u, q_ac al md ar n, q_wc wa len wi ja, q_ia T wi 10 wf, q_bc tb (Kt (z + 1)), q_arc (T 1) n ar ad] ++ q_pl ((List.range n).erase i) ad F) H := hP
              have hD : va_D A ([q_bc (ad i) (F i), q_xc x wa fl tf tb, q_fc fl al u, q_ac al md ar n, q_wc wa len wi ja, q_ia T wi 10 wf, q_bc tb (Kt (z + 1)), q_arc (T 1) n ar ad] ++ q_pl ((List.range n).erase i) ad F) := hD
              have e9 : dAdv t (z + 1) = dAdv t z := by simp only [dAdv, if_neg c_33, if_neg c_37, if_pos c_44]
              have hl : lv_has ls 7 [(5, .int (nI (z + 1))), (6, .int (t z)), (0, .ref x), (2, .ref (ad i)), (3, .int ((dAdv t (z + 1)).1)), (4, .int ((dAdv t (z + 1)).2))] := by rw [e9]; exact hl
              exact ih14 (z + 1) (by omega) (by omega)   _ _ ls hP hD hS (lv_sub hl [2, 3, 4, 5, 0] rfl)
            · refine lv_iload hx hb dX3_advise_47 (lv_at hl 5 rfl) ?_
              refine lv_istore_n (lv' := [(3, .int (nI z)), (6, .int (t z)), (0, .ref x), (2, .ref (ad i)), (4, .int ((dAdv t z).2)), (5, .int (nI z))]) hx hb dX3_advise_49 rfl hl (by decide) rfl (fun ls hl => ?_)
              refine lv_iload hx hb dX3_advise_50 (lv_at hl 1 rfl) ?_
              refine lv_istore (lv' := [(4, .int (t z)), (3, .int (nI z)), (6, .int (t z)), (0, .ref x), (2, .ref (ad i)), (5, .int (nI z))]) hx hb dX3_advise_52 hl (by decide) rfl (fun ls hl => ?_)
              refine lv_iinc (v := (nI (z + 1))) (lv' := [(5, .int (nI (z + 1))), (4, .int (t z)), (3, .int (nI z)), (6, .int (t z)), (0, .ref x), (2, .ref (ad i))]) hx hb dX3_advise_54 hl (k := 5) rfl (nI_1 z) (by decide) rfl (fun ls hl => ?_)
              refine lv_goto (tgt := 14) hx hb dX3_advise_57 (by decide) ?_
              have hP : va_P D vwCl ([q_bc (ad i) (F i), q_xc x wa fl tf tb, q_fc fl al u, q_ac al md ar n, q_wc wa len wi ja, q_ia T wi 10 wf, q_bc tb (Kt (z + 1)), q_arc (T 1) n ar ad] ++ q_pl ((List.range n).erase i) ad F) H := hP
              have hD : va_D A ([q_bc (ad i) (F i), q_xc x wa fl tf tb, q_fc fl al u, q_ac al md ar n, q_wc wa len wi ja, q_ia T wi 10 wf, q_bc tb (Kt (z + 1)), q_arc (T 1) n ar ad] ++ q_pl ((List.range n).erase i) ad F) := hD
              have e9 : dAdv t (z + 1) = ((nI z), (t z)) := by simp only [dAdv, if_neg c_33, if_neg c_37, if_neg c_44]
              have hl : lv_has ls 7 [(5, .int (nI (z + 1))), (4, .int ((dAdv t (z + 1)).2)), (3, .int ((dAdv t (z + 1)).1)), (6, .int (t z)), (0, .ref x), (2, .ref (ad i))] := by rw [e9]; exact hl
              exact ih14 (z + 1) (by omega) (by omega)   _ _ ls hP hD hS (lv_sub hl [4, 5, 2, 1, 0] rfl)
  exact L14 (10 + 1) 0 (by omega) (by omega)   _ _ ls hP hD hS (lv_sub hl [4, 3, 2, 1, 0] rfl)

theorem c_X3_advise_ok (l : Launch) (D : va_G) (T : Nat → ClassId) (x tf tb fl al ar n : Nat) (md : Int32) (u : Nat → Int32) (ad : Nat → Nat) (F : Nat → Nat → Int32) (hn : n ≤ 8) (wa wi ja mk : Nat) (len : Int32) (wf rt : Nat → Int32) (hm : u 0 = nI mk) (hmk : mk < 2 ^ 30) (i : Nat) (hi : i < n) (hzl : ∀ z, z ≤ 9 → 0 < 2 + F i 0 + nI z / 2) (h10 : F i 10 = 0 ∨ F i 10 = 1) : q_M l D (q_ty T) yX3_advise wsX3_advise rmX3_advise [.ref x, .int (nI i)] ([q_xc x wa fl tf tb, q_fc fl al u, q_ac al md ar n, q_wc wa len wi ja, q_ia T wi 10 wf, q_bc tb rt] ++ q_tl (T 1) n ar ad F) q_no (q_is (some (.int (dAdv (dAT (F i) wf mk len) 10).1)) ([q_xc x wa fl tf tb, q_fc fl al u, q_ac al md ar n, q_wc wa len wi ja, q_ia T wi 10 wf, q_bc tb (dATb rt (F i) wf mk len 10)] ++ q_tl (T 1) n ar ad F)) :=
  c_X3_advise_g l D T x tf tb fl al ar n md u ad F hn wa wi ja mk len wf hm hmk i hi hzl h10 (dAT (F i) wf mk len) (dATb rt (F i) wf mk len) (fun _ => rfl) (fun _ => rfl)

