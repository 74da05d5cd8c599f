abbrev rmX3_build : Room := { frames := 5, cells := 4, slots := 42, locals := 108 }

theorem q_bshut {X : va_W} {cO : ClassId} {n ar br b1 b2 : Nat} {ad bd : Nat → Nat} {F K : Nat → Nat → Int32} {r : Nat → Int32} :
    ((X ++ [q_arc cO (n + 1) ar (va_up ad n b1), q_arc cO (n + 1) br (va_up bd n b2), q_bc b1 r, q_bc b2 r]) ++ (q_pl (List.range n) ad F ++ q_pl (List.range n) bd K)).Perm (X ++ (q_tl cO (n + 1) ar (va_up ad n b1) (va_up F n r) ++ q_tl cO (n + 1) br (va_up bd n b2) (va_up K n r))) := by
  rw [← q_tl_up (F := F) (b := b1) (r := r), ← q_tl_up (F := K) (b := b2) (r := r)]
  refine q_pc fun _ a => ?_
  simp only [List.count_append, List.count_cons, List.count_nil]
  omega
theorem q_bshut0 {x1 x2 x3 x4 x5 : Nat × va_E} {cO : ClassId} {ar br b1 b2 : Nat} {ad bd : Nat → Nat} {F K : Nat → Nat → Int32} {r : Nat → Int32} :
    ([x5, q_arc cO 1 br (va_up bd 0 b2), q_bc b2 r, x3, q_arc cO 1 ar (va_up ad 0 b1), q_bc b1 r, x1, x2, x4]).Perm ([x1, x2, x3, x4, x5] ++ (q_tl cO 1 ar (va_up ad 0 b1) (va_up F 0 r) ++ q_tl cO 1 br (va_up bd 0 b2) (va_up K 0 r))) := by
  rw [← q_tl_up (n := 0) (F := F) (b := b1) (r := r), ← q_tl_up (n := 0) (F := K) (b := b2) (r := r)]
  refine q_pc fun _ a => ?_
  simp only [q_pl, Nat.zero_add, List.range_zero, List.map_nil, List.nil_append, List.count_append, List.count_cons, List.count_nil]
  omega

set_option maxHeartbeats 1000000 in
set_option maxRecDepth 100000 in
theorem c_X3_build_n (l : Launch) (D : va_G) (T : Nat → ClassId) (x tf tb fl al ar n ta br e0 : Nat) (md me : Int32) (u v : Nat → Int32) (ad bd : Nat → Nat) (F K : Nat → Nat → Int32) (hn : n < 8) (wa : Nat) (hull rig : Int32) (h1 : ¬ rig < 0) (h2 : rig ≤ 2) (h3 : ¬ hull < 1) (h4 : hull ≤ 9) (h5 : u 2 = 0) (h0 : 0 < n) : q_M l D (q_ty T) yX3_build wsX3_build rmX3_build [.ref x, .int hull, .int rig] ([q_xc x wa fl tf tb, q_fc fl al u, q_ac al md ar n, q_fc tf ta v, q_ac ta me br n] ++ (q_tl (T 1) n ar ad F ++ q_tl (T 1) n br bd K)) (q_gE e0) (fun v9 w9 => ∃ b1 b2, v9 = some (.int (nI n)) ∧ w9.Perm ([q_xc x wa fl tf tb, q_fc fl al u, q_ac al (md + 1) ar (n + 1), q_fc tf ta v, q_ac ta (me + 1) br (n + 1)] ++ (q_tl (T 1) (n + 1) ar (va_up ad n b1) (va_up F n (bNew hull rig)) ++ q_tl (T 1) (n + 1) br (va_up bd n b2) (va_up K n (bNew hull rig))))) := by
  refine q_start (cc := cX3_build) (maxL := 4) (ret := (some .int)) (by decide) rfl (Nat.le_of_ble_eq_true rfl) ?_
  intro p e s m args below meth c A H locs hx hb hr hts hown hlocks hml hnm hP hK hD hS hA hG ls hl
  have hown : s.vm.findClass RX3 = some m.cls := hown
  have hC : CallFix p m c cX3_build 4 s args wsX3_build RX3 := ⟨hx, hb, hml, hown, hts⟩
  have iX3 : ∀ w ∈ wsX30, w ∈ wsX3_build := by decide +kernel
  have iX1 : ∀ w ∈ wsX10, w ∈ wsX3_build := by decide +kernel
  have iX0 : ∀ w ∈ wsX00, w ∈ wsX3_build := by decide +kernel
  have hl : lv_has ls 4 [(0, .ref x), (1, .int hull), (2, .int rig)] := hl
  refine lv_iload_n hx hb dX3_build_0 rfl (lv_at hl 2 rfl) ?_
  refine lv_if_lt (tgt := 9) hx hb dX3_build_1 (by decide) (fun c_1 => absurd c_1 h1) (fun c_1 => ?_)
  refine lv_iload_n hx hb dX3_build_4 rfl (lv_at hl 2 rfl) ?_
  refine lv_iconst (v := 2) hx hb dX3_build_5 (by decide) ?_
  refine lv_icmp_le (tgt := 19) hx hb dX3_build_6 (by decide) (fun c_6 => ?_) (fun c_6 => absurd h2 c_6)
  refine lv_iload_n hx hb dX3_build_19 rfl (lv_at hl 1 rfl) ?_
  refine lv_iconst (v := 1) hx hb dX3_build_20 (by decide) ?_
  refine lv_icmp_lt (tgt := 30) hx hb dX3_build_21 (by decide) (fun c_21 => absurd c_21 h3) (fun c_21 => ?_)
  refine lv_iload_n hx hb dX3_build_24 rfl (lv_at hl 1 rfl) ?_
  refine lv_bipush (v := 9) hx hb dX3_build_25 (by decide) ?_
  refine lv_icmp_le (tgt := 40) hx hb dX3_build_27 (by decide) (fun c_27 => ?_) (fun c_27 => absurd h4 c_27)
  refine lv_aload_n hx hb dX3_build_40 rfl (lv_at hl 0 rfl) ?_
  refine va_get (D := D) (ci := 4) (v := .ref fl) (C := RX3) (T := TX3) (N := 4) hx hb hts iX3 hown hK hP 0 rfl rfl 1 (by decide) (hts (.fieldLink RX3 19 "ToyRegatta" "fleet" "LToyRegatta$Fleet;") (by decide +kernel)) (fun _ h9 => h9) rfl dX3_build_41 ?_
  refine va_get (D := D) (ci := 2) (v := .ref al) (C := RX1) (T := TX1) (N := 5) hx hb hts iX1 hown hK hP 1 rfl rfl 0 (by decide) (hts (.fieldLink RX3 66 "ToyRegatta$Fleet" "boats" "Ljava/util/ArrayList;") (by decide +kernel)) (fun _ h9 => h9) rfl dX3_build_44 ?_
  refine q_callV (As := []) (rs := []) hC (c_AL_size l D T al ar n md) q_no_st q_no_at (cwV 0 hts gX3_build_Jx4a65c_size_8abf5 rfl rfl rfl (by decide +kernel) ⟨Nat.le_of_ble_eq_true rfl, Nat.le_of_ble_eq_true rfl⟩) (va_recv hK hP (ci := 0) (q0 := 2) rfl rfl) hK hP hD hS hA (q_mask [false, false, true, false, false] _) rfl hl.1 rfl (Nat.le_of_ble_eq_true rfl) dX3_build_47 ⟨(Nat.le_of_ble_eq_true rfl), (Nat.le_of_ble_eq_true rfl)⟩ (fun v9 C9 H locs hp hP hD hS => ?_)
  obtain ⟨rfl, rfl⟩ := hp
  have hP : va_P D vwCl ([q_xc x wa fl tf tb, q_fc fl al u, q_ac al md ar n, q_fc tf ta v, q_ac ta me br n] ++ (q_tl (T 1) n ar ad F ++ q_tl (T 1) n br bd K)) H := q_P_perm (q_mrg_perm [false, false, true, false, false] _ _) hP
  have hD : va_D A ([q_xc x wa fl tf tb, q_fc fl al u, q_ac al md ar n, q_fc tf ta v, q_ac ta me br n] ++ (q_tl (T 1) n ar ad F ++ q_tl (T 1) n br bd K)) := q_D_perm (q_mrg_perm [false, false, true, false, false] _ _) hD
  refine lv_istore_n (lv' := [(3, .int (nI n)), (0, .ref x), (1, .int hull), (2, .int rig)]) hx hb dX3_build_50 rfl hl (by decide) rfl (fun ls hl => ?_)
  refine lv_iload_n hx hb dX3_build_51 rfl (lv_at hl 0 rfl) ?_
  refine lv_bipush (v := 8) hx hb dX3_build_52 (by decide) ?_
  refine lv_icmp_lt (tgt := 67) hx hb dX3_build_54 (by decide) (fun c_54 => ?_) (fun c_54 => absurd (nI_lt (b := 8) hn (by omega)) c_54)
  refine lv_aload_n hx hb dX3_build_67 rfl (lv_at hl 1 rfl) ?_
  refine q_callV (As := []) (rs := []) hC (c_X3_requireNoRace_ok l D T x wa fl tf tb al u h5) q_no_st q_no_at (cwV 0 hts gX3_build_X3_requireNoRace rfl rfl rfl (by decide +kernel) ⟨Nat.le_of_ble_eq_true rfl, Nat.le_of_ble_eq_true rfl⟩) (va_recv hK hP (ci := 4) (q0 := 0) rfl rfl) hK hP hD hS hA (q_mask [true, true, false, false, false] _) rfl hl.1 rfl (Nat.le_of_ble_eq_true rfl) dX3_build_68 ⟨(Nat.le_of_ble_eq_true rfl), (Nat.le_of_ble_eq_true rfl)⟩ (fun v9 C9 H locs hp hP hD hS => ?_)
  obtain ⟨rfl, rfl⟩ := hp
  have hP : va_P D vwCl ([q_xc x wa fl tf tb, q_fc fl al u, q_ac al md ar n, q_fc tf ta v, q_ac ta me br n] ++ (q_tl (T 1) n ar ad F ++ q_tl (T 1) n br bd K)) H := q_P_perm (q_mrg_perm [true, true, false, false, false] _ _) hP
  have hD : va_D A ([q_xc x wa fl tf tb, q_fc fl al u, q_ac al md ar n, q_fc tf ta v, q_ac ta me br n] ++ (q_tl (T 1) n ar ad F ++ q_tl (T 1) n br bd K)) := q_D_perm (q_mrg_perm [true, true, false, false, false] _ _) hD
  have hP : va_P D vwCl ([q_xc x wa fl tf tb, q_fc fl al u, q_ac al md ar n, q_fc tf ta v, q_ac ta me br n, q_arc (T 1) n ar ad, q_arc (T 1) n br bd] ++ (q_pl (List.range n) ad F ++ q_pl (List.range n) bd K)) H := q_P_perm (q_tl2o [q_xc x wa fl tf tb, q_fc fl al u, q_ac al md ar n, q_fc tf ta v, q_ac ta me br n] h0) hP
  have hD : va_D A ([q_xc x wa fl tf tb, q_fc fl al u, q_ac al md ar n, q_fc tf ta v, q_ac ta me br n, q_arc (T 1) n ar ad, q_arc (T 1) n br bd] ++ (q_pl (List.range n) ad F ++ q_pl (List.range n) bd K)) := q_D_perm (q_tl2o [q_xc x wa fl tf tb, q_fc fl al u, q_ac al md ar n, q_fc tf ta v, q_ac ta me br n] h0) hD
  refine lv_aload_n hx hb dX3_build_71 rfl (lv_at hl 1 rfl) ?_
  refine va_get (D := D) (ci := 4) (v := .ref fl) (C := RX3) (T := TX3) (N := 4) hx hb hts iX3 hown hK hP 0 rfl rfl 1 (by decide) (hts (.fieldLink RX3 19 "ToyRegatta" "fleet" "LToyRegatta$Fleet;") (by decide +kernel)) (fun _ h9 => h9) rfl dX3_build_72 ?_
  refine va_get (D := D) (ci := 2) (v := .ref al) (C := RX1) (T := TX1) (N := 5) hx hb hts iX1 hown hK hP 1 rfl rfl 0 (by decide) (hts (.fieldLink RX3 66 "ToyRegatta$Fleet" "boats" "Ljava/util/ArrayList;") (by decide +kernel)) (fun _ h9 => h9) rfl dX3_build_75 ?_
  refine va_new (D := D) (ci := 1) (fs := [.int 0, .int 0, .int 0, .int 0, .int 0, .int 0, .int 0, .int 0, .int 0, .int 0, .int 0]) (C := RX0) (T := TX0) (N := 11) hx hb hts iX0 tyX0 tyX0_ok hown (hts (.classLink RX3 26 RX0) (by decide +kernel)) (hts (.instantiable RX0 11) (by decide +kernel)) (hts (.initialized RX0) (by decide +kernel)) hK hP hD hS hA rfl (fun j hj => by rcases (show j = 0 ∨ j = 1 ∨ j = 2 ∨ j = 3 ∨ j = 4 ∨ j = 5 ∨ j = 6 ∨ j = 7 ∨ j = 8 ∨ j = 9 ∨ j = 10 by omega) with rfl | rfl | rfl | rfl | rfl | rfl | rfl | rfl | rfl | rfl | rfl <;> rfl) (Nat.le_of_ble_eq_true rfl) (Nat.le_of_ble_eq_true rfl) dX3_build_78 (fun q78 H hP hD hS => ?_)
  have hP : va_P D vwCl ([q_xc x wa fl tf tb, q_fc fl al u, q_ac al md ar n, q_fc tf ta v, q_ac ta me br n, q_arc (T 1) n ar ad, q_arc (T 1) n br bd, q_bc q78 (fun _ => (0 : Int32))] ++ (q_pl (List.range n) ad F ++ q_pl (List.range n) bd K)) H := q_P_perm (q_newt [q_xc x wa fl tf tb, q_fc fl al u, q_ac al md ar n, q_fc tf ta v, q_ac ta me br n, q_arc (T 1) n ar ad, q_arc (T 1) n br bd] ((q_pl (List.range n) ad F ++ q_pl (List.range n) bd K)) (q_bc q78 (fun _ => (0 : Int32)))) hP
  have hD : va_D A ([q_xc x wa fl tf tb, q_fc fl al u, q_ac al md ar n, q_fc tf ta v, q_ac ta me br n, q_arc (T 1) n ar ad, q_arc (T 1) n br bd, q_bc q78 (fun _ => (0 : Int32))] ++ (q_pl (List.range n) ad F ++ q_pl (List.range n) bd K)) := q_D_perm (q_newt [q_xc x wa fl tf tb, q_fc fl al u, q_ac al md ar n, q_fc tf ta v, q_ac ta me br n, q_arc (T 1) n ar ad, q_arc (T 1) n br bd] ((q_pl (List.range n) ad F ++ q_pl (List.range n) bd K)) (q_bc q78 (fun _ => (0 : Int32)))) hD
  refine lv_dup hx hb dX3_build_81 rfl ?_
  refine lv_iload_n hx hb dX3_build_82 rfl (lv_at hl 2 rfl) ?_
  refine lv_iload_n hx hb dX3_build_83 rfl (lv_at hl 3 rfl) ?_
  refine q_callI (As := [.int hull, .int rig]) (rs := [.ref q78, .ref al]) hC (c_X0_init l D T q78 hull rig) q_no_st q_no_at (cwI 2 hts gX3_build_X0_init rfl rfl rfl (hts (.initialized RX0) (by decide +kernel)) (hts (.methodLink RX3 28 yX0_init) (by decide +kernel)) (hts (.instanceMethod yX0_init) (by decide +kernel)) rfl (by decide +kernel) ⟨Nat.le_of_ble_eq_true rfl, Nat.le_of_ble_eq_true rfl⟩) hK hP hD hS hA (q_mask [false, false, false, false, false, false, false, true] _) rfl hl.1 rfl (Nat.le_of_ble_eq_true rfl) dX3_build_84 ⟨(Nat.le_of_ble_eq_true rfl), (Nat.le_of_ble_eq_true rfl)⟩ (fun v9 C9 H locs hp hP hD hS => ?_)
  obtain ⟨rfl, rfl⟩ := hp
  have hP : va_P D vwCl ([q_xc x wa fl tf tb, q_fc fl al u, q_ac al md ar n, q_fc tf ta v, q_ac ta me br n, q_arc (T 1) n ar ad, q_arc (T 1) n br bd, q_bc q78 (bNew hull rig)] ++ (q_pl (List.range n) ad F ++ q_pl (List.range n) bd K)) H := q_P_perm (q_mrg_perm [false, false, false, false, false, false, false, true] _ _) hP
  have hD : va_D A ([q_xc x wa fl tf tb, q_fc fl al u, q_ac al md ar n, q_fc tf ta v, q_ac ta me br n, q_arc (T 1) n ar ad, q_arc (T 1) n br bd, q_bc q78 (bNew hull rig)] ++ (q_pl (List.range n) ad F ++ q_pl (List.range n) bd K)) := q_D_perm (q_mrg_perm [false, false, false, false, false, false, false, true] _ _) hD
  refine q_callV (As := [.ref q78]) (rs := []) hC (c_AL_add_n l D T al e0 ar q78 n ad md (bNew hull rig) h0 hn) (q_gE_st e0) (q_gE_at hG hD hS hA (q_mask [false, false, true, false, false, true, false, true] _)) (cwV 1 hts gX3_build_Jx4a65c_add_9ea2d rfl rfl rfl (by decide +kernel) ⟨Nat.le_of_ble_eq_true rfl, Nat.le_of_ble_eq_true rfl⟩) (va_recv hK hP (ci := 0) (q0 := 2) rfl rfl) hK hP hD hS hA (q_mask [false, false, true, false, false, true, false, true] _) rfl hl.1 rfl (Nat.le_of_ble_eq_true rfl) dX3_build_87 ⟨(Nat.le_of_ble_eq_true rfl), (Nat.le_of_ble_eq_true rfl)⟩ (fun v9 C9 H locs hp hP hD hS => ?_)
  obtain ⟨rfl, rfl⟩ := hp
  have hP : va_P D vwCl ([q_xc x wa fl tf tb, q_fc fl al u, q_ac al (md + 1) ar (n + 1), q_fc tf ta v, q_ac ta me br n, q_arc (T 1) (n + 1) ar (va_up ad n q78), q_arc (T 1) n br bd, q_bc q78 (bNew hull rig)] ++ (q_pl (List.range n) ad F ++ q_pl (List.range n) bd K)) H := q_P_perm (q_mrg_perm [false, false, true, false, false, true, false, true] _ _) hP
  have hD : va_D A ([q_xc x wa fl tf tb, q_fc fl al u, q_ac al (md + 1) ar (n + 1), q_fc tf ta v, q_ac ta me br n, q_arc (T 1) (n + 1) ar (va_up ad n q78), q_arc (T 1) n br bd, q_bc q78 (bNew hull rig)] ++ (q_pl (List.range n) ad F ++ q_pl (List.range n) bd K)) := q_D_perm (q_mrg_perm [false, false, true, false, false, true, false, true] _ _) hD
  refine lv_pop hx hb dX3_build_90 rfl ?_
  refine lv_aload_n hx hb dX3_build_91 rfl (lv_at hl 1 rfl) ?_
  refine va_get (D := D) (ci := 4) (v := .ref tf) (C := RX3) (T := TX3) (N := 4) hx hb hts iX3 hown hK hP 0 rfl rfl 2 (by decide) (hts (.fieldLink RX3 23 "ToyRegatta" "trialFleet" "LToyRegatta$Fleet;") (by decide +kernel)) (fun _ h9 => h9) rfl dX3_build_92 ?_
  refine va_get (D := D) (ci := 2) (v := .ref ta) (C := RX1) (T := TX1) (N := 5) hx hb hts iX1 hown hK hP 3 rfl rfl 0 (by decide) (hts (.fieldLink RX3 66 "ToyRegatta$Fleet" "boats" "Ljava/util/ArrayList;") (by decide +kernel)) (fun _ h9 => h9) rfl dX3_build_95 ?_
  refine va_new (D := D) (ci := 1) (fs := [.int 0, .int 0, .int 0, .int 0, .int 0, .int 0, .int 0, .int 0, .int 0, .int 0, .int 0]) (C := RX0) (T := TX0) (N := 11) hx hb hts iX0 tyX0 tyX0_ok hown (hts (.classLink RX3 26 RX0) (by decide +kernel)) (hts (.instantiable RX0 11) (by decide +kernel)) (hts (.initialized RX0) (by decide +kernel)) hK hP hD hS hA rfl (fun j hj => by rcases (show j = 0 ∨ j = 1 ∨ j = 2 ∨ j = 3 ∨ j = 4 ∨ j = 5 ∨ j = 6 ∨ j = 7 ∨ j = 8 ∨ j = 9 ∨ j = 10 by omega) with rfl | rfl | rfl | rfl | rfl | rfl | rfl | rfl | rfl | rfl | rfl <;> rfl) (Nat.le_of_ble_eq_true rfl) (Nat.le_of_ble_eq_true rfl) dX3_build_98 (fun q98 H hP hD hS => ?_)
  have hP : va_P D vwCl ([q_xc x wa fl tf tb, q_fc fl al u, q_ac al (md + 1) ar (n + 1), q_fc tf ta v, q_ac ta me br n, q_arc (T 1) (n + 1) ar (va_up ad n q78), q_arc (T 1) n br bd, q_bc q78 (bNew hull rig), q_bc q98 (fun _ => (0 : Int32))] ++ (q_pl (List.range n) ad F ++ q_pl (List.range n) bd K)) H := q_P_perm (q_newt [q_xc x wa fl tf tb, q_fc fl al u, q_ac al (md + 1) ar (n + 1), q_fc tf ta v, q_ac ta me br n, q_arc (T 1) (n + 1) ar (va_up ad n q78), q_arc (T 1) n br bd, q_bc q78 (bNew hull rig)] ((q_pl (List.range n) ad F ++ q_pl (List.range n) bd K)) (q_bc q98 (fun _ => (0 : Int32)))) hP
  have hD : va_D A ([q_xc x wa fl tf tb, q_fc fl al u, q_ac al (md + 1) ar (n + 1), q_fc tf ta v, q_ac ta me br n, q_arc (T 1) (n + 1) ar (va_up ad n q78), q_arc (T 1) n br bd, q_bc q78 (bNew hull rig), q_bc q98 (fun _ => (0 : Int32))] ++ (q_pl (List.range n) ad F ++ q_pl (List.range n) bd K)) := q_D_perm (q_newt [q_xc x wa fl tf tb, q_fc fl al u, q_ac al (md + 1) ar (n + 1), q_fc tf ta v, q_ac ta me br n, q_arc (T 1) (n + 1) ar (va_up ad n q78), q_arc (T 1) n br bd, q_bc q78 (bNew hull rig)] ((q_pl (List.range n) ad F ++ q_pl (List.range n) bd K)) (q_bc q98 (fun _ => (0 : Int32)))) hD
  refine lv_dup hx hb dX3_build_101 rfl ?_
  refine lv_iload_n hx hb dX3_build_102 rfl (lv_at hl 2 rfl) ?_
  refine lv_iload_n hx hb dX3_build_103 rfl (lv_at hl 3 rfl) ?_
  refine q_callI (As := [.int hull, .int rig]) (rs := [.ref q98, .ref ta]) hC (c_X0_init l D T q98 hull rig) q_no_st q_no_at (cwI 2 hts gX3_build_X0_init rfl rfl rfl (hts (.initialized RX0) (by decide +kernel)) (hts (.methodLink RX3 28 yX0_init) (by decide +kernel)) (hts (.instanceMethod yX0_init) (by decide +kernel)) rfl (by decide +kernel) ⟨Nat.le_of_ble_eq_true rfl, Nat.le_of_ble_eq_true rfl⟩) hK hP hD hS hA (q_mask [false, false, false, false, false, false, false, false, true] _) rfl hl.1 rfl (Nat.le_of_ble_eq_true rfl) dX3_build_104 ⟨(Nat.le_of_ble_eq_true rfl), (Nat.le_of_ble_eq_true rfl)⟩ (fun v9 C9 H locs hp hP hD hS => ?_)
  obtain ⟨rfl, rfl⟩ := hp
  have hP : va_P D vwCl ([q_xc x wa fl tf tb, q_fc fl al u, q_ac al (md + 1) ar (n + 1), q_fc tf ta v, q_ac ta me br n, q_arc (T 1) (n + 1) ar (va_up ad n q78), q_arc (T 1) n br bd, q_bc q78 (bNew hull rig), q_bc q98 (bNew hull rig)] ++ (q_pl (List.range n) ad F ++ q_pl (List.range n) bd K)) H := q_P_perm (q_mrg_perm [false, false, false, false, false, false, false, false, true] _ _) hP
  have hD : va_D A ([q_xc x wa fl tf tb, q_fc fl al u, q_ac al (md + 1) ar (n + 1), q_fc tf ta v, q_ac ta me br n, q_arc (T 1) (n + 1) ar (va_up ad n q78), q_arc (T 1) n br bd, q_bc q78 (bNew hull rig), q_bc q98 (bNew hull rig)] ++ (q_pl (List.range n) ad F ++ q_pl (List.range n) bd K)) := q_D_perm (q_mrg_perm [false, false, false, false, false, false, false, false, true] _ _) hD
  refine q_callV (As := [.ref q98]) (rs := []) hC (c_AL_add_n l D T ta e0 br q98 n bd me (bNew hull rig) h0 hn) (q_gE_st e0) (q_gE_at hG hD hS hA (q_mask [false, false, false, false, true, false, true, false, true] _)) (cwV 1 hts gX3_build_Jx4a65c_add_9ea2d rfl rfl rfl (by decide +kernel) ⟨Nat.le_of_ble_eq_true rfl, Nat.le_of_ble_eq_true rfl⟩) (va_recv hK hP (ci := 0) (q0 := 4) rfl rfl) hK hP hD hS hA (q_mask [false, false, false, false, true, false, true, false, true] _) rfl hl.1 rfl (Nat.le_of_ble_eq_true rfl) dX3_build_107 ⟨(Nat.le_of_ble_eq_true rfl), (Nat.le_of_ble_eq_true rfl)⟩ (fun v9 C9 H locs hp hP hD hS => ?_)
  obtain ⟨rfl, rfl⟩ := hp
  have hP : va_P D vwCl ([q_xc x wa fl tf tb, q_fc fl al u, q_ac al (md + 1) ar (n + 1), q_fc tf ta v, q_ac ta (me + 1) br (n + 1), q_arc (T 1) (n + 1) ar (va_up ad n q78), q_arc (T 1) (n + 1) br (va_up bd n q98), q_bc q78 (bNew hull rig), q_bc q98 (bNew hull rig)] ++ (q_pl (List.range n) ad F ++ q_pl (List.range n) bd K)) H := q_P_perm (q_mrg_perm [false, false, false, false, true, false, true, false, true] _ _) hP
  have hD : va_D A ([q_xc x wa fl tf tb, q_fc fl al u, q_ac al (md + 1) ar (n + 1), q_fc tf ta v, q_ac ta (me + 1) br (n + 1), q_arc (T 1) (n + 1) ar (va_up ad n q78), q_arc (T 1) (n + 1) br (va_up bd n q98), q_bc q78 (bNew hull rig), q_bc q98 (bNew hull rig)] ++ (q_pl (List.range n) ad F ++ q_pl (List.range n) bd K)) := q_D_perm (q_mrg_perm [false, false, false, false, true, false, true, false, true] _ _) hD
  refine lv_pop hx hb dX3_build_110 rfl ?_
  refine lv_iload_n hx hb dX3_build_111 rfl (lv_at hl 0 rfl) ?_
  exact q_iret hx hb hr hlocks hP hK hD hS (Nat.le_of_ble_eq_true rfl) (Nat.le_of_ble_eq_true rfl) dX3_build_112 ⟨q78, q98, rfl, q_bshut (X := [q_xc x wa fl tf tb, q_fc fl al u, q_ac al (md + 1) ar (n + 1), q_fc tf ta v, q_ac ta (me + 1) br (n + 1)])⟩
set_option maxHeartbeats 1000000 in
set_option maxRecDepth 100000 in
theorem c_X3_build_0 (l : Launch) (D : va_G) (T : Nat → ClassId) (x tf tb fl al al0 n ta br0 e0 : Nat) (md me : Int32) (u v : Nat → Int32) (ad bd : Nat → Nat) (F K : Nat → Nat → Int32) (hn : n < 8) (wa : Nat) (hull rig : Int32) (h1 : ¬ rig < 0) (h2 : rig ≤ 2) (h3 : ¬ hull < 1) (h4 : hull ≤ 9) (h5 : u 2 = 0) : q_M l D (q_ty T) yX3_build wsX3_build rmX3_build [.ref x, .int hull, .int rig] [q_xc x wa fl tf tb, q_fc fl al u, q_ac al md e0 0, q_fc tf ta v, q_ac ta me e0 0] (q_gE e0) (fun v9 w9 => ∃ ar br b1 b2, v9 = some (.int (0)) ∧ w9.Perm ([q_xc x wa fl tf tb, q_fc fl al u, q_ac al (md + 1) ar 1, q_fc tf ta v, q_ac ta (me + 1) br 1] ++ (q_tl (T 1) 1 ar (va_up ad 0 b1) (va_up F 0 (bNew hull rig)) ++ q_tl (T 1) 1 br (va_up bd 0 b2) (va_up K 0 (bNew hull rig))))) := by
  refine q_start (cc := cX3_build) (maxL := 4) (ret := (some .int)) (by decide) rfl (Nat.le_of_ble_eq_true rfl) ?_
  intro p e s m args below meth c A H locs hx hb hr hts hown hlocks hml hnm hP hK hD hS hA hG ls hl
  have hown : s.vm.findClass RX3 = some m.cls := hown
  have hC : CallFix p m c cX3_build 4 s args wsX3_build RX3 := ⟨hx, hb, hml, hown, hts⟩
  have iX3 : ∀ w ∈ wsX30, w ∈ wsX3_build := by decide +kernel
  have iX1 : ∀ w ∈ wsX10, w ∈ wsX3_build := by decide +kernel
  have iX0 : ∀ w ∈ wsX00, w ∈ wsX3_build := by decide +kernel
  have hl : lv_has ls 4 [(0, .ref x), (1, .int hull), (2, .int rig)] := hl
  refine lv_iload_n hx hb dX3_build_0 rfl (lv_at hl 2 rfl) ?_
  refine lv_if_lt (tgt := 9) hx hb dX3_build_1 (by decide) (fun c_1 => absurd c_1 h1) (fun c_1 => ?_)
  refine lv_iload_n hx hb dX3_build_4 rfl (lv_at hl 2 rfl) ?_
  refine lv_iconst (v := 2) hx hb dX3_build_5 (by decide) ?_
  refine lv_icmp_le (tgt := 19) hx hb dX3_build_6 (by decide) (fun c_6 => ?_) (fun c_6 => absurd h2 c_6)
  refine lv_iload_n hx hb dX3_build_19 rfl (lv_at hl 1 rfl) ?_
  refine lv_iconst (v := 1) hx hb dX3_build_20 (by decide) ?_
  refine lv_icmp_lt (tgt := 30) hx hb dX3_build_21 (by decide) (fun c_21 => absurd c_21 h3) (fun c_21 => ?_)
  refine lv_iload_n hx hb dX3_build_24 rfl (lv_at hl 1 rfl) ?_
  refine lv_bipush (v := 9) hx hb dX3_build_25 (by decide) ?_
  refine lv_icmp_le (tgt := 40) hx hb dX3_build_27 (by decide) (fun c_27 => ?_) (fun c_27 => absurd h4 c_27)
  refine lv_aload_n hx hb dX3_build_40 rfl (lv_at hl 0 rfl) ?_
  refine va_get (D := D) (ci := 4) (v := .ref fl) (C := RX3) (T := TX3) (N := 4) hx hb hts iX3 hown hK hP 0 rfl rfl 1 (by decide) (hts (.fieldLink RX3 19 "ToyRegatta" "fleet" "LToyRegatta$Fleet;") (by decide +kernel)) (fun _ h9 => h9) rfl dX3_build_41 ?_
  refine va_get (D := D) (ci := 2) (v := .ref al) (C := RX1) (T := TX1) (N := 5) hx hb hts iX1 hown hK hP 1 rfl rfl 0 (by decide) (hts (.fieldLink RX3 66 "ToyRegatta$Fleet" "boats" "Ljava/util/ArrayList;") (by decide +kernel)) (fun _ h9 => h9) rfl dX3_build_44 ?_
  refine q_callV (As := []) (rs := []) hC (c_AL_size l D T al e0 0 md) q_no_st q_no_at (cwV 0 hts gX3_build_Jx4a65c_size_8abf5 rfl rfl rfl (by decide +kernel) ⟨Nat.le_of_ble_eq_true rfl, Nat.le_of_ble_eq_true rfl⟩) (va_recv hK hP (ci := 0) (q0 := 2) rfl rfl) hK hP hD hS hA (q_mask [false, false, true, false, false] _) rfl hl.1 rfl (Nat.le_of_ble_eq_true rfl) dX3_build_47 ⟨(Nat.le_of_ble_eq_true rfl), (Nat.le_of_ble_eq_true rfl)⟩ (fun v9 C9 H locs hp hP hD hS => ?_)
  obtain ⟨rfl, rfl⟩ := hp
  have hP : va_P D vwCl [q_xc x wa fl tf tb, q_fc fl al u, q_ac al md e0 0, q_fc tf ta v, q_ac ta me e0 0] H := q_P_perm (q_mrg_perm [false, false, true, false, false] _ _) hP
  have hD : va_D A [q_xc x wa fl tf tb, q_fc fl al u, q_ac al md e0 0, q_fc tf ta v, q_ac ta me e0 0] := q_D_perm (q_mrg_perm [false, false, true, false, false] _ _) hD
  refine lv_istore_n (lv' := [(3, .int (nI 0)), (0, .ref x), (1, .int hull), (2, .int rig)]) hx hb dX3_build_50 rfl hl (by decide) rfl (fun ls hl => ?_)
  refine lv_iload_n hx hb dX3_build_51 rfl (lv_at hl 0 rfl) ?_
  refine lv_bipush (v := 8) hx hb dX3_build_52 (by decide) ?_
  refine lv_icmp_lt (tgt := 67) hx hb dX3_build_54 (by decide) (fun c_54 => ?_) (fun c_54 => absurd (by decide) c_54)
  refine lv_aload_n hx hb dX3_build_67 rfl (lv_at hl 1 rfl) ?_
  refine q_callV (As := []) (rs := []) hC (c_X3_requireNoRace_ok l D T x wa fl tf tb al u h5) q_no_st q_no_at (cwV 0 hts gX3_build_X3_requireNoRace rfl rfl rfl (by decide +kernel) ⟨Nat.le_of_ble_eq_true rfl, Nat.le_of_ble_eq_true rfl⟩) (va_recv hK hP (ci := 4) (q0 := 0) rfl rfl) hK hP hD hS hA (q_mask [true, true, false, false, false] _) rfl hl.1 rfl (Nat.le_of_ble_eq_true rfl) dX3_build_68 ⟨(Nat.le_of_ble_eq_true rfl), (Nat.le_of_ble_eq_true rfl)⟩ (fun v9 C9 H locs hp hP hD hS => ?_)
  obtain ⟨rfl, rfl⟩ := hp
  have hP : va_P D vwCl [q_xc x wa fl tf tb, q_fc fl al u, q_ac al md e0 0, q_fc tf ta v, q_ac ta me e0 0] H := q_P_perm (q_mrg_perm [true, true, false, false, false] _ _) hP
  have hD : va_D A [q_xc x wa fl tf tb, q_fc fl al u, q_ac al md e0 0, q_fc tf ta v, q_ac ta me e0 0] := q_D_perm (q_mrg_perm [true, true, false, false, false] _ _) hD
  refine lv_aload_n hx hb dX3_build_71 rfl (lv_at hl 1 rfl) ?_
  refine va_get (D := D) (ci := 4) (v := .ref fl) (C := RX3) (T := TX3) (N := 4) hx hb hts iX3 hown hK hP 0 rfl rfl 1 (by decide) (hts (.fieldLink RX3 19 "ToyRegatta" "fleet" "LToyRegatta$Fleet;") (by decide +kernel)) (fun _ h9 => h9) rfl dX3_build_72 ?_
  refine va_get (D := D) (ci := 2) (v := .ref al) (C := RX1) (T := TX1) (N := 5) hx hb hts iX1 hown hK hP 1 rfl rfl 0 (by decide) (hts (.fieldLink RX3 66 "ToyRegatta$Fleet" "boats" "Ljava/util/ArrayList;") (by decide +kernel)) (fun _ h9 => h9) rfl dX3_build_75 ?_
  refine va_new (D := D) (ci := 1) (fs := [.int 0, .int 0, .int 0, .int 0, .int 0, .int 0, .int 0, .int 0, .int 0, .int 0, .int 0]) (C := RX0) (T := TX0) (N := 11) hx hb hts iX0 tyX0 tyX0_ok hown (hts (.classLink RX3 26 RX0) (by decide +kernel)) (hts (.instantiable RX0 11) (by decide +kernel)) (hts (.initialized RX0) (by decide +kernel)) hK hP hD hS hA rfl (fun j hj => by rcases (show j = 0 ∨ j = 1 ∨ j = 2 ∨ j = 3 ∨ j = 4 ∨ j = 5 ∨ j = 6 ∨ j = 7 ∨ j = 8 ∨ j = 9 ∨ j = 10 by omega) with rfl | rfl | rfl | rfl | rfl | rfl | rfl | rfl | rfl | rfl | rfl <;> rfl) (Nat.le_of_ble_eq_true rfl) (Nat.le_of_ble_eq_true rfl) dX3_build_78 (fun q78 H hP hD hS => ?_)
  have hP : va_P D vwCl [q_xc x wa fl tf tb, q_fc fl al u, q_ac al md e0 0, q_fc tf ta v, q_ac ta me e0 0, q_bc q78 (fun _ => (0 : Int32))] H := hP
  have hD : va_D A [q_xc x wa fl tf tb, q_fc fl al u, q_ac al md e0 0, q_fc tf ta v, q_ac ta me e0 0, q_bc q78 (fun _ => (0 : Int32))] := hD
  refine lv_dup hx hb dX3_build_81 rfl ?_
  refine lv_iload_n hx hb dX3_build_82 rfl (lv_at hl 2 rfl) ?_
  refine lv_iload_n hx hb dX3_build_83 rfl (lv_at hl 3 rfl) ?_
  refine q_callI (As := [.int hull, .int rig]) (rs := [.ref q78, .ref al]) hC (c_X0_init l D T q78 hull rig) q_no_st q_no_at (cwI 2 hts gX3_build_X0_init rfl rfl rfl (hts (.initialized RX0) (by decide +kernel)) (hts (.methodLink RX3 28 yX0_init) (by decide +kernel)) (hts (.instanceMethod yX0_init) (by decide +kernel)) rfl (by decide +kernel) ⟨Nat.le_of_ble_eq_true rfl, Nat.le_of_ble_eq_true rfl⟩) hK hP hD hS hA (q_mask [false, false, false, false, false, true] _) rfl hl.1 rfl (Nat.le_of_ble_eq_true rfl) dX3_build_84 ⟨(Nat.le_of_ble_eq_true rfl), (Nat.le_of_ble_eq_true rfl)⟩ (fun v9 C9 H locs hp hP hD hS => ?_)
  obtain ⟨rfl, rfl⟩ := hp
  have hP : va_P D vwCl [q_xc x wa fl tf tb, q_fc fl al u, q_ac al md e0 0, q_fc tf ta v, q_ac ta me e0 0, q_bc q78 (bNew hull rig)] H := q_P_perm (q_mrg_perm [false, false, false, false, false, true] _ _) hP
  have hD : va_D A [q_xc x wa fl tf tb, q_fc fl al u, q_ac al md e0 0, q_fc tf ta v, q_ac ta me e0 0, q_bc q78 (bNew hull rig)] := q_D_perm (q_mrg_perm [false, false, false, false, false, true] _ _) hD
  refine q_callV (As := [.ref q78]) (rs := []) hC (c_AL_add_0 l D T al e0 q78 ad md (bNew hull rig)) (q_gE_st e0) (q_gE_at hG hD hS hA (q_mask [false, false, true, false, false, true] _)) (cwV 1 hts gX3_build_Jx4a65c_add_9ea2d rfl rfl rfl (by decide +kernel) ⟨Nat.le_of_ble_eq_true rfl, Nat.le_of_ble_eq_true rfl⟩) (va_recv hK hP (ci := 0) (q0 := 2) rfl rfl) hK hP hD hS hA (q_mask [false, false, true, false, false, true] _) rfl hl.1 rfl (Nat.le_of_ble_eq_true rfl) dX3_build_87 ⟨(Nat.le_of_ble_eq_true rfl), (Nat.le_of_ble_eq_true rfl)⟩ (fun v9 C9 H locs hp hP hD hS => ?_)
  obtain ⟨ar, rfl, rfl⟩ := hp
  have hP : va_P D vwCl [q_ac al (md + 1) ar 1, q_arc (T 1) 1 ar (va_up ad 0 q78), q_bc q78 (bNew hull rig), q_xc x wa fl tf tb, q_fc fl al u, q_fc tf ta v, q_ac ta me e0 0] H := hP
  have hD : va_D A [q_ac al (md + 1) ar 1, q_arc (T 1) 1 ar (va_up ad 0 q78), q_bc q78 (bNew hull rig), q_xc x wa fl tf tb, q_fc fl al u, q_fc tf ta v, q_ac ta me e0 0] := hD
  refine lv_pop hx hb dX3_build_90 rfl ?_
  refine lv_aload_n hx hb dX3_build_91 rfl (lv_at hl 1 rfl) ?_
  refine va_get (D := D) (ci := 4) (v := .ref tf) (C := RX3) (T := TX3) (N := 4) hx hb hts iX3 hown hK hP 3 rfl rfl 2 (by decide) (hts (.fieldLink RX3 23 "ToyRegatta" "trialFleet" "LToyRegatta$Fleet;") (by decide +kernel)) (fun _ h9 => h9) rfl dX3_build_92 ?_
  refine va_get (D := D) (ci := 2) (v := .ref ta) (C := RX1) (T := TX1) (N := 5) hx hb hts iX1 hown hK hP 5 rfl rfl 0 (by decide) (hts (.fieldLink RX3 66 "ToyRegatta$Fleet" "boats" "Ljava/util/ArrayList;") (by decide +kernel)) (fun _ h9 => h9) rfl dX3_build_95 ?_
  refine va_new (D := D) (ci := 1) (fs := [.int 0, .int 0, .int 0, .int 0, .int 0, .int 0, .int 0, .int 0, .int 0, .int 0, .int 0]) (C := RX0) (T := TX0) (N := 11) hx hb hts iX0 tyX0 tyX0_ok hown (hts (.classLink RX3 26 RX0) (by decide +kernel)) (hts (.instantiable RX0 11) (by decide +kernel)) (hts (.initialized RX0) (by decide +kernel)) hK hP hD hS hA rfl (fun j hj => by rcases (show j = 0 ∨ j = 1 ∨ j = 2 ∨ j = 3 ∨ j = 4 ∨ j = 5 ∨ j = 6 ∨ j = 7 ∨ j = 8 ∨ j = 9 ∨ j = 10 by omega) with rfl | rfl | rfl | rfl | rfl | rfl | rfl | rfl | rfl | rfl | rfl <;> rfl) (Nat.le_of_ble_eq_true rfl) (Nat.le_of_ble_eq_true rfl) dX3_build_98 (fun q98 H hP hD hS => ?_)
  have hP : va_P D vwCl [q_ac al (md + 1) ar 1, q_arc (T 1) 1 ar (va_up ad 0 q78), q_bc q78 (bNew hull rig), q_xc x wa fl tf tb, q_fc fl al u, q_fc tf ta v, q_ac ta me e0 0, q_bc q98 (fun _ => (0 : Int32))] H := hP
  have hD : va_D A [q_ac al (md + 1) ar 1, q_arc (T 1) 1 ar (va_up ad 0 q78), q_bc q78 (bNew hull rig), q_xc x wa fl tf tb, q_fc fl al u, q_fc tf ta v, q_ac ta me e0 0, q_bc q98 (fun _ => (0 : Int32))] := hD
  refine lv_dup hx hb dX3_build_101 rfl ?_
  refine lv_iload_n hx hb dX3_build_102 rfl (lv_at hl 2 rfl) ?_
  refine lv_iload_n hx hb dX3_build_103 rfl (lv_at hl 3 rfl) ?_
  refine q_callI (As := [.int hull, .int rig]) (rs := [.ref q98, .ref ta]) hC (c_X0_init l D T q98 hull rig) q_no_st q_no_at (cwI 2 hts gX3_build_X0_init rfl rfl rfl (hts (.initialized RX0) (by decide +kernel)) (hts (.methodLink RX3 28 yX0_init) (by decide +kernel)) (hts (.instanceMethod yX0_init) (by decide +kernel)) rfl (by decide +kernel) ⟨Nat.le_of_ble_eq_true rfl, Nat.le_of_ble_eq_true rfl⟩) hK hP hD hS hA (q_mask [false, false, false, false, false, false, false, true] _) rfl hl.1 rfl (Nat.le_of_ble_eq_true rfl) dX3_build_104 ⟨(Nat.le_of_ble_eq_true rfl), (Nat.le_of_ble_eq_true rfl)⟩ (fun v9 C9 H locs hp hP hD hS => ?_)
  obtain ⟨rfl, rfl⟩ := hp
  have hP : va_P D vwCl [q_ac al (md + 1) ar 1, q_arc (T 1) 1 ar (va_up ad 0 q78), q_bc q78 (bNew hull rig), q_xc x wa fl tf tb, q_fc fl al u, q_fc tf ta v, q_ac ta me e0 0, q_bc q98 (bNew hull rig)] H := q_P_perm (q_mrg_perm [false, false, false, false, false, false, false, true] _ _) hP
  have hD : va_D A [q_ac al (md + 1) ar 1, q_arc (T 1) 1 ar (va_up ad 0 q78), q_bc q78 (bNew hull rig), q_xc x wa fl tf tb, q_fc fl al u, q_fc tf ta v, q_ac ta me e0 0, q_bc q98 (bNew hull rig)] := q_D_perm (q_mrg_perm [false, false, false, false, false, false, false, true] _ _) hD
  refine q_callV (As := [.ref q98]) (rs := []) hC (c_AL_add_0 l D T ta e0 q98 bd me (bNew hull rig)) (q_gE_st e0) (q_gE_at hG hD hS hA (q_mask [false, false, false, false, false, false, true, true] _)) (cwV 1 hts gX3_build_Jx4a65c_add_9ea2d rfl rfl rfl (by decide +kernel) ⟨Nat.le_of_ble_eq_true rfl, Nat.le_of_ble_eq_true rfl⟩) (va_recv hK hP (ci := 0) (q0 := 6) rfl rfl) hK hP hD hS hA (q_mask [false, false, false, false, false, false, true, true] _) rfl hl.1 rfl (Nat.le_of_ble_eq_true rfl) dX3_build_107 ⟨(Nat.le_of_ble_eq_true rfl), (Nat.le_of_ble_eq_true rfl)⟩ (fun v9 C9 H locs hp hP hD hS => ?_)
  obtain ⟨br, rfl, rfl⟩ := hp
  have hP : va_P D vwCl [q_ac ta (me + 1) br 1, q_arc (T 1) 1 br (va_up bd 0 q98), q_bc q98 (bNew hull rig), q_ac al (md + 1) ar 1, q_arc (T 1) 1 ar (va_up ad 0 q78), q_bc q78 (bNew hull rig), q_xc x wa fl tf tb, q_fc fl al u, q_fc tf ta v] H := hP
  have hD : va_D A [q_ac ta (me + 1) br 1, q_arc (T 1) 1 br (va_up bd 0 q98), q_bc q98 (bNew hull rig), q_ac al (md + 1) ar 1, q_arc (T 1) 1 ar (va_up ad 0 q78), q_bc q78 (bNew hull rig), q_xc x wa fl tf tb, q_fc fl al u, q_fc tf ta v] := hD
  refine lv_pop hx hb dX3_build_110 rfl ?_
  refine lv_iload_n hx hb dX3_build_111 rfl (lv_at hl 0 rfl) ?_
  exact q_iret hx hb hr hlocks hP hK hD hS (Nat.le_of_ble_eq_true rfl) (Nat.le_of_ble_eq_true rfl) dX3_build_112 ⟨ar, br, q78, q98, rfl, q_bshut0⟩
