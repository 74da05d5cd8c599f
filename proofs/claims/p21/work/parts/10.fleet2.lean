
theorem dRank_congr {F G : Nat → Nat → Int32} {n i : Nat} (h : ∀ b, F b 6 = G b 6 ∧ F b 7 = G b 7 ∧ F b 9 = G b 9) : dRank F n i = dRank G n i := by
  unfold dRank
  refine q_sum_congr fun k _ => ?_
  unfold dAh dBet bRes
  rw [(h k).1, (h k).2.1, (h k).2.2, (h i).1, (h i).2.1]
theorem dEnd_cols (F : Nat → Nat → Int32) (n b : Nat) : dEnd F n b 6 = F b 6 ∧ dEnd F n b 7 = F b 7 ∧ dEnd F n b 9 = F b 9 := by
  unfold dEnd
  by_cases h : F b 9 = 2
  · simp [h, upd]
  · simp [h]
theorem dEnd_rank (F : Nat → Nat → Int32) (n i k : Nat) : dRank (q_upto k (dEnd F n) F) n i = dRank F n i := by
  refine dRank_congr fun b => ?_
  by_cases h : b < k
  · rw [q_upto_lt _ _ h]; exact dEnd_cols F n b
  · rw [q_upto_ge _ _ (Nat.le_of_not_lt h)]; exact ⟨rfl, rfl, rfl⟩
theorem q_sum01 {f : Nat → Int32} (hf : ∀ k, f k = 0 ∨ f k = 1) : ∀ n : Nat, ∃ m, m ≤ n ∧ q_sum f n = nI m
  | 0 => ⟨0, Nat.le_refl 0, rfl⟩
  | n + 1 => by
    obtain ⟨m, h1, h2⟩ := q_sum01 hf n
    rcases hf n with h | h
    · exact ⟨m, by omega, by rw [q_sum, h2, h, Int32.add_zero]⟩
    · exact ⟨m + 1, by omega, by rw [q_sum, h2, h]; exact nI_1 m⟩
theorem dAh01 (F : Nat → Nat → Int32) (i j : Nat) : dAh F i j = 0 ∨ dAh F i j = 1 := by
  unfold dAh dBet
  split
  · split
    · exact Or.inr rfl
    · split
      · split
        · exact Or.inl rfl
        · exact Or.inr rfl
      · exact Or.inl rfl
  · exact Or.inl rfl
theorem dRank_small (F : Nat → Nat → Int32) {n i : Nat} (hn : n ≤ 8) : dRank F n i = 0 ∨ dRank F n i = 1 ∨ dRank F n i = 2 ∨ (2 : Int) < (dRank F n i).toInt := by
  obtain ⟨m, h1, h2⟩ := q_sum01 (dAh01 F i) n
  rw [dRank, h2]
  match m, h1 with
  | 0, _ => exact Or.inl rfl
  | 1, _ => exact Or.inr (Or.inl rfl)
  | 2, _ => exact Or.inr (Or.inr (Or.inl rfl))
  | m + 3, h => exact Or.inr (Or.inr (Or.inr (by rw [nI_toInt (by omega)]; omega)))
def dFarS (F : Nat → Nat → Int32) : Nat → Int32 × Int32
  | 0 => (-1, -1)
  | k + 1 => if F k 9 = 1 then (if F k 5 ≤ (dFarS F k).2 then dFarS F k else (nI k, F k 5)) else if F k 9 = 2 then (if F k 5 ≤ (dFarS F k).2 then dFarS F k else (nI k, F k 5)) else dFarS F k
def dBestS (F : Nat → Nat → Int32) : Nat → Int32 × Int32 × Int32
  | 0 => (-1, 0, 0)
  | k + 1 => if (dBestS F k).1 < 0 then (nI k, F k 3, F k 4) else if (dBestS F k).2.1 < F k 3 then (nI k, F k 3, F k 4) else if F k 3 = (dBestS F k).2.1 then (if (dBestS F k).2.2 ≤ F k 4 then dBestS F k else (nI k, F k 3, F k 4)) else dBestS F k


/-- the callee takes some of the cells and the tail behind them -/
theorem q_tmask {α : Type} (m : List Bool) (w t : List α) : (w ++ t).Perm ((q_sel m w ++ t) ++ q_rst m w) := by
  refine ((q_mask m w).append_right t).trans ?_
  rw [List.append_assoc, List.append_assoc]
  exact List.perm_append_comm.append_left _
theorem q_tback {α : Type} (m : List Bool) (c r t : List α) : ((c ++ t) ++ r).Perm (q_mrg m c r ++ t) := by
  refine List.Perm.trans ?_ ((q_mrg_perm m c r).append_right t)
  rw [List.append_assoc, List.append_assoc]
  exact List.perm_append_comm.append_left _

abbrev rmX1_endRace : Room := { frames := 4, cells := 0, slots := 0, locals := 90 }
theorem q_up_id_at {β : Type} {F : Nat → β} {i : Nat} {r : β} (e : F i = r) : va_up F i r = F := by subst e; exact q_up_id F i
set_option maxHeartbeats 4000000 in
set_option maxRecDepth 100000 in
theorem c_X1_endRace (l : Launch) (D : va_G) (T : Nat → ClassId) (fl al ar n : Nat) (md : Int32) (u : Nat → Int32) (ad : Nat → Nat) (F : Nat → Nat → Int32) (hn : n ≤ 8) : q_M l D (q_ty T) yX1_endRace wsX1_endRace rmX1_endRace [.ref fl] ([q_fc fl al u, q_ac al md ar n] ++ q_tl (T 1) n ar ad F) q_no (q_is none ([q_fc fl al (upd u 2 0), q_ac al md ar n] ++ q_tl (T 1) n ar ad (dEnd F n))) := by
  refine q_start (cc := cX1_endRace) (maxL := 3) (ret := none) (by decide) rfl (Nat.le_of_ble_eq_true rfl) ?_
  intro p e s m args below meth c A H locs hx hb hr hts hown hlocks hml hnm hP hK hD hS hA hG ls hl
  have hown : s.vm.findClass RX1 = some m.cls := hown
  have hC : CallFix p m c cX1_endRace 3 s args wsX1_endRace RX1 := ⟨hx, hb, hml, hown, hts⟩
  have iX1 : ∀ w ∈ wsX10, w ∈ wsX1_endRace := by decide +kernel
  have iX0 : ∀ w ∈ wsX00, w ∈ wsX1_endRace := by decide +kernel
  have hl : lv_has ls 3 [(0, .ref fl)] := hl
  refine lv_aload_n hx hb dX1_endRace_0 rfl (lv_at hl 0 rfl) ?_
  refine lv_iconst (v := 0) hx hb dX1_endRace_1 (by decide) ?_
  refine va_put (D := D) (ci := 2) (v := .int 0) (ty := .boolean) (C := RX1) (T := TX1) (N := 5) hx hb hts iX1 tyX1 tyX1_ok nmX1 hown hK hP hD hS 0 rfl rfl 3 (by decide) (hts (.fieldLink RX1 37 "ToyRegatta$Fleet" "racing" "Z") (by decide +kernel)) (fun _ h9 => h9) rfl (by decide +kernel) rfl rfl (Nat.le_of_ble_eq_true rfl) dX1_endRace_2 (fun H locs hP hD hS => ?_)
  have hP : va_P D vwCl ([q_fc fl al (upd u 2 0), q_ac al md ar n] ++ q_tl (T 1) n ar ad F) H := hP
  have hD : va_D A ([q_fc fl al (upd u 2 0), q_ac al md ar n] ++ q_tl (T 1) n ar ad F) := hD
  refine lv_iconst (v := 0) hx hb dX1_endRace_5 (by decide) ?_
  refine lv_istore_n (lv' := [(1, .int 0), (0, .ref fl)]) hx hb dX1_endRace_6 rfl hl (by decide) rfl (fun ls hl => ?_)
  have hP : va_P D vwCl ([q_fc fl al (upd u 2 0), q_ac al md ar n] ++ q_tl (T 1) n ar ad (q_upto 0 (dEnd F n) F)) H := by rw [q_upto_0]; exact hP
  have hD : va_D A ([q_fc fl al (upd u 2 0), q_ac al md ar n] ++ q_tl (T 1) n ar ad (q_upto 0 (dEnd F n) F)) := by rw [q_upto_0]; exact hD
  have L7 : ∀ (f9 i : Nat) (h9a : n < i + f9) (h9b : i ≤ n) (H : Heap) (locs : List Loc) (ls : Array Slot), va_P D vwCl ([q_fc fl al (upd u 2 0), q_ac al md ar n] ++ q_tl (T 1) n ar ad (q_upto i (dEnd F n) F)) H → va_D A ([q_fc fl al (upd u 2 0), q_ac al md ar n] ++ q_tl (T 1) n ar ad (q_upto i (dEnd F n) F)) → va_S A s.heap H locs → lv_has ls 3 [(0, .ref fl), (1, .int (nI i))] → W p l e rmX1_endRace s m args below meth c H locs 0 0 (q_E below D (q_ty T) (q_is none ([q_fc fl al (upd u 2 0), q_ac al md ar n] ++ q_tl (T 1) n ar ad (dEnd F n))) A args s rmX1_endRace) (F0 m 7 ls []) := by
    intro f9
    induction f9 with
    | zero => intro i h9a h9b; exact absurd h9a (by omega)
    | succ f9 ih =>
      intro i h9a h9b   H locs ls hP hD hS hl
      refine lv_iload_n hx hb dX1_endRace_7 rfl (lv_at hl 1 rfl) ?_
      refine lv_aload_n hx hb dX1_endRace_8 rfl (lv_at hl 0 rfl) ?_
      refine va_get (D := D) (ci := 2) (v := .ref al) (C := RX1) (T := TX1) (N := 5) hx hb hts iX1 hown hK hP 0 rfl rfl 0 (by decide) (hts (.fieldLink RX1 10 "ToyRegatta$Fleet" "boats" "Ljava/util/ArrayList;") (by decide +kernel)) (fun _ h9 => h9) rfl dX1_endRace_9 ?_
      refine q_callV (As := []) (rs := [.int (nI i)]) hC (c_AL_size l D T al ar n md) q_no_st q_no_at (cwV 0 hts gX1_endRace_Jx4a65c_size_8abf5 rfl rfl rfl (by decide +kernel) ⟨Nat.le_of_ble_eq_true rfl, Nat.le_of_ble_eq_true rfl⟩) (va_recv hK hP (ci := 0) (q0 := 1) rfl rfl) hK hP hD hS hA (q_mask [false, true] _) rfl hl.1 rfl (Nat.le_of_ble_eq_true rfl) dX1_endRace_12 ⟨(Nat.le_of_ble_eq_true rfl), (Nat.le_of_ble_eq_true rfl)⟩ (fun v9 C9 H locs hp hP hD hS => ?_)
      obtain ⟨rfl, rfl⟩ := hp
      have hP : va_P D vwCl ([q_fc fl al (upd u 2 0), q_ac al md ar n] ++ q_tl (T 1) n ar ad (q_upto i (dEnd F n) F)) H := q_P_perm (q_mrg_perm [false, true] _ _) hP
      have hD : va_D A ([q_fc fl al (upd u 2 0), q_ac al md ar n] ++ q_tl (T 1) n ar ad (q_upto i (dEnd F n) F)) := q_D_perm (q_mrg_perm [false, true] _ _) hD
      refine lv_icmp_ge (tgt := 62) hx hb dX1_endRace_15 (by decide) (fun c_15 => ?_) (fun c_15 => ?_)
      · have h9d := (q_exit c_15 h9b (by omega)).symm
        subst h9d
        rw [q_tl_congr (F := q_upto n (dEnd F n) F) (F' := (dEnd F n)) (fun b hb => q_upto_lt _ _ hb)] at hP hD
        have hP : va_P D vwCl ([q_fc fl al (upd u 2 0), q_ac al md ar n] ++ q_tl (T 1) n ar ad (dEnd F n)) H := hP
        have hD : va_D A ([q_fc fl al (upd u 2 0), q_ac al md ar n] ++ q_tl (T 1) n ar ad (dEnd F n)) := hD
        exact q_vret hx hb hr hlocks hP hK hD hS (Nat.le_of_ble_eq_true rfl) (Nat.le_of_ble_eq_true rfl) dX1_endRace_62 ⟨rfl, rfl⟩
      · have h9d := q_goon c_15 (by omega)
        have hP : va_P D vwCl ([q_bc (ad i) (F i), q_fc fl al (upd u 2 0), q_ac al md ar n, q_arc (T 1) n ar ad] ++ q_pl ((List.range n).erase i) ad (q_upto i (dEnd F n) F)) H := q_P_perm (q_tlo _ h9d (q_upto_at i (dEnd F n) F)) hP
        have hD : va_D A ([q_bc (ad i) (F i), q_fc fl al (upd u 2 0), q_ac al md ar n, q_arc (T 1) n ar ad] ++ q_pl ((List.range n).erase i) ad (q_upto i (dEnd F n) F)) := q_D_perm (q_tlo _ h9d (q_upto_at i (dEnd F n) F)) hD
        refine lv_aload_n hx hb dX1_endRace_18 rfl (lv_at hl 0 rfl) ?_
        refine va_get (D := D) (ci := 2) (v := .ref al) (C := RX1) (T := TX1) (N := 5) hx hb hts iX1 hown hK hP 1 rfl rfl 0 (by decide) (hts (.fieldLink RX1 10 "ToyRegatta$Fleet" "boats" "Ljava/util/ArrayList;") (by decide +kernel)) (fun _ h9 => h9) rfl dX1_endRace_19 ?_
        refine lv_iload_n hx hb dX1_endRace_22 rfl (lv_at hl 1 rfl) ?_
        refine q_callV (As := [.int (nI i)]) (rs := []) hC (c_AL_get l D T al ar n i md ad h9d (by omega)) q_no_st q_no_at (cwV 1 hts gX1_endRace_Jx4a65c_get_915e3 rfl rfl rfl (by decide +kernel) ⟨Nat.le_of_ble_eq_true rfl, Nat.le_of_ble_eq_true rfl⟩) (va_recv hK hP (ci := 0) (q0 := 2) rfl rfl) hK hP hD hS hA (q_mask [false, false, true, true] _) rfl hl.1 rfl (Nat.le_of_ble_eq_true rfl) dX1_endRace_23 ⟨(Nat.le_of_ble_eq_true rfl), (Nat.le_of_ble_eq_true rfl)⟩ (fun v9 C9 H locs hp hP hD hS => ?_)
        obtain ⟨rfl, rfl⟩ := hp
        have hP : va_P D vwCl ([q_bc (ad i) (F i), q_fc fl al (upd u 2 0), q_ac al md ar n, q_arc (T 1) n ar ad] ++ q_pl ((List.range n).erase i) ad (q_upto i (dEnd F n) F)) H := q_P_perm (q_mrg_perm [false, false, true, true] _ _) hP
        have hD : va_D A ([q_bc (ad i) (F i), q_fc fl al (upd u 2 0), q_ac al md ar n, q_arc (T 1) n ar ad] ++ q_pl ((List.range n).erase i) ad (q_upto i (dEnd F n) F)) := q_D_perm (q_mrg_perm [false, false, true, true] _ _) hD
        refine va_castS hx hb hown (hts (.classLink RX1 24 "ToyRegatta$Boat") (by decide +kernel)) (hK.1 1 _ rfl).2 (va_recv hK hP (ci := 1) (q0 := 0) rfl rfl) dX1_endRace_26 ?_
        refine lv_astore_n (lv' := [(2, .ref (ad i)), (0, .ref fl), (1, .int (nI i))]) hx hb dX1_endRace_29 rfl hl (by decide) rfl (fun ls hl => ?_)
        refine lv_aload_n hx hb dX1_endRace_30 rfl (lv_at hl 0 rfl) ?_
        refine va_get (D := D) (ci := 1) (v := .int ((F i) 9)) (C := RX0) (T := TX0) (N := 11) hx hb hts iX0 hown hK hP 0 rfl rfl 9 (by decide) (hts (.fieldLink RX1 48 "ToyRegatta$Boat" "state" "I") (by decide +kernel)) (fun _ h9 => h9) rfl dX1_endRace_31 ?_
        refine lv_iconst (v := 2) hx hb dX1_endRace_34 (by decide) ?_
        refine lv_icmp_ne (tgt := 56) hx hb dX1_endRace_35 (by decide) (fun c_35 => ?_) (fun c_35 => ?_)
        · have hP : va_P D vwCl ([q_bc (ad i) (dEnd F n i), q_fc fl al (upd u 2 0), q_ac al md ar n, q_arc (T 1) n ar ad] ++ q_pl ((List.range n).erase i) ad (q_upto i (dEnd F n) F)) H := by rw [show (dEnd F n) i = (F i) from by simp only [dEnd, dEnd_rank, if_neg c_35]]; exact hP
          have hD : va_D A ([q_bc (ad i) (dEnd F n i), q_fc fl al (upd u 2 0), q_ac al md ar n, q_arc (T 1) n ar ad] ++ q_pl ((List.range n).erase i) ad (q_upto i (dEnd F n) F)) := by rw [show (dEnd F n) i = (F i) from by simp only [dEnd, dEnd_rank, if_neg c_35]]; exact hD
          refine lv_iinc (v := (nI (i + 1))) (lv' := [(1, .int (nI (i + 1))), (2, .ref (ad i)), (0, .ref fl)]) hx hb dX1_endRace_56 hl (k := 2) rfl (nI_1 i) (by decide) rfl (fun ls hl => ?_)
          refine lv_goto (tgt := 7) hx hb dX1_endRace_59 (by decide) ?_
          have hP : va_P D vwCl ([q_fc fl al (upd u 2 0), q_ac al md ar n] ++ q_tl (T 1) n ar ad (q_upto (i + 1) (dEnd F n) F)) H := q_P_perm (q_tls [q_fc fl al (upd u 2 0), q_ac al md ar n] h9d (F := (q_upto i (dEnd F n) F)) (q_upto_s i (dEnd F n) F)) hP
          have hD : va_D A ([q_fc fl al (upd u 2 0), q_ac al md ar n] ++ q_tl (T 1) n ar ad (q_upto (i + 1) (dEnd F n) F)) := q_D_perm (q_tls [q_fc fl al (upd u 2 0), q_ac al md ar n] h9d (F := (q_upto i (dEnd F n) F)) (q_upto_s i (dEnd F n) F)) hD
          exact ih (i + 1) (by omega) (by omega)   _ _ ls hP hD hS (lv_sub hl [2, 0] rfl)
        · refine lv_aload_n hx hb dX1_endRace_38 rfl (lv_at hl 0 rfl) ?_
          refine lv_dup hx hb dX1_endRace_39 rfl ?_
          refine va_get (D := D) (ci := 1) (v := .int ((F i) 3)) (C := RX0) (T := TX0) (N := 11) hx hb hts iX0 hown hK hP 0 rfl rfl 3 (by decide) (hts (.fieldLink RX1 108 "ToyRegatta$Boat" "points" "I") (by decide +kernel)) (fun _ h9 => h9) rfl dX1_endRace_40 ?_
          refine lv_aload_n hx hb dX1_endRace_43 rfl (lv_at hl 1 rfl) ?_
          refine lv_aload_n hx hb dX1_endRace_44 rfl (lv_at hl 1 rfl) ?_
          refine lv_iload_n hx hb dX1_endRace_45 rfl (lv_at hl 2 rfl) ?_
          have hP : va_P D vwCl ([q_fc fl al (upd u 2 0), q_ac al md ar n] ++ q_tl (T 1) n ar ad (q_upto i (dEnd F n) F)) H := q_P_perm (q_tls [q_fc fl al (upd u 2 0), q_ac al md ar n] h9d (F := (q_upto i (dEnd F n) F)) (q_up_id_at (q_upto_at i (dEnd F n) F))) hP
          have hD : va_D A ([q_fc fl al (upd u 2 0), q_ac al md ar n] ++ q_tl (T 1) n ar ad (q_upto i (dEnd F n) F)) := q_D_perm (q_tls [q_fc fl al (upd u 2 0), q_ac al md ar n] h9d (F := (q_upto i (dEnd F n) F)) (q_up_id_at (q_upto_at i (dEnd F n) F))) hD
          refine q_callV (As := [.int (nI i)]) (rs := [.ref fl, .int ((F i) 3), .ref (ad i)]) hC (c_X1_boatsAheadOf l D T fl al ar n md (upd u 2 0) ad (q_upto i (dEnd F n) F) hn i h9d) q_no_st q_no_at (cwV 1 hts gX1_endRace_X1_boatsAheadOf rfl rfl rfl (by decide +kernel) ⟨Nat.le_of_ble_eq_true rfl, Nat.le_of_ble_eq_true rfl⟩) (va_recv hK hP (ci := 2) (q0 := 0) rfl rfl) hK hP hD hS hA (q_tmask [true, true] [q_fc fl al (upd u 2 0), q_ac al md ar n] (q_tl (T 1) n ar ad (q_upto i (dEnd F n) F))) rfl hl.1 rfl (Nat.le_of_ble_eq_true rfl) dX1_endRace_46 ⟨(Nat.le_of_ble_eq_true rfl), (Nat.le_of_ble_eq_true rfl)⟩ (fun v9 C9 H locs hp hP hD hS => ?_)
          obtain ⟨rfl, rfl⟩ := hp
          have hP : va_P D vwCl ([q_fc fl al (upd u 2 0), q_ac al md ar n] ++ q_tl (T 1) n ar ad (q_upto i (dEnd F n) F)) H := q_P_perm (q_tback [true, true] [q_fc fl al (upd u 2 0), q_ac al md ar n] [] (q_tl (T 1) n ar ad (q_upto i (dEnd F n) F))) hP
          have hD : va_D A ([q_fc fl al (upd u 2 0), q_ac al md ar n] ++ q_tl (T 1) n ar ad (q_upto i (dEnd F n) F)) := q_D_perm (q_tback [true, true] [q_fc fl al (upd u 2 0), q_ac al md ar n] [] (q_tl (T 1) n ar ad (q_upto i (dEnd F n) F))) hD
          refine q_callV (As := [.int (dRank (q_upto i (dEnd F n) F) n i)]) (rs := [.int ((F i) 3), .ref (ad i)]) hC (c_X1_pointsFor l D T fl al (upd u 2 0) (dRank (q_upto i (dEnd F n) F) n i) (dRank_small _ hn)) q_no_st q_no_at (cwV 1 hts gX1_endRace_X1_pointsFor rfl rfl rfl (by decide +kernel) ⟨Nat.le_of_ble_eq_true rfl, Nat.le_of_ble_eq_true rfl⟩) (va_recv hK hP (ci := 2) (q0 := 0) rfl rfl) hK hP hD hS hA (q_mask [true, false] _) rfl hl.1 rfl (Nat.le_of_ble_eq_true rfl) dX1_endRace_49 ⟨(Nat.le_of_ble_eq_true rfl), (Nat.le_of_ble_eq_true rfl)⟩ (fun v9 C9 H locs hp hP hD hS => ?_)
          obtain ⟨rfl, rfl⟩ := hp
          have hP : va_P D vwCl ([q_fc fl al (upd u 2 0), q_ac al md ar n] ++ q_tl (T 1) n ar ad (q_upto i (dEnd F n) F)) H := q_P_perm (q_mrg_perm [true, false] _ _) hP
          have hD : va_D A ([q_fc fl al (upd u 2 0), q_ac al md ar n] ++ q_tl (T 1) n ar ad (q_upto i (dEnd F n) F)) := q_D_perm (q_mrg_perm [true, false] _ _) hD
          have hP : va_P D vwCl ([q_bc (ad i) (F i), q_fc fl al (upd u 2 0), q_ac al md ar n, q_arc (T 1) n ar ad] ++ q_pl ((List.range n).erase i) ad (q_upto i (dEnd F n) F)) H := q_P_perm (q_tlo _ h9d (q_upto_at i (dEnd F n) F)) hP
          have hD : va_D A ([q_bc (ad i) (F i), q_fc fl al (upd u 2 0), q_ac al md ar n, q_arc (T 1) n ar ad] ++ q_pl ((List.range n).erase i) ad (q_upto i (dEnd F n) F)) := q_D_perm (q_tlo _ h9d (q_upto_at i (dEnd F n) F)) hD
          refine lv_iadd hx hb dX1_endRace_52 ?_
          refine va_put (D := D) (ci := 1) (v := .int (((F i) 3) + (bPts (dRank (q_upto i (dEnd F n) F) n i)))) (ty := .int) (C := RX0) (T := TX0) (N := 11) hx hb hts iX0 tyX0 tyX0_ok nmX0 hown hK hP hD hS 0 rfl rfl 3 (by decide) (hts (.fieldLink RX1 108 "ToyRegatta$Boat" "points" "I") (by decide +kernel)) (fun _ h9 => h9) rfl (by decide +kernel) rfl rfl (Nat.le_of_ble_eq_true rfl) dX1_endRace_53 (fun H locs hP hD hS => ?_)
          have hP : va_P D vwCl ([q_bc (ad i) (upd (F i) 3 (((F i) 3) + (bPts (dRank (q_upto i (dEnd F n) F) n i)))), q_fc fl al (upd u 2 0), q_ac al md ar n, q_arc (T 1) n ar ad] ++ q_pl ((List.range n).erase i) ad (q_upto i (dEnd F n) F)) H := hP
          have hD : va_D A ([q_bc (ad i) (upd (F i) 3 (((F i) 3) + (bPts (dRank (q_upto i (dEnd F n) F) n i)))), q_fc fl al (upd u 2 0), q_ac al md ar n, q_arc (T 1) n ar ad] ++ q_pl ((List.range n).erase i) ad (q_upto i (dEnd F n) F)) := hD
          have hP : va_P D vwCl ([q_bc (ad i) (dEnd F n i), q_fc fl al (upd u 2 0), q_ac al md ar n, q_arc (T 1) n ar ad] ++ q_pl ((List.range n).erase i) ad (q_upto i (dEnd F n) F)) H := by rw [show (dEnd F n) i = (upd (F i) 3 (((F i) 3) + (bPts (dRank (q_upto i (dEnd F n) F) n i)))) from by simp only [dEnd, dEnd_rank, if_pos c_35]]; exact hP
          have hD : va_D A ([q_bc (ad i) (dEnd F n i), q_fc fl al (upd u 2 0), q_ac al md ar n, q_arc (T 1) n ar ad] ++ q_pl ((List.range n).erase i) ad (q_upto i (dEnd F n) F)) := by rw [show (dEnd F n) i = (upd (F i) 3 (((F i) 3) + (bPts (dRank (q_upto i (dEnd F n) F) n i)))) from by simp only [dEnd, dEnd_rank, if_pos c_35]]; exact hD
          refine lv_iinc (v := (nI (i + 1))) (lv' := [(1, .int (nI (i + 1))), (2, .ref (ad i)), (0, .ref fl)]) hx hb dX1_endRace_56 hl (k := 2) rfl (nI_1 i) (by decide) rfl (fun ls hl => ?_)
          refine lv_goto (tgt := 7) hx hb dX1_endRace_59 (by decide) ?_
          have hP : va_P D vwCl ([q_fc fl al (upd u 2 0), q_ac al md ar n] ++ q_tl (T 1) n ar ad (q_upto (i + 1) (dEnd F n) F)) H := q_P_perm (q_tls [q_fc fl al (upd u 2 0), q_ac al md ar n] h9d (F := (q_upto i (dEnd F n) F)) (q_upto_s i (dEnd F n) F)) hP
          have hD : va_D A ([q_fc fl al (upd u 2 0), q_ac al md ar n] ++ q_tl (T 1) n ar ad (q_upto (i + 1) (dEnd F n) F)) := q_D_perm (q_tls [q_fc fl al (upd u 2 0), q_ac al md ar n] h9d (F := (q_upto i (dEnd F n) F)) (q_upto_s i (dEnd F n) F)) hD
          exact ih (i + 1) (by omega) (by omega)   _ _ ls hP hD hS (lv_sub hl [2, 0] rfl)
  exact L7 (n + 1) 0 (by omega) (by omega)   _ _ ls hP hD hS (lv_sub hl [1, 0] rfl)
abbrev rmX1_timeOf : Room := { frames := 3, cells := 0, slots := 0, locals := 64 }
set_option maxHeartbeats 4000000 in
set_option maxRecDepth 100000 in
theorem c_X1_timeOf (l : Launch) (D : va_G) (T : Nat → ClassId) (fl al ar n : Nat) (md : Int32) (u : Nat → Int32) (ad : Nat → Nat) (F : Nat → Nat → Int32) (hn : n ≤ 8) (i : Nat) (hi : i < n) : q_M l D (q_ty T) yX1_timeOf wsX1_timeOf rmX1_timeOf [.ref fl, .int (nI i)] ([q_fc fl al u, q_ac al md ar n] ++ q_tl (T 1) n ar ad F) q_no (q_is (some (.int (F i 6))) ([q_fc fl al u, q_ac al md ar n] ++ q_tl (T 1) n ar ad F)) := by
  refine q_start (cc := cX1_timeOf) (maxL := 2) (ret := (some .int)) (by decide) rfl (Nat.le_of_ble_eq_true rfl) ?_
  intro p e s m args below meth c A H locs hx hb hr hts hown hlocks hml hnm hP hK hD hS hA hG ls hl
  have hown : s.vm.findClass RX1 = some m.cls := hown
  have hC : CallFix p m c cX1_timeOf 2 s args wsX1_timeOf RX1 := ⟨hx, hb, hml, hown, hts⟩
  have iX1 : ∀ w ∈ wsX10, w ∈ wsX1_timeOf := by decide +kernel
  have iX0 : ∀ w ∈ wsX00, w ∈ wsX1_timeOf := by decide +kernel
  have hl : lv_has ls 2 [(0, .ref fl), (1, .int (nI i))] := hl
  refine lv_iload_n hx hb dX1_timeOf_0 rfl (lv_at hl 1 rfl) ?_
  refine lv_if_lt (tgt := 15) hx hb dX1_timeOf_1 (by decide) (fun c_1 => absurd c_1 (nI_pos (by omega))) (fun c_1 => ?_)
  refine lv_iload_n hx hb dX1_timeOf_4 rfl (lv_at hl 1 rfl) ?_
  refine lv_aload_n hx hb dX1_timeOf_5 rfl (lv_at hl 0 rfl) ?_
  refine va_get (D := D) (ci := 2) (v := .ref al) (C := RX1) (T := TX1) (N := 5) hx hb hts iX1 hown hK hP 0 rfl rfl 0 (by decide) (hts (.fieldLink RX1 10 "ToyRegatta$Fleet" "boats" "Ljava/util/ArrayList;") (by decide +kernel)) (fun _ h9 => h9) rfl dX1_timeOf_6 ?_
  refine q_callV (As := []) (rs := [.int (nI i)]) hC (c_AL_size l D T al ar n md) q_no_st q_no_at (cwV 0 hts gX1_timeOf_Jx4a65c_size_8abf5 rfl rfl rfl (by decide +kernel) ⟨Nat.le_of_ble_eq_true rfl, Nat.le_of_ble_eq_true rfl⟩) (va_recv hK hP (ci := 0) (q0 := 1) rfl rfl) hK hP hD hS hA (q_mask [false, true] _) rfl hl.1 rfl (Nat.le_of_ble_eq_true rfl) dX1_timeOf_9 ⟨(Nat.le_of_ble_eq_true rfl), (Nat.le_of_ble_eq_true rfl)⟩ (fun v9 C9 H locs hp hP hD hS => ?_)
  obtain ⟨rfl, rfl⟩ := hp
  have hP : va_P D vwCl ([q_fc fl al u, q_ac al md ar n] ++ q_tl (T 1) n ar ad F) H := q_P_perm (q_mrg_perm [false, true] _ _) hP
  have hD : va_D A ([q_fc fl al u, q_ac al md ar n] ++ q_tl (T 1) n ar ad F) := q_D_perm (q_mrg_perm [false, true] _ _) hD
  refine lv_icmp_lt (tgt := 17) hx hb dX1_timeOf_12 (by decide) (fun c_12 => ?_) (fun c_12 => absurd (nI_lt hi (by omega)) c_12)
  have hP : va_P D vwCl ([q_bc (ad i) (F i), q_fc fl al u, q_ac al md ar n, q_arc (T 1) n ar ad] ++ q_pl ((List.range n).erase i) ad F) H := q_P_perm (q_tlo _ hi rfl) hP
  have hD : va_D A ([q_bc (ad i) (F i), q_fc fl al u, q_ac al md ar n, q_arc (T 1) n ar ad] ++ q_pl ((List.range n).erase i) ad F) := q_D_perm (q_tlo _ hi rfl) hD
  refine lv_aload_n hx hb dX1_timeOf_17 rfl (lv_at hl 0 rfl) ?_
  refine va_get (D := D) (ci := 2) (v := .ref al) (C := RX1) (T := TX1) (N := 5) hx hb hts iX1 hown hK hP 1 rfl rfl 0 (by decide) (hts (.fieldLink RX1 10 "ToyRegatta$Fleet" "boats" "Ljava/util/ArrayList;") (by decide +kernel)) (fun _ h9 => h9) rfl dX1_timeOf_18 ?_
  refine lv_iload_n hx hb dX1_timeOf_21 rfl (lv_at hl 1 rfl) ?_
  refine q_callV (As := [.int (nI i)]) (rs := []) hC (c_AL_get l D T al ar n i md ad hi (by omega)) q_no_st q_no_at (cwV 1 hts gX1_timeOf_Jx4a65c_get_915e3 rfl rfl rfl (by decide +kernel) ⟨Nat.le_of_ble_eq_true rfl, Nat.le_of_ble_eq_true rfl⟩) (va_recv hK hP (ci := 0) (q0 := 2) rfl rfl) hK hP hD hS hA (q_mask [false, false, true, true] _) rfl hl.1 rfl (Nat.le_of_ble_eq_true rfl) dX1_timeOf_22 ⟨(Nat.le_of_ble_eq_true rfl), (Nat.le_of_ble_eq_true rfl)⟩ (fun v9 C9 H locs hp hP hD hS => ?_)
  obtain ⟨rfl, rfl⟩ := hp
  have hP : va_P D vwCl ([q_bc (ad i) (F i), q_fc fl al u, q_ac al md ar n, q_arc (T 1) n ar ad] ++ q_pl ((List.range n).erase i) ad F) H := q_P_perm (q_mrg_perm [false, false, true, true] _ _) hP
  have hD : va_D A ([q_bc (ad i) (F i), q_fc fl al u, q_ac al md ar n, q_arc (T 1) n ar ad] ++ q_pl ((List.range n).erase i) ad F) := q_D_perm (q_mrg_perm [false, false, true, true] _ _) hD
  refine va_castS hx hb hown (hts (.classLink RX1 24 "ToyRegatta$Boat") (by decide +kernel)) (hK.1 1 _ rfl).2 (va_recv hK hP (ci := 1) (q0 := 0) rfl rfl) dX1_timeOf_25 ?_
  refine va_get (D := D) (ci := 1) (v := .int ((F i) 6)) (C := RX0) (T := TX0) (N := 11) hx hb hts iX0 hown hK hP 0 rfl rfl 6 (by decide) (hts (.fieldLink RX1 120 "ToyRegatta$Boat" "time" "I") (by decide +kernel)) (fun _ h9 => h9) rfl dX1_timeOf_28 ?_
  have hP : va_P D vwCl ([q_fc fl al u, q_ac al md ar n] ++ q_tl (T 1) n ar ad F) H := q_P_perm (q_tls [q_fc fl al u, q_ac al md ar n] hi (F := F) (q_up_id F i)) hP
  have hD : va_D A ([q_fc fl al u, q_ac al md ar n] ++ q_tl (T 1) n ar ad F) := q_D_perm (q_tls [q_fc fl al u, q_ac al md ar n] hi (F := F) (q_up_id F i)) hD
  exact q_iret hx hb hr hlocks hP hK hD hS (Nat.le_of_ble_eq_true rfl) (Nat.le_of_ble_eq_true rfl) dX1_timeOf_31 ⟨rfl, rfl⟩
abbrev rmX1_farthest : Room := { frames := 3, cells := 0, slots := 0, locals := 64 }
set_option maxHeartbeats 4000000 in
set_option maxRecDepth 100000 in
theorem c_X1_farthest (l : Launch) (D : va_G) (T : Nat → ClassId) (fl al ar n : Nat) (md : Int32) (u : Nat → Int32) (ad : Nat → Nat) (F : Nat → Nat → Int32) (hn : n ≤ 8) : q_M l D (q_ty T) yX1_farthest wsX1_farthest rmX1_farthest [.ref fl] ([q_fc fl al u, q_ac al md ar n] ++ q_tl (T 1) n ar ad F) q_no (q_is (some (.int ((dFarS F n).1))) ([q_fc fl al u, q_ac al md ar n] ++ q_tl (T 1) n ar ad F)) := by
  refine q_start (cc := cX1_farthest) (maxL := 6) (ret := (some .int)) (by decide) rfl (Nat.le_of_ble_eq_true rfl) ?_
  intro p e s m args below meth c A H locs hx hb hr hts hown hlocks hml hnm hP hK hD hS hA hG ls hl
  have hown : s.vm.findClass RX1 = some m.cls := hown
  have hC : CallFix p m c cX1_farthest 6 s args wsX1_farthest RX1 := ⟨hx, hb, hml, hown, hts⟩
  have iX1 : ∀ w ∈ wsX10, w ∈ wsX1_farthest := by decide +kernel
  have iX0 : ∀ w ∈ wsX00, w ∈ wsX1_farthest := by decide +kernel
  have hl : lv_has ls 6 [(0, .ref fl)] := hl
  refine lv_iconst (v := (-1)) hx hb dX1_farthest_0 (by decide) ?_
  refine lv_istore_n (lv' := [(1, .int (-1)), (0, .ref fl)]) hx hb dX1_farthest_1 rfl hl (by decide) rfl (fun ls hl => ?_)
  refine lv_iconst (v := (-1)) hx hb dX1_farthest_2 (by decide) ?_
  refine lv_istore_n (lv' := [(2, .int (-1)), (1, .int (-1)), (0, .ref fl)]) hx hb dX1_farthest_3 rfl hl (by decide) rfl (fun ls hl => ?_)
  refine lv_iconst (v := 0) hx hb dX1_farthest_4 (by decide) ?_
  refine lv_istore_n (lv' := [(3, .int 0), (2, .int (-1)), (1, .int (-1)), (0, .ref fl)]) hx hb dX1_farthest_5 rfl hl (by decide) rfl (fun ls hl => ?_)
  have L6 : ∀ (f9 i : Nat) (h9a : n < i + f9) (h9b : i ≤ n) (H : Heap) (locs : List Loc) (ls : Array Slot), va_P D vwCl ([q_fc fl al u, q_ac al md ar n] ++ q_tl (T 1) n ar ad F) H → va_D A ([q_fc fl al u, q_ac al md ar n] ++ q_tl (T 1) n ar ad F) → va_S A s.heap H locs → lv_has ls 6 [(0, .ref fl), (1, .int ((dFarS F i).1)), (2, .int ((dFarS F i).2)), (3, .int (nI i))] → W p l e rmX1_farthest s m args below meth c H locs 0 0 (q_E below D (q_ty T) (q_is (some (.int ((dFarS F n).1))) ([q_fc fl al u, q_ac al md ar n] ++ q_tl (T 1) n ar ad F)) A args s rmX1_farthest) (F0 m 6 ls []) := by
    intro f9
    induction f9 with
    | zero => intro i h9a h9b; exact absurd h9a (by omega)
    | succ f9 ih =>
      intro i h9a h9b   H locs ls hP hD hS hl
      refine lv_iload_n hx hb dX1_farthest_6 rfl (lv_at hl 3 rfl) ?_
      refine lv_aload_n hx hb dX1_farthest_7 rfl (lv_at hl 0 rfl) ?_
      refine va_get (D := D) (ci := 2) (v := .ref al) (C := RX1) (T := TX1) (N := 5) hx hb hts iX1 hown hK hP 0 rfl rfl 0 (by decide) (hts (.fieldLink RX1 10 "ToyRegatta$Fleet" "boats" "Ljava/util/ArrayList;") (by decide +kernel)) (fun _ h9 => h9) rfl dX1_farthest_8 ?_
      refine q_callV (As := []) (rs := [.int (nI i)]) hC (c_AL_size l D T al ar n md) q_no_st q_no_at (cwV 0 hts gX1_farthest_Jx4a65c_size_8abf5 rfl rfl rfl (by decide +kernel) ⟨Nat.le_of_ble_eq_true rfl, Nat.le_of_ble_eq_true rfl⟩) (va_recv hK hP (ci := 0) (q0 := 1) rfl rfl) hK hP hD hS hA (q_mask [false, true] _) rfl hl.1 rfl (Nat.le_of_ble_eq_true rfl) dX1_farthest_11 ⟨(Nat.le_of_ble_eq_true rfl), (Nat.le_of_ble_eq_true rfl)⟩ (fun v9 C9 H locs hp hP hD hS => ?_)
      obtain ⟨rfl, rfl⟩ := hp
      have hP : va_P D vwCl ([q_fc fl al u, q_ac al md ar n] ++ q_tl (T 1) n ar ad F) H := q_P_perm (q_mrg_perm [false, true] _ _) hP
      have hD : va_D A ([q_fc fl al u, q_ac al md ar n] ++ q_tl (T 1) n ar ad F) := q_D_perm (q_mrg_perm [false, true] _ _) hD
      refine lv_icmp_ge (tgt := 83) hx hb dX1_farthest_14 (by decide) (fun c_14 => ?_) (fun c_14 => ?_)
      · have h9d := (q_exit c_14 h9b (by omega)).symm
        subst h9d
        refine lv_iload_n hx hb dX1_farthest_83 rfl (lv_at hl 1 rfl) ?_
        exact q_iret hx hb hr hlocks hP hK hD hS (Nat.le_of_ble_eq_true rfl) (Nat.le_of_ble_eq_true rfl) dX1_farthest_84 ⟨rfl, rfl⟩
      · have h9d := q_goon c_14 (by omega)
        have hP : va_P D vwCl ([q_bc (ad i) (F i), q_fc fl al u, q_ac al md ar n, q_arc (T 1) n ar ad] ++ q_pl ((List.range n).erase i) ad F) H := q_P_perm (q_tlo _ h9d rfl) hP
        have hD : va_D A ([q_bc (ad i) (F i), q_fc fl al u, q_ac al md ar n, q_arc (T 1) n ar ad] ++ q_pl ((List.range n).erase i) ad F) := q_D_perm (q_tlo _ h9d rfl) hD
        refine lv_aload_n hx hb dX1_farthest_17 rfl (lv_at hl 0 rfl) ?_
        refine va_get (D := D) (ci := 2) (v := .ref al) (C := RX1) (T := TX1) (N := 5) hx hb hts iX1 hown hK hP 1 rfl rfl 0 (by decide) (hts (.fieldLink RX1 10 "ToyRegatta$Fleet" "boats" "Ljava/util/ArrayList;") (by decide +kernel)) (fun _ h9 => h9) rfl dX1_farthest_18 ?_
        refine lv_iload_n hx hb dX1_farthest_21 rfl (lv_at hl 3 rfl) ?_
        refine q_callV (As := [.int (nI i)]) (rs := []) hC (c_AL_get l D T al ar n i md ad h9d (by omega)) q_no_st q_no_at (cwV 1 hts gX1_farthest_Jx4a65c_get_915e3 rfl rfl rfl (by decide +kernel) ⟨Nat.le_of_ble_eq_true rfl, Nat.le_of_ble_eq_true rfl⟩) (va_recv hK hP (ci := 0) (q0 := 2) rfl rfl) hK hP hD hS hA (q_mask [false, false, true, true] _) rfl hl.1 rfl (Nat.le_of_ble_eq_true rfl) dX1_farthest_22 ⟨(Nat.le_of_ble_eq_true rfl), (Nat.le_of_ble_eq_true rfl)⟩ (fun v9 C9 H locs hp hP hD hS => ?_)
        obtain ⟨rfl, rfl⟩ := hp
        have hP : va_P D vwCl ([q_bc (ad i) (F i), q_fc fl al u, q_ac al md ar n, q_arc (T 1) n ar ad] ++ q_pl ((List.range n).erase i) ad F) H := q_P_perm (q_mrg_perm [false, false, true, true] _ _) hP
        have hD : va_D A ([q_bc (ad i) (F i), q_fc fl al u, q_ac al md ar n, q_arc (T 1) n ar ad] ++ q_pl ((List.range n).erase i) ad F) := q_D_perm (q_mrg_perm [false, false, true, true] _ _) hD
        refine va_castS hx hb hown (hts (.classLink RX1 24 "ToyRegatta$Boat") (by decide +kernel)) (hK.1 1 _ rfl).2 (va_recv hK hP (ci := 1) (q0 := 0) rfl rfl) dX1_farthest_25 ?_
        refine lv_astore (lv' := [(4, .ref (ad i)), (0, .ref fl), (1, .int ((dFarS F i).1)), (2, .int ((dFarS F i).2)), (3, .int (nI i))]) hx hb dX1_farthest_28 hl (by decide) rfl (fun ls hl => ?_)
        refine lv_aload hx hb dX1_farthest_30 (lv_at hl 0 rfl) ?_
        refine va_get (D := D) (ci := 1) (v := .int ((F i) 9)) (C := RX0) (T := TX0) (N := 11) hx hb hts iX0 hown hK hP 0 rfl rfl 9 (by decide) (hts (.fieldLink RX1 48 "ToyRegatta$Boat" "state" "I") (by decide +kernel)) (fun _ h9 => h9) rfl dX1_farthest_32 ?_
        refine lv_iconst (v := 1) hx hb dX1_farthest_35 (by decide) ?_
        refine lv_icmp_eq (tgt := 48) hx hb dX1_farthest_36 (by decide) (fun c_36 => ?_) (fun c_36 => ?_)
        · refine lv_iconst (v := 1) hx hb dX1_farthest_48 (by decide) ?_
          refine lv_goto (tgt := 53) hx hb dX1_farthest_49 (by decide) ?_
          refine lv_istore (lv' := [(5, .int 1), (4, .ref (ad i)), (0, .ref fl), (1, .int ((dFarS F i).1)), (2, .int ((dFarS F i).2)), (3, .int (nI i))]) hx hb dX1_farthest_53 hl (by decide) rfl (fun ls hl => ?_)
          refine lv_iload hx hb dX1_farthest_55 (lv_at hl 0 rfl) ?_
          refine lv_if_eq (tgt := 77) hx hb dX1_farthest_57 (by decide) (fun c_57 => absurd c_57 (by decide)) (fun _ => ?_)
          refine lv_aload hx hb dX1_farthest_60 (lv_at hl 1 rfl) ?_
          refine va_get (D := D) (ci := 1) (v := .int ((F i) 5)) (C := RX0) (T := TX0) (N := 11) hx hb hts iX0 hown hK hP 0 rfl rfl 5 (by decide) (hts (.fieldLink RX1 95 "ToyRegatta$Boat" "place" "I") (by decide +kernel)) (fun _ h9 => h9) rfl dX1_farthest_62 ?_
          refine lv_iload_n hx hb dX1_farthest_65 rfl (lv_at hl 4 rfl) ?_
          refine lv_icmp_le (tgt := 77) hx hb dX1_farthest_66 (by decide) (fun c_66 => ?_) (fun c_66 => ?_)
          · refine lv_iinc (v := (nI (i + 1))) (lv' := [(3, .int (nI (i + 1))), (5, .int 1), (4, .ref (ad i)), (0, .ref fl), (1, .int ((dFarS F i).1)), (2, .int ((dFarS F i).2))]) hx hb dX1_farthest_77 hl (k := 5) rfl (nI_1 i) (by decide) rfl (fun ls hl => ?_)
            refine lv_goto (tgt := 6) hx hb dX1_farthest_80 (by decide) ?_
            have hP : va_P D vwCl ([q_fc fl al u, q_ac al md ar n] ++ q_tl (T 1) n ar ad F) H := q_P_perm (q_tls [q_fc fl al u, q_ac al md ar n] h9d (F := F) (q_up_id F i)) hP
            have hD : va_D A ([q_fc fl al u, q_ac al md ar n] ++ q_tl (T 1) n ar ad F) := q_D_perm (q_tls [q_fc fl al u, q_ac al md ar n] h9d (F := F) (q_up_id F i)) hD
            have e9 : dFarS F (i + 1) = dFarS F i := by simp only [dFarS, if_pos c_36, if_pos c_66]
            have hl : lv_has ls 6 [(3, .int (nI (i + 1))), (5, .int 1), (4, .ref (ad i)), (0, .ref fl), (1, .int ((dFarS F (i + 1)).1)), (2, .int ((dFarS F (i + 1)).2))] := by rw [e9]; exact hl
            exact ih (i + 1) (by omega) (by omega)   _ _ ls hP hD hS (lv_sub hl [3, 4, 5, 0] rfl)
          · refine lv_iload_n hx hb dX1_farthest_69 rfl (lv_at hl 5 rfl) ?_
            refine lv_istore_n (lv' := [(1, .int (nI i)), (5, .int 1), (4, .ref (ad i)), (0, .ref fl), (2, .int ((dFarS F i).2)), (3, .int (nI i))]) hx hb dX1_farthest_70 rfl hl (by decide) rfl (fun ls hl => ?_)
            refine lv_aload hx hb dX1_farthest_71 (lv_at hl 2 rfl) ?_
            refine va_get (D := D) (ci := 1) (v := .int ((F i) 5)) (C := RX0) (T := TX0) (N := 11) hx hb hts iX0 hown hK hP 0 rfl rfl 5 (by decide) (hts (.fieldLink RX1 95 "ToyRegatta$Boat" "place" "I") (by decide +kernel)) (fun _ h9 => h9) rfl dX1_farthest_73 ?_
            refine lv_istore_n (lv' := [(2, .int ((F i) 5)), (1, .int (nI i)), (5, .int 1), (4, .ref (ad i)), (0, .ref fl), (3, .int (nI i))]) hx hb dX1_farthest_76 rfl hl (by decide) rfl (fun ls hl => ?_)
            refine lv_iinc (v := (nI (i + 1))) (lv' := [(3, .int (nI (i + 1))), (2, .int ((F i) 5)), (1, .int (nI i)), (5, .int 1), (4, .ref (ad i)), (0, .ref fl)]) hx hb dX1_farthest_77 hl (k := 5) rfl (nI_1 i) (by decide) rfl (fun ls hl => ?_)
            refine lv_goto (tgt := 6) hx hb dX1_farthest_80 (by decide) ?_
            have hP : va_P D vwCl ([q_fc fl al u, q_ac al md ar n] ++ q_tl (T 1) n ar ad F) H := q_P_perm (q_tls [q_fc fl al u, q_ac al md ar n] h9d (F := F) (q_up_id F i)) hP
            have hD : va_D A ([q_fc fl al u, q_ac al md ar n] ++ q_tl (T 1) n ar ad F) := q_D_perm (q_tls [q_fc fl al u, q_ac al md ar n] h9d (F := F) (q_up_id F i)) hD
            have e9 : dFarS F (i + 1) = ((nI i), ((F i) 5)) := by simp only [dFarS, if_pos c_36, if_neg c_66]
            have hl : lv_has ls 6 [(3, .int (nI (i + 1))), (2, .int ((dFarS F (i + 1)).2)), (1, .int ((dFarS F (i + 1)).1)), (5, .int 1), (4, .ref (ad i)), (0, .ref fl)] := by rw [e9]; exact hl
            exact ih (i + 1) (by omega) (by omega)   _ _ ls hP hD hS (lv_sub hl [5, 2, 1, 0] rfl)
        · refine lv_aload hx hb dX1_farthest_39 (lv_at hl 0 rfl) ?_
          refine va_get (D := D) (ci := 1) (v := .int ((F i) 9)) (C := RX0) (T := TX0) (N := 11) hx hb hts iX0 hown hK hP 0 rfl rfl 9 (by decide) (hts (.fieldLink RX1 48 "ToyRegatta$Boat" "state" "I") (by decide +kernel)) (fun _ h9 => h9) rfl dX1_farthest_41 ?_
          refine lv_iconst (v := 2) hx hb dX1_farthest_44 (by decide) ?_
          refine lv_icmp_ne (tgt := 52) hx hb dX1_farthest_45 (by decide) (fun c_45 => ?_) (fun c_45 => ?_)
          · refine lv_iconst (v := 0) hx hb dX1_farthest_52 (by decide) ?_
            refine lv_istore (lv' := [(5, .int 0), (4, .ref (ad i)), (0, .ref fl), (1, .int ((dFarS F i).1)), (2, .int ((dFarS F i).2)), (3, .int (nI i))]) hx hb dX1_farthest_53 hl (by decide) rfl (fun ls hl => ?_)
            refine lv_iload hx hb dX1_farthest_55 (lv_at hl 0 rfl) ?_
            refine lv_if_eq (tgt := 77) hx hb dX1_farthest_57 (by decide) (fun _ => ?_) (fun c_57 => absurd c_57 (by decide))
            refine lv_iinc (v := (nI (i + 1))) (lv' := [(3, .int (nI (i + 1))), (5, .int 0), (4, .ref (ad i)), (0, .ref fl), (1, .int ((dFarS F i).1)), (2, .int ((dFarS F i).2))]) hx hb dX1_farthest_77 hl (k := 5) rfl (nI_1 i) (by decide) rfl (fun ls hl => ?_)
            refine lv_goto (tgt := 6) hx hb dX1_farthest_80 (by decide) ?_
            have hP : va_P D vwCl ([q_fc fl al u, q_ac al md ar n] ++ q_tl (T 1) n ar ad F) H := q_P_perm (q_tls [q_fc fl al u, q_ac al md ar n] h9d (F := F) (q_up_id F i)) hP
            have hD : va_D A ([q_fc fl al u, q_ac al md ar n] ++ q_tl (T 1) n ar ad F) := q_D_perm (q_tls [q_fc fl al u, q_ac al md ar n] h9d (F := F) (q_up_id F i)) hD
            have e9 : dFarS F (i + 1) = dFarS F i := by simp only [dFarS, if_neg c_36, if_neg c_45]
            have hl : lv_has ls 6 [(3, .int (nI (i + 1))), (5, .int 0), (4, .ref (ad i)), (0, .ref fl), (1, .int ((dFarS F (i + 1)).1)), (2, .int ((dFarS F (i + 1)).2))] := by rw [e9]; exact hl
            exact ih (i + 1) (by omega) (by omega)   _ _ ls hP hD hS (lv_sub hl [3, 4, 5, 0] rfl)
          · refine lv_iconst (v := 1) hx hb dX1_farthest_48 (by decide) ?_
            refine lv_goto (tgt := 53) hx hb dX1_farthest_49 (by decide) ?_
            refine lv_istore (lv' := [(5, .int 1), (4, .ref (ad i)), (0, .ref fl), (1, .int ((dFarS F i).1)), (2, .int ((dFarS F i).2)), (3, .int (nI i))]) hx hb dX1_farthest_53 hl (by decide) rfl (fun ls hl => ?_)
            refine lv_iload hx hb dX1_farthest_55 (lv_at hl 0 rfl) ?_
            refine lv_if_eq (tgt := 77) hx hb dX1_farthest_57 (by decide) (fun c_57 => absurd c_57 (by decide)) (fun _ => ?_)
            refine lv_aload hx hb dX1_farthest_60 (lv_at hl 1 rfl) ?_
            refine va_get (D := D) (ci := 1) (v := .int ((F i) 5)) (C := RX0) (T := TX0) (N := 11) hx hb hts iX0 hown hK hP 0 rfl rfl 5 (by decide) (hts (.fieldLink RX1 95 "ToyRegatta$Boat" "place" "I") (by decide +kernel)) (fun _ h9 => h9) rfl dX1_farthest_62 ?_
            refine lv_iload_n hx hb dX1_farthest_65 rfl (lv_at hl 4 rfl) ?_
            refine lv_icmp_le (tgt := 77) hx hb dX1_farthest_66 (by decide) (fun c_66 => ?_) (fun c_66 => ?_)
            · refine lv_iinc (v := (nI (i + 1))) (lv' := [(3, .int (nI (i + 1))), (5, .int 1), (4, .ref (ad i)), (0, .ref fl), (1, .int ((dFarS F i).1)), (2, .int ((dFarS F i).2))]) hx hb dX1_farthest_77 hl (k := 5) rfl (nI_1 i) (by decide) rfl (fun ls hl => ?_)
              refine lv_goto (tgt := 6) hx hb dX1_farthest_80 (by decide) ?_
              have hP : va_P D vwCl ([q_fc fl al u, q_ac al md ar n] ++ q_tl (T 1) n ar ad F) H := q_P_perm (q_tls [q_fc fl al u, q_ac al md ar n] h9d (F := F) (q_up_id F i)) hP
              have hD : va_D A ([q_fc fl al u, q_ac al md ar n] ++ q_tl (T 1) n ar ad F) := q_D_perm (q_tls [q_fc fl al u, q_ac al md ar n] h9d (F := F) (q_up_id F i)) hD
              have e9 : dFarS F (i + 1) = dFarS F i := by simp only [dFarS, if_neg c_36, if_pos c_45, if_pos c_66]
              have hl : lv_has ls 6 [(3, .int (nI (i + 1))), (5, .int 1), (4, .ref (ad i)), (0, .ref fl), (1, .int ((dFarS F (i + 1)).1)), (2, .int ((dFarS F (i + 1)).2))] := by rw [e9]; exact hl
              exact ih (i + 1) (by omega) (by omega)   _ _ ls hP hD hS (lv_sub hl [3, 4, 5, 0] rfl)
            · refine lv_iload_n hx hb dX1_farthest_69 rfl (lv_at hl 5 rfl) ?_
              refine lv_istore_n (lv' := [(1, .int (nI i)), (5, .int 1), (4, .ref (ad i)), (0, .ref fl), (2, .int ((dFarS F i).2)), (3, .int (nI i))]) hx hb dX1_farthest_70 rfl hl (by decide) rfl (fun ls hl => ?_)
              refine lv_aload hx hb dX1_farthest_71 (lv_at hl 2 rfl) ?_
              refine va_get (D := D) (ci := 1) (v := .int ((F i) 5)) (C := RX0) (T := TX0) (N := 11) hx hb hts iX0 hown hK hP 0 rfl rfl 5 (by decide) (hts (.fieldLink RX1 95 "ToyRegatta$Boat" "place" "I") (by decide +kernel)) (fun _ h9 => h9) rfl dX1_farthest_73 ?_
              refine lv_istore_n (lv' := [(2, .int ((F i) 5)), (1, .int (nI i)), (5, .int 1), (4, .ref (ad i)), (0, .ref fl), (3, .int (nI i))]) hx hb dX1_farthest_76 rfl hl (by decide) rfl (fun ls hl => ?_)
              refine lv_iinc (v := (nI (i + 1))) (lv' := [(3, .int (nI (i + 1))), (2, .int ((F i) 5)), (1, .int (nI i)), (5, .int 1), (4, .ref (ad i)), (0, .ref fl)]) hx hb dX1_farthest_77 hl (k := 5) rfl (nI_1 i) (by decide) rfl (fun ls hl => ?_)
              refine lv_goto (tgt := 6) hx hb dX1_farthest_80 (by decide) ?_
              have hP : va_P D vwCl ([q_fc fl al u, q_ac al md ar n] ++ q_tl (T 1) n ar ad F) H := q_P_perm (q_tls [q_fc fl al u, q_ac al md ar n] h9d (F := F) (q_up_id F i)) hP
              have hD : va_D A ([q_fc fl al u, q_ac al md ar n] ++ q_tl (T 1) n ar ad F) := q_D_perm (q_tls [q_fc fl al u, q_ac al md ar n] h9d (F := F) (q_up_id F i)) hD
              have e9 : dFarS F (i + 1) = ((nI i), ((F i) 5)) := by simp only [dFarS, if_neg c_36, if_pos c_45, if_neg c_66]
              have hl : lv_has ls 6 [(3, .int (nI (i + 1))), (2, .int ((dFarS F (i + 1)).2)), (1, .int ((dFarS F (i + 1)).1)), (5, .int 1), (4, .ref (ad i)), (0, .ref fl)] := by rw [e9]; exact hl
              exact ih (i + 1) (by omega) (by omega)   _ _ ls hP hD hS (lv_sub hl [5, 2, 1, 0] rfl)
  exact L6 (n + 1) 0 (by omega) (by omega)   _ _ ls hP hD hS (lv_sub hl [3, 2, 1, 0] rfl)
abbrev rmX1_best : Room := { frames := 3, cells := 0, slots := 0, locals := 64 }
set_option maxHeartbeats 4000000 in
set_option maxRecDepth 100000 in
theorem c_X1_best (l : Launch) (D : va_G) (T : Nat → ClassId) (fl al ar n : Nat) (md : Int32) (u : Nat → Int32) (ad : Nat → Nat) (F : Nat → Nat → Int32) (hn : n ≤ 8) : q_M l D (q_ty T) yX1_best wsX1_best rmX1_best [.ref fl] ([q_fc fl al u, q_ac al md ar n] ++ q_tl (T 1) n ar ad F) q_no (q_is (some (.int ((dBestS F n).1))) ([q_fc fl al u, q_ac al md ar n] ++ q_tl (T 1) n ar ad F)) := by
  refine q_start (cc := cX1_best) (maxL := 7) (ret := (some .int)) (by decide) rfl (Nat.le_of_ble_eq_true rfl) ?_
  intro p e s m args below meth c A H locs hx hb hr hts hown hlocks hml hnm hP hK hD hS hA hG ls hl
  have hown : s.vm.findClass RX1 = some m.cls := hown
  have hC : CallFix p m c cX1_best 7 s args wsX1_best RX1 := ⟨hx, hb, hml, hown, hts⟩
  have iX1 : ∀ w ∈ wsX10, w ∈ wsX1_best := by decide +kernel
  have iX0 : ∀ w ∈ wsX00, w ∈ wsX1_best := by decide +kernel
  have hl : lv_has ls 7 [(0, .ref fl)] := hl
  refine lv_iconst (v := (-1)) hx hb dX1_best_0 (by decide) ?_
  refine lv_istore_n (lv' := [(1, .int (-1)), (0, .ref fl)]) hx hb dX1_best_1 rfl hl (by decide) rfl (fun ls hl => ?_)
  refine lv_iconst (v := 0) hx hb dX1_best_2 (by decide) ?_
  refine lv_istore_n (lv' := [(2, .int 0), (1, .int (-1)), (0, .ref fl)]) hx hb dX1_best_3 rfl hl (by decide) rfl (fun ls hl => ?_)
  refine lv_iconst (v := 0) hx hb dX1_best_4 (by decide) ?_
  refine lv_istore_n (lv' := [(3, .int 0), (2, .int 0), (1, .int (-1)), (0, .ref fl)]) hx hb dX1_best_5 rfl hl (by decide) rfl (fun ls hl => ?_)
  refine lv_iconst (v := 0) hx hb dX1_best_6 (by decide) ?_
  refine lv_istore (lv' := [(4, .int 0), (3, .int 0), (2, .int 0), (1, .int (-1)), (0, .ref fl)]) hx hb dX1_best_7 hl (by decide) rfl (fun ls hl => ?_)
  have L9 : ∀ (f9 i : Nat) (h9a : n < i + f9) (h9b : i ≤ n) (H : Heap) (locs : List Loc) (ls : Array Slot), va_P D vwCl ([q_fc fl al u, q_ac al md ar n] ++ q_tl (T 1) n ar ad F) H → va_D A ([q_fc fl al u, q_ac al md ar n] ++ q_tl (T 1) n ar ad F) → va_S A s.heap H locs → lv_has ls 7 [(0, .ref fl), (1, .int ((dBestS F i).1)), (2, .int ((dBestS F i).2.1)), (3, .int ((dBestS F i).2.2)), (4, .int (nI i))] → W p l e rmX1_best s m args below meth c H locs 0 0 (q_E below D (q_ty T) (q_is (some (.int ((dBestS F n).1))) ([q_fc fl al u, q_ac al md ar n] ++ q_tl (T 1) n ar ad F)) A args s rmX1_best) (F0 m 9 ls []) := by
    intro f9
    induction f9 with
    | zero => intro i h9a h9b; exact absurd h9a (by omega)
    | succ f9 ih =>
      intro i h9a h9b   H locs ls hP hD hS hl
      refine lv_iload hx hb dX1_best_9 (lv_at hl 4 rfl) ?_
      refine lv_aload_n hx hb dX1_best_11 rfl (lv_at hl 0 rfl) ?_
      refine va_get (D := D) (ci := 2) (v := .ref al) (C := RX1) (T := TX1) (N := 5) hx hb hts iX1 hown hK hP 0 rfl rfl 0 (by decide) (hts (.fieldLink RX1 10 "ToyRegatta$Fleet" "boats" "Ljava/util/ArrayList;") (by decide +kernel)) (fun _ h9 => h9) rfl dX1_best_12 ?_
      refine q_callV (As := []) (rs := [.int (nI i)]) hC (c_AL_size l D T al ar n md) q_no_st q_no_at (cwV 0 hts gX1_best_Jx4a65c_size_8abf5 rfl rfl rfl (by decide +kernel) ⟨Nat.le_of_ble_eq_true rfl, Nat.le_of_ble_eq_true rfl⟩) (va_recv hK hP (ci := 0) (q0 := 1) rfl rfl) hK hP hD hS hA (q_mask [false, true] _) rfl hl.1 rfl (Nat.le_of_ble_eq_true rfl) dX1_best_15 ⟨(Nat.le_of_ble_eq_true rfl), (Nat.le_of_ble_eq_true rfl)⟩ (fun v9 C9 H locs hp hP hD hS => ?_)
      obtain ⟨rfl, rfl⟩ := hp
      have hP : va_P D vwCl ([q_fc fl al u, q_ac al md ar n] ++ q_tl (T 1) n ar ad F) H := q_P_perm (q_mrg_perm [false, true] _ _) hP
      have hD : va_D A ([q_fc fl al u, q_ac al md ar n] ++ q_tl (T 1) n ar ad F) := q_D_perm (q_mrg_perm [false, true] _ _) hD
      refine lv_icmp_ge (tgt := 99) hx hb dX1_best_18 (by decide) (fun c_18 => ?_) (fun c_18 => ?_)
      · have h9d := (q_exit c_18 h9b (by omega)).symm
        subst h9d
        refine lv_iload_n hx hb dX1_best_99 rfl (lv_at hl 1 rfl) ?_
        exact q_iret hx hb hr hlocks hP hK hD hS (Nat.le_of_ble_eq_true rfl) (Nat.le_of_ble_eq_true rfl) dX1_best_100 ⟨rfl, rfl⟩
      · have h9d := q_goon c_18 (by omega)
        have hP : va_P D vwCl ([q_bc (ad i) (F i), q_fc fl al u, q_ac al md ar n, q_arc (T 1) n ar ad] ++ q_pl ((List.range n).erase i) ad F) H := q_P_perm (q_tlo _ h9d rfl) hP
        have hD : va_D A ([q_bc (ad i) (F i), q_fc fl al u, q_ac al md ar n, q_arc (T 1) n ar ad] ++ q_pl ((List.range n).erase i) ad F) := q_D_perm (q_tlo _ h9d rfl) hD
        refine lv_aload_n hx hb dX1_best_21 rfl (lv_at hl 0 rfl) ?_
        refine va_get (D := D) (ci := 2) (v := .ref al) (C := RX1) (T := TX1) (N := 5) hx hb hts iX1 hown hK hP 1 rfl rfl 0 (by decide) (hts (.fieldLink RX1 10 "ToyRegatta$Fleet" "boats" "Ljava/util/ArrayList;") (by decide +kernel)) (fun _ h9 => h9) rfl dX1_best_22 ?_
        refine lv_iload hx hb dX1_best_25 (lv_at hl 4 rfl) ?_
        refine q_callV (As := [.int (nI i)]) (rs := []) hC (c_AL_get l D T al ar n i md ad h9d (by omega)) q_no_st q_no_at (cwV 1 hts gX1_best_Jx4a65c_get_915e3 rfl rfl rfl (by decide +kernel) ⟨Nat.le_of_ble_eq_true rfl, Nat.le_of_ble_eq_true rfl⟩) (va_recv hK hP (ci := 0) (q0 := 2) rfl rfl) hK hP hD hS hA (q_mask [false, false, true, true] _) rfl hl.1 rfl (Nat.le_of_ble_eq_true rfl) dX1_best_27 ⟨(Nat.le_of_ble_eq_true rfl), (Nat.le_of_ble_eq_true rfl)⟩ (fun v9 C9 H locs hp hP hD hS => ?_)
        obtain ⟨rfl, rfl⟩ := hp
        have hP : va_P D vwCl ([q_bc (ad i) (F i), q_fc fl al u, q_ac al md ar n, q_arc (T 1) n ar ad] ++ q_pl ((List.range n).erase i) ad F) H := q_P_perm (q_mrg_perm [false, false, true, true] _ _) hP
        have hD : va_D A ([q_bc (ad i) (F i), q_fc fl al u, q_ac al md ar n, q_arc (T 1) n ar ad] ++ q_pl ((List.range n).erase i) ad F) := q_D_perm (q_mrg_perm [false, false, true, true] _ _) hD
        refine va_castS hx hb hown (hts (.classLink RX1 24 "ToyRegatta$Boat") (by decide +kernel)) (hK.1 1 _ rfl).2 (va_recv hK hP (ci := 1) (q0 := 0) rfl rfl) dX1_best_30 ?_
        refine lv_astore (lv' := [(5, .ref (ad i)), (0, .ref fl), (1, .int ((dBestS F i).1)), (2, .int ((dBestS F i).2.1)), (3, .int ((dBestS F i).2.2)), (4, .int (nI i))]) hx hb dX1_best_33 hl (by decide) rfl (fun ls hl => ?_)
        refine lv_aload hx hb dX1_best_35 (lv_at hl 0 rfl) ?_
        refine va_get (D := D) (ci := 1) (v := .int ((F i) 3)) (C := RX0) (T := TX0) (N := 11) hx hb hts iX0 hown hK hP 0 rfl rfl 3 (by decide) (hts (.fieldLink RX1 108 "ToyRegatta$Boat" "points" "I") (by decide +kernel)) (fun _ h9 => h9) rfl dX1_best_37 ?_
        refine lv_iload_n hx hb dX1_best_40 rfl (lv_at hl 3 rfl) ?_
        refine lv_icmp_gt (tgt := 62) hx hb dX1_best_41 (by decide) (fun c_41 => ?_) (fun c_41 => ?_)
        · refine lv_iconst (v := 1) hx hb dX1_best_62 (by decide) ?_
          refine lv_goto (tgt := 67) hx hb dX1_best_63 (by decide) ?_
          refine lv_istore (lv' := [(6, .int 1), (5, .ref (ad i)), (0, .ref fl), (1, .int ((dBestS F i).1)), (2, .int ((dBestS F i).2.1)), (3, .int ((dBestS F i).2.2)), (4, .int (nI i))]) hx hb dX1_best_67 hl (by decide) rfl (fun ls hl => ?_)
          refine lv_iload_n hx hb dX1_best_69 rfl (lv_at hl 3 rfl) ?_
          refine lv_if_lt (tgt := 78) hx hb dX1_best_70 (by decide) (fun c_70 => ?_) (fun c_70 => ?_)
          · refine lv_iload hx hb dX1_best_78 (lv_at hl 6 rfl) ?_
            refine lv_istore_n (lv' := [(1, .int (nI i)), (6, .int 1), (5, .ref (ad i)), (0, .ref fl), (2, .int ((dBestS F i).2.1)), (3, .int ((dBestS F i).2.2)), (4, .int (nI i))]) hx hb dX1_best_80 rfl hl (by decide) rfl (fun ls hl => ?_)
            refine lv_aload hx hb dX1_best_81 (lv_at hl 2 rfl) ?_
            refine va_get (D := D) (ci := 1) (v := .int ((F i) 3)) (C := RX0) (T := TX0) (N := 11) hx hb hts iX0 hown hK hP 0 rfl rfl 3 (by decide) (hts (.fieldLink RX1 108 "ToyRegatta$Boat" "points" "I") (by decide +kernel)) (fun _ h9 => h9) rfl dX1_best_83 ?_
            refine lv_istore_n (lv' := [(2, .int ((F i) 3)), (1, .int (nI i)), (6, .int 1), (5, .ref (ad i)), (0, .ref fl), (3, .int ((dBestS F i).2.2)), (4, .int (nI i))]) hx hb dX1_best_86 rfl hl (by decide) rfl (fun ls hl => ?_)
            refine lv_aload hx hb dX1_best_87 (lv_at hl 3 rfl) ?_
            refine va_get (D := D) (ci := 1) (v := .int ((F i) 4)) (C := RX0) (T := TX0) (N := 11) hx hb hts iX0 hown hK hP 0 rfl rfl 4 (by decide) (hts (.fieldLink RX1 123 "ToyRegatta$Boat" "soaked" "I") (by decide +kernel)) (fun _ h9 => h9) rfl dX1_best_89 ?_
            refine lv_istore_n (lv' := [(3, .int ((F i) 4)), (2, .int ((F i) 3)), (1, .int (nI i)), (6, .int 1), (5, .ref (ad i)), (0, .ref fl), (4, .int (nI i))]) hx hb dX1_best_92 rfl hl (by decide) rfl (fun ls hl => ?_)
            refine lv_iinc (v := (nI (i + 1))) (lv' := [(4, .int (nI (i + 1))), (3, .int ((F i) 4)), (2, .int ((F i) 3)), (1, .int (nI i)), (6, .int 1), (5, .ref (ad i)), (0, .ref fl)]) hx hb dX1_best_93 hl (k := 6) rfl (nI_1 i) (by decide) rfl (fun ls hl => ?_)
            refine lv_goto (tgt := 9) hx hb dX1_best_96 (by decide) ?_
            have hP : va_P D vwCl ([q_fc fl al u, q_ac al md ar n] ++ q_tl (T 1) n ar ad F) H := q_P_perm (q_tls [q_fc fl al u, q_ac al md ar n] h9d (F := F) (q_up_id F i)) hP
            have hD : va_D A ([q_fc fl al u, q_ac al md ar n] ++ q_tl (T 1) n ar ad F) := q_D_perm (q_tls [q_fc fl al u, q_ac al md ar n] h9d (F := F) (q_up_id F i)) hD
            have e9 : dBestS F (i + 1) = ((nI i), ((F i) 3), ((F i) 4)) := by simp only [dBestS, if_pos c_41, if_pos c_70]
            have hl : lv_has ls 7 [(4, .int (nI (i + 1))), (3, .int ((dBestS F (i + 1)).2.2)), (2, .int ((dBestS F (i + 1)).2.1)), (1, .int ((dBestS F (i + 1)).1)), (6, .int 1), (5, .ref (ad i)), (0, .ref fl)] := by rw [e9]; exact hl
            exact ih (i + 1) (by omega) (by omega)   _ _ ls hP hD hS (lv_sub hl [6, 3, 2, 1, 0] rfl)
          · refine lv_iload hx hb dX1_best_73 (lv_at hl 0 rfl) ?_
            refine lv_if_eq (tgt := 93) hx hb dX1_best_75 (by decide) (fun c_75 => absurd c_75 (by decide)) (fun _ => ?_)
            refine lv_iload hx hb dX1_best_78 (lv_at hl 6 rfl) ?_
            refine lv_istore_n (lv' := [(1, .int (nI i)), (6, .int 1), (5, .ref (ad i)), (0, .ref fl), (2, .int ((dBestS F i).2.1)), (3, .int ((dBestS F i).2.2)), (4, .int (nI i))]) hx hb dX1_best_80 rfl hl (by decide) rfl (fun ls hl => ?_)
            refine lv_aload hx hb dX1_best_81 (lv_at hl 2 rfl) ?_
            refine va_get (D := D) (ci := 1) (v := .int ((F i) 3)) (C := RX0) (T := TX0) (N := 11) hx hb hts iX0 hown hK hP 0 rfl rfl 3 (by decide) (hts (.fieldLink RX1 108 "ToyRegatta$Boat" "points" "I") (by decide +kernel)) (fun _ h9 => h9) rfl dX1_best_83 ?_
            refine lv_istore_n (lv' := [(2, .int ((F i) 3)), (1, .int (nI i)), (6, .int 1), (5, .ref (ad i)), (0, .ref fl), (3, .int ((dBestS F i).2.2)), (4, .int (nI i))]) hx hb dX1_best_86 rfl hl (by decide) rfl (fun ls hl => ?_)
            refine lv_aload hx hb dX1_best_87 (lv_at hl 3 rfl) ?_
            refine va_get (D := D) (ci := 1) (v := .int ((F i) 4)) (C := RX0) (T := TX0) (N := 11) hx hb hts iX0 hown hK hP 0 rfl rfl 4 (by decide) (hts (.fieldLink RX1 123 "ToyRegatta$Boat" "soaked" "I") (by decide +kernel)) (fun _ h9 => h9) rfl dX1_best_89 ?_
            refine lv_istore_n (lv' := [(3, .int ((F i) 4)), (2, .int ((F i) 3)), (1, .int (nI i)), (6, .int 1), (5, .ref (ad i)), (0, .ref fl), (4, .int (nI i))]) hx hb dX1_best_92 rfl hl (by decide) rfl (fun ls hl => ?_)
            refine lv_iinc (v := (nI (i + 1))) (lv' := [(4, .int (nI (i + 1))), (3, .int ((F i) 4)), (2, .int ((F i) 3)), (1, .int (nI i)), (6, .int 1), (5, .ref (ad i)), (0, .ref fl)]) hx hb dX1_best_93 hl (k := 6) rfl (nI_1 i) (by decide) rfl (fun ls hl => ?_)
            refine lv_goto (tgt := 9) hx hb dX1_best_96 (by decide) ?_
            have hP : va_P D vwCl ([q_fc fl al u, q_ac al md ar n] ++ q_tl (T 1) n ar ad F) H := q_P_perm (q_tls [q_fc fl al u, q_ac al md ar n] h9d (F := F) (q_up_id F i)) hP
            have hD : va_D A ([q_fc fl al u, q_ac al md ar n] ++ q_tl (T 1) n ar ad F) := q_D_perm (q_tls [q_fc fl al u, q_ac al md ar n] h9d (F := F) (q_up_id F i)) hD
            have e9 : dBestS F (i + 1) = ((nI i), ((F i) 3), ((F i) 4)) := by simp only [dBestS, if_pos c_41, if_neg c_70]
            have hl : lv_has ls 7 [(4, .int (nI (i + 1))), (3, .int ((dBestS F (i + 1)).2.2)), (2, .int ((dBestS F (i + 1)).2.1)), (1, .int ((dBestS F (i + 1)).1)), (6, .int 1), (5, .ref (ad i)), (0, .ref fl)] := by rw [e9]; exact hl
            exact ih (i + 1) (by omega) (by omega)   _ _ ls hP hD hS (lv_sub hl [6, 3, 2, 1, 0] rfl)
        · refine lv_aload hx hb dX1_best_44 (lv_at hl 0 rfl) ?_
          refine va_get (D := D) (ci := 1) (v := .int ((F i) 3)) (C := RX0) (T := TX0) (N := 11) hx hb hts iX0 hown hK hP 0 rfl rfl 3 (by decide) (hts (.fieldLink RX1 108 "ToyRegatta$Boat" "points" "I") (by decide +kernel)) (fun _ h9 => h9) rfl dX1_best_46 ?_
          refine lv_iload_n hx hb dX1_best_49 rfl (lv_at hl 3 rfl) ?_
          refine lv_icmp_ne (tgt := 66) hx hb dX1_best_50 (by decide) (fun c_50 => ?_) (fun c_50 => ?_)
          · refine lv_iconst (v := 0) hx hb dX1_best_66 (by decide) ?_
            refine lv_istore (lv' := [(6, .int 0), (5, .ref (ad i)), (0, .ref fl), (1, .int ((dBestS F i).1)), (2, .int ((dBestS F i).2.1)), (3, .int ((dBestS F i).2.2)), (4, .int (nI i))]) hx hb dX1_best_67 hl (by decide) rfl (fun ls hl => ?_)
            refine lv_iload_n hx hb dX1_best_69 rfl (lv_at hl 3 rfl) ?_
            refine lv_if_lt (tgt := 78) hx hb dX1_best_70 (by decide) (fun c_70 => ?_) (fun c_70 => ?_)
            · refine lv_iload hx hb dX1_best_78 (lv_at hl 6 rfl) ?_
              refine lv_istore_n (lv' := [(1, .int (nI i)), (6, .int 0), (5, .ref (ad i)), (0, .ref fl), (2, .int ((dBestS F i).2.1)), (3, .int ((dBestS F i).2.2)), (4, .int (nI i))]) hx hb dX1_best_80 rfl hl (by decide) rfl (fun ls hl => ?_)
              refine lv_aload hx hb dX1_best_81 (lv_at hl 2 rfl) ?_
              refine va_get (D := D) (ci := 1) (v := .int ((F i) 3)) (C := RX0) (T := TX0) (N := 11) hx hb hts iX0 hown hK hP 0 rfl rfl 3 (by decide) (hts (.fieldLink RX1 108 "ToyRegatta$Boat" "points" "I") (by decide +kernel)) (fun _ h9 => h9) rfl dX1_best_83 ?_
              refine lv_istore_n (lv' := [(2, .int ((F i) 3)), (1, .int (nI i)), (6, .int 0), (5, .ref (ad i)), (0, .ref fl), (3, .int ((dBestS F i).2.2)), (4, .int (nI i))]) hx hb dX1_best_86 rfl hl (by decide) rfl (fun ls hl => ?_)
              refine lv_aload hx hb dX1_best_87 (lv_at hl 3 rfl) ?_
              refine va_get (D := D) (ci := 1) (v := .int ((F i) 4)) (C := RX0) (T := TX0) (N := 11) hx hb hts iX0 hown hK hP 0 rfl rfl 4 (by decide) (hts (.fieldLink RX1 123 "ToyRegatta$Boat" "soaked" "I") (by decide +kernel)) (fun _ h9 => h9) rfl dX1_best_89 ?_
              refine lv_istore_n (lv' := [(3, .int ((F i) 4)), (2, .int ((F i) 3)), (1, .int (nI i)), (6, .int 0), (5, .ref (ad i)), (0, .ref fl), (4, .int (nI i))]) hx hb dX1_best_92 rfl hl (by decide) rfl (fun ls hl => ?_)
              refine lv_iinc (v := (nI (i + 1))) (lv' := [(4, .int (nI (i + 1))), (3, .int ((F i) 4)), (2, .int ((F i) 3)), (1, .int (nI i)), (6, .int 0), (5, .ref (ad i)), (0, .ref fl)]) hx hb dX1_best_93 hl (k := 6) rfl (nI_1 i) (by decide) rfl (fun ls hl => ?_)
              refine lv_goto (tgt := 9) hx hb dX1_best_96 (by decide) ?_
              have hP : va_P D vwCl ([q_fc fl al u, q_ac al md ar n] ++ q_tl (T 1) n ar ad F) H := q_P_perm (q_tls [q_fc fl al u, q_ac al md ar n] h9d (F := F) (q_up_id F i)) hP
              have hD : va_D A ([q_fc fl al u, q_ac al md ar n] ++ q_tl (T 1) n ar ad F) := q_D_perm (q_tls [q_fc fl al u, q_ac al md ar n] h9d (F := F) (q_up_id F i)) hD
              have e9 : dBestS F (i + 1) = ((nI i), ((F i) 3), ((F i) 4)) := by simp only [dBestS, if_neg c_41, if_neg c_50, if_pos c_70]
              have hl : lv_has ls 7 [(4, .int (nI (i + 1))), (3, .int ((dBestS F (i + 1)).2.2)), (2, .int ((dBestS F (i + 1)).2.1)), (1, .int ((dBestS F (i + 1)).1)), (6, .int 0), (5, .ref (ad i)), (0, .ref fl)] := by rw [e9]; exact hl
              exact ih (i + 1) (by omega) (by omega)   _ _ ls hP hD hS (lv_sub hl [6, 3, 2, 1, 0] rfl)
            · refine lv_iload hx hb dX1_best_73 (lv_at hl 0 rfl) ?_
              refine lv_if_eq (tgt := 93) hx hb dX1_best_75 (by decide) (fun _ => ?_) (fun c_75 => absurd c_75 (by decide))
              refine lv_iinc (v := (nI (i + 1))) (lv' := [(4, .int (nI (i + 1))), (6, .int 0), (5, .ref (ad i)), (0, .ref fl), (1, .int ((dBestS F i).1)), (2, .int ((dBestS F i).2.1)), (3, .int ((dBestS F i).2.2))]) hx hb dX1_best_93 hl (k := 6) rfl (nI_1 i) (by decide) rfl (fun ls hl => ?_)
              refine lv_goto (tgt := 9) hx hb dX1_best_96 (by decide) ?_
              have hP : va_P D vwCl ([q_fc fl al u, q_ac al md ar n] ++ q_tl (T 1) n ar ad F) H := q_P_perm (q_tls [q_fc fl al u, q_ac al md ar n] h9d (F := F) (q_up_id F i)) hP
              have hD : va_D A ([q_fc fl al u, q_ac al md ar n] ++ q_tl (T 1) n ar ad F) := q_D_perm (q_tls [q_fc fl al u, q_ac al md ar n] h9d (F := F) (q_up_id F i)) hD
              have e9 : dBestS F (i + 1) = dBestS F i := by simp only [dBestS, if_neg c_41, if_neg c_50, if_neg c_70]
              have hl : lv_has ls 7 [(4, .int (nI (i + 1))), (6, .int 0), (5, .ref (ad i)), (0, .ref fl), (1, .int ((dBestS F (i + 1)).1)), (2, .int ((dBestS F (i + 1)).2.1)), (3, .int ((dBestS F (i + 1)).2.2))] := by rw [e9]; exact hl
              exact ih (i + 1) (by omega) (by omega)   _ _ ls hP hD hS (lv_sub hl [3, 4, 5, 6, 0] rfl)
          · refine lv_aload hx hb dX1_best_53 (lv_at hl 0 rfl) ?_
            refine va_get (D := D) (ci := 1) (v := .int ((F i) 4)) (C := RX0) (T := TX0) (N := 11) hx hb hts iX0 hown hK hP 0 rfl rfl 4 (by decide) (hts (.fieldLink RX1 123 "ToyRegatta$Boat" "soaked" "I") (by decide +kernel)) (fun _ h9 => h9) rfl dX1_best_55 ?_
            refine lv_iload_n hx hb dX1_best_58 rfl (lv_at hl 4 rfl) ?_
            refine lv_icmp_ge (tgt := 66) hx hb dX1_best_59 (by decide) (fun c_59 => ?_) (fun c_59 => ?_)
            · refine lv_iconst (v := 0) hx hb dX1_best_66 (by decide) ?_
              refine lv_istore (lv' := [(6, .int 0), (5, .ref (ad i)), (0, .ref fl), (1, .int ((dBestS F i).1)), (2, .int ((dBestS F i).2.1)), (3, .int ((dBestS F i).2.2)), (4, .int (nI i))]) hx hb dX1_best_67 hl (by decide) rfl (fun ls hl => ?_)
              refine lv_iload_n hx hb dX1_best_69 rfl (lv_at hl 3 rfl) ?_
              refine lv_if_lt (tgt := 78) hx hb dX1_best_70 (by decide) (fun c_70 => ?_) (fun c_70 => ?_)
              · refine lv_iload hx hb dX1_best_78 (lv_at hl 6 rfl) ?_
                refine lv_istore_n (lv' := [(1, .int (nI i)), (6, .int 0), (5, .ref (ad i)), (0, .ref fl), (2, .int ((dBestS F i).2.1)), (3, .int ((dBestS F i).2.2)), (4, .int (nI i))]) hx hb dX1_best_80 rfl hl (by decide) rfl (fun ls hl => ?_)
                refine lv_aload hx hb dX1_best_81 (lv_at hl 2 rfl) ?_
                refine va_get (D := D) (ci := 1) (v := .int ((F i) 3)) (C := RX0) (T := TX0) (N := 11) hx hb hts iX0 hown hK hP 0 rfl rfl 3 (by decide) (hts (.fieldLink RX1 108 "ToyRegatta$Boat" "points" "I") (by decide +kernel)) (fun _ h9 => h9) rfl dX1_best_83 ?_
                refine lv_istore_n (lv' := [(2, .int ((F i) 3)), (1, .int (nI i)), (6, .int 0), (5, .ref (ad i)), (0, .ref fl), (3, .int ((dBestS F i).2.2)), (4, .int (nI i))]) hx hb dX1_best_86 rfl hl (by decide) rfl (fun ls hl => ?_)
                refine lv_aload hx hb dX1_best_87 (lv_at hl 3 rfl) ?_
                refine va_get (D := D) (ci := 1) (v := .int ((F i) 4)) (C := RX0) (T := TX0) (N := 11) hx hb hts iX0 hown hK hP 0 rfl rfl 4 (by decide) (hts (.fieldLink RX1 123 "ToyRegatta$Boat" "soaked" "I") (by decide +kernel)) (fun _ h9 => h9) rfl dX1_best_89 ?_
                refine lv_istore_n (lv' := [(3, .int ((F i) 4)), (2, .int ((F i) 3)), (1, .int (nI i)), (6, .int 0), (5, .ref (ad i)), (0, .ref fl), (4, .int (nI i))]) hx hb dX1_best_92 rfl hl (by decide) rfl (fun ls hl => ?_)
                refine lv_iinc (v := (nI (i + 1))) (lv' := [(4, .int (nI (i + 1))), (3, .int ((F i) 4)), (2, .int ((F i) 3)), (1, .int (nI i)), (6, .int 0), (5, .ref (ad i)), (0, .ref fl)]) hx hb dX1_best_93 hl (k := 6) rfl (nI_1 i) (by decide) rfl (fun ls hl => ?_)
                refine lv_goto (tgt := 9) hx hb dX1_best_96 (by decide) ?_
                have hP : va_P D vwCl ([q_fc fl al u, q_ac al md ar n] ++ q_tl (T 1) n ar ad F) H := q_P_perm (q_tls [q_fc fl al u, q_ac al md ar n] h9d (F := F) (q_up_id F i)) hP
                have hD : va_D A ([q_fc fl al u, q_ac al md ar n] ++ q_tl (T 1) n ar ad F) := q_D_perm (q_tls [q_fc fl al u, q_ac al md ar n] h9d (F := F) (q_up_id F i)) hD
                have e9 : dBestS F (i + 1) = ((nI i), ((F i) 3), ((F i) 4)) := by simp only [dBestS, if_neg c_41, if_pos c_50, if_pos c_59, if_pos c_70]
                have hl : lv_has ls 7 [(4, .int (nI (i + 1))), (3, .int ((dBestS F (i + 1)).2.2)), (2, .int ((dBestS F (i + 1)).2.1)), (1, .int ((dBestS F (i + 1)).1)), (6, .int 0), (5, .ref (ad i)), (0, .ref fl)] := by rw [e9]; exact hl
                exact ih (i + 1) (by omega) (by omega)   _ _ ls hP hD hS (lv_sub hl [6, 3, 2, 1, 0] rfl)
              · refine lv_iload hx hb dX1_best_73 (lv_at hl 0 rfl) ?_
                refine lv_if_eq (tgt := 93) hx hb dX1_best_75 (by decide) (fun _ => ?_) (fun c_75 => absurd c_75 (by decide))
                refine lv_iinc (v := (nI (i + 1))) (lv' := [(4, .int (nI (i + 1))), (6, .int 0), (5, .ref (ad i)), (0, .ref fl), (1, .int ((dBestS F i).1)), (2, .int ((dBestS F i).2.1)), (3, .int ((dBestS F i).2.2))]) hx hb dX1_best_93 hl (k := 6) rfl (nI_1 i) (by decide) rfl (fun ls hl => ?_)
                refine lv_goto (tgt := 9) hx hb dX1_best_96 (by decide) ?_
                have hP : va_P D vwCl ([q_fc fl al u, q_ac al md ar n] ++ q_tl (T 1) n ar ad F) H := q_P_perm (q_tls [q_fc fl al u, q_ac al md ar n] h9d (F := F) (q_up_id F i)) hP
                have hD : va_D A ([q_fc fl al u, q_ac al md ar n] ++ q_tl (T 1) n ar ad F) := q_D_perm (q_tls [q_fc fl al u, q_ac al md ar n] h9d (F := F) (q_up_id F i)) hD
                have e9 : dBestS F (i + 1) = dBestS F i := by simp only [dBestS, if_neg c_41, if_pos c_50, if_pos c_59, if_neg c_70]
                have hl : lv_has ls 7 [(4, .int (nI (i + 1))), (6, .int 0), (5, .ref (ad i)), (0, .ref fl), (1, .int ((dBestS F (i + 1)).1)), (2, .int ((dBestS F (i + 1)).2.1)), (3, .int ((dBestS F (i + 1)).2.2))] := by rw [e9]; exact hl
                exact ih (i + 1) (by omega) (by omega)   _ _ ls hP hD hS (lv_sub hl [3, 4, 5, 6, 0] rfl)
            · refine lv_iconst (v := 1) hx hb dX1_best_62 (by decide) ?_
              refine lv_goto (tgt := 67) hx hb dX1_best_63 (by decide) ?_
              refine lv_istore (lv' := [(6, .int 1), (5, .ref (ad i)), (0, .ref fl), (1, .int ((dBestS F i).1)), (2, .int ((dBestS F i).2.1)), (3, .int ((dBestS F i).2.2)), (4, .int (nI i))]) hx hb dX1_best_67 hl (by decide) rfl (fun ls hl => ?_)
              refine lv_iload_n hx hb dX1_best_69 rfl (lv_at hl 3 rfl) ?_
              refine lv_if_lt (tgt := 78) hx hb dX1_best_70 (by decide) (fun c_70 => ?_) (fun c_70 => ?_)
              · refine lv_iload hx hb dX1_best_78 (lv_at hl 6 rfl) ?_
                refine lv_istore_n (lv' := [(1, .int (nI i)), (6, .int 1), (5, .ref (ad i)), (0, .ref fl), (2, .int ((dBestS F i).2.1)), (3, .int ((dBestS F i).2.2)), (4, .int (nI i))]) hx hb dX1_best_80 rfl hl (by decide) rfl (fun ls hl => ?_)
                refine lv_aload hx hb dX1_best_81 (lv_at hl 2 rfl) ?_
                refine va_get (D := D) (ci := 1) (v := .int ((F i) 3)) (C := RX0) (T := TX0) (N := 11) hx hb hts iX0 hown hK hP 0 rfl rfl 3 (by decide) (hts (.fieldLink RX1 108 "ToyRegatta$Boat" "points" "I") (by decide +kernel)) (fun _ h9 => h9) rfl dX1_best_83 ?_
                refine lv_istore_n (lv' := [(2, .int ((F i) 3)), (1, .int (nI i)), (6, .int 1), (5, .ref (ad i)), (0, .ref fl), (3, .int ((dBestS F i).2.2)), (4, .int (nI i))]) hx hb dX1_best_86 rfl hl (by decide) rfl (fun ls hl => ?_)
                refine lv_aload hx hb dX1_best_87 (lv_at hl 3 rfl) ?_
                refine va_get (D := D) (ci := 1) (v := .int ((F i) 4)) (C := RX0) (T := TX0) (N := 11) hx hb hts iX0 hown hK hP 0 rfl rfl 4 (by decide) (hts (.fieldLink RX1 123 "ToyRegatta$Boat" "soaked" "I") (by decide +kernel)) (fun _ h9 => h9) rfl dX1_best_89 ?_
                refine lv_istore_n (lv' := [(3, .int ((F i) 4)), (2, .int ((F i) 3)), (1, .int (nI i)), (6, .int 1), (5, .ref (ad i)), (0, .ref fl), (4, .int (nI i))]) hx hb dX1_best_92 rfl hl (by decide) rfl (fun ls hl => ?_)
                refine lv_iinc (v := (nI (i + 1))) (lv' := [(4, .int (nI (i + 1))), (3, .int ((F i) 4)), (2, .int ((F i) 3)), (1, .int (nI i)), (6, .int 1), (5, .ref (ad i)), (0, .ref fl)]) hx hb dX1_best_93 hl (k := 6) rfl (nI_1 i) (by decide) rfl (fun ls hl => ?_)
                refine lv_goto (tgt := 9) hx hb dX1_best_96 (by decide) ?_
                have hP : va_P D vwCl ([q_fc fl al u, q_ac al md ar n] ++ q_tl (T 1) n ar ad F) H := q_P_perm (q_tls [q_fc fl al u, q_ac al md ar n] h9d (F := F) (q_up_id F i)) hP
                have hD : va_D A ([q_fc fl al u, q_ac al md ar n] ++ q_tl (T 1) n ar ad F) := q_D_perm (q_tls [q_fc fl al u, q_ac al md ar n] h9d (F := F) (q_up_id F i)) hD
                have e9 : dBestS F (i + 1) = ((nI i), ((F i) 3), ((F i) 4)) := by simp only [dBestS, if_neg c_41, if_pos c_50, if_neg c_59, if_pos c_70]
                have hl : lv_has ls 7 [(4, .int (nI (i + 1))), (3, .int ((dBestS F (i + 1)).2.2)), (2, .int ((dBestS F (i + 1)).2.1)), (1, .int ((dBestS F (i + 1)).1)), (6, .int 1), (5, .ref (ad i)), (0, .ref fl)] := by rw [e9]; exact hl
                exact ih (i + 1) (by omega) (by omega)   _ _ ls hP hD hS (lv_sub hl [6, 3, 2, 1, 0] rfl)
              · refine lv_iload hx hb dX1_best_73 (lv_at hl 0 rfl) ?_
                refine lv_if_eq (tgt := 93) hx hb dX1_best_75 (by decide) (fun c_75 => absurd c_75 (by decide)) (fun _ => ?_)
                refine lv_iload hx hb dX1_best_78 (lv_at hl 6 rfl) ?_
                refine lv_istore_n (lv' := [(1, .int (nI i)), (6, .int 1), (5, .ref (ad i)), (0, .ref fl), (2, .int ((dBestS F i).2.1)), (3, .int ((dBestS F i).2.2)), (4, .int (nI i))]) hx hb dX1_best_80 rfl hl (by decide) rfl (fun ls hl => ?_)
                refine lv_aload hx hb dX1_best_81 (lv_at hl 2 rfl) ?_
                refine va_get (D := D) (ci := 1) (v := .int ((F i) 3)) (C := RX0) (T := TX0) (N := 11) hx hb hts iX0 hown hK hP 0 rfl rfl 3 (by decide) (hts (.fieldLink RX1 108 "ToyRegatta$Boat" "points" "I") (by decide +kernel)) (fun _ h9 => h9) rfl dX1_best_83 ?_
                refine lv_istore_n (lv' := [(2, .int ((F i) 3)), (1, .int (nI i)), (6, .int 1), (5, .ref (ad i)), (0, .ref fl), (3, .int ((dBestS F i).2.2)), (4, .int (nI i))]) hx hb dX1_best_86 rfl hl (by decide) rfl (fun ls hl => ?_)
                refine lv_aload hx hb dX1_best_87 (lv_at hl 3 rfl) ?_
                refine va_get (D := D) (ci := 1) (v := .int ((F i) 4)) (C := RX0) (T := TX0) (N := 11) hx hb hts iX0 hown hK hP 0 rfl rfl 4 (by decide) (hts (.fieldLink RX1 123 "ToyRegatta$Boat" "soaked" "I") (by decide +kernel)) (fun _ h9 => h9) rfl dX1_best_89 ?_
                refine lv_istore_n (lv' := [(3, .int ((F i) 4)), (2, .int ((F i) 3)), (1, .int (nI i)), (6, .int 1), (5, .ref (ad i)), (0, .ref fl), (4, .int (nI i))]) hx hb dX1_best_92 rfl hl (by decide) rfl (fun ls hl => ?_)
                refine lv_iinc (v := (nI (i + 1))) (lv' := [(4, .int (nI (i + 1))), (3, .int ((F i) 4)), (2, .int ((F i) 3)), (1, .int (nI i)), (6, .int 1), (5, .ref (ad i)), (0, .ref fl)]) hx hb dX1_best_93 hl (k := 6) rfl (nI_1 i) (by decide) rfl (fun ls hl => ?_)
                refine lv_goto (tgt := 9) hx hb dX1_best_96 (by decide) ?_
                have hP : va_P D vwCl ([q_fc fl al u, q_ac al md ar n] ++ q_tl (T 1) n ar ad F) H := q_P_perm (q_tls [q_fc fl al u, q_ac al md ar n] h9d (F := F) (q_up_id F i)) hP
                have hD : va_D A ([q_fc fl al u, q_ac al md ar n] ++ q_tl (T 1) n ar ad F) := q_D_perm (q_tls [q_fc fl al u, q_ac al md ar n] h9d (F := F) (q_up_id F i)) hD
                have e9 : dBestS F (i + 1) = ((nI i), ((F i) 3), ((F i) 4)) := by simp only [dBestS, if_neg c_41, if_pos c_50, if_neg c_59, if_neg c_70]
                have hl : lv_has ls 7 [(4, .int (nI (i + 1))), (3, .int ((dBestS F (i + 1)).2.2)), (2, .int ((dBestS F (i + 1)).2.1)), (1, .int ((dBestS F (i + 1)).1)), (6, .int 1), (5, .ref (ad i)), (0, .ref fl)] := by rw [e9]; exact hl
                exact ih (i + 1) (by omega) (by omega)   _ _ ls hP hD hS (lv_sub hl [6, 3, 2, 1, 0] rfl)
  exact L9 (n + 1) 0 (by omega) (by omega)   _ _ ls hP hD hS (lv_sub hl [4, 3, 2, 1, 0] rfl)

def dHit (F : Nat → Nat → Int32) (ju : Nat → Int32) (k i : Nat) (j : Nat) : Bool := decide (¬ bTouch (F i) (F j) = 0) && decide (¬ bSee ju k (F i 5) = 0)
def dFoulR (F : Nat → Nat → Int32) (ju : Nat → Int32) (k i : Nat) : Nat → Int32 := if q_any (dHit F ju k i) i = true then upd (F i) 7 (F i 7 + 1) else F i
theorem q_open2 (X : va_W) {L : List Nat} {i : Nat} (hi : i ∈ L) (ad : Nat → Nat) {F : Nat → Nat → Int32} {r : Nat → Int32} (e : F i = r) : (X ++ q_pl L ad F).Perm (q_bc (ad i) r :: (X ++ q_pl (L.erase i) ad F)) := q_open X hi ad e
theorem q_mem_er {n i j : Nat} (h1 : ¬ j = i) (h2 : j < n) : j ∈ (List.range n).erase i := (List.Nodup.mem_erase_iff List.nodup_range).mpr ⟨h1, List.mem_range.mpr h2⟩

abbrev rmX1_judgeFoul : Room := { frames := 3, cells := 0, slots := 0, locals := 64 }
set_option maxHeartbeats 4000000 in
set_option maxRecDepth 100000 in
theorem c_X1_judgeFoul (l : Launch) (D : va_G) (T : Nat → ClassId) (fl al ar n : Nat) (md : Int32) (u : Nat → Int32) (ad : Nat → Nat) (F : Nat → Nat → Int32) (hn : n ≤ 8) (wa wi ja k : Nat) (len : Int32) (ju : Nat → Int32) (hk : k ≤ 3) (i : Nat) (hi : i < n) : q_M l D (q_ty T) yX1_judgeFoul wsX1_judgeFoul rmX1_judgeFoul [.ref fl, .int (nI i), .ref wa] ([q_fc fl al u, q_ac al md ar n, q_wc wa len wi ja, q_ia T ja k ju] ++ q_tl (T 1) n ar ad F) q_no (q_is none ([q_fc fl al u, q_ac al md ar n, q_wc wa len wi ja, q_ia T ja k ju] ++ q_tl (T 1) n ar ad (va_up F i (dFoulR F ju k i)))) := by
  refine q_start (cc := cX1_judgeFoul) (maxL := 5) (ret := none) (by decide) rfl (Nat.le_of_ble_eq_true rfl) ?_
  intro p e s m args below meth c A H locs hx hb hr hts hown hlocks hml hnm hP hK hD hS hA hG ls hl
  have hown : s.vm.findClass RX1 = some m.cls := hown
  have hC : CallFix p m c cX1_judgeFoul 5 s args wsX1_judgeFoul RX1 := ⟨hx, hb, hml, hown, hts⟩
  have iX1 : ∀ w ∈ wsX10, w ∈ wsX1_judgeFoul := by decide +kernel
  have iX0 : ∀ w ∈ wsX00, w ∈ wsX1_judgeFoul := by decide +kernel
  have hl : lv_has ls 5 [(0, .ref fl), (1, .int (nI i)), (2, .ref wa)] := hl
  refine lv_iload_n hx hb dX1_judgeFoul_0 rfl (lv_at hl 1 rfl) ?_
  refine lv_if_lt (tgt := 15) hx hb dX1_judgeFoul_1 (by decide) (fun c_1 => absurd c_1 (nI_pos (by omega))) (fun c_1 => ?_)
  refine lv_iload_n hx hb dX1_judgeFoul_4 rfl (lv_at hl 1 rfl) ?_
  refine lv_aload_n hx hb dX1_judgeFoul_5 rfl (lv_at hl 0 rfl) ?_
  refine va_get (D := D) (ci := 2) (v := .ref al) (C := RX1) (T := TX1) (N := 5) hx hb hts iX1 hown hK hP 0 rfl rfl 0 (by decide) (hts (.fieldLink RX1 10 "ToyRegatta$Fleet" "boats" "Ljava/util/ArrayList;") (by decide +kernel)) (fun _ h9 => h9) rfl dX1_judgeFoul_6 ?_
  refine q_callV (As := []) (rs := [.int (nI i)]) hC (c_AL_size l D T al ar n md) q_no_st q_no_at (cwV 0 hts gX1_judgeFoul_Jx4a65c_size_8abf5 rfl rfl rfl (by decide +kernel) ⟨Nat.le_of_ble_eq_true rfl, Nat.le_of_ble_eq_true rfl⟩) (va_recv hK hP (ci := 0) (q0 := 1) rfl rfl) hK hP hD hS hA (q_mask [false, true, false, false] _) rfl hl.1 rfl (Nat.le_of_ble_eq_true rfl) dX1_judgeFoul_9 ⟨(Nat.le_of_ble_eq_true rfl), (Nat.le_of_ble_eq_true rfl)⟩ (fun v9 C9 H locs hp hP hD hS => ?_)
  obtain ⟨rfl, rfl⟩ := hp
  have hP : va_P D vwCl ([q_fc fl al u, q_ac al md ar n, q_wc wa len wi ja, q_ia T ja k ju] ++ q_tl (T 1) n ar ad F) H := q_P_perm (q_mrg_perm [false, true, false, false] _ _) hP
  have hD : va_D A ([q_fc fl al u, q_ac al md ar n, q_wc wa len wi ja, q_ia T ja k ju] ++ q_tl (T 1) n ar ad F) := q_D_perm (q_mrg_perm [false, true, false, false] _ _) hD
  refine lv_icmp_lt (tgt := 16) hx hb dX1_judgeFoul_12 (by decide) (fun c_12 => ?_) (fun c_12 => absurd (nI_lt hi (by omega)) c_12)
  have hP : va_P D vwCl ([q_bc (ad i) (F i), q_fc fl al u, q_ac al md ar n, q_wc wa len wi ja, q_ia T ja k ju, q_arc (T 1) n ar ad] ++ q_pl ((List.range n).erase i) ad F) H := q_P_perm (q_tlo _ hi rfl) hP
  have hD : va_D A ([q_bc (ad i) (F i), q_fc fl al u, q_ac al md ar n, q_wc wa len wi ja, q_ia T ja k ju, q_arc (T 1) n ar ad] ++ q_pl ((List.range n).erase i) ad F) := q_D_perm (q_tlo _ hi rfl) hD
  refine lv_aload_n hx hb dX1_judgeFoul_16 rfl (lv_at hl 0 rfl) ?_
  refine va_get (D := D) (ci := 2) (v := .ref al) (C := RX1) (T := TX1) (N := 5) hx hb hts iX1 hown hK hP 1 rfl rfl 0 (by decide) (hts (.fieldLink RX1 10 "ToyRegatta$Fleet" "boats" "Ljava/util/ArrayList;") (by decide +kernel)) (fun _ h9 => h9) rfl dX1_judgeFoul_17 ?_
  refine lv_iload_n hx hb dX1_judgeFoul_20 rfl (lv_at hl 1 rfl) ?_
  refine q_callV (As := [.int (nI i)]) (rs := []) hC (c_AL_get l D T al ar n i md ad hi (by omega)) q_no_st q_no_at (cwV 1 hts gX1_judgeFoul_Jx4a65c_get_915e3 rfl rfl rfl (by decide +kernel) ⟨Nat.le_of_ble_eq_true rfl, Nat.le_of_ble_eq_true rfl⟩) (va_recv hK hP (ci := 0) (q0 := 2) rfl rfl) hK hP hD hS hA (q_mask [false, false, true, false, false, true] _) rfl hl.1 rfl (Nat.le_of_ble_eq_true rfl) dX1_judgeFoul_21 ⟨(Nat.le_of_ble_eq_true rfl), (Nat.le_of_ble_eq_true rfl)⟩ (fun v9 C9 H locs hp hP hD hS => ?_)
  obtain ⟨rfl, rfl⟩ := hp
  have hP : va_P D vwCl ([q_bc (ad i) (F i), q_fc fl al u, q_ac al md ar n, q_wc wa len wi ja, q_ia T ja k ju, q_arc (T 1) n ar ad] ++ q_pl ((List.range n).erase i) ad F) H := q_P_perm (q_mrg_perm [false, false, true, false, false, true] _ _) hP
  have hD : va_D A ([q_bc (ad i) (F i), q_fc fl al u, q_ac al md ar n, q_wc wa len wi ja, q_ia T ja k ju, q_arc (T 1) n ar ad] ++ q_pl ((List.range n).erase i) ad F) := q_D_perm (q_mrg_perm [false, false, true, false, false, true] _ _) hD
  refine va_castS hx hb hown (hts (.classLink RX1 24 "ToyRegatta$Boat") (by decide +kernel)) (hK.1 1 _ rfl).2 (va_recv hK hP (ci := 1) (q0 := 0) rfl rfl) dX1_judgeFoul_24 ?_
  refine lv_astore_n (lv' := [(3, .ref (ad i)), (0, .ref fl), (1, .int (nI i)), (2, .ref wa)]) hx hb dX1_judgeFoul_27 rfl hl (by decide) rfl (fun ls hl => ?_)
  refine lv_iconst (v := 0) hx hb dX1_judgeFoul_28 (by decide) ?_
  refine lv_istore (lv' := [(4, .int 0), (3, .ref (ad i)), (0, .ref fl), (1, .int (nI i)), (2, .ref wa)]) hx hb dX1_judgeFoul_29 hl (by decide) rfl (fun ls hl => ?_)
  have L31 : ∀ (f9 j : Nat) (h9a : i < j + f9) (h9b : j ≤ i) (h9c : q_any (dHit F ju k i) j = false) (H : Heap) (locs : List Loc) (ls : Array Slot), va_P D vwCl ([q_bc (ad i) (F i), q_fc fl al u, q_ac al md ar n, q_wc wa len wi ja, q_ia T ja k ju, q_arc (T 1) n ar ad] ++ q_pl ((List.range n).erase i) ad F) H → va_D A ([q_bc (ad i) (F i), q_fc fl al u, q_ac al md ar n, q_wc wa len wi ja, q_ia T ja k ju, q_arc (T 1) n ar ad] ++ q_pl ((List.range n).erase i) ad F) → va_S A s.heap H locs → lv_has ls 5 [(0, .ref fl), (1, .int (nI i)), (2, .ref wa), (3, .ref (ad i)), (4, .int (nI j))] → W p l e rmX1_judgeFoul s m args below meth c H locs 0 0 (q_E below D (q_ty T) (q_is none ([q_fc fl al u, q_ac al md ar n, q_wc wa len wi ja, q_ia T ja k ju] ++ q_tl (T 1) n ar ad (va_up F i (dFoulR F ju k i)))) A args s rmX1_judgeFoul) (F0 m 31 ls []) := by
    intro f9
    induction f9 with
    | zero => intro j h9a h9b; exact absurd h9a (by omega)
    | succ f9 ih =>
      intro j h9a h9b  h9c H locs ls hP hD hS hl
      refine lv_iload hx hb dX1_judgeFoul_31 (lv_at hl 4 rfl) ?_
      refine lv_iload_n hx hb dX1_judgeFoul_33 rfl (lv_at hl 1 rfl) ?_
      refine lv_icmp_ge (tgt := 84) hx hb dX1_judgeFoul_34 (by decide) (fun c_34 => ?_) (fun c_34 => ?_)
      · have h9d := (q_exit c_34 h9b (by omega)).symm
        rw [← h9d] at h9c
        have hP : va_P D vwCl ([q_fc fl al u, q_ac al md ar n, q_wc wa len wi ja, q_ia T ja k ju] ++ q_tl (T 1) n ar ad (va_up F i (dFoulR F ju k i))) H := q_P_perm (q_tls [q_fc fl al u, q_ac al md ar n, q_wc wa len wi ja, q_ia T ja k ju] hi (F := F) (show va_up F i (F i) = _ by rw [dFoulR, if_neg (by rw [h9c]; exact Bool.false_ne_true)])) hP
        have hD : va_D A ([q_fc fl al u, q_ac al md ar n, q_wc wa len wi ja, q_ia T ja k ju] ++ q_tl (T 1) n ar ad (va_up F i (dFoulR F ju k i))) := q_D_perm (q_tls [q_fc fl al u, q_ac al md ar n, q_wc wa len wi ja, q_ia T ja k ju] hi (F := F) (show va_up F i (F i) = _ by rw [dFoulR, if_neg (by rw [h9c]; exact Bool.false_ne_true)])) hD
        exact q_vret hx hb hr hlocks hP hK hD hS (Nat.le_of_ble_eq_true rfl) (Nat.le_of_ble_eq_true rfl) dX1_judgeFoul_84 ⟨rfl, rfl⟩
      · have h9d := q_goon c_34 (by omega)
        have hP : va_P D vwCl ([q_bc (ad j) (F j), q_bc (ad i) (F i), q_fc fl al u, q_ac al md ar n, q_wc wa len wi ja, q_ia T ja k ju, q_arc (T 1) n ar ad] ++ q_pl (((List.range n).erase i).erase j) ad F) H := q_P_perm (q_open2 _ (q_mem_er (by omega) (by omega)) ad rfl) hP
        have hD : va_D A ([q_bc (ad j) (F j), q_bc (ad i) (F i), q_fc fl al u, q_ac al md ar n, q_wc wa len wi ja, q_ia T ja k ju, q_arc (T 1) n ar ad] ++ q_pl (((List.range n).erase i).erase j) ad F) := q_D_perm (q_open2 _ (q_mem_er (by omega) (by omega)) ad rfl) hD
        refine lv_aload_n hx hb dX1_judgeFoul_37 rfl (lv_at hl 3 rfl) ?_
        refine lv_aload_n hx hb dX1_judgeFoul_38 rfl (lv_at hl 0 rfl) ?_
        refine va_get (D := D) (ci := 2) (v := .ref al) (C := RX1) (T := TX1) (N := 5) hx hb hts iX1 hown hK hP 2 rfl rfl 0 (by decide) (hts (.fieldLink RX1 10 "ToyRegatta$Fleet" "boats" "Ljava/util/ArrayList;") (by decide +kernel)) (fun _ h9 => h9) rfl dX1_judgeFoul_39 ?_
        refine lv_iload hx hb dX1_judgeFoul_42 (lv_at hl 4 rfl) ?_
        refine q_callV (As := [.int (nI j)]) (rs := [.ref (ad i)]) hC (c_AL_get l D T al ar n j md ad (by omega) (by omega)) q_no_st q_no_at (cwV 1 hts gX1_judgeFoul_Jx4a65c_get_915e3 rfl rfl rfl (by decide +kernel) ⟨Nat.le_of_ble_eq_true rfl, Nat.le_of_ble_eq_true rfl⟩) (va_recv hK hP (ci := 0) (q0 := 3) rfl rfl) hK hP hD hS hA (q_mask [false, false, false, true, false, false, true] _) rfl hl.1 rfl (Nat.le_of_ble_eq_true rfl) dX1_judgeFoul_44 ⟨(Nat.le_of_ble_eq_true rfl), (Nat.le_of_ble_eq_true rfl)⟩ (fun v9 C9 H locs hp hP hD hS => ?_)
        obtain ⟨rfl, rfl⟩ := hp
        have hP : va_P D vwCl ([q_bc (ad j) (F j), q_bc (ad i) (F i), q_fc fl al u, q_ac al md ar n, q_wc wa len wi ja, q_ia T ja k ju, q_arc (T 1) n ar ad] ++ q_pl (((List.range n).erase i).erase j) ad F) H := q_P_perm (q_mrg_perm [false, false, false, true, false, false, true] _ _) hP
        have hD : va_D A ([q_bc (ad j) (F j), q_bc (ad i) (F i), q_fc fl al u, q_ac al md ar n, q_wc wa len wi ja, q_ia T ja k ju, q_arc (T 1) n ar ad] ++ q_pl (((List.range n).erase i).erase j) ad F) := q_D_perm (q_mrg_perm [false, false, false, true, false, false, true] _ _) hD
        refine va_castS hx hb hown (hts (.classLink RX1 24 "ToyRegatta$Boat") (by decide +kernel)) (hK.1 1 _ rfl).2 (va_recv hK hP (ci := 1) (q0 := 0) rfl rfl) dX1_judgeFoul_47 ?_
        refine q_callV (As := [.ref (ad j)]) (rs := []) hC (c_X0_touches l D T (ad i) (ad j) (F i) (F j)) q_no_st q_no_at (cwV 1 hts gX1_judgeFoul_X0_touches rfl rfl rfl (by decide +kernel) ⟨Nat.le_of_ble_eq_true rfl, Nat.le_of_ble_eq_true rfl⟩) (va_recv hK hP (ci := 1) (q0 := 1) rfl rfl) hK hP hD hS hA ((List.Perm.swap _ _ _).trans (q_mask [true, true] _)) rfl hl.1 rfl (Nat.le_of_ble_eq_true rfl) dX1_judgeFoul_50 ⟨(Nat.le_of_ble_eq_true rfl), (Nat.le_of_ble_eq_true rfl)⟩ (fun v9 C9 H locs hp hP hD hS => ?_)
        obtain ⟨rfl, rfl⟩ := hp
        have hP : va_P D vwCl ([q_bc (ad j) (F j), q_bc (ad i) (F i), q_fc fl al u, q_ac al md ar n, q_wc wa len wi ja, q_ia T ja k ju, q_arc (T 1) n ar ad] ++ q_pl (((List.range n).erase i).erase j) ad F) H := q_P_perm (List.Perm.swap _ _ _) hP
        have hD : va_D A ([q_bc (ad j) (F j), q_bc (ad i) (F i), q_fc fl al u, q_ac al md ar n, q_wc wa len wi ja, q_ia T ja k ju, q_arc (T 1) n ar ad] ++ q_pl (((List.range n).erase i).erase j) ad F) := q_D_perm (List.Perm.swap _ _ _) hD
        refine lv_if_eq (tgt := 78) hx hb dX1_judgeFoul_53 (by decide) (fun c_53 => ?_) (fun c_53 => ?_)
        · refine lv_iinc (v := (nI (j + 1))) (lv' := [(4, .int (nI (j + 1))), (0, .ref fl), (1, .int (nI i)), (2, .ref wa), (3, .ref (ad i))]) hx hb dX1_judgeFoul_78 hl (k := 4) rfl (nI_1 j) (by decide) rfl (fun ls hl => ?_)
          refine lv_goto (tgt := 31) hx hb dX1_judgeFoul_81 (by decide) ?_
          have hP : va_P D vwCl ([q_bc (ad i) (F i), q_fc fl al u, q_ac al md ar n, q_wc wa len wi ja, q_ia T ja k ju, q_arc (T 1) n ar ad] ++ q_pl ((List.range n).erase i) ad F) H := q_P_perm (q_shut [q_bc (ad i) (F i), q_fc fl al u, q_ac al md ar n, q_wc wa len wi ja, q_ia T ja k ju, q_arc (T 1) n ar ad] (List.nodup_range.erase i) (q_mem_er (by omega) (by omega)) ad (q_up_id F j)) hP
          have hD : va_D A ([q_bc (ad i) (F i), q_fc fl al u, q_ac al md ar n, q_wc wa len wi ja, q_ia T ja k ju, q_arc (T 1) n ar ad] ++ q_pl ((List.range n).erase i) ad F) := q_D_perm (q_shut [q_bc (ad i) (F i), q_fc fl al u, q_ac al md ar n, q_wc wa len wi ja, q_ia T ja k ju, q_arc (T 1) n ar ad] (List.nodup_range.erase i) (q_mem_er (by omega) (by omega)) ad (q_up_id F j)) hD
          exact ih (j + 1) (by omega) (by omega)  (by rw [q_any, h9c]; simp [dHit, c_53]) _ _ ls hP hD hS (lv_sub hl [1, 2, 3, 4, 0] rfl)
        · refine lv_aload_n hx hb dX1_judgeFoul_56 rfl (lv_at hl 2 rfl) ?_
          refine lv_aload_n hx hb dX1_judgeFoul_57 rfl (lv_at hl 3 rfl) ?_
          refine va_get (D := D) (ci := 1) (v := .int ((F i) 5)) (C := RX0) (T := TX0) (N := 11) hx hb hts iX0 hown hK hP 1 rfl rfl 5 (by decide) (hts (.fieldLink RX1 95 "ToyRegatta$Boat" "place" "I") (by decide +kernel)) (fun _ h9 => h9) rfl dX1_judgeFoul_58 ?_
          refine q_callV (As := [.int ((F i) 5)]) (rs := []) hC (c_X2_isSeen l D T wa wi ja k len ((F i) 5) ju (by omega)) q_no_st q_no_at (cwV 1 hts gX1_judgeFoul_X2_isSeen rfl rfl rfl (by decide +kernel) ⟨Nat.le_of_ble_eq_true rfl, Nat.le_of_ble_eq_true rfl⟩) (va_recv hK hP (ci := 3) (q0 := 4) rfl rfl) hK hP hD hS hA (q_mask [false, false, false, false, true, true, false] _) rfl hl.1 rfl (Nat.le_of_ble_eq_true rfl) dX1_judgeFoul_61 ⟨(Nat.le_of_ble_eq_true rfl), (Nat.le_of_ble_eq_true rfl)⟩ (fun v9 C9 H locs hp hP hD hS => ?_)
          obtain ⟨rfl, rfl⟩ := hp
          have hP : va_P D vwCl ([q_bc (ad j) (F j), q_bc (ad i) (F i), q_fc fl al u, q_ac al md ar n, q_wc wa len wi ja, q_ia T ja k ju, q_arc (T 1) n ar ad] ++ q_pl (((List.range n).erase i).erase j) ad F) H := q_P_perm (q_mrg_perm [false, false, false, false, true, true, false] _ _) hP
          have hD : va_D A ([q_bc (ad j) (F j), q_bc (ad i) (F i), q_fc fl al u, q_ac al md ar n, q_wc wa len wi ja, q_ia T ja k ju, q_arc (T 1) n ar ad] ++ q_pl (((List.range n).erase i).erase j) ad F) := q_D_perm (q_mrg_perm [false, false, false, false, true, true, false] _ _) hD
          refine lv_if_eq (tgt := 78) hx hb dX1_judgeFoul_64 (by decide) (fun c_64 => ?_) (fun c_64 => ?_)
          · refine lv_iinc (v := (nI (j + 1))) (lv' := [(4, .int (nI (j + 1))), (0, .ref fl), (1, .int (nI i)), (2, .ref wa), (3, .ref (ad i))]) hx hb dX1_judgeFoul_78 hl (k := 4) rfl (nI_1 j) (by decide) rfl (fun ls hl => ?_)
            refine lv_goto (tgt := 31) hx hb dX1_judgeFoul_81 (by decide) ?_
            have hP : va_P D vwCl ([q_bc (ad i) (F i), q_fc fl al u, q_ac al md ar n, q_wc wa len wi ja, q_ia T ja k ju, q_arc (T 1) n ar ad] ++ q_pl ((List.range n).erase i) ad F) H := q_P_perm (q_shut [q_bc (ad i) (F i), q_fc fl al u, q_ac al md ar n, q_wc wa len wi ja, q_ia T ja k ju, q_arc (T 1) n ar ad] (List.nodup_range.erase i) (q_mem_er (by omega) (by omega)) ad (q_up_id F j)) hP
            have hD : va_D A ([q_bc (ad i) (F i), q_fc fl al u, q_ac al md ar n, q_wc wa len wi ja, q_ia T ja k ju, q_arc (T 1) n ar ad] ++ q_pl ((List.range n).erase i) ad F) := q_D_perm (q_shut [q_bc (ad i) (F i), q_fc fl al u, q_ac al md ar n, q_wc wa len wi ja, q_ia T ja k ju, q_arc (T 1) n ar ad] (List.nodup_range.erase i) (q_mem_er (by omega) (by omega)) ad (q_up_id F j)) hD
            exact ih (j + 1) (by omega) (by omega)  (by rw [q_any, h9c]; simp [dHit, c_53, c_64]) _ _ ls hP hD hS (lv_sub hl [1, 2, 3, 4, 0] rfl)
          · refine lv_aload_n hx hb dX1_judgeFoul_67 rfl (lv_at hl 3 rfl) ?_
            refine lv_dup hx hb dX1_judgeFoul_68 rfl ?_
            refine va_get (D := D) (ci := 1) (v := .int ((F i) 7)) (C := RX0) (T := TX0) (N := 11) hx hb hts iX0 hown hK hP 1 rfl rfl 7 (by decide) (hts (.fieldLink RX1 102 "ToyRegatta$Boat" "fouls" "I") (by decide +kernel)) (fun _ h9 => h9) rfl dX1_judgeFoul_69 ?_
            refine lv_iconst (v := 1) hx hb dX1_judgeFoul_72 (by decide) ?_
            refine lv_iadd hx hb dX1_judgeFoul_73 ?_
            refine va_put (D := D) (ci := 1) (v := .int (((F i) 7) + 1)) (ty := .int) (C := RX0) (T := TX0) (N := 11) hx hb hts iX0 tyX0 tyX0_ok nmX0 hown hK hP hD hS 1 rfl rfl 7 (by decide) (hts (.fieldLink RX1 102 "ToyRegatta$Boat" "fouls" "I") (by decide +kernel)) (fun _ h9 => h9) rfl (by decide +kernel) rfl rfl (Nat.le_of_ble_eq_true rfl) dX1_judgeFoul_74 (fun H locs hP hD hS => ?_)
            have hP : va_P D vwCl ([q_bc (ad j) (F j), q_bc (ad i) (upd (F i) 7 (((F i) 7) + 1)), q_fc fl al u, q_ac al md ar n, q_wc wa len wi ja, q_ia T ja k ju, q_arc (T 1) n ar ad] ++ q_pl (((List.range n).erase i).erase j) ad F) H := hP
            have hD : va_D A ([q_bc (ad j) (F j), q_bc (ad i) (upd (F i) 7 (((F i) 7) + 1)), q_fc fl al u, q_ac al md ar n, q_wc wa len wi ja, q_ia T ja k ju, q_arc (T 1) n ar ad] ++ q_pl (((List.range n).erase i).erase j) ad F) := hD
            have hP : va_P D vwCl ([q_bc (ad i) (upd (F i) 7 (((F i) 7) + 1)), q_fc fl al u, q_ac al md ar n, q_wc wa len wi ja, q_ia T ja k ju, q_arc (T 1) n ar ad] ++ q_pl ((List.range n).erase i) ad F) H := q_P_perm (q_shut [q_bc (ad i) (upd (F i) 7 (((F i) 7) + 1)), q_fc fl al u, q_ac al md ar n, q_wc wa len wi ja, q_ia T ja k ju, q_arc (T 1) n ar ad] (List.nodup_range.erase i) (q_mem_er (by omega) (by omega)) ad (q_up_id F j)) hP
            have hD : va_D A ([q_bc (ad i) (upd (F i) 7 (((F i) 7) + 1)), q_fc fl al u, q_ac al md ar n, q_wc wa len wi ja, q_ia T ja k ju, q_arc (T 1) n ar ad] ++ q_pl ((List.range n).erase i) ad F) := q_D_perm (q_shut [q_bc (ad i) (upd (F i) 7 (((F i) 7) + 1)), q_fc fl al u, q_ac al md ar n, q_wc wa len wi ja, q_ia T ja k ju, q_arc (T 1) n ar ad] (List.nodup_range.erase i) (q_mem_er (by omega) (by omega)) ad (q_up_id F j)) hD
            have h9h : dHit F ju k i j = true := by simp [dHit, c_53, c_64]
            have hP : va_P D vwCl ([q_fc fl al u, q_ac al md ar n, q_wc wa len wi ja, q_ia T ja k ju] ++ q_tl (T 1) n ar ad (va_up F i (dFoulR F ju k i))) H := q_P_perm (q_tls [q_fc fl al u, q_ac al md ar n, q_wc wa len wi ja, q_ia T ja k ju] hi (F := F) (show va_up F i (upd (F i) 7 (F i 7 + 1)) = _ by rw [dFoulR, if_pos (q_any_hit h9d h9h)])) hP
            have hD : va_D A ([q_fc fl al u, q_ac al md ar n, q_wc wa len wi ja, q_ia T ja k ju] ++ q_tl (T 1) n ar ad (va_up F i (dFoulR F ju k i))) := q_D_perm (q_tls [q_fc fl al u, q_ac al md ar n, q_wc wa len wi ja, q_ia T ja k ju] hi (F := F) (show va_up F i (upd (F i) 7 (F i 7 + 1)) = _ by rw [dFoulR, if_pos (q_any_hit h9d h9h)])) hD
            exact q_vret hx hb hr hlocks hP hK hD hS (Nat.le_of_ble_eq_true rfl) (Nat.le_of_ble_eq_true rfl) dX1_judgeFoul_77 ⟨rfl, rfl⟩
  exact L31 (i + 1) 0 (by omega) (by omega)  rfl _ _ ls hP hD hS (lv_sub hl [2, 3, 4, 1, 0] rfl)
