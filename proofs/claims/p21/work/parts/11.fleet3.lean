
def dFoul (F : Nat → Nat → Int32) (ju : Nat → Int32) (k : Nat) : Nat → Nat → Int32 := fun i => dFoulR F ju k i
def dInF (F : Nat → Nat → Int32) (len t : Int32) : Nat → Nat → Int32 := fun b => bIn (F b) len t
def dArr (F : Nat → Nat → Int32) (len : Int32) (b : Nat) : Int32 := if bInR (F b) len = 0 then 0 else 1
theorem dFoulR_cols (F : Nat → Nat → Int32) (ju : Nat → Int32) (k i : Nat) : dFoulR F ju k i 10 = F i 10 ∧ dFoulR F ju k i 5 = F i 5 := by
  unfold dFoulR
  split
  · simp [upd]
  · exact ⟨rfl, rfl⟩
theorem dFoul_upto (F : Nat → Nat → Int32) (ju : Nat → Int32) (k i : Nat) : dFoulR (q_upto i (dFoul F ju k) F) ju k i = dFoul F ju k i := by
  have h : ∀ b, (q_upto i (dFoul F ju k) F) b 10 = F b 10 ∧ (q_upto i (dFoul F ju k) F) b 5 = F b 5 := by
    intro b
    by_cases hb : b < i
    · rw [q_upto_lt _ _ hb]; exact dFoulR_cols F ju k b
    · rw [q_upto_ge _ _ (Nat.le_of_not_lt hb)]; exact ⟨rfl, rfl⟩
  have h2 : q_any (dHit (q_upto i (dFoul F ju k) F) ju k i) i = q_any (dHit F ju k i) i := by
    refine q_any_congr fun j _ => ?_
    unfold dHit bTouch
    rw [(h i).1, (h i).2, (h j).1, (h j).2]
  unfold dFoul
  unfold dFoulR
  rw [show q_any (dHit (q_upto i (fun i => if q_any (dHit F ju k i) i = true then upd (F i) 7 (F i 7 + 1) else F i) F) ju k i) i = q_any (dHit F ju k i) i from h2, q_upto_at]
def dRace (F : Nat → Nat → Int32) (w : Int32) (ju : Nat → Int32) (k : Nat) (len t : Int32) : Nat → Nat → Int32 := dInF (dFoul (dSail F w) ju k) len t
def dRaceR (F : Nat → Nat → Int32) (w : Int32) (ju : Nat → Int32) (k : Nat) (len : Int32) (n : Nat) : Int32 := q_sum (dArr (dFoul (dSail F w) ju k) len) n

abbrev rmX1_raceMinute : Room := { frames := 4, cells := 0, slots := 0, locals := 88 }
set_option maxHeartbeats 4000000 in
set_option maxRecDepth 100000 in
theorem c_X1_raceMinute (l : Launch) (D : va_G) (T : Nat → ClassId) (fl al ar n : Nat) (md : Int32) (u : Nat → Int32) (ad : Nat → Nat) (F : Nat → Nat → Int32) (hn : n ≤ 8) (wa wi ja k mk : Nat) (len : Int32) (ju wf : Nat → Int32) (hk : k ≤ 3) (hm : u 0 = nI mk) (hmk : mk < 2 ^ 31) (hz : ∀ b, b < n → 0 < 2 + F b 0 + F b 2 / 2) : q_M l D (q_ty T) yX1_raceMinute wsX1_raceMinute rmX1_raceMinute [.ref fl, .ref wa] ([q_fc fl al u, q_ac al md ar n, q_wc wa len wi ja, q_ia T wi 10 wf, q_ia T ja k ju] ++ q_tl (T 1) n ar ad F) q_no (q_is (some (.int (dRaceR F (wf (mk % 10)) ju k len n))) ([q_fc fl al (upd u 3 (u 3 + 1)), q_ac al md ar n, q_wc wa len wi ja, q_ia T wi 10 wf, q_ia T ja k ju] ++ q_tl (T 1) n ar ad (dRace F (wf (mk % 10)) ju k len (u 3 + 1)))) := by
  refine q_start (cc := cX1_raceMinute) (maxL := 5) (ret := (some .int)) (by decide) rfl (Nat.le_of_ble_eq_true rfl) ?_
  intro p e s m args below meth c A H locs hx hb hr hts hown hlocks hml hnm hP hK hD hS hA hG ls hl
  have hown : s.vm.findClass RX1 = some m.cls := hown
  have hC : CallFix p m c cX1_raceMinute 5 s args wsX1_raceMinute RX1 := ⟨hx, hb, hml, hown, hts⟩
  have iX2 : ∀ w ∈ wsX20, w ∈ wsX1_raceMinute := by decide +kernel
  have iX1 : ∀ w ∈ wsX10, w ∈ wsX1_raceMinute := by decide +kernel
  have hl : lv_has ls 5 [(0, .ref fl), (1, .ref wa)] := hl
  refine lv_aload_n hx hb dX1_raceMinute_0 rfl (lv_at hl 0 rfl) ?_
  refine lv_dup hx hb dX1_raceMinute_1 rfl ?_
  refine va_get (D := D) (ci := 2) (v := .int (u 3)) (C := RX1) (T := TX1) (N := 5) hx hb hts iX1 hown hK hP 0 rfl rfl 4 (by decide) (hts (.fieldLink RX1 41 "ToyRegatta$Fleet" "minutesRaced" "I") (by decide +kernel)) (fun _ h9 => h9) rfl dX1_raceMinute_2 ?_
  refine lv_iconst (v := 1) hx hb dX1_raceMinute_5 (by decide) ?_
  refine lv_iadd hx hb dX1_raceMinute_6 ?_
  refine va_put (D := D) (ci := 2) (v := .int ((u 3) + 1)) (ty := .int) (C := RX1) (T := TX1) (N := 5) hx hb hts iX1 tyX1 tyX1_ok nmX1 hown hK hP hD hS 0 rfl rfl 4 (by decide) (hts (.fieldLink RX1 41 "ToyRegatta$Fleet" "minutesRaced" "I") (by decide +kernel)) (fun _ h9 => h9) rfl (by decide +kernel) rfl rfl (Nat.le_of_ble_eq_true rfl) dX1_raceMinute_7 (fun H locs hP hD hS => ?_)
  have hP : va_P D vwCl ([q_fc fl al (upd u 3 ((u 3) + 1)), q_ac al md ar n, q_wc wa len wi ja, q_ia T wi 10 wf, q_ia T ja k ju] ++ q_tl (T 1) n ar ad F) H := hP
  have hD : va_D A ([q_fc fl al (upd u 3 ((u 3) + 1)), q_ac al md ar n, q_wc wa len wi ja, q_ia T wi 10 wf, q_ia T ja k ju] ++ q_tl (T 1) n ar ad F) := hD
  refine lv_aload_n hx hb dX1_raceMinute_10 rfl (lv_at hl 1 rfl) ?_
  refine lv_aload_n hx hb dX1_raceMinute_11 rfl (lv_at hl 0 rfl) ?_
  refine va_get (D := D) (ci := 2) (v := .int (u 0)) (C := RX1) (T := TX1) (N := 5) hx hb hts iX1 hown hK hP 0 rfl rfl 1 (by decide) (hts (.fieldLink RX1 30 "ToyRegatta$Fleet" "minute" "I") (by decide +kernel)) (fun _ h9 => h9) rfl dX1_raceMinute_12 ?_
  refine W.eq (g2 := F0 m 15 ls [.int (nI mk), .ref wa]) (by rw [hm]) ?_
  refine q_callV (As := [.int (nI mk)]) (rs := []) hC (c_X2_windOf l D T wa wi ja mk len wf hmk) q_no_st q_no_at (cwV 1 hts gX1_raceMinute_X2_windOf rfl rfl rfl (by decide +kernel) ⟨Nat.le_of_ble_eq_true rfl, Nat.le_of_ble_eq_true rfl⟩) (va_recv hK hP (ci := 3) (q0 := 2) rfl rfl) hK hP hD hS hA (q_mask [false, false, true, true, false] _) rfl hl.1 rfl (Nat.le_of_ble_eq_true rfl) dX1_raceMinute_15 ⟨(Nat.le_of_ble_eq_true rfl), (Nat.le_of_ble_eq_true rfl)⟩ (fun v9 C9 H locs hp hP hD hS => ?_)
  obtain ⟨rfl, rfl⟩ := hp
  have hP : va_P D vwCl ([q_fc fl al (upd u 3 ((u 3) + 1)), q_ac al md ar n, q_wc wa len wi ja, q_ia T wi 10 wf, q_ia T ja k ju] ++ q_tl (T 1) n ar ad F) H := q_P_perm (q_mrg_perm [false, false, true, true, false] _ _) hP
  have hD : va_D A ([q_fc fl al (upd u 3 ((u 3) + 1)), q_ac al md ar n, q_wc wa len wi ja, q_ia T wi 10 wf, q_ia T ja k ju] ++ q_tl (T 1) n ar ad F) := q_D_perm (q_mrg_perm [false, false, true, true, false] _ _) hD
  refine lv_istore_n (lv' := [(2, .int (wf (mk % 10))), (0, .ref fl), (1, .ref wa)]) hx hb dX1_raceMinute_18 rfl hl (by decide) rfl (fun ls hl => ?_)
  refine lv_iconst (v := 0) hx hb dX1_raceMinute_19 (by decide) ?_
  refine lv_istore_n (lv' := [(3, .int 0), (2, .int (wf (mk % 10))), (0, .ref fl), (1, .ref wa)]) hx hb dX1_raceMinute_20 rfl hl (by decide) rfl (fun ls hl => ?_)
  have hP : va_P D vwCl ([q_fc fl al (upd u 3 ((u 3) + 1)), q_ac al md ar n, q_wc wa len wi ja, q_ia T wi 10 wf, q_ia T ja k ju] ++ q_tl (T 1) n ar ad (q_upto 0 (dSail F (wf (mk % 10))) F)) H := by rw [q_upto_0]; exact hP
  have hD : va_D A ([q_fc fl al (upd u 3 ((u 3) + 1)), q_ac al md ar n, q_wc wa len wi ja, q_ia T wi 10 wf, q_ia T ja k ju] ++ q_tl (T 1) n ar ad (q_upto 0 (dSail F (wf (mk % 10))) F)) := by rw [q_upto_0]; exact hD
  have L21 : ∀ (f9 i : Nat) (h9a : n < i + f9) (h9b : i ≤ n) (H : Heap) (locs : List Loc) (ls : Array Slot), va_P D vwCl ([q_fc fl al (upd u 3 ((u 3) + 1)), q_ac al md ar n, q_wc wa len wi ja, q_ia T wi 10 wf, q_ia T ja k ju] ++ q_tl (T 1) n ar ad (q_upto i (dSail F (wf (mk % 10))) F)) H → va_D A ([q_fc fl al (upd u 3 ((u 3) + 1)), q_ac al md ar n, q_wc wa len wi ja, q_ia T wi 10 wf, q_ia T ja k ju] ++ q_tl (T 1) n ar ad (q_upto i (dSail F (wf (mk % 10))) F)) → va_S A s.heap H locs → lv_has ls 5 [(0, .ref fl), (1, .ref wa), (2, .int (wf (mk % 10))), (3, .int (nI i))] → W p l e rmX1_raceMinute s m args below meth c H locs 0 0 (q_E below D (q_ty T) (q_is (some (.int (dRaceR F (wf (mk % 10)) ju k len n))) ([q_fc fl al (upd u 3 (u 3 + 1)), q_ac al md ar n, q_wc wa len wi ja, q_ia T wi 10 wf, q_ia T ja k ju] ++ q_tl (T 1) n ar ad (dRace F (wf (mk % 10)) ju k len (u 3 + 1)))) A args s rmX1_raceMinute) (F0 m 21 ls []) := by
    intro f9
    induction f9 with
    | zero => intro i h9a h9b; exact absurd h9a (by omega)
    | succ f9 ih =>
      intro i h9a h9b   H locs ls hP hD hS hl
      refine lv_iload_n hx hb dX1_raceMinute_21 rfl (lv_at hl 3 rfl) ?_
      refine lv_aload_n hx hb dX1_raceMinute_22 rfl (lv_at hl 0 rfl) ?_
      refine va_get (D := D) (ci := 2) (v := .ref al) (C := RX1) (T := TX1) (N := 5) hx hb hts iX1 hown hK hP 0 rfl rfl 0 (by decide) (hts (.fieldLink RX1 10 "ToyRegatta$Fleet" "boats" "Ljava/util/ArrayList;") (by decide +kernel)) (fun _ h9 => h9) rfl dX1_raceMinute_23 ?_
      refine q_callV (As := []) (rs := [.int (nI i)]) hC (c_AL_size l D T al ar n md) q_no_st q_no_at (cwV 0 hts gX1_raceMinute_Jx4a65c_size_8abf5 rfl rfl rfl (by decide +kernel) ⟨Nat.le_of_ble_eq_true rfl, Nat.le_of_ble_eq_true rfl⟩) (va_recv hK hP (ci := 0) (q0 := 1) rfl rfl) hK hP hD hS hA (q_mask [false, true, false, false, false] _) rfl hl.1 rfl (Nat.le_of_ble_eq_true rfl) dX1_raceMinute_26 ⟨(Nat.le_of_ble_eq_true rfl), (Nat.le_of_ble_eq_true rfl)⟩ (fun v9 C9 H locs hp hP hD hS => ?_)
      obtain ⟨rfl, rfl⟩ := hp
      have hP : va_P D vwCl ([q_fc fl al (upd u 3 ((u 3) + 1)), q_ac al md ar n, q_wc wa len wi ja, q_ia T wi 10 wf, q_ia T ja k ju] ++ q_tl (T 1) n ar ad (q_upto i (dSail F (wf (mk % 10))) F)) H := q_P_perm (q_mrg_perm [false, true, false, false, false] _ _) hP
      have hD : va_D A ([q_fc fl al (upd u 3 ((u 3) + 1)), q_ac al md ar n, q_wc wa len wi ja, q_ia T wi 10 wf, q_ia T ja k ju] ++ q_tl (T 1) n ar ad (q_upto i (dSail F (wf (mk % 10))) F)) := q_D_perm (q_mrg_perm [false, true, false, false, false] _ _) hD
      refine lv_icmp_ge (tgt := 53) hx hb dX1_raceMinute_29 (by decide) (fun c_29 => ?_) (fun c_29 => ?_)
      · have h9d := (q_exit c_29 h9b (by omega)).symm
        subst h9d
        rw [q_tl_congr (F := q_upto n (dSail F (wf (mk % 10))) F) (F' := (dSail F (wf (mk % 10)))) (fun b hb => q_upto_lt _ _ hb)] at hP hD
        have hP : va_P D vwCl ([q_fc fl al (upd u 3 ((u 3) + 1)), q_ac al md ar n, q_wc wa len wi ja, q_ia T wi 10 wf, q_ia T ja k ju] ++ q_tl (T 1) n ar ad (dSail F (wf (mk % 10)))) H := hP
        have hD : va_D A ([q_fc fl al (upd u 3 ((u 3) + 1)), q_ac al md ar n, q_wc wa len wi ja, q_ia T wi 10 wf, q_ia T ja k ju] ++ q_tl (T 1) n ar ad (dSail F (wf (mk % 10)))) := hD
        refine lv_iconst (v := 0) hx hb dX1_raceMinute_53 (by decide) ?_
        refine lv_istore_n (lv' := [(3, .int 0), (0, .ref fl), (1, .ref wa), (2, .int (wf (mk % 10)))]) hx hb dX1_raceMinute_54 rfl hl (by decide) rfl (fun ls hl => ?_)
        have hP : va_P D vwCl ([q_fc fl al (upd u 3 ((u 3) + 1)), q_ac al md ar n, q_wc wa len wi ja, q_ia T wi 10 wf, q_ia T ja k ju] ++ q_tl (T 1) n ar ad (q_upto 0 (dFoul (dSail F (wf (mk % 10))) ju k) (dSail F (wf (mk % 10))))) H := by rw [q_upto_0]; exact hP
        have hD : va_D A ([q_fc fl al (upd u 3 ((u 3) + 1)), q_ac al md ar n, q_wc wa len wi ja, q_ia T wi 10 wf, q_ia T ja k ju] ++ q_tl (T 1) n ar ad (q_upto 0 (dFoul (dSail F (wf (mk % 10))) ju k) (dSail F (wf (mk % 10))))) := by rw [q_upto_0]; exact hD
        have L55 : ∀ (f9 i : Nat) (h9a : n < i + f9) (h9b : i ≤ n) (H : Heap) (locs : List Loc) (ls : Array Slot), va_P D vwCl ([q_fc fl al (upd u 3 ((u 3) + 1)), q_ac al md ar n, q_wc wa len wi ja, q_ia T wi 10 wf, q_ia T ja k ju] ++ q_tl (T 1) n ar ad (q_upto i (dFoul (dSail F (wf (mk % 10))) ju k) (dSail F (wf (mk % 10))))) H → va_D A ([q_fc fl al (upd u 3 ((u 3) + 1)), q_ac al md ar n, q_wc wa len wi ja, q_ia T wi 10 wf, q_ia T ja k ju] ++ q_tl (T 1) n ar ad (q_upto i (dFoul (dSail F (wf (mk % 10))) ju k) (dSail F (wf (mk % 10))))) → va_S A s.heap H locs → lv_has ls 5 [(0, .ref fl), (1, .ref wa), (2, .int (wf (mk % 10))), (3, .int (nI i))] → W p l e rmX1_raceMinute s m args below meth c H locs 0 0 (q_E below D (q_ty T) (q_is (some (.int (dRaceR F (wf (mk % 10)) ju k len n))) ([q_fc fl al (upd u 3 (u 3 + 1)), q_ac al md ar n, q_wc wa len wi ja, q_ia T wi 10 wf, q_ia T ja k ju] ++ q_tl (T 1) n ar ad (dRace F (wf (mk % 10)) ju k len (u 3 + 1)))) A args s rmX1_raceMinute) (F0 m 55 ls []) := by
          intro f9
          induction f9 with
          | zero => intro i h9a h9b; exact absurd h9a (by omega)
          | succ f9 ih =>
            intro i h9a h9b   H locs ls hP hD hS hl
            refine lv_iload_n hx hb dX1_raceMinute_55 rfl (lv_at hl 3 rfl) ?_
            refine lv_aload_n hx hb dX1_raceMinute_56 rfl (lv_at hl 0 rfl) ?_
            refine va_get (D := D) (ci := 2) (v := .ref al) (C := RX1) (T := TX1) (N := 5) hx hb hts iX1 hown hK hP 0 rfl rfl 0 (by decide) (hts (.fieldLink RX1 10 "ToyRegatta$Fleet" "boats" "Ljava/util/ArrayList;") (by decide +kernel)) (fun _ h9 => h9) rfl dX1_raceMinute_57 ?_
            refine q_callV (As := []) (rs := [.int (nI i)]) hC (c_AL_size l D T al ar n md) q_no_st q_no_at (cwV 0 hts gX1_raceMinute_Jx4a65c_size_8abf5 rfl rfl rfl (by decide +kernel) ⟨Nat.le_of_ble_eq_true rfl, Nat.le_of_ble_eq_true rfl⟩) (va_recv hK hP (ci := 0) (q0 := 1) rfl rfl) hK hP hD hS hA (q_mask [false, true, false, false, false] _) rfl hl.1 rfl (Nat.le_of_ble_eq_true rfl) dX1_raceMinute_60 ⟨(Nat.le_of_ble_eq_true rfl), (Nat.le_of_ble_eq_true rfl)⟩ (fun v9 C9 H locs hp hP hD hS => ?_)
            obtain ⟨rfl, rfl⟩ := hp
            have hP : va_P D vwCl ([q_fc fl al (upd u 3 ((u 3) + 1)), q_ac al md ar n, q_wc wa len wi ja, q_ia T wi 10 wf, q_ia T ja k ju] ++ q_tl (T 1) n ar ad (q_upto i (dFoul (dSail F (wf (mk % 10))) ju k) (dSail F (wf (mk % 10))))) H := q_P_perm (q_mrg_perm [false, true, false, false, false] _ _) hP
            have hD : va_D A ([q_fc fl al (upd u 3 ((u 3) + 1)), q_ac al md ar n, q_wc wa len wi ja, q_ia T wi 10 wf, q_ia T ja k ju] ++ q_tl (T 1) n ar ad (q_upto i (dFoul (dSail F (wf (mk % 10))) ju k) (dSail F (wf (mk % 10))))) := q_D_perm (q_mrg_perm [false, true, false, false, false] _ _) hD
            refine lv_icmp_ge (tgt := 78) hx hb dX1_raceMinute_63 (by decide) (fun c_63 => ?_) (fun c_63 => ?_)
            · have h9d := (q_exit c_63 h9b (by omega)).symm
              subst h9d
              rw [q_tl_congr (F := q_upto n (dFoul (dSail F (wf (mk % 10))) ju k) (dSail F (wf (mk % 10)))) (F' := (dFoul (dSail F (wf (mk % 10))) ju k)) (fun b hb => q_upto_lt _ _ hb)] at hP hD
              have hP : va_P D vwCl ([q_fc fl al (upd u 3 ((u 3) + 1)), q_ac al md ar n, q_wc wa len wi ja, q_ia T wi 10 wf, q_ia T ja k ju] ++ q_tl (T 1) n ar ad (dFoul (dSail F (wf (mk % 10))) ju k)) H := hP
              have hD : va_D A ([q_fc fl al (upd u 3 ((u 3) + 1)), q_ac al md ar n, q_wc wa len wi ja, q_ia T wi 10 wf, q_ia T ja k ju] ++ q_tl (T 1) n ar ad (dFoul (dSail F (wf (mk % 10))) ju k)) := hD
              refine lv_iconst (v := 0) hx hb dX1_raceMinute_78 (by decide) ?_
              refine lv_istore_n (lv' := [(3, .int 0), (0, .ref fl), (1, .ref wa), (2, .int (wf (mk % 10)))]) hx hb dX1_raceMinute_79 rfl hl (by decide) rfl (fun ls hl => ?_)
              refine lv_iconst (v := 0) hx hb dX1_raceMinute_80 (by decide) ?_
              refine lv_istore (lv' := [(4, .int 0), (3, .int 0), (0, .ref fl), (1, .ref wa), (2, .int (wf (mk % 10)))]) hx hb dX1_raceMinute_81 hl (by decide) rfl (fun ls hl => ?_)
              have hP : va_P D vwCl ([q_fc fl al (upd u 3 ((u 3) + 1)), q_ac al md ar n, q_wc wa len wi ja, q_ia T wi 10 wf, q_ia T ja k ju] ++ q_tl (T 1) n ar ad (q_upto 0 (dInF (dFoul (dSail F (wf (mk % 10))) ju k) len (u 3 + 1)) (dFoul (dSail F (wf (mk % 10))) ju k))) H := by rw [q_upto_0]; exact hP
              have hD : va_D A ([q_fc fl al (upd u 3 ((u 3) + 1)), q_ac al md ar n, q_wc wa len wi ja, q_ia T wi 10 wf, q_ia T ja k ju] ++ q_tl (T 1) n ar ad (q_upto 0 (dInF (dFoul (dSail F (wf (mk % 10))) ju k) len (u 3 + 1)) (dFoul (dSail F (wf (mk % 10))) ju k))) := by rw [q_upto_0]; exact hD
              have L83 : ∀ (f9 i : Nat) (h9a : n < i + f9) (h9b : i ≤ n) (H : Heap) (locs : List Loc) (ls : Array Slot), va_P D vwCl ([q_fc fl al (upd u 3 ((u 3) + 1)), q_ac al md ar n, q_wc wa len wi ja, q_ia T wi 10 wf, q_ia T ja k ju] ++ q_tl (T 1) n ar ad (q_upto i (dInF (dFoul (dSail F (wf (mk % 10))) ju k) len (u 3 + 1)) (dFoul (dSail F (wf (mk % 10))) ju k))) H → va_D A ([q_fc fl al (upd u 3 ((u 3) + 1)), q_ac al md ar n, q_wc wa len wi ja, q_ia T wi 10 wf, q_ia T ja k ju] ++ q_tl (T 1) n ar ad (q_upto i (dInF (dFoul (dSail F (wf (mk % 10))) ju k) len (u 3 + 1)) (dFoul (dSail F (wf (mk % 10))) ju k))) → va_S A s.heap H locs → lv_has ls 5 [(0, .ref fl), (1, .ref wa), (2, .int (wf (mk % 10))), (3, .int (q_sum (dArr (dFoul (dSail F (wf (mk % 10))) ju k) len) i)), (4, .int (nI i))] → W p l e rmX1_raceMinute s m args below meth c H locs 0 0 (q_E below D (q_ty T) (q_is (some (.int (dRaceR F (wf (mk % 10)) ju k len n))) ([q_fc fl al (upd u 3 (u 3 + 1)), q_ac al md ar n, q_wc wa len wi ja, q_ia T wi 10 wf, q_ia T ja k ju] ++ q_tl (T 1) n ar ad (dRace F (wf (mk % 10)) ju k len (u 3 + 1)))) A args s rmX1_raceMinute) (F0 m 83 ls []) := by
                intro f9
                induction f9 with
                | zero => intro i h9a h9b; exact absurd h9a (by omega)
                | succ f9 ih =>
                  intro i h9a h9b   H locs ls hP hD hS hl
                  refine lv_iload hx hb dX1_raceMinute_83 (lv_at hl 4 rfl) ?_
                  refine lv_aload_n hx hb dX1_raceMinute_85 rfl (lv_at hl 0 rfl) ?_
                  refine va_get (D := D) (ci := 2) (v := .ref al) (C := RX1) (T := TX1) (N := 5) hx hb hts iX1 hown hK hP 0 rfl rfl 0 (by decide) (hts (.fieldLink RX1 10 "ToyRegatta$Fleet" "boats" "Ljava/util/ArrayList;") (by decide +kernel)) (fun _ h9 => h9) rfl dX1_raceMinute_86 ?_
                  refine q_callV (As := []) (rs := [.int (nI i)]) hC (c_AL_size l D T al ar n md) q_no_st q_no_at (cwV 0 hts gX1_raceMinute_Jx4a65c_size_8abf5 rfl rfl rfl (by decide +kernel) ⟨Nat.le_of_ble_eq_true rfl, Nat.le_of_ble_eq_true rfl⟩) (va_recv hK hP (ci := 0) (q0 := 1) rfl rfl) hK hP hD hS hA (q_mask [false, true, false, false, false] _) rfl hl.1 rfl (Nat.le_of_ble_eq_true rfl) dX1_raceMinute_89 ⟨(Nat.le_of_ble_eq_true rfl), (Nat.le_of_ble_eq_true rfl)⟩ (fun v9 C9 H locs hp hP hD hS => ?_)
                  obtain ⟨rfl, rfl⟩ := hp
                  have hP : va_P D vwCl ([q_fc fl al (upd u 3 ((u 3) + 1)), q_ac al md ar n, q_wc wa len wi ja, q_ia T wi 10 wf, q_ia T ja k ju] ++ q_tl (T 1) n ar ad (q_upto i (dInF (dFoul (dSail F (wf (mk % 10))) ju k) len (u 3 + 1)) (dFoul (dSail F (wf (mk % 10))) ju k))) H := q_P_perm (q_mrg_perm [false, true, false, false, false] _ _) hP
                  have hD : va_D A ([q_fc fl al (upd u 3 ((u 3) + 1)), q_ac al md ar n, q_wc wa len wi ja, q_ia T wi 10 wf, q_ia T ja k ju] ++ q_tl (T 1) n ar ad (q_upto i (dInF (dFoul (dSail F (wf (mk % 10))) ju k) len (u 3 + 1)) (dFoul (dSail F (wf (mk % 10))) ju k))) := q_D_perm (q_mrg_perm [false, true, false, false, false] _ _) hD
                  refine lv_icmp_ge (tgt := 130) hx hb dX1_raceMinute_92 (by decide) (fun c_92 => ?_) (fun c_92 => ?_)
                  · have h9d := (q_exit c_92 h9b (by omega)).symm
                    subst h9d
                    rw [q_tl_congr (F := q_upto n (dInF (dFoul (dSail F (wf (mk % 10))) ju k) len (u 3 + 1)) (dFoul (dSail F (wf (mk % 10))) ju k)) (F' := (dInF (dFoul (dSail F (wf (mk % 10))) ju k) len (u 3 + 1))) (fun b hb => q_upto_lt _ _ hb)] at hP hD
                    have hP : va_P D vwCl ([q_fc fl al (upd u 3 ((u 3) + 1)), q_ac al md ar n, q_wc wa len wi ja, q_ia T wi 10 wf, q_ia T ja k ju] ++ q_tl (T 1) n ar ad (dInF (dFoul (dSail F (wf (mk % 10))) ju k) len (u 3 + 1))) H := hP
                    have hD : va_D A ([q_fc fl al (upd u 3 ((u 3) + 1)), q_ac al md ar n, q_wc wa len wi ja, q_ia T wi 10 wf, q_ia T ja k ju] ++ q_tl (T 1) n ar ad (dInF (dFoul (dSail F (wf (mk % 10))) ju k) len (u 3 + 1))) := hD
                    refine lv_iload_n hx hb dX1_raceMinute_130 rfl (lv_at hl 3 rfl) ?_
                    exact q_iret hx hb hr hlocks hP hK hD hS (Nat.le_of_ble_eq_true rfl) (Nat.le_of_ble_eq_true rfl) dX1_raceMinute_131 ⟨rfl, rfl⟩
                  · have h9d := q_goon c_92 (by omega)
                    have hP : va_P D vwCl ([q_bc (ad i) ((dFoul (dSail F (wf (mk % 10))) ju k) i), q_fc fl al (upd u 3 ((u 3) + 1)), q_ac al md ar n, q_wc wa len wi ja, q_ia T wi 10 wf, q_ia T ja k ju, q_arc (T 1) n ar ad] ++ q_pl ((List.range n).erase i) ad (q_upto i (dInF (dFoul (dSail F (wf (mk % 10))) ju k) len (u 3 + 1)) (dFoul (dSail F (wf (mk % 10))) ju k))) H := q_P_perm (q_tlo _ h9d (q_upto_at i (dInF (dFoul (dSail F (wf (mk % 10))) ju k) len (u 3 + 1)) (dFoul (dSail F (wf (mk % 10))) ju k))) hP
                    have hD : va_D A ([q_bc (ad i) ((dFoul (dSail F (wf (mk % 10))) ju k) i), q_fc fl al (upd u 3 ((u 3) + 1)), q_ac al md ar n, q_wc wa len wi ja, q_ia T wi 10 wf, q_ia T ja k ju, q_arc (T 1) n ar ad] ++ q_pl ((List.range n).erase i) ad (q_upto i (dInF (dFoul (dSail F (wf (mk % 10))) ju k) len (u 3 + 1)) (dFoul (dSail F (wf (mk % 10))) ju k))) := q_D_perm (q_tlo _ h9d (q_upto_at i (dInF (dFoul (dSail F (wf (mk % 10))) ju k) len (u 3 + 1)) (dFoul (dSail F (wf (mk % 10))) ju k))) hD
                    refine lv_aload_n hx hb dX1_raceMinute_95 rfl (lv_at hl 0 rfl) ?_
                    refine va_get (D := D) (ci := 2) (v := .ref al) (C := RX1) (T := TX1) (N := 5) hx hb hts iX1 hown hK hP 1 rfl rfl 0 (by decide) (hts (.fieldLink RX1 10 "ToyRegatta$Fleet" "boats" "Ljava/util/ArrayList;") (by decide +kernel)) (fun _ h9 => h9) rfl dX1_raceMinute_96 ?_
                    refine lv_iload hx hb dX1_raceMinute_99 (lv_at hl 4 rfl) ?_
                    refine q_callV (As := [.int (nI i)]) (rs := []) hC (c_AL_get l D T al ar n i md ad h9d (by omega)) q_no_st q_no_at (cwV 1 hts gX1_raceMinute_Jx4a65c_get_915e3 rfl rfl rfl (by decide +kernel) ⟨Nat.le_of_ble_eq_true rfl, Nat.le_of_ble_eq_true rfl⟩) (va_recv hK hP (ci := 0) (q0 := 2) rfl rfl) hK hP hD hS hA (q_mask [false, false, true, false, false, false, true] _) rfl hl.1 rfl (Nat.le_of_ble_eq_true rfl) dX1_raceMinute_101 ⟨(Nat.le_of_ble_eq_true rfl), (Nat.le_of_ble_eq_true rfl)⟩ (fun v9 C9 H locs hp hP hD hS => ?_)
                    obtain ⟨rfl, rfl⟩ := hp
                    have hP : va_P D vwCl ([q_bc (ad i) ((dFoul (dSail F (wf (mk % 10))) ju k) i), q_fc fl al (upd u 3 ((u 3) + 1)), q_ac al md ar n, q_wc wa len wi ja, q_ia T wi 10 wf, q_ia T ja k ju, q_arc (T 1) n ar ad] ++ q_pl ((List.range n).erase i) ad (q_upto i (dInF (dFoul (dSail F (wf (mk % 10))) ju k) len (u 3 + 1)) (dFoul (dSail F (wf (mk % 10))) ju k))) H := q_P_perm (q_mrg_perm [false, false, true, false, false, false, true] _ _) hP
                    have hD : va_D A ([q_bc (ad i) ((dFoul (dSail F (wf (mk % 10))) ju k) i), q_fc fl al (upd u 3 ((u 3) + 1)), q_ac al md ar n, q_wc wa len wi ja, q_ia T wi 10 wf, q_ia T ja k ju, q_arc (T 1) n ar ad] ++ q_pl ((List.range n).erase i) ad (q_upto i (dInF (dFoul (dSail F (wf (mk % 10))) ju k) len (u 3 + 1)) (dFoul (dSail F (wf (mk % 10))) ju k))) := q_D_perm (q_mrg_perm [false, false, true, false, false, false, true] _ _) hD
                    refine va_castS hx hb hown (hts (.classLink RX1 24 "ToyRegatta$Boat") (by decide +kernel)) (hK.1 1 _ rfl).2 (va_recv hK hP (ci := 1) (q0 := 0) rfl rfl) dX1_raceMinute_104 ?_
                    refine lv_aload_n hx hb dX1_raceMinute_107 rfl (lv_at hl 1 rfl) ?_
                    refine va_get (D := D) (ci := 3) (v := .int len) (C := RX2) (T := TX2) (N := 3) hx hb hts iX2 hown hK hP 3 rfl rfl 0 (by decide) (hts (.fieldLink RX1 84 "ToyRegatta$Waters" "length" "I") (by decide +kernel)) (fun _ h9 => h9) rfl dX1_raceMinute_108 ?_
                    refine lv_aload_n hx hb dX1_raceMinute_111 rfl (lv_at hl 0 rfl) ?_
                    refine va_get (D := D) (ci := 2) (v := .int ((u 3) + 1)) (C := RX1) (T := TX1) (N := 5) hx hb hts iX1 hown hK hP 1 rfl rfl 4 (by decide) (hts (.fieldLink RX1 41 "ToyRegatta$Fleet" "minutesRaced" "I") (by decide +kernel)) (fun _ h9 => h9) rfl dX1_raceMinute_112 ?_
                    refine q_callV (As := [.int len, .int ((u 3) + 1)]) (rs := []) hC (c_X0_comeIn l D T (ad i) ((dFoul (dSail F (wf (mk % 10))) ju k) i) len ((u 3) + 1)) q_no_st q_no_at (cwV 2 hts gX1_raceMinute_X0_comeIn rfl rfl rfl (by decide +kernel) ⟨Nat.le_of_ble_eq_true rfl, Nat.le_of_ble_eq_true rfl⟩) (va_recv hK hP (ci := 1) (q0 := 0) rfl rfl) hK hP hD hS hA (q_mask [true, false, false, false, false, false, false] _) rfl hl.1 rfl (Nat.le_of_ble_eq_true rfl) dX1_raceMinute_115 ⟨(Nat.le_of_ble_eq_true rfl), (Nat.le_of_ble_eq_true rfl)⟩ (fun v9 C9 H locs hp hP hD hS => ?_)
                    obtain ⟨rfl, rfl⟩ := hp
                    have hP : va_P D vwCl ([q_bc (ad i) (bIn ((dFoul (dSail F (wf (mk % 10))) ju k) i) len ((u 3) + 1)), q_fc fl al (upd u 3 ((u 3) + 1)), q_ac al md ar n, q_wc wa len wi ja, q_ia T wi 10 wf, q_ia T ja k ju, q_arc (T 1) n ar ad] ++ q_pl ((List.range n).erase i) ad (q_upto i (dInF (dFoul (dSail F (wf (mk % 10))) ju k) len (u 3 + 1)) (dFoul (dSail F (wf (mk % 10))) ju k))) H := q_P_perm (q_mrg_perm [true, false, false, false, false, false, false] _ _) hP
                    have hD : va_D A ([q_bc (ad i) (bIn ((dFoul (dSail F (wf (mk % 10))) ju k) i) len ((u 3) + 1)), q_fc fl al (upd u 3 ((u 3) + 1)), q_ac al md ar n, q_wc wa len wi ja, q_ia T wi 10 wf, q_ia T ja k ju, q_arc (T 1) n ar ad] ++ q_pl ((List.range n).erase i) ad (q_upto i (dInF (dFoul (dSail F (wf (mk % 10))) ju k) len (u 3 + 1)) (dFoul (dSail F (wf (mk % 10))) ju k))) := q_D_perm (q_mrg_perm [true, false, false, false, false, false, false] _ _) hD
                    refine lv_if_eq (tgt := 124) hx hb dX1_raceMinute_118 (by decide) (fun c_118 => ?_) (fun c_118 => ?_)
                    · refine lv_iinc (v := (nI (i + 1))) (lv' := [(4, .int (nI (i + 1))), (0, .ref fl), (1, .ref wa), (2, .int (wf (mk % 10))), (3, .int (q_sum (dArr (dFoul (dSail F (wf (mk % 10))) ju k) len) i))]) hx hb dX1_raceMinute_124 hl (k := 4) rfl (nI_1 i) (by decide) rfl (fun ls hl => ?_)
                      refine lv_goto (tgt := 83) hx hb dX1_raceMinute_127 (by decide) ?_
                      have hP : va_P D vwCl ([q_fc fl al (upd u 3 ((u 3) + 1)), q_ac al md ar n, q_wc wa len wi ja, q_ia T wi 10 wf, q_ia T ja k ju] ++ q_tl (T 1) n ar ad (q_upto (i + 1) (dInF (dFoul (dSail F (wf (mk % 10))) ju k) len (u 3 + 1)) (dFoul (dSail F (wf (mk % 10))) ju k))) H := q_P_perm (q_tls [q_fc fl al (upd u 3 ((u 3) + 1)), q_ac al md ar n, q_wc wa len wi ja, q_ia T wi 10 wf, q_ia T ja k ju] h9d (F := (q_upto i (dInF (dFoul (dSail F (wf (mk % 10))) ju k) len (u 3 + 1)) (dFoul (dSail F (wf (mk % 10))) ju k))) (q_upto_s i (dInF (dFoul (dSail F (wf (mk % 10))) ju k) len (u 3 + 1)) (dFoul (dSail F (wf (mk % 10))) ju k))) hP
                      have hD : va_D A ([q_fc fl al (upd u 3 ((u 3) + 1)), q_ac al md ar n, q_wc wa len wi ja, q_ia T wi 10 wf, q_ia T ja k ju] ++ q_tl (T 1) n ar ad (q_upto (i + 1) (dInF (dFoul (dSail F (wf (mk % 10))) ju k) len (u 3 + 1)) (dFoul (dSail F (wf (mk % 10))) ju k))) := q_D_perm (q_tls [q_fc fl al (upd u 3 ((u 3) + 1)), q_ac al md ar n, q_wc wa len wi ja, q_ia T wi 10 wf, q_ia T ja k ju] h9d (F := (q_upto i (dInF (dFoul (dSail F (wf (mk % 10))) ju k) len (u 3 + 1)) (dFoul (dSail F (wf (mk % 10))) ju k))) (q_upto_s i (dInF (dFoul (dSail F (wf (mk % 10))) ju k) len (u 3 + 1)) (dFoul (dSail F (wf (mk % 10))) ju k))) hD
                      have e9 : q_sum (dArr (dFoul (dSail F (wf (mk % 10))) ju k) len) (i + 1) = (q_sum (dArr (dFoul (dSail F (wf (mk % 10))) ju k) len) i) := by simp only [q_sum, dArr, if_pos c_118, Int32.add_zero]
                      rw [← e9] at hl
                      exact ih (i + 1) (by omega) (by omega)   _ _ ls hP hD hS (lv_sub hl [1, 2, 3, 4, 0] rfl)
                    · refine lv_iinc (v := ((q_sum (dArr (dFoul (dSail F (wf (mk % 10))) ju k) len) i) + 1)) (lv' := [(3, .int ((q_sum (dArr (dFoul (dSail F (wf (mk % 10))) ju k) len) i) + 1)), (0, .ref fl), (1, .ref wa), (2, .int (wf (mk % 10))), (4, .int (nI i))]) hx hb dX1_raceMinute_121 hl (k := 3) rfl rfl (by decide) rfl (fun ls hl => ?_)
                      refine lv_iinc (v := (nI (i + 1))) (lv' := [(4, .int (nI (i + 1))), (3, .int ((q_sum (dArr (dFoul (dSail F (wf (mk % 10))) ju k) len) i) + 1)), (0, .ref fl), (1, .ref wa), (2, .int (wf (mk % 10)))]) hx hb dX1_raceMinute_124 hl (k := 4) rfl (nI_1 i) (by decide) rfl (fun ls hl => ?_)
                      refine lv_goto (tgt := 83) hx hb dX1_raceMinute_127 (by decide) ?_
                      have hP : va_P D vwCl ([q_fc fl al (upd u 3 ((u 3) + 1)), q_ac al md ar n, q_wc wa len wi ja, q_ia T wi 10 wf, q_ia T ja k ju] ++ q_tl (T 1) n ar ad (q_upto (i + 1) (dInF (dFoul (dSail F (wf (mk % 10))) ju k) len (u 3 + 1)) (dFoul (dSail F (wf (mk % 10))) ju k))) H := q_P_perm (q_tls [q_fc fl al (upd u 3 ((u 3) + 1)), q_ac al md ar n, q_wc wa len wi ja, q_ia T wi 10 wf, q_ia T ja k ju] h9d (F := (q_upto i (dInF (dFoul (dSail F (wf (mk % 10))) ju k) len (u 3 + 1)) (dFoul (dSail F (wf (mk % 10))) ju k))) (q_upto_s i (dInF (dFoul (dSail F (wf (mk % 10))) ju k) len (u 3 + 1)) (dFoul (dSail F (wf (mk % 10))) ju k))) hP
                      have hD : va_D A ([q_fc fl al (upd u 3 ((u 3) + 1)), q_ac al md ar n, q_wc wa len wi ja, q_ia T wi 10 wf, q_ia T ja k ju] ++ q_tl (T 1) n ar ad (q_upto (i + 1) (dInF (dFoul (dSail F (wf (mk % 10))) ju k) len (u 3 + 1)) (dFoul (dSail F (wf (mk % 10))) ju k))) := q_D_perm (q_tls [q_fc fl al (upd u 3 ((u 3) + 1)), q_ac al md ar n, q_wc wa len wi ja, q_ia T wi 10 wf, q_ia T ja k ju] h9d (F := (q_upto i (dInF (dFoul (dSail F (wf (mk % 10))) ju k) len (u 3 + 1)) (dFoul (dSail F (wf (mk % 10))) ju k))) (q_upto_s i (dInF (dFoul (dSail F (wf (mk % 10))) ju k) len (u 3 + 1)) (dFoul (dSail F (wf (mk % 10))) ju k))) hD
                      have e9 : q_sum (dArr (dFoul (dSail F (wf (mk % 10))) ju k) len) (i + 1) = ((q_sum (dArr (dFoul (dSail F (wf (mk % 10))) ju k) len) i) + 1) := by simp only [q_sum, dArr, if_neg c_118, Int32.add_zero]
                      rw [← e9] at hl
                      exact ih (i + 1) (by omega) (by omega)   _ _ ls hP hD hS (lv_sub hl [2, 3, 4, 1, 0] rfl)
              exact L83 (n + 1) 0 (by omega) (by omega)   _ _ ls hP hD hS (lv_sub hl [2, 3, 4, 1, 0] rfl)
            · have h9d := q_goon c_63 (by omega)
              refine lv_aload_n hx hb dX1_raceMinute_66 rfl (lv_at hl 0 rfl) ?_
              refine lv_iload_n hx hb dX1_raceMinute_67 rfl (lv_at hl 3 rfl) ?_
              refine lv_aload_n hx hb dX1_raceMinute_68 rfl (lv_at hl 1 rfl) ?_
              refine q_callV (As := [.int (nI i), .ref wa]) (rs := []) hC (c_X1_judgeFoul l D T fl al ar n md (upd u 3 ((u 3) + 1)) ad (q_upto i (dFoul (dSail F (wf (mk % 10))) ju k) (dSail F (wf (mk % 10)))) hn wa wi ja k len ju hk i h9d) q_no_st q_no_at (cwV 2 hts gX1_raceMinute_X1_judgeFoul rfl rfl rfl (by decide +kernel) ⟨Nat.le_of_ble_eq_true rfl, Nat.le_of_ble_eq_true rfl⟩) (va_recv hK hP (ci := 2) (q0 := 0) rfl rfl) hK hP hD hS hA (q_tmask [true, true, true, false, true] [q_fc fl al (upd u 3 ((u 3) + 1)), q_ac al md ar n, q_wc wa len wi ja, q_ia T wi 10 wf, q_ia T ja k ju] (q_tl (T 1) n ar ad (q_upto i (dFoul (dSail F (wf (mk % 10))) ju k) (dSail F (wf (mk % 10)))))) rfl hl.1 rfl (Nat.le_of_ble_eq_true rfl) dX1_raceMinute_69 ⟨(Nat.le_of_ble_eq_true rfl), (Nat.le_of_ble_eq_true rfl)⟩ (fun v9 C9 H locs hp hP hD hS => ?_)
              obtain ⟨rfl, rfl⟩ := hp
              have hP : va_P D vwCl ([q_fc fl al (upd u 3 ((u 3) + 1)), q_ac al md ar n, q_wc wa len wi ja, q_ia T wi 10 wf, q_ia T ja k ju] ++ q_tl (T 1) n ar ad (va_up (q_upto i (dFoul (dSail F (wf (mk % 10))) ju k) (dSail F (wf (mk % 10)))) i (dFoulR (q_upto i (dFoul (dSail F (wf (mk % 10))) ju k) (dSail F (wf (mk % 10)))) ju k i))) H := q_P_perm (q_tback [true, true, true, false, true] [q_fc fl al (upd u 3 ((u 3) + 1)), q_ac al md ar n, q_wc wa len wi ja, q_ia T ja k ju] [q_ia T wi 10 wf] (q_tl (T 1) n ar ad (va_up (q_upto i (dFoul (dSail F (wf (mk % 10))) ju k) (dSail F (wf (mk % 10)))) i (dFoulR (q_upto i (dFoul (dSail F (wf (mk % 10))) ju k) (dSail F (wf (mk % 10)))) ju k i)))) hP
              have hD : va_D A ([q_fc fl al (upd u 3 ((u 3) + 1)), q_ac al md ar n, q_wc wa len wi ja, q_ia T wi 10 wf, q_ia T ja k ju] ++ q_tl (T 1) n ar ad (va_up (q_upto i (dFoul (dSail F (wf (mk % 10))) ju k) (dSail F (wf (mk % 10)))) i (dFoulR (q_upto i (dFoul (dSail F (wf (mk % 10))) ju k) (dSail F (wf (mk % 10)))) ju k i))) := q_D_perm (q_tback [true, true, true, false, true] [q_fc fl al (upd u 3 ((u 3) + 1)), q_ac al md ar n, q_wc wa len wi ja, q_ia T ja k ju] [q_ia T wi 10 wf] (q_tl (T 1) n ar ad (va_up (q_upto i (dFoul (dSail F (wf (mk % 10))) ju k) (dSail F (wf (mk % 10)))) i (dFoulR (q_upto i (dFoul (dSail F (wf (mk % 10))) ju k) (dSail F (wf (mk % 10)))) ju k i)))) hD
              rw [dFoul_upto, show va_up (q_upto i (dFoul (dSail F (wf (mk % 10))) ju k) (dSail F (wf (mk % 10)))) i ((dFoul (dSail F (wf (mk % 10))) ju k) i) = (q_upto (i + 1) (dFoul (dSail F (wf (mk % 10))) ju k) (dSail F (wf (mk % 10)))) from q_upto_s i (dFoul (dSail F (wf (mk % 10))) ju k) (dSail F (wf (mk % 10)))] at hP hD
              refine lv_iinc (v := (nI (i + 1))) (lv' := [(3, .int (nI (i + 1))), (0, .ref fl), (1, .ref wa), (2, .int (wf (mk % 10)))]) hx hb dX1_raceMinute_72 hl (k := 3) rfl (nI_1 i) (by decide) rfl (fun ls hl => ?_)
              refine lv_goto (tgt := 55) hx hb dX1_raceMinute_75 (by decide) ?_
              exact ih (i + 1) (by omega) (by omega)   _ _ ls hP hD hS (lv_sub hl [1, 2, 3, 0] rfl)
        exact L55 (n + 1) 0 (by omega) (by omega)   _ _ ls hP hD hS (lv_sub hl [1, 2, 3, 0] rfl)
      · have h9d := q_goon c_29 (by omega)
        have hP : va_P D vwCl ([q_bc (ad i) (F i), q_fc fl al (upd u 3 ((u 3) + 1)), q_ac al md ar n, q_wc wa len wi ja, q_ia T wi 10 wf, q_ia T ja k ju, q_arc (T 1) n ar ad] ++ q_pl ((List.range n).erase i) ad (q_upto i (dSail F (wf (mk % 10))) F)) H := q_P_perm (q_tlo _ h9d (q_upto_at i (dSail F (wf (mk % 10))) F)) hP
        have hD : va_D A ([q_bc (ad i) (F i), q_fc fl al (upd u 3 ((u 3) + 1)), q_ac al md ar n, q_wc wa len wi ja, q_ia T wi 10 wf, q_ia T ja k ju, q_arc (T 1) n ar ad] ++ q_pl ((List.range n).erase i) ad (q_upto i (dSail F (wf (mk % 10))) F)) := q_D_perm (q_tlo _ h9d (q_upto_at i (dSail F (wf (mk % 10))) F)) hD
        refine lv_aload_n hx hb dX1_raceMinute_32 rfl (lv_at hl 0 rfl) ?_
        refine va_get (D := D) (ci := 2) (v := .ref al) (C := RX1) (T := TX1) (N := 5) hx hb hts iX1 hown hK hP 1 rfl rfl 0 (by decide) (hts (.fieldLink RX1 10 "ToyRegatta$Fleet" "boats" "Ljava/util/ArrayList;") (by decide +kernel)) (fun _ h9 => h9) rfl dX1_raceMinute_33 ?_
        refine lv_iload_n hx hb dX1_raceMinute_36 rfl (lv_at hl 3 rfl) ?_
        refine q_callV (As := [.int (nI i)]) (rs := []) hC (c_AL_get l D T al ar n i md ad h9d (by omega)) q_no_st q_no_at (cwV 1 hts gX1_raceMinute_Jx4a65c_get_915e3 rfl rfl rfl (by decide +kernel) ⟨Nat.le_of_ble_eq_true rfl, Nat.le_of_ble_eq_true rfl⟩) (va_recv hK hP (ci := 0) (q0 := 2) rfl rfl) hK hP hD hS hA (q_mask [false, false, true, false, false, false, true] _) rfl hl.1 rfl (Nat.le_of_ble_eq_true rfl) dX1_raceMinute_37 ⟨(Nat.le_of_ble_eq_true rfl), (Nat.le_of_ble_eq_true rfl)⟩ (fun v9 C9 H locs hp hP hD hS => ?_)
        obtain ⟨rfl, rfl⟩ := hp
        have hP : va_P D vwCl ([q_bc (ad i) (F i), q_fc fl al (upd u 3 ((u 3) + 1)), q_ac al md ar n, q_wc wa len wi ja, q_ia T wi 10 wf, q_ia T ja k ju, q_arc (T 1) n ar ad] ++ q_pl ((List.range n).erase i) ad (q_upto i (dSail F (wf (mk % 10))) F)) H := q_P_perm (q_mrg_perm [false, false, true, false, false, false, true] _ _) hP
        have hD : va_D A ([q_bc (ad i) (F i), q_fc fl al (upd u 3 ((u 3) + 1)), q_ac al md ar n, q_wc wa len wi ja, q_ia T wi 10 wf, q_ia T ja k ju, q_arc (T 1) n ar ad] ++ q_pl ((List.range n).erase i) ad (q_upto i (dSail F (wf (mk % 10))) F)) := q_D_perm (q_mrg_perm [false, false, true, false, false, false, true] _ _) hD
        refine va_castS hx hb hown (hts (.classLink RX1 24 "ToyRegatta$Boat") (by decide +kernel)) (hK.1 1 _ rfl).2 (va_recv hK hP (ci := 1) (q0 := 0) rfl rfl) dX1_raceMinute_40 ?_
        refine lv_iload_n hx hb dX1_raceMinute_43 rfl (lv_at hl 2 rfl) ?_
        refine q_callV (As := [.int (wf (mk % 10))]) (rs := []) hC (c_X0_sail l D T (ad i) (F i) (wf (mk % 10)) (hz i h9d)) q_no_st q_no_at (cwV 1 hts gX1_raceMinute_X0_sail rfl rfl rfl (by decide +kernel) ⟨Nat.le_of_ble_eq_true rfl, Nat.le_of_ble_eq_true rfl⟩) (va_recv hK hP (ci := 1) (q0 := 0) rfl rfl) hK hP hD hS hA (q_mask [true, false, false, false, false, false, false] _) rfl hl.1 rfl (Nat.le_of_ble_eq_true rfl) dX1_raceMinute_44 ⟨(Nat.le_of_ble_eq_true rfl), (Nat.le_of_ble_eq_true rfl)⟩ (fun v9 C9 H locs hp hP hD hS => ?_)
        obtain ⟨rfl, rfl⟩ := hp
        have hP : va_P D vwCl ([q_bc (ad i) (bSail (F i) (wf (mk % 10))), q_fc fl al (upd u 3 ((u 3) + 1)), q_ac al md ar n, q_wc wa len wi ja, q_ia T wi 10 wf, q_ia T ja k ju, q_arc (T 1) n ar ad] ++ q_pl ((List.range n).erase i) ad (q_upto i (dSail F (wf (mk % 10))) F)) H := q_P_perm (q_mrg_perm [true, false, false, false, false, false, false] _ _) hP
        have hD : va_D A ([q_bc (ad i) (bSail (F i) (wf (mk % 10))), q_fc fl al (upd u 3 ((u 3) + 1)), q_ac al md ar n, q_wc wa len wi ja, q_ia T wi 10 wf, q_ia T ja k ju, q_arc (T 1) n ar ad] ++ q_pl ((List.range n).erase i) ad (q_upto i (dSail F (wf (mk % 10))) F)) := q_D_perm (q_mrg_perm [true, false, false, false, false, false, false] _ _) hD
        refine lv_iinc (v := (nI (i + 1))) (lv' := [(3, .int (nI (i + 1))), (0, .ref fl), (1, .ref wa), (2, .int (wf (mk % 10)))]) hx hb dX1_raceMinute_47 hl (k := 3) rfl (nI_1 i) (by decide) rfl (fun ls hl => ?_)
        refine lv_goto (tgt := 21) hx hb dX1_raceMinute_50 (by decide) ?_
        have hP : va_P D vwCl ([q_fc fl al (upd u 3 ((u 3) + 1)), q_ac al md ar n, q_wc wa len wi ja, q_ia T wi 10 wf, q_ia T ja k ju] ++ q_tl (T 1) n ar ad (q_upto (i + 1) (dSail F (wf (mk % 10))) F)) H := q_P_perm (q_tls [q_fc fl al (upd u 3 ((u 3) + 1)), q_ac al md ar n, q_wc wa len wi ja, q_ia T wi 10 wf, q_ia T ja k ju] h9d (F := (q_upto i (dSail F (wf (mk % 10))) F)) (q_upto_s i (dSail F (wf (mk % 10))) F)) hP
        have hD : va_D A ([q_fc fl al (upd u 3 ((u 3) + 1)), q_ac al md ar n, q_wc wa len wi ja, q_ia T wi 10 wf, q_ia T ja k ju] ++ q_tl (T 1) n ar ad (q_upto (i + 1) (dSail F (wf (mk % 10))) F)) := q_D_perm (q_tls [q_fc fl al (upd u 3 ((u 3) + 1)), q_ac al md ar n, q_wc wa len wi ja, q_ia T wi 10 wf, q_ia T ja k ju] h9d (F := (q_upto i (dSail F (wf (mk % 10))) F)) (q_upto_s i (dSail F (wf (mk % 10))) F)) hD
        exact ih (i + 1) (by omega) (by omega)   _ _ ls hP hD hS (lv_sub hl [1, 2, 3, 0] rfl)
  exact L21 (n + 1) 0 (by omega) (by omega)   _ _ ls hP hD hS (lv_sub hl [2, 3, 1, 0] rfl)

def wAt (wf : Nat → Int32) (x : Int32) : Int32 := wf (x.toNatClampNeg % 10)
def mF1 (F : Nat → Nat → Int32) (u : Nat → Int32) (w : Int32) (ju : Nat → Int32) (k : Nat) (len : Int32) : Nat → Nat → Int32 := if u 2 = 0 then F else dRace F w ju k len (u 3 + 1)
def mU1 (u : Nat → Int32) : Nat → Int32 := if u 2 = 0 then u else upd u 3 (u 3 + 1)
def mR1 (F : Nat → Nat → Int32) (u : Nat → Int32) (w : Int32) (ju : Nat → Int32) (k : Nat) (len : Int32) (n : Nat) : Int32 := if u 2 = 0 then 0 else dRaceR F w ju k len n
def mF2 (F : Nat → Nat → Int32) (u : Nat → Int32) : Nat → Nat → Int32 := if u 0 - u 0 / 5 * 5 = 0 then dDry F (u 2) else F
def mU2 (u : Nat → Int32) : Nat → Int32 := upd u 0 (u 0 + 1)
def mF3 (F : Nat → Nat → Int32) (u : Nat → Int32) (n : Nat) : Nat → Nat → Int32 := if u 2 = 0 then F else if 60 ≤ u 3 then dEnd F n else if q_sum (dSt F 1) n = 0 then dEnd F n else F
def mU3 (F : Nat → Nat → Int32) (u : Nat → Int32) (n : Nat) : Nat → Int32 := if u 2 = 0 then mU2 u else if 60 ≤ u 3 then upd (mU2 u) 2 0 else if q_sum (dSt F 1) n = 0 then upd (mU2 u) 2 0 else mU2 u
/-- a minute: the boats' rows behind it, the fleet's row behind it -/
def mF (F : Nat → Nat → Int32) (u : Nat → Int32) (w : Int32) (ju : Nat → Int32) (k : Nat) (len : Int32) (n : Nat) : Nat → Nat → Int32 := mF3 (mF2 (mF1 F u w ju k len) (mU1 u)) (mU1 u) n
def mU (F : Nat → Nat → Int32) (u : Nat → Int32) (w : Int32) (ju : Nat → Int32) (k : Nat) (len : Int32) (n : Nat) : Nat → Int32 := mU3 (mF2 (mF1 F u w ju k len) (mU1 u)) (mU1 u) n

abbrev rmX1_passMinute : Room := { frames := 5, cells := 0, slots := 0, locals := 112 }
set_option maxHeartbeats 4000000 in
set_option maxRecDepth 100000 in
theorem c_X1_passMinute (l : Launch) (D : va_G) (T : Nat → ClassId) (fl al ar n : Nat) (md : Int32) (u : Nat → Int32) (ad : Nat → Nat) (F : Nat → Nat → Int32) (hn : n ≤ 8) (wa wi ja k mk : Nat) (len : Int32) (ju wf : Nat → Int32) (hk : k ≤ 3) (hm : u 0 = nI mk) (hmk : mk < 2 ^ 31) (hz : ∀ b, b < n → 0 < 2 + F b 0 + F b 2 / 2) : q_M l D (q_ty T) yX1_passMinute wsX1_passMinute rmX1_passMinute [.ref fl, .ref wa] ([q_fc fl al u, q_ac al md ar n, q_wc wa len wi ja, q_ia T wi 10 wf, q_ia T ja k ju] ++ q_tl (T 1) n ar ad F) q_no (q_is (some (.int (mR1 F u (wf (mk % 10)) ju k len n))) ([q_fc fl al (mU F u (wf (mk % 10)) ju k len n), q_ac al md ar n, q_wc wa len wi ja, q_ia T wi 10 wf, q_ia T ja k ju] ++ q_tl (T 1) n ar ad (mF F u (wf (mk % 10)) ju k len n))) := by
  refine q_start (cc := cX1_passMinute) (maxL := 3) (ret := (some .int)) (by decide) rfl (Nat.le_of_ble_eq_true rfl) ?_
  intro p e s m args below meth c A H locs hx hb hr hts hown hlocks hml hnm hP hK hD hS hA hG ls hl
  have hown : s.vm.findClass RX1 = some m.cls := hown
  have hC : CallFix p m c cX1_passMinute 3 s args wsX1_passMinute RX1 := ⟨hx, hb, hml, hown, hts⟩
  have iX1 : ∀ w ∈ wsX10, w ∈ wsX1_passMinute := by decide +kernel
  have hl : lv_has ls 3 [(0, .ref fl), (1, .ref wa)] := hl
  have J17 : ∀ (H : Heap) (locs : List Loc) (ls : Array Slot), va_P D vwCl ([q_fc fl al (mU1 u), q_ac al md ar n, q_wc wa len wi ja, q_ia T wi 10 wf, q_ia T ja k ju] ++ q_tl (T 1) n ar ad (mF1 F u (wf (mk % 10)) ju k len)) H → va_D A ([q_fc fl al (mU1 u), q_ac al md ar n, q_wc wa len wi ja, q_ia T wi 10 wf, q_ia T ja k ju] ++ q_tl (T 1) n ar ad (mF1 F u (wf (mk % 10)) ju k len)) → va_S A s.heap H locs → lv_has ls 3 [(0, .ref fl), (1, .ref wa), (2, .int (mR1 F u (wf (mk % 10)) ju k len n))] → W p l e rmX1_passMinute s m args below meth c H locs 0 0 (q_E below D (q_ty T) (q_is (some (.int (mR1 F u (wf (mk % 10)) ju k len n))) ([q_fc fl al (mU F u (wf (mk % 10)) ju k len n), q_ac al md ar n, q_wc wa len wi ja, q_ia T wi 10 wf, q_ia T ja k ju] ++ q_tl (T 1) n ar ad (mF F u (wf (mk % 10)) ju k len n))) A args s rmX1_passMinute) (F0 m 17 ls []) := by
    intro H locs ls hP hD hS hl
    have J30 : ∀ (H : Heap) (locs : List Loc) (ls : Array Slot), va_P D vwCl ([q_fc fl al (mU1 u), q_ac al md ar n, q_wc wa len wi ja, q_ia T wi 10 wf, q_ia T ja k ju] ++ q_tl (T 1) n ar ad (mF2 (mF1 F u (wf (mk % 10)) ju k len) (mU1 u))) H → va_D A ([q_fc fl al (mU1 u), q_ac al md ar n, q_wc wa len wi ja, q_ia T wi 10 wf, q_ia T ja k ju] ++ q_tl (T 1) n ar ad (mF2 (mF1 F u (wf (mk % 10)) ju k len) (mU1 u))) → va_S A s.heap H locs → lv_has ls 3 [(0, .ref fl), (1, .ref wa), (2, .int (mR1 F u (wf (mk % 10)) ju k len n))] → W p l e rmX1_passMinute s m args below meth c H locs 0 0 (q_E below D (q_ty T) (q_is (some (.int (mR1 F u (wf (mk % 10)) ju k len n))) ([q_fc fl al (mU F u (wf (mk % 10)) ju k len n), q_ac al md ar n, q_wc wa len wi ja, q_ia T wi 10 wf, q_ia T ja k ju] ++ q_tl (T 1) n ar ad (mF F u (wf (mk % 10)) ju k len n))) A args s rmX1_passMinute) (F0 m 30 ls []) := by
      intro H locs ls hP hD hS hl
      refine lv_aload_n hx hb dX1_passMinute_30 rfl (lv_at hl 0 rfl) ?_
      refine lv_dup hx hb dX1_passMinute_31 rfl ?_
      refine va_get (D := D) (ci := 2) (v := .int ((mU1 u) 0)) (C := RX1) (T := TX1) (N := 5) hx hb hts iX1 hown hK hP 0 rfl rfl 1 (by decide) (hts (.fieldLink RX1 30 "ToyRegatta$Fleet" "minute" "I") (by decide +kernel)) (fun _ h9 => h9) rfl dX1_passMinute_32 ?_
      refine lv_iconst (v := 1) hx hb dX1_passMinute_35 (by decide) ?_
      refine lv_iadd hx hb dX1_passMinute_36 ?_
      refine va_put (D := D) (ci := 2) (v := .int (((mU1 u) 0) + 1)) (ty := .int) (C := RX1) (T := TX1) (N := 5) hx hb hts iX1 tyX1 tyX1_ok nmX1 hown hK hP hD hS 0 rfl rfl 1 (by decide) (hts (.fieldLink RX1 30 "ToyRegatta$Fleet" "minute" "I") (by decide +kernel)) (fun _ h9 => h9) rfl (by decide +kernel) rfl rfl (Nat.le_of_ble_eq_true rfl) dX1_passMinute_37 (fun H locs hP hD hS => ?_)
      have hP : va_P D vwCl ([q_fc fl al (upd (mU1 u) 0 (((mU1 u) 0) + 1)), q_ac al md ar n, q_wc wa len wi ja, q_ia T wi 10 wf, q_ia T ja k ju] ++ q_tl (T 1) n ar ad (mF2 (mF1 F u (wf (mk % 10)) ju k len) (mU1 u))) H := hP
      have hD : va_D A ([q_fc fl al (upd (mU1 u) 0 (((mU1 u) 0) + 1)), q_ac al md ar n, q_wc wa len wi ja, q_ia T wi 10 wf, q_ia T ja k ju] ++ q_tl (T 1) n ar ad (mF2 (mF1 F u (wf (mk % 10)) ju k len) (mU1 u))) := hD
      refine lv_aload_n hx hb dX1_passMinute_40 rfl (lv_at hl 0 rfl) ?_
      refine va_get (D := D) (ci := 2) (v := .int ((mU1 u) 2)) (C := RX1) (T := TX1) (N := 5) hx hb hts iX1 hown hK hP 0 rfl rfl 3 (by decide) (hts (.fieldLink RX1 37 "ToyRegatta$Fleet" "racing" "Z") (by decide +kernel)) (fun _ h9 => h9) rfl dX1_passMinute_41 ?_
      refine lv_if_eq (tgt := 68) hx hb dX1_passMinute_44 (by decide) (fun c_44 => ?_) (fun c_44 => ?_)
      · refine lv_iload_n hx hb dX1_passMinute_68 rfl (lv_at hl 2 rfl) ?_
        exact q_iret hx hb hr hlocks hP hK hD hS (Nat.le_of_ble_eq_true rfl) (Nat.le_of_ble_eq_true rfl) dX1_passMinute_69 ⟨rfl, by rw [show mU F u (wf (mk % 10)) ju k len n = (upd (mU1 u) 0 (((mU1 u) 0) + 1)) from by simp only [mU, mU3, mU2, if_pos c_44], show mF F u (wf (mk % 10)) ju k len n = (mF2 (mF1 F u (wf (mk % 10)) ju k len) (mU1 u)) from by simp only [mF, mF3, if_pos c_44]]⟩
      · refine lv_aload_n hx hb dX1_passMinute_47 rfl (lv_at hl 0 rfl) ?_
        refine va_get (D := D) (ci := 2) (v := .int ((mU1 u) 3)) (C := RX1) (T := TX1) (N := 5) hx hb hts iX1 hown hK hP 0 rfl rfl 4 (by decide) (hts (.fieldLink RX1 41 "ToyRegatta$Fleet" "minutesRaced" "I") (by decide +kernel)) (fun _ h9 => h9) rfl dX1_passMinute_48 ?_
        refine lv_bipush (v := 60) hx hb dX1_passMinute_51 (by decide) ?_
        refine lv_icmp_ge (tgt := 64) hx hb dX1_passMinute_53 (by decide) (fun c_53 => ?_) (fun c_53 => ?_)
        · refine lv_aload_n hx hb dX1_passMinute_64 rfl (lv_at hl 0 rfl) ?_
          refine q_callV (As := []) (rs := []) hC (c_X1_endRace l D T fl al ar n md (upd (mU1 u) 0 (((mU1 u) 0) + 1)) ad (mF2 (mF1 F u (wf (mk % 10)) ju k len) (mU1 u)) hn ) q_no_st q_no_at (cwV 0 hts gX1_passMinute_X1_endRace rfl rfl rfl (by decide +kernel) ⟨Nat.le_of_ble_eq_true rfl, Nat.le_of_ble_eq_true rfl⟩) (va_recv hK hP (ci := 2) (q0 := 0) rfl rfl) hK hP hD hS hA (q_tmask [true, true, false, false, false] [q_fc fl al (upd (mU1 u) 0 (((mU1 u) 0) + 1)), q_ac al md ar n, q_wc wa len wi ja, q_ia T wi 10 wf, q_ia T ja k ju] (q_tl (T 1) n ar ad (mF2 (mF1 F u (wf (mk % 10)) ju k len) (mU1 u)))) rfl hl.1 rfl (Nat.le_of_ble_eq_true rfl) dX1_passMinute_65 ⟨(Nat.le_of_ble_eq_true rfl), (Nat.le_of_ble_eq_true rfl)⟩ (fun v9 C9 H locs hp hP hD hS => ?_)
          obtain ⟨rfl, rfl⟩ := hp
          have hP : va_P D vwCl ([q_fc fl al (upd (upd (mU1 u) 0 (((mU1 u) 0) + 1)) 2 0), q_ac al md ar n, q_wc wa len wi ja, q_ia T wi 10 wf, q_ia T ja k ju] ++ q_tl (T 1) n ar ad (dEnd (mF2 (mF1 F u (wf (mk % 10)) ju k len) (mU1 u)) n)) H := q_P_perm (q_tback [true, true, false, false, false] [q_fc fl al (upd (upd (mU1 u) 0 (((mU1 u) 0) + 1)) 2 0), q_ac al md ar n] [q_wc wa len wi ja, q_ia T wi 10 wf, q_ia T ja k ju] (q_tl (T 1) n ar ad (dEnd (mF2 (mF1 F u (wf (mk % 10)) ju k len) (mU1 u)) n))) hP
          have hD : va_D A ([q_fc fl al (upd (upd (mU1 u) 0 (((mU1 u) 0) + 1)) 2 0), q_ac al md ar n, q_wc wa len wi ja, q_ia T wi 10 wf, q_ia T ja k ju] ++ q_tl (T 1) n ar ad (dEnd (mF2 (mF1 F u (wf (mk % 10)) ju k len) (mU1 u)) n)) := q_D_perm (q_tback [true, true, false, false, false] [q_fc fl al (upd (upd (mU1 u) 0 (((mU1 u) 0) + 1)) 2 0), q_ac al md ar n] [q_wc wa len wi ja, q_ia T wi 10 wf, q_ia T ja k ju] (q_tl (T 1) n ar ad (dEnd (mF2 (mF1 F u (wf (mk % 10)) ju k len) (mU1 u)) n))) hD
          refine lv_iload_n hx hb dX1_passMinute_68 rfl (lv_at hl 2 rfl) ?_
          exact q_iret hx hb hr hlocks hP hK hD hS (Nat.le_of_ble_eq_true rfl) (Nat.le_of_ble_eq_true rfl) dX1_passMinute_69 ⟨rfl, by rw [show mU F u (wf (mk % 10)) ju k len n = (upd (upd (mU1 u) 0 (((mU1 u) 0) + 1)) 2 0) from by simp only [mU, mU3, mU2, if_neg c_44, if_pos c_53], show mF F u (wf (mk % 10)) ju k len n = (dEnd (mF2 (mF1 F u (wf (mk % 10)) ju k len) (mU1 u)) n) from by simp only [mF, mF3, if_neg c_44, if_pos c_53]]⟩
        · refine lv_aload_n hx hb dX1_passMinute_56 rfl (lv_at hl 0 rfl) ?_
          refine lv_iconst (v := 1) hx hb dX1_passMinute_57 (by decide) ?_
          refine q_callV (As := [.int 1]) (rs := []) hC (c_X1_inState l D T fl al ar n md (upd (mU1 u) 0 (((mU1 u) 0) + 1)) ad (mF2 (mF1 F u (wf (mk % 10)) ju k len) (mU1 u)) hn 1) q_no_st q_no_at (cwV 1 hts gX1_passMinute_X1_inState rfl rfl rfl (by decide +kernel) ⟨Nat.le_of_ble_eq_true rfl, Nat.le_of_ble_eq_true rfl⟩) (va_recv hK hP (ci := 2) (q0 := 0) rfl rfl) hK hP hD hS hA (q_tmask [true, true, false, false, false] [q_fc fl al (upd (mU1 u) 0 (((mU1 u) 0) + 1)), q_ac al md ar n, q_wc wa len wi ja, q_ia T wi 10 wf, q_ia T ja k ju] (q_tl (T 1) n ar ad (mF2 (mF1 F u (wf (mk % 10)) ju k len) (mU1 u)))) rfl hl.1 rfl (Nat.le_of_ble_eq_true rfl) dX1_passMinute_58 ⟨(Nat.le_of_ble_eq_true rfl), (Nat.le_of_ble_eq_true rfl)⟩ (fun v9 C9 H locs hp hP hD hS => ?_)
          obtain ⟨rfl, rfl⟩ := hp
          have hP : va_P D vwCl ([q_fc fl al (upd (mU1 u) 0 (((mU1 u) 0) + 1)), q_ac al md ar n, q_wc wa len wi ja, q_ia T wi 10 wf, q_ia T ja k ju] ++ q_tl (T 1) n ar ad (mF2 (mF1 F u (wf (mk % 10)) ju k len) (mU1 u))) H := q_P_perm (q_tback [true, true, false, false, false] [q_fc fl al (upd (mU1 u) 0 (((mU1 u) 0) + 1)), q_ac al md ar n] [q_wc wa len wi ja, q_ia T wi 10 wf, q_ia T ja k ju] (q_tl (T 1) n ar ad (mF2 (mF1 F u (wf (mk % 10)) ju k len) (mU1 u)))) hP
          have hD : va_D A ([q_fc fl al (upd (mU1 u) 0 (((mU1 u) 0) + 1)), q_ac al md ar n, q_wc wa len wi ja, q_ia T wi 10 wf, q_ia T ja k ju] ++ q_tl (T 1) n ar ad (mF2 (mF1 F u (wf (mk % 10)) ju k len) (mU1 u))) := q_D_perm (q_tback [true, true, false, false, false] [q_fc fl al (upd (mU1 u) 0 (((mU1 u) 0) + 1)), q_ac al md ar n] [q_wc wa len wi ja, q_ia T wi 10 wf, q_ia T ja k ju] (q_tl (T 1) n ar ad (mF2 (mF1 F u (wf (mk % 10)) ju k len) (mU1 u)))) hD
          refine lv_if_ne (tgt := 68) hx hb dX1_passMinute_61 (by decide) (fun c_61 => ?_) (fun c_61 => ?_)
          · refine lv_iload_n hx hb dX1_passMinute_68 rfl (lv_at hl 2 rfl) ?_
            exact q_iret hx hb hr hlocks hP hK hD hS (Nat.le_of_ble_eq_true rfl) (Nat.le_of_ble_eq_true rfl) dX1_passMinute_69 ⟨rfl, by rw [show mU F u (wf (mk % 10)) ju k len n = (upd (mU1 u) 0 (((mU1 u) 0) + 1)) from by simp only [mU, mU3, mU2, if_neg c_44, if_neg c_53, if_neg c_61], show mF F u (wf (mk % 10)) ju k len n = (mF2 (mF1 F u (wf (mk % 10)) ju k len) (mU1 u)) from by simp only [mF, mF3, if_neg c_44, if_neg c_53, if_neg c_61]]⟩
          · refine lv_aload_n hx hb dX1_passMinute_64 rfl (lv_at hl 0 rfl) ?_
            refine q_callV (As := []) (rs := []) hC (c_X1_endRace l D T fl al ar n md (upd (mU1 u) 0 (((mU1 u) 0) + 1)) ad (mF2 (mF1 F u (wf (mk % 10)) ju k len) (mU1 u)) hn ) q_no_st q_no_at (cwV 0 hts gX1_passMinute_X1_endRace rfl rfl rfl (by decide +kernel) ⟨Nat.le_of_ble_eq_true rfl, Nat.le_of_ble_eq_true rfl⟩) (va_recv hK hP (ci := 2) (q0 := 0) rfl rfl) hK hP hD hS hA (q_tmask [true, true, false, false, false] [q_fc fl al (upd (mU1 u) 0 (((mU1 u) 0) + 1)), q_ac al md ar n, q_wc wa len wi ja, q_ia T wi 10 wf, q_ia T ja k ju] (q_tl (T 1) n ar ad (mF2 (mF1 F u (wf (mk % 10)) ju k len) (mU1 u)))) rfl hl.1 rfl (Nat.le_of_ble_eq_true rfl) dX1_passMinute_65 ⟨(Nat.le_of_ble_eq_true rfl), (Nat.le_of_ble_eq_true rfl)⟩ (fun v9 C9 H locs hp hP hD hS => ?_)
            obtain ⟨rfl, rfl⟩ := hp
            have hP : va_P D vwCl ([q_fc fl al (upd (upd (mU1 u) 0 (((mU1 u) 0) + 1)) 2 0), q_ac al md ar n, q_wc wa len wi ja, q_ia T wi 10 wf, q_ia T ja k ju] ++ q_tl (T 1) n ar ad (dEnd (mF2 (mF1 F u (wf (mk % 10)) ju k len) (mU1 u)) n)) H := q_P_perm (q_tback [true, true, false, false, false] [q_fc fl al (upd (upd (mU1 u) 0 (((mU1 u) 0) + 1)) 2 0), q_ac al md ar n] [q_wc wa len wi ja, q_ia T wi 10 wf, q_ia T ja k ju] (q_tl (T 1) n ar ad (dEnd (mF2 (mF1 F u (wf (mk % 10)) ju k len) (mU1 u)) n))) hP
            have hD : va_D A ([q_fc fl al (upd (upd (mU1 u) 0 (((mU1 u) 0) + 1)) 2 0), q_ac al md ar n, q_wc wa len wi ja, q_ia T wi 10 wf, q_ia T ja k ju] ++ q_tl (T 1) n ar ad (dEnd (mF2 (mF1 F u (wf (mk % 10)) ju k len) (mU1 u)) n)) := q_D_perm (q_tback [true, true, false, false, false] [q_fc fl al (upd (upd (mU1 u) 0 (((mU1 u) 0) + 1)) 2 0), q_ac al md ar n] [q_wc wa len wi ja, q_ia T wi 10 wf, q_ia T ja k ju] (q_tl (T 1) n ar ad (dEnd (mF2 (mF1 F u (wf (mk % 10)) ju k len) (mU1 u)) n))) hD
            refine lv_iload_n hx hb dX1_passMinute_68 rfl (lv_at hl 2 rfl) ?_
            exact q_iret hx hb hr hlocks hP hK hD hS (Nat.le_of_ble_eq_true rfl) (Nat.le_of_ble_eq_true rfl) dX1_passMinute_69 ⟨rfl, by rw [show mU F u (wf (mk % 10)) ju k len n = (upd (upd (mU1 u) 0 (((mU1 u) 0) + 1)) 2 0) from by simp only [mU, mU3, mU2, if_neg c_44, if_neg c_53, if_pos c_61], show mF F u (wf (mk % 10)) ju k len n = (dEnd (mF2 (mF1 F u (wf (mk % 10)) ju k len) (mU1 u)) n) from by simp only [mF, mF3, if_neg c_44, if_neg c_53, if_pos c_61]]⟩
    refine lv_aload_n hx hb dX1_passMinute_17 rfl (lv_at hl 0 rfl) ?_
    refine va_get (D := D) (ci := 2) (v := .int ((mU1 u) 0)) (C := RX1) (T := TX1) (N := 5) hx hb hts iX1 hown hK hP 0 rfl rfl 1 (by decide) (hts (.fieldLink RX1 30 "ToyRegatta$Fleet" "minute" "I") (by decide +kernel)) (fun _ h9 => h9) rfl dX1_passMinute_18 ?_
    refine lv_iconst (v := 5) hx hb dX1_passMinute_21 (by decide) ?_
    refine lv_irem hx hb dX1_passMinute_22 (by decide) ?_
    refine lv_if_ne (tgt := 30) hx hb dX1_passMinute_23 (by decide) (fun c_23 => ?_) (fun c_23 => ?_)
    · have hP : va_P D vwCl ([q_fc fl al (mU1 u), q_ac al md ar n, q_wc wa len wi ja, q_ia T wi 10 wf, q_ia T ja k ju] ++ q_tl (T 1) n ar ad (mF2 (mF1 F u (wf (mk % 10)) ju k len) (mU1 u))) H := by rw [show (mF2 (mF1 F u (wf (mk % 10)) ju k len) (mU1 u)) = (mF1 F u (wf (mk % 10)) ju k len) from by simp only [mF2, if_neg c_23]]; exact hP
      have hD : va_D A ([q_fc fl al (mU1 u), q_ac al md ar n, q_wc wa len wi ja, q_ia T wi 10 wf, q_ia T ja k ju] ++ q_tl (T 1) n ar ad (mF2 (mF1 F u (wf (mk % 10)) ju k len) (mU1 u))) := by rw [show (mF2 (mF1 F u (wf (mk % 10)) ju k len) (mU1 u)) = (mF1 F u (wf (mk % 10)) ju k len) from by simp only [mF2, if_neg c_23]]; exact hD
      exact J30 _ _ ls hP hD hS (lv_sub hl [0, 1, 2] rfl)
    · refine lv_aload_n hx hb dX1_passMinute_26 rfl (lv_at hl 0 rfl) ?_
      refine q_callV (As := []) (rs := []) hC (c_X1_dryAshore l D T fl al ar n md (mU1 u) ad (mF1 F u (wf (mk % 10)) ju k len) hn ) q_no_st q_no_at (cwV 0 hts gX1_passMinute_X1_dryAshore rfl rfl rfl (by decide +kernel) ⟨Nat.le_of_ble_eq_true rfl, Nat.le_of_ble_eq_true rfl⟩) (va_recv hK hP (ci := 2) (q0 := 0) rfl rfl) hK hP hD hS hA (q_tmask [true, true, false, false, false] [q_fc fl al (mU1 u), q_ac al md ar n, q_wc wa len wi ja, q_ia T wi 10 wf, q_ia T ja k ju] (q_tl (T 1) n ar ad (mF1 F u (wf (mk % 10)) ju k len))) rfl hl.1 rfl (Nat.le_of_ble_eq_true rfl) dX1_passMinute_27 ⟨(Nat.le_of_ble_eq_true rfl), (Nat.le_of_ble_eq_true rfl)⟩ (fun v9 C9 H locs hp hP hD hS => ?_)
      obtain ⟨rfl, rfl⟩ := hp
      have hP : va_P D vwCl ([q_fc fl al (mU1 u), q_ac al md ar n, q_wc wa len wi ja, q_ia T wi 10 wf, q_ia T ja k ju] ++ q_tl (T 1) n ar ad (dDry (mF1 F u (wf (mk % 10)) ju k len) ((mU1 u) 2))) H := q_P_perm (q_tback [true, true, false, false, false] [q_fc fl al (mU1 u), q_ac al md ar n] [q_wc wa len wi ja, q_ia T wi 10 wf, q_ia T ja k ju] (q_tl (T 1) n ar ad (dDry (mF1 F u (wf (mk % 10)) ju k len) ((mU1 u) 2)))) hP
      have hD : va_D A ([q_fc fl al (mU1 u), q_ac al md ar n, q_wc wa len wi ja, q_ia T wi 10 wf, q_ia T ja k ju] ++ q_tl (T 1) n ar ad (dDry (mF1 F u (wf (mk % 10)) ju k len) ((mU1 u) 2))) := q_D_perm (q_tback [true, true, false, false, false] [q_fc fl al (mU1 u), q_ac al md ar n] [q_wc wa len wi ja, q_ia T wi 10 wf, q_ia T ja k ju] (q_tl (T 1) n ar ad (dDry (mF1 F u (wf (mk % 10)) ju k len) ((mU1 u) 2)))) hD
      have hP : va_P D vwCl ([q_fc fl al (mU1 u), q_ac al md ar n, q_wc wa len wi ja, q_ia T wi 10 wf, q_ia T ja k ju] ++ q_tl (T 1) n ar ad (mF2 (mF1 F u (wf (mk % 10)) ju k len) (mU1 u))) H := by rw [show (mF2 (mF1 F u (wf (mk % 10)) ju k len) (mU1 u)) = (dDry (mF1 F u (wf (mk % 10)) ju k len) ((mU1 u) 2)) from by simp only [mF2, if_pos c_23]]; exact hP
      have hD : va_D A ([q_fc fl al (mU1 u), q_ac al md ar n, q_wc wa len wi ja, q_ia T wi 10 wf, q_ia T ja k ju] ++ q_tl (T 1) n ar ad (mF2 (mF1 F u (wf (mk % 10)) ju k len) (mU1 u))) := by rw [show (mF2 (mF1 F u (wf (mk % 10)) ju k len) (mU1 u)) = (dDry (mF1 F u (wf (mk % 10)) ju k len) ((mU1 u) 2)) from by simp only [mF2, if_pos c_23]]; exact hD
      exact J30 _ _ ls hP hD hS (lv_sub hl [0, 1, 2] rfl)
  refine lv_aload_n hx hb dX1_passMinute_0 rfl (lv_at hl 0 rfl) ?_
  refine va_get (D := D) (ci := 2) (v := .int (u 2)) (C := RX1) (T := TX1) (N := 5) hx hb hts iX1 hown hK hP 0 rfl rfl 3 (by decide) (hts (.fieldLink RX1 37 "ToyRegatta$Fleet" "racing" "Z") (by decide +kernel)) (fun _ h9 => h9) rfl dX1_passMinute_1 ?_
  refine lv_if_eq (tgt := 15) hx hb dX1_passMinute_4 (by decide) (fun c_4 => ?_) (fun c_4 => ?_)
  · refine lv_iconst (v := 0) hx hb dX1_passMinute_15 (by decide) ?_
    refine lv_istore_n (lv' := [(2, .int 0), (0, .ref fl), (1, .ref wa)]) hx hb dX1_passMinute_16 rfl hl (by decide) rfl (fun ls hl => ?_)
    have hP : va_P D vwCl ([q_fc fl al (mU1 u), q_ac al md ar n, q_wc wa len wi ja, q_ia T wi 10 wf, q_ia T ja k ju] ++ q_tl (T 1) n ar ad (mF1 F u (wf (mk % 10)) ju k len)) H := by rw [show (mU1 u) = u from by simp only [mU1, if_pos c_4], show (mF1 F u (wf (mk % 10)) ju k len) = F from by simp only [mF1, if_pos c_4]]; exact hP
    have hD : va_D A ([q_fc fl al (mU1 u), q_ac al md ar n, q_wc wa len wi ja, q_ia T wi 10 wf, q_ia T ja k ju] ++ q_tl (T 1) n ar ad (mF1 F u (wf (mk % 10)) ju k len)) := by rw [show (mU1 u) = u from by simp only [mU1, if_pos c_4], show (mF1 F u (wf (mk % 10)) ju k len) = F from by simp only [mF1, if_pos c_4]]; exact hD
    have hl : lv_has ls 3 [(2, .int (mR1 F u (wf (mk % 10)) ju k len n)), (0, .ref fl), (1, .ref wa)] := by rw [show mR1 F u (wf (mk % 10)) ju k len n = 0 from by simp only [mR1, if_pos c_4]]; exact hl
    exact J17 _ _ ls hP hD hS (lv_sub hl [1, 2, 0] rfl)
  · refine lv_aload_n hx hb dX1_passMinute_7 rfl (lv_at hl 0 rfl) ?_
    refine lv_aload_n hx hb dX1_passMinute_8 rfl (lv_at hl 1 rfl) ?_
    refine q_callV (As := [.ref wa]) (rs := []) hC (c_X1_raceMinute l D T fl al ar n md u ad F hn wa wi ja k mk len ju wf hk hm hmk hz) q_no_st q_no_at (cwV 1 hts gX1_passMinute_X1_raceMinute rfl rfl rfl (by decide +kernel) ⟨Nat.le_of_ble_eq_true rfl, Nat.le_of_ble_eq_true rfl⟩) (va_recv hK hP (ci := 2) (q0 := 0) rfl rfl) hK hP hD hS hA (q_tmask [true, true, true, true, true] [q_fc fl al u, q_ac al md ar n, q_wc wa len wi ja, q_ia T wi 10 wf, q_ia T ja k ju] (q_tl (T 1) n ar ad F)) rfl hl.1 rfl (Nat.le_of_ble_eq_true rfl) dX1_passMinute_9 ⟨(Nat.le_of_ble_eq_true rfl), (Nat.le_of_ble_eq_true rfl)⟩ (fun v9 C9 H locs hp hP hD hS => ?_)
    obtain ⟨rfl, rfl⟩ := hp
    have hP : va_P D vwCl ([q_fc fl al (upd u 3 (u 3 + 1)), q_ac al md ar n, q_wc wa len wi ja, q_ia T wi 10 wf, q_ia T ja k ju] ++ q_tl (T 1) n ar ad (dRace F (wf (mk % 10)) ju k len (u 3 + 1))) H := q_P_perm (q_tback [true, true, true, true, true] [q_fc fl al (upd u 3 (u 3 + 1)), q_ac al md ar n, q_wc wa len wi ja, q_ia T wi 10 wf, q_ia T ja k ju] [] (q_tl (T 1) n ar ad (dRace F (wf (mk % 10)) ju k len (u 3 + 1)))) hP
    have hD : va_D A ([q_fc fl al (upd u 3 (u 3 + 1)), q_ac al md ar n, q_wc wa len wi ja, q_ia T wi 10 wf, q_ia T ja k ju] ++ q_tl (T 1) n ar ad (dRace F (wf (mk % 10)) ju k len (u 3 + 1))) := q_D_perm (q_tback [true, true, true, true, true] [q_fc fl al (upd u 3 (u 3 + 1)), q_ac al md ar n, q_wc wa len wi ja, q_ia T wi 10 wf, q_ia T ja k ju] [] (q_tl (T 1) n ar ad (dRace F (wf (mk % 10)) ju k len (u 3 + 1)))) hD
    refine lv_goto (tgt := 16) hx hb dX1_passMinute_12 (by decide) ?_
    refine lv_istore_n (lv' := [(2, .int (dRaceR F (wf (mk % 10)) ju k len n)), (0, .ref fl), (1, .ref wa)]) hx hb dX1_passMinute_16 rfl hl (by decide) rfl (fun ls hl => ?_)
    have hP : va_P D vwCl ([q_fc fl al (mU1 u), q_ac al md ar n, q_wc wa len wi ja, q_ia T wi 10 wf, q_ia T ja k ju] ++ q_tl (T 1) n ar ad (mF1 F u (wf (mk % 10)) ju k len)) H := by rw [show (mU1 u) = (upd u 3 (u 3 + 1)) from by simp only [mU1, if_neg c_4], show (mF1 F u (wf (mk % 10)) ju k len) = (dRace F (wf (mk % 10)) ju k len (u 3 + 1)) from by simp only [mF1, if_neg c_4]]; exact hP
    have hD : va_D A ([q_fc fl al (mU1 u), q_ac al md ar n, q_wc wa len wi ja, q_ia T wi 10 wf, q_ia T ja k ju] ++ q_tl (T 1) n ar ad (mF1 F u (wf (mk % 10)) ju k len)) := by rw [show (mU1 u) = (upd u 3 (u 3 + 1)) from by simp only [mU1, if_neg c_4], show (mF1 F u (wf (mk % 10)) ju k len) = (dRace F (wf (mk % 10)) ju k len (u 3 + 1)) from by simp only [mF1, if_neg c_4]]; exact hD
    have hl : lv_has ls 3 [(2, .int (mR1 F u (wf (mk % 10)) ju k len n)), (0, .ref fl), (1, .ref wa)] := by rw [show mR1 F u (wf (mk % 10)) ju k len n = (dRaceR F (wf (mk % 10)) ju k len n) from by simp only [mR1, if_neg c_4]]; exact hl
    exact J17 _ _ ls hP hD hS (lv_sub hl [1, 2, 0] rfl)

theorem wAt_eq {wf : Nat → Int32} {x : Int32} {m : Nat} (h : x = nI m) (hm : m < 2 ^ 31) : wAt wf x = wf (m % 10) := by rw [wAt, h, nI_clamp hm]
def mS (wf ju : Nat → Int32) (k : Nat) (len : Int32) (n : Nat) (S : (Nat → Nat → Int32) × (Nat → Int32)) : (Nat → Nat → Int32) × (Nat → Int32) := (mF S.1 S.2 (wAt wf (S.2 0)) ju k len n, mU S.1 S.2 (wAt wf (S.2 0)) ju k len n)
def mRun (wf ju : Nat → Int32) (k : Nat) (len : Int32) (n : Nat) : Nat → (Nat → Nat → Int32) × (Nat → Int32) → (Nat → Nat → Int32) × (Nat → Int32)
  | 0, S => S
  | f + 1, S => if S.2 2 = 0 then S else mRun wf ju k len n f (mS wf ju k len n S)
theorem mRun_stop {wf ju : Nat → Int32} {k : Nat} {len : Int32} {n : Nat} {S : (Nat → Nat → Int32) × (Nat → Int32)} (h : S.2 2 = 0) : ∀ f, mRun wf ju k len n f S = S
  | 0 => rfl
  | f + 1 => by rw [mRun, if_pos h]
theorem mU1_0 (u : Nat → Int32) : mU1 u 0 = u 0 := by
  unfold mU1
  split
  · rfl
  · simp [upd]
theorem mU3_0 (F : Nat → Nat → Int32) (u : Nat → Int32) (n : Nat) : mU3 F u n 0 = u 0 + 1 := by
  unfold mU3 mU2
  split
  · simp [upd]
  · split
    · simp [upd]
    · split <;> simp [upd]
theorem mS_0 (wf ju : Nat → Int32) (k : Nat) (len : Int32) (n : Nat) (S : (Nat → Nat → Int32) × (Nat → Int32)) : (mS wf ju k len n S).2 0 = S.2 0 + 1 := by
  show mU3 _ (mU1 S.2) n 0 = _
  rw [mU3_0, mU1_0]
/-- hull and lead stay -/
def mKeep (F G : Nat → Nat → Int32) : Prop := ∀ b, G b 0 = F b 0 ∧ G b 1 = F b 1 ∧ G b 2 = F b 2
theorem mKeep.rf {F : Nat → Nat → Int32} : mKeep F F := fun _ => ⟨rfl, rfl, rfl⟩
theorem mKeep.tr {F G K : Nat → Nat → Int32} (h : mKeep F G) (h2 : mKeep G K) : mKeep F K := fun b => ⟨(h2 b).1.trans (h b).1, (h2 b).2.1.trans (h b).2.1, (h2 b).2.2.trans (h b).2.2⟩
theorem bSail_keep (r : Nat → Int32) (w : Int32) : bSail r w 0 = r 0 ∧ bSail r w 1 = r 1 ∧ bSail r w 2 = r 2 := by
  unfold bSail
  split
  · split
    · split
      · simp [upd]
      · unfold bFall
        split <;> simp [upd]
    · simp [upd]
  · simp [upd]
theorem bDry_keep (r : Nat → Int32) : bDry r 0 = r 0 ∧ bDry r 1 = r 1 ∧ bDry r 2 = r 2 := by simp [bDry, upd]
theorem bIn_keep (r : Nat → Int32) (a t : Int32) : bIn r a t 0 = r 0 ∧ bIn r a t 1 = r 1 ∧ bIn r a t 2 = r 2 := by
  unfold bIn
  split
  · split <;> simp [upd]
  · exact ⟨rfl, rfl, rfl⟩
theorem dFoul_keep (F : Nat → Nat → Int32) (ju : Nat → Int32) (k : Nat) : mKeep F (dFoul F ju k) := fun b => by
  unfold dFoul dFoulR
  split
  · simp [upd]
  · exact ⟨rfl, rfl, rfl⟩
theorem dRace_keep (F : Nat → Nat → Int32) (w : Int32) (ju : Nat → Int32) (k : Nat) (len t : Int32) : mKeep F (dRace F w ju k len t) :=
  mKeep.tr (mKeep.tr (fun b => bSail_keep (F b) w) (dFoul_keep _ ju k)) (fun b => bIn_keep _ len t)
theorem dDry_keep (F : Nat → Nat → Int32) (on : Int32) : mKeep F (dDry F on) := fun b => by
  unfold dDry
  split
  · exact bDry_keep _
  · split
    · exact bDry_keep _
    · exact ⟨rfl, rfl, rfl⟩
theorem dEnd_keep (F : Nat → Nat → Int32) (n : Nat) : mKeep F (dEnd F n) := fun b => by
  unfold dEnd
  split
  · simp [upd]
  · exact ⟨rfl, rfl, rfl⟩
theorem mF3_keep (F : Nat → Nat → Int32) (u : Nat → Int32) (n : Nat) : mKeep F (mF3 F u n) := by
  unfold mF3
  split
  · exact mKeep.rf
  · split
    · exact dEnd_keep F n
    · split
      · exact dEnd_keep F n
      · exact mKeep.rf
theorem mF2_keep (F : Nat → Nat → Int32) (u : Nat → Int32) : mKeep F (mF2 F u) := by
  unfold mF2
  split
  · exact dDry_keep F _
  · exact mKeep.rf
theorem mF1_keep (F : Nat → Nat → Int32) (u : Nat → Int32) (w : Int32) (ju : Nat → Int32) (k : Nat) (len : Int32) : mKeep F (mF1 F u w ju k len) := by
  unfold mF1
  split
  · exact mKeep.rf
  · exact dRace_keep F w ju k len _
theorem mF_keep (F : Nat → Nat → Int32) (u : Nat → Int32) (w : Int32) (ju : Nat → Int32) (k : Nat) (len : Int32) (n : Nat) : mKeep F (mF F u w ju k len n) :=
  (mF1_keep F u w ju k len).tr ((mF2_keep _ _).tr (mF3_keep _ _ n))
def mHz (F : Nat → Nat → Int32) (n : Nat) : Prop := ∀ b, b < n → 0 < 2 + F b 0 + F b 2 / 2
theorem mHz.keep {F G : Nat → Nat → Int32} {n : Nat} (h : mHz F n) (hk : mKeep F G) : mHz G n := fun b hb => by
  rw [(hk b).1, (hk b).2.2]
  exact h b hb

abbrev rmX1_finish : Room := { frames := 6, cells := 0, slots := 0, locals := 134 }
set_option maxHeartbeats 4000000 in
set_option maxRecDepth 100000 in
theorem c_X1_finish (l : Launch) (D : va_G) (T : Nat → ClassId) (fl al ar n : Nat) (md : Int32) (u : Nat → Int32) (ad : Nat → Nat) (F : Nat → Nat → Int32) (hn : n ≤ 8) (wa wi ja k mk : Nat) (len : Int32) (ju wf : Nat → Int32) (hk : k ≤ 3) (hm : u 0 = nI mk) (hmk : mk < 2 ^ 30) (hz : mHz F n) : q_M l D (q_ty T) yX1_finish wsX1_finish rmX1_finish [.ref fl, .ref wa] ([q_fc fl al u, q_ac al md ar n, q_wc wa len wi ja, q_ia T wi 10 wf, q_ia T ja k ju] ++ q_tl (T 1) n ar ad F) q_no (q_is none ([q_fc fl al ((mRun wf ju k len n 60 (F, u)).2), q_ac al md ar n, q_wc wa len wi ja, q_ia T wi 10 wf, q_ia T ja k ju] ++ q_tl (T 1) n ar ad ((mRun wf ju k len n 60 (F, u)).1))) := by
  refine q_start (cc := cX1_finish) (maxL := 3) (ret := none) (by decide) rfl (Nat.le_of_ble_eq_true rfl) ?_
  intro p e s m args below meth c A H locs hx hb hr hts hown hlocks hml hnm hP hK hD hS hA hG ls hl
  have hown : s.vm.findClass RX1 = some m.cls := hown
  have hC : CallFix p m c cX1_finish 3 s args wsX1_finish RX1 := ⟨hx, hb, hml, hown, hts⟩
  have iX1 : ∀ w ∈ wsX10, w ∈ wsX1_finish := by decide +kernel
  have hl : lv_has ls 3 [(0, .ref fl), (1, .ref wa)] := hl
  refine lv_iconst (v := 0) hx hb dX1_finish_0 (by decide) ?_
  refine lv_istore_n (lv' := [(2, .int 0), (0, .ref fl), (1, .ref wa)]) hx hb dX1_finish_1 rfl hl (by decide) rfl (fun ls hl => ?_)
  have L2 : ∀ (f9 i : Nat) (h9a : 60 < i + f9) (h9b : i ≤ 60) (S : (Nat → Nat → Int32) × (Nat → Int32)) (h9c : mRun wf ju k len n (60 - i) S = mRun wf ju k len n 60 (F, u)) (h9m : S.2 0 = nI (mk + i)) (h9z : mHz S.1 n) (H : Heap) (locs : List Loc) (ls : Array Slot), va_P D vwCl ([q_fc fl al S.2, q_ac al md ar n, q_wc wa len wi ja, q_ia T wi 10 wf, q_ia T ja k ju] ++ q_tl (T 1) n ar ad S.1) H → va_D A ([q_fc fl al S.2, q_ac al md ar n, q_wc wa len wi ja, q_ia T wi 10 wf, q_ia T ja k ju] ++ q_tl (T 1) n ar ad S.1) → va_S A s.heap H locs → lv_has ls 3 [(0, .ref fl), (1, .ref wa), (2, .int (nI i))] → W p l e rmX1_finish s m args below meth c H locs 0 0 (q_E below D (q_ty T) (q_is none ([q_fc fl al ((mRun wf ju k len n 60 (F, u)).2), q_ac al md ar n, q_wc wa len wi ja, q_ia T wi 10 wf, q_ia T ja k ju] ++ q_tl (T 1) n ar ad ((mRun wf ju k len n 60 (F, u)).1))) A args s rmX1_finish) (F0 m 2 ls []) := by
    intro f9
    induction f9 with
    | zero => intro i h9a h9b; exact absurd h9a (by omega)
    | succ f9 ih =>
      intro i h9a h9b S h9c h9m h9z H locs ls hP hD hS hl
      refine lv_iload_n hx hb dX1_finish_2 rfl (lv_at hl 2 rfl) ?_
      refine lv_bipush (v := 60) hx hb dX1_finish_3 (by decide) ?_
      refine lv_icmp_ge (tgt := 27) hx hb dX1_finish_5 (by decide) (fun c_5 => ?_) (fun c_5 => ?_)
      · have h9d := (q_exit (n := 60) c_5 h9b (by omega)).symm
        subst h9d
        rw [Nat.sub_self, mRun] at h9c
        exact q_vret hx hb hr hlocks hP hK hD hS (Nat.le_of_ble_eq_true rfl) (Nat.le_of_ble_eq_true rfl) dX1_finish_27 ⟨rfl, by rw [← h9c]⟩
      · have h9d := q_goon (n := 60) c_5 (by omega)
        refine lv_aload_n hx hb dX1_finish_8 rfl (lv_at hl 0 rfl) ?_
        refine va_get (D := D) (ci := 2) (v := .int (S.2 2)) (C := RX1) (T := TX1) (N := 5) hx hb hts iX1 hown hK hP 0 rfl rfl 3 (by decide) (hts (.fieldLink RX1 37 "ToyRegatta$Fleet" "racing" "Z") (by decide +kernel)) (fun _ h9 => h9) rfl dX1_finish_9 ?_
        refine lv_if_eq (tgt := 27) hx hb dX1_finish_12 (by decide) (fun c_12 => ?_) (fun c_12 => ?_)
        · rw [mRun_stop c_12] at h9c
          exact q_vret hx hb hr hlocks hP hK hD hS (Nat.le_of_ble_eq_true rfl) (Nat.le_of_ble_eq_true rfl) dX1_finish_27 ⟨rfl, by rw [← h9c]⟩
        · refine lv_aload_n hx hb dX1_finish_15 rfl (lv_at hl 0 rfl) ?_
          refine lv_aload_n hx hb dX1_finish_16 rfl (lv_at hl 1 rfl) ?_
          refine q_callV (As := [.ref wa]) (rs := []) hC (c_X1_passMinute l D T fl al ar n md S.2 ad S.1 hn wa wi ja k (mk + i) len ju wf hk h9m (by omega) h9z) q_no_st q_no_at (cwV 1 hts gX1_finish_X1_passMinute rfl rfl rfl (by decide +kernel) ⟨Nat.le_of_ble_eq_true rfl, Nat.le_of_ble_eq_true rfl⟩) (va_recv hK hP (ci := 2) (q0 := 0) rfl rfl) hK hP hD hS hA (q_tmask [true, true, true, true, true] [q_fc fl al S.2, q_ac al md ar n, q_wc wa len wi ja, q_ia T wi 10 wf, q_ia T ja k ju] (q_tl (T 1) n ar ad S.1)) rfl hl.1 rfl (Nat.le_of_ble_eq_true rfl) dX1_finish_17 ⟨(Nat.le_of_ble_eq_true rfl), (Nat.le_of_ble_eq_true rfl)⟩ (fun v9 C9 H locs hp hP hD hS => ?_)
          obtain ⟨rfl, rfl⟩ := hp
          have hP : va_P D vwCl ([q_fc fl al (mU S.1 S.2 (wf ((mk + i) % 10)) ju k len n), q_ac al md ar n, q_wc wa len wi ja, q_ia T wi 10 wf, q_ia T ja k ju] ++ q_tl (T 1) n ar ad (mF S.1 S.2 (wf ((mk + i) % 10)) ju k len n)) H := q_P_perm (q_tback [true, true, true, true, true] [q_fc fl al (mU S.1 S.2 (wf ((mk + i) % 10)) ju k len n), q_ac al md ar n, q_wc wa len wi ja, q_ia T wi 10 wf, q_ia T ja k ju] [] (q_tl (T 1) n ar ad (mF S.1 S.2 (wf ((mk + i) % 10)) ju k len n))) hP
          have hD : va_D A ([q_fc fl al (mU S.1 S.2 (wf ((mk + i) % 10)) ju k len n), q_ac al md ar n, q_wc wa len wi ja, q_ia T wi 10 wf, q_ia T ja k ju] ++ q_tl (T 1) n ar ad (mF S.1 S.2 (wf ((mk + i) % 10)) ju k len n)) := q_D_perm (q_tback [true, true, true, true, true] [q_fc fl al (mU S.1 S.2 (wf ((mk + i) % 10)) ju k len n), q_ac al md ar n, q_wc wa len wi ja, q_ia T wi 10 wf, q_ia T ja k ju] [] (q_tl (T 1) n ar ad (mF S.1 S.2 (wf ((mk + i) % 10)) ju k len n))) hD
          refine lv_pop hx hb dX1_finish_20 rfl ?_
          refine lv_iinc (v := (nI (i + 1))) (lv' := [(2, .int (nI (i + 1))), (0, .ref fl), (1, .ref wa)]) hx hb dX1_finish_21 hl (k := 2) rfl (nI_1 i) (by decide) rfl (fun ls hl => ?_)
          refine lv_goto (tgt := 2) hx hb dX1_finish_24 (by decide) ?_
          have h9e : (mS wf ju k len n S) = (mF S.1 S.2 (wf ((mk + i) % 10)) ju k len n, mU S.1 S.2 (wf ((mk + i) % 10)) ju k len n) := by rw [mS, wAt_eq h9m (by omega)]
          have hP : va_P D vwCl ([q_fc fl al ((mS wf ju k len n S).2), q_ac al md ar n, q_wc wa len wi ja, q_ia T wi 10 wf, q_ia T ja k ju] ++ q_tl (T 1) n ar ad ((mS wf ju k len n S).1)) H := by rw [h9e]; exact hP
          have hD : va_D A ([q_fc fl al ((mS wf ju k len n S).2), q_ac al md ar n, q_wc wa len wi ja, q_ia T wi 10 wf, q_ia T ja k ju] ++ q_tl (T 1) n ar ad ((mS wf ju k len n S).1)) := by rw [h9e]; exact hD
          exact ih (i + 1) (by omega) (by omega) (mS wf ju k len n S) (by rw [← h9c, show 60 - i = (60 - (i + 1)) + 1 from by omega, mRun, if_neg c_12]) (by rw [mS_0, h9m]; exact nI_1 _) (h9z.keep (mF_keep _ _ _ _ _ _ _)) _ _ ls hP hD hS (lv_sub hl [1, 2, 0] rfl)
  exact L2 (60 + 1) 0 (by omega) (by omega) (F, u) rfl hm hz _ _ ls hP hD hS (lv_sub hl [1, 2, 0] rfl)

theorem q_pc {α : Type} {l1 l2 : List α} (h : ∀ (inst : DecidableEq α) (a : α), l1.count a = l2.count a) : l1.Perm l2 := by
  letI : DecidableEq α := fun a b => Classical.propDecidable (a = b)
  exact List.perm_iff_count.mpr (h _)
theorem q_tlo2 (X : va_W) {cO : ClassId} {n ar br i : Nat} (hi : i < n) {ad bd : Nat → Nat} {F G : Nat → Nat → Int32} {r r' : Nat → Int32} (e : F i = r) (e' : G i = r') :
    (X ++ (q_tl cO n ar ad F ++ q_tl cO n br bd G)).Perm (q_bc (ad i) r :: q_bc (bd i) r' :: (X ++ (q_arc cO n ar ad :: q_arc cO n br bd :: (q_pl ((List.range n).erase i) ad F ++ q_pl ((List.range n).erase i) bd G)))) := by
  rw [q_tl_pos (by omega), q_tl_pos (by omega)]
  have h1 := q_open [] (List.mem_range.mpr hi) ad e
  have h2 := q_open [] (List.mem_range.mpr hi) bd e'
  simp only [List.nil_append] at h1 h2
  refine ((((h1.cons (q_arc cO n ar ad)).append (h2.cons (q_arc cO n br bd))).append_left X)).trans ?_
  refine q_pc fun _ a => ?_
  simp only [List.count_append, List.count_cons, List.cons_append]
  omega
theorem q_tls2 (X : va_W) {cO : ClassId} {n ar br i : Nat} (hi : i < n) {ad bd : Nat → Nat} {F F' G : Nat → Nat → Int32} {r r' : Nat → Int32} (e : va_up F i r = F') (e' : G i = r') :
    (q_bc (ad i) r :: q_bc (bd i) r' :: (X ++ (q_arc cO n ar ad :: q_arc cO n br bd :: (q_pl ((List.range n).erase i) ad F ++ q_pl ((List.range n).erase i) bd G)))).Perm (X ++ (q_tl cO n ar ad F' ++ q_tl cO n br bd G)) := by
  rw [q_tl_pos (by omega), q_tl_pos (by omega)]
  have h1 := q_shut [] List.nodup_range (List.mem_range.mpr hi) ad e
  have h2 := q_shut [] List.nodup_range (List.mem_range.mpr hi) bd (q_up_id_at e')
  simp only [List.nil_append] at h1 h2
  refine List.Perm.trans ?_ ((((h1.cons (q_arc cO n ar ad)).append (h2.cons (q_arc cO n br bd))).append_left X))
  refine q_pc fun _ a => ?_
  simp only [List.count_append, List.count_cons, List.cons_append]
  omega

abbrev rmX1_copyFrom : Room := { frames := 3, cells := 0, slots := 0, locals := 64 }
set_option maxHeartbeats 4000000 in
set_option maxRecDepth 100000 in
theorem c_X1_copyFrom (l : Launch) (D : va_G) (T : Nat → ClassId) (fl al ar fo ao br n : Nat) (md me : Int32) (u v : Nat → Int32) (ad bd : Nat → Nat) (F G : Nat → Nat → Int32) (hn : n ≤ 8) (hG10 : ∀ b, b < n → G b 10 = 0 ∨ G b 10 = 1) (hv : v 2 = 0 ∨ v 2 = 1) : q_M l D (q_ty T) yX1_copyFrom wsX1_copyFrom rmX1_copyFrom [.ref fl, .ref fo] ([q_fc fl al u, q_ac al md ar n, q_fc fo ao v, q_ac ao me br n] ++ (q_tl (T 1) n ar ad F ++ q_tl (T 1) n br bd G)) q_no (q_is none ([q_fc fl al v, q_ac al md ar n, q_fc fo ao v, q_ac ao me br n] ++ (q_tl (T 1) n ar ad G ++ q_tl (T 1) n br bd G))) := by
  refine q_start (cc := cX1_copyFrom) (maxL := 3) (ret := none) (by decide) rfl (Nat.le_of_ble_eq_true rfl) ?_
  intro p e s m args below meth c A H locs hx hb hr hts hown hlocks hml hnm hP hK hD hS hA hG ls hl
  have hown : s.vm.findClass RX1 = some m.cls := hown
  have hC : CallFix p m c cX1_copyFrom 3 s args wsX1_copyFrom RX1 := ⟨hx, hb, hml, hown, hts⟩
  have iX1 : ∀ w ∈ wsX10, w ∈ wsX1_copyFrom := by decide +kernel
  have hl : lv_has ls 3 [(0, .ref fl), (1, .ref fo)] := hl
  refine lv_iconst (v := 0) hx hb dX1_copyFrom_0 (by decide) ?_
  refine lv_istore_n (lv' := [(2, .int 0), (0, .ref fl), (1, .ref fo)]) hx hb dX1_copyFrom_1 rfl hl (by decide) rfl (fun ls hl => ?_)
  have hP : va_P D vwCl ([q_fc fl al u, q_ac al md ar n, q_fc fo ao v, q_ac ao me br n] ++ (q_tl (T 1) n ar ad (q_upto 0 G F) ++ q_tl (T 1) n br bd G)) H := by rw [q_upto_0]; exact hP
  have hD : va_D A ([q_fc fl al u, q_ac al md ar n, q_fc fo ao v, q_ac ao me br n] ++ (q_tl (T 1) n ar ad (q_upto 0 G F) ++ q_tl (T 1) n br bd G)) := by rw [q_upto_0]; exact hD
  have L2 : ∀ (f9 i : Nat) (h9a : n < i + f9) (h9b : i ≤ n) (H : Heap) (locs : List Loc) (ls : Array Slot), va_P D vwCl ([q_fc fl al u, q_ac al md ar n, q_fc fo ao v, q_ac ao me br n] ++ (q_tl (T 1) n ar ad (q_upto i G F) ++ q_tl (T 1) n br bd G)) H → va_D A ([q_fc fl al u, q_ac al md ar n, q_fc fo ao v, q_ac ao me br n] ++ (q_tl (T 1) n ar ad (q_upto i G F) ++ q_tl (T 1) n br bd G)) → va_S A s.heap H locs → lv_has ls 3 [(0, .ref fl), (1, .ref fo), (2, .int (nI i))] → W p l e rmX1_copyFrom s m args below meth c H locs 0 0 (q_E below D (q_ty T) (q_is none ([q_fc fl al v, q_ac al md ar n, q_fc fo ao v, q_ac ao me br n] ++ (q_tl (T 1) n ar ad G ++ q_tl (T 1) n br bd G))) A args s rmX1_copyFrom) (F0 m 2 ls []) := by
    intro f9
    induction f9 with
    | zero => intro i h9a h9b; exact absurd h9a (by omega)
    | succ f9 ih =>
      intro i h9a h9b   H locs ls hP hD hS hl
      refine lv_iload_n hx hb dX1_copyFrom_2 rfl (lv_at hl 2 rfl) ?_
      refine lv_aload_n hx hb dX1_copyFrom_3 rfl (lv_at hl 0 rfl) ?_
      refine va_get (D := D) (ci := 2) (v := .ref al) (C := RX1) (T := TX1) (N := 5) hx hb hts iX1 hown hK hP 0 rfl rfl 0 (by decide) (hts (.fieldLink RX1 10 "ToyRegatta$Fleet" "boats" "Ljava/util/ArrayList;") (by decide +kernel)) (fun _ h9 => h9) rfl dX1_copyFrom_4 ?_
      refine q_callV (As := []) (rs := [.int (nI i)]) hC (c_AL_size l D T al ar n md) q_no_st q_no_at (cwV 0 hts gX1_copyFrom_Jx4a65c_size_8abf5 rfl rfl rfl (by decide +kernel) ⟨Nat.le_of_ble_eq_true rfl, Nat.le_of_ble_eq_true rfl⟩) (va_recv hK hP (ci := 0) (q0 := 1) rfl rfl) hK hP hD hS hA (q_mask [false, true, false, false] _) rfl hl.1 rfl (Nat.le_of_ble_eq_true rfl) dX1_copyFrom_7 ⟨(Nat.le_of_ble_eq_true rfl), (Nat.le_of_ble_eq_true rfl)⟩ (fun v9 C9 H locs hp hP hD hS => ?_)
      obtain ⟨rfl, rfl⟩ := hp
      have hP : va_P D vwCl ([q_fc fl al u, q_ac al md ar n, q_fc fo ao v, q_ac ao me br n] ++ (q_tl (T 1) n ar ad (q_upto i G F) ++ q_tl (T 1) n br bd G)) H := q_P_perm (q_mrg_perm [false, true, false, false] _ _) hP
      have hD : va_D A ([q_fc fl al u, q_ac al md ar n, q_fc fo ao v, q_ac ao me br n] ++ (q_tl (T 1) n ar ad (q_upto i G F) ++ q_tl (T 1) n br bd G)) := q_D_perm (q_mrg_perm [false, true, false, false] _ _) hD
      refine lv_icmp_ge (tgt := 55) hx hb dX1_copyFrom_10 (by decide) (fun c_10 => ?_) (fun c_10 => ?_)
      · have h9d := (q_exit c_10 h9b (by omega)).symm
        subst h9d
        rw [q_tl_congr (F := q_upto n G F) (F' := G) (fun b hb => q_upto_lt _ _ hb)] at hP hD
        have hP : va_P D vwCl ([q_fc fl al u, q_ac al md ar n, q_fc fo ao v, q_ac ao me br n] ++ (q_tl (T 1) n ar ad G ++ q_tl (T 1) n br bd G)) H := hP
        have hD : va_D A ([q_fc fl al u, q_ac al md ar n, q_fc fo ao v, q_ac ao me br n] ++ (q_tl (T 1) n ar ad G ++ q_tl (T 1) n br bd G)) := hD
        refine lv_aload_n hx hb dX1_copyFrom_55 rfl (lv_at hl 0 rfl) ?_
        refine lv_aload_n hx hb dX1_copyFrom_56 rfl (lv_at hl 1 rfl) ?_
        refine va_get (D := D) (ci := 2) (v := .int (v 0)) (C := RX1) (T := TX1) (N := 5) hx hb hts iX1 hown hK hP 2 rfl rfl 1 (by decide) (hts (.fieldLink RX1 30 "ToyRegatta$Fleet" "minute" "I") (by decide +kernel)) (fun _ h9 => h9) rfl dX1_copyFrom_57 ?_
        refine va_put (D := D) (ci := 2) (v := .int (v 0)) (ty := .int) (C := RX1) (T := TX1) (N := 5) hx hb hts iX1 tyX1 tyX1_ok nmX1 hown hK hP hD hS 0 rfl rfl 1 (by decide) (hts (.fieldLink RX1 30 "ToyRegatta$Fleet" "minute" "I") (by decide +kernel)) (fun _ h9 => h9) rfl (by decide +kernel) rfl rfl (Nat.le_of_ble_eq_true rfl) dX1_copyFrom_60 (fun H locs hP hD hS => ?_)
        have hP : va_P D vwCl ([q_fc fl al (upd u 0 (v 0)), q_ac al md ar n, q_fc fo ao v, q_ac ao me br n] ++ (q_tl (T 1) n ar ad G ++ q_tl (T 1) n br bd G)) H := hP
        have hD : va_D A ([q_fc fl al (upd u 0 (v 0)), q_ac al md ar n, q_fc fo ao v, q_ac ao me br n] ++ (q_tl (T 1) n ar ad G ++ q_tl (T 1) n br bd G)) := hD
        refine lv_aload_n hx hb dX1_copyFrom_63 rfl (lv_at hl 0 rfl) ?_
        refine lv_aload_n hx hb dX1_copyFrom_64 rfl (lv_at hl 1 rfl) ?_
        refine va_get (D := D) (ci := 2) (v := .int (v 1)) (C := RX1) (T := TX1) (N := 5) hx hb hts iX1 hown hK hP 2 rfl rfl 2 (by decide) (hts (.fieldLink RX1 34 "ToyRegatta$Fleet" "races" "I") (by decide +kernel)) (fun _ h9 => h9) rfl dX1_copyFrom_65 ?_
        refine va_put (D := D) (ci := 2) (v := .int (v 1)) (ty := .int) (C := RX1) (T := TX1) (N := 5) hx hb hts iX1 tyX1 tyX1_ok nmX1 hown hK hP hD hS 0 rfl rfl 2 (by decide) (hts (.fieldLink RX1 34 "ToyRegatta$Fleet" "races" "I") (by decide +kernel)) (fun _ h9 => h9) rfl (by decide +kernel) rfl rfl (Nat.le_of_ble_eq_true rfl) dX1_copyFrom_68 (fun H locs hP hD hS => ?_)
        have hP : va_P D vwCl ([q_fc fl al (upd (upd u 0 (v 0)) 1 (v 1)), q_ac al md ar n, q_fc fo ao v, q_ac ao me br n] ++ (q_tl (T 1) n ar ad G ++ q_tl (T 1) n br bd G)) H := hP
        have hD : va_D A ([q_fc fl al (upd (upd u 0 (v 0)) 1 (v 1)), q_ac al md ar n, q_fc fo ao v, q_ac ao me br n] ++ (q_tl (T 1) n ar ad G ++ q_tl (T 1) n br bd G)) := hD
        refine lv_aload_n hx hb dX1_copyFrom_71 rfl (lv_at hl 0 rfl) ?_
        refine lv_aload_n hx hb dX1_copyFrom_72 rfl (lv_at hl 1 rfl) ?_
        refine va_get (D := D) (ci := 2) (v := .int (v 2)) (C := RX1) (T := TX1) (N := 5) hx hb hts iX1 hown hK hP 2 rfl rfl 3 (by decide) (hts (.fieldLink RX1 37 "ToyRegatta$Fleet" "racing" "Z") (by decide +kernel)) (fun _ h9 => h9) rfl dX1_copyFrom_73 ?_
        refine va_put (D := D) (ci := 2) (v := .int (v 2)) (ty := .boolean) (C := RX1) (T := TX1) (N := 5) hx hb hts iX1 tyX1 tyX1_ok nmX1 hown hK hP hD hS 0 rfl rfl 3 (by decide) (hts (.fieldLink RX1 37 "ToyRegatta$Fleet" "racing" "Z") (by decide +kernel)) (fun _ h9 => h9) rfl (by decide +kernel) (q_nz hv) (q_fz hv) (Nat.le_of_ble_eq_true rfl) dX1_copyFrom_76 (fun H locs hP hD hS => ?_)
        have hP : va_P D vwCl ([q_fc fl al (upd (upd (upd u 0 (v 0)) 1 (v 1)) 2 (v 2)), q_ac al md ar n, q_fc fo ao v, q_ac ao me br n] ++ (q_tl (T 1) n ar ad G ++ q_tl (T 1) n br bd G)) H := hP
        have hD : va_D A ([q_fc fl al (upd (upd (upd u 0 (v 0)) 1 (v 1)) 2 (v 2)), q_ac al md ar n, q_fc fo ao v, q_ac ao me br n] ++ (q_tl (T 1) n ar ad G ++ q_tl (T 1) n br bd G)) := hD
        refine lv_aload_n hx hb dX1_copyFrom_79 rfl (lv_at hl 0 rfl) ?_
        refine lv_aload_n hx hb dX1_copyFrom_80 rfl (lv_at hl 1 rfl) ?_
        refine va_get (D := D) (ci := 2) (v := .int (v 3)) (C := RX1) (T := TX1) (N := 5) hx hb hts iX1 hown hK hP 2 rfl rfl 4 (by decide) (hts (.fieldLink RX1 41 "ToyRegatta$Fleet" "minutesRaced" "I") (by decide +kernel)) (fun _ h9 => h9) rfl dX1_copyFrom_81 ?_
        refine va_put (D := D) (ci := 2) (v := .int (v 3)) (ty := .int) (C := RX1) (T := TX1) (N := 5) hx hb hts iX1 tyX1 tyX1_ok nmX1 hown hK hP hD hS 0 rfl rfl 4 (by decide) (hts (.fieldLink RX1 41 "ToyRegatta$Fleet" "minutesRaced" "I") (by decide +kernel)) (fun _ h9 => h9) rfl (by decide +kernel) rfl rfl (Nat.le_of_ble_eq_true rfl) dX1_copyFrom_84 (fun H locs hP hD hS => ?_)
        have hP : va_P D vwCl ([q_fc fl al (upd (upd (upd (upd u 0 (v 0)) 1 (v 1)) 2 (v 2)) 3 (v 3)), q_ac al md ar n, q_fc fo ao v, q_ac ao me br n] ++ (q_tl (T 1) n ar ad G ++ q_tl (T 1) n br bd G)) H := hP
        have hD : va_D A ([q_fc fl al (upd (upd (upd (upd u 0 (v 0)) 1 (v 1)) 2 (v 2)) 3 (v 3)), q_ac al md ar n, q_fc fo ao v, q_ac ao me br n] ++ (q_tl (T 1) n ar ad G ++ q_tl (T 1) n br bd G)) := hD
        exact q_vret hx hb hr hlocks hP hK hD hS (Nat.le_of_ble_eq_true rfl) (Nat.le_of_ble_eq_true rfl) dX1_copyFrom_87 ⟨rfl, rfl⟩
      · have h9d := q_goon c_10 (by omega)
        refine lv_iload_n hx hb dX1_copyFrom_13 rfl (lv_at hl 2 rfl) ?_
        refine lv_aload_n hx hb dX1_copyFrom_14 rfl (lv_at hl 1 rfl) ?_
        refine va_get (D := D) (ci := 2) (v := .ref ao) (C := RX1) (T := TX1) (N := 5) hx hb hts iX1 hown hK hP 2 rfl rfl 0 (by decide) (hts (.fieldLink RX1 10 "ToyRegatta$Fleet" "boats" "Ljava/util/ArrayList;") (by decide +kernel)) (fun _ h9 => h9) rfl dX1_copyFrom_15 ?_
        refine q_callV (As := []) (rs := [.int (nI i)]) hC (c_AL_size l D T ao br n me) q_no_st q_no_at (cwV 0 hts gX1_copyFrom_Jx4a65c_size_8abf5 rfl rfl rfl (by decide +kernel) ⟨Nat.le_of_ble_eq_true rfl, Nat.le_of_ble_eq_true rfl⟩) (va_recv hK hP (ci := 0) (q0 := 3) rfl rfl) hK hP hD hS hA (q_mask [false, false, false, true] _) rfl hl.1 rfl (Nat.le_of_ble_eq_true rfl) dX1_copyFrom_18 ⟨(Nat.le_of_ble_eq_true rfl), (Nat.le_of_ble_eq_true rfl)⟩ (fun v9 C9 H locs hp hP hD hS => ?_)
        obtain ⟨rfl, rfl⟩ := hp
        have hP : va_P D vwCl ([q_fc fl al u, q_ac al md ar n, q_fc fo ao v, q_ac ao me br n] ++ (q_tl (T 1) n ar ad (q_upto i G F) ++ q_tl (T 1) n br bd G)) H := q_P_perm (q_mrg_perm [false, false, false, true] _ _) hP
        have hD : va_D A ([q_fc fl al u, q_ac al md ar n, q_fc fo ao v, q_ac ao me br n] ++ (q_tl (T 1) n ar ad (q_upto i G F) ++ q_tl (T 1) n br bd G)) := q_D_perm (q_mrg_perm [false, false, false, true] _ _) hD
        refine lv_icmp_ge (tgt := 55) hx hb dX1_copyFrom_21 (by decide) (fun c_21 => absurd c_21 (nI_ge h9d (by omega))) (fun c_21 => ?_)
        have hP : va_P D vwCl ([q_bc (ad i) (F i), q_bc (bd i) (G i), q_fc fl al u, q_ac al md ar n, q_fc fo ao v, q_ac ao me br n, q_arc (T 1) n ar ad, q_arc (T 1) n br bd] ++ (q_pl ((List.range n).erase i) ad (q_upto i G F) ++ q_pl ((List.range n).erase i) bd G)) H := q_P_perm (q_tlo2 _ h9d (q_upto_at i G F) rfl) hP
        have hD : va_D A ([q_bc (ad i) (F i), q_bc (bd i) (G i), q_fc fl al u, q_ac al md ar n, q_fc fo ao v, q_ac ao me br n, q_arc (T 1) n ar ad, q_arc (T 1) n br bd] ++ (q_pl ((List.range n).erase i) ad (q_upto i G F) ++ q_pl ((List.range n).erase i) bd G)) := q_D_perm (q_tlo2 _ h9d (q_upto_at i G F) rfl) hD
        refine lv_aload_n hx hb dX1_copyFrom_24 rfl (lv_at hl 0 rfl) ?_
        refine va_get (D := D) (ci := 2) (v := .ref al) (C := RX1) (T := TX1) (N := 5) hx hb hts iX1 hown hK hP 2 rfl rfl 0 (by decide) (hts (.fieldLink RX1 10 "ToyRegatta$Fleet" "boats" "Ljava/util/ArrayList;") (by decide +kernel)) (fun _ h9 => h9) rfl dX1_copyFrom_25 ?_
        refine lv_iload_n hx hb dX1_copyFrom_28 rfl (lv_at hl 2 rfl) ?_
        refine q_callV (As := [.int (nI i)]) (rs := []) hC (c_AL_get l D T al ar n i md ad h9d (by omega)) q_no_st q_no_at (cwV 1 hts gX1_copyFrom_Jx4a65c_get_915e3 rfl rfl rfl (by decide +kernel) ⟨Nat.le_of_ble_eq_true rfl, Nat.le_of_ble_eq_true rfl⟩) (va_recv hK hP (ci := 0) (q0 := 3) rfl rfl) hK hP hD hS hA (q_mask [false, false, false, true, false, false, true, false] _) rfl hl.1 rfl (Nat.le_of_ble_eq_true rfl) dX1_copyFrom_29 ⟨(Nat.le_of_ble_eq_true rfl), (Nat.le_of_ble_eq_true rfl)⟩ (fun v9 C9 H locs hp hP hD hS => ?_)
        obtain ⟨rfl, rfl⟩ := hp
        have hP : va_P D vwCl ([q_bc (ad i) (F i), q_bc (bd i) (G i), q_fc fl al u, q_ac al md ar n, q_fc fo ao v, q_ac ao me br n, q_arc (T 1) n ar ad, q_arc (T 1) n br bd] ++ (q_pl ((List.range n).erase i) ad (q_upto i G F) ++ q_pl ((List.range n).erase i) bd G)) H := q_P_perm (q_mrg_perm [false, false, false, true, false, false, true, false] _ _) hP
        have hD : va_D A ([q_bc (ad i) (F i), q_bc (bd i) (G i), q_fc fl al u, q_ac al md ar n, q_fc fo ao v, q_ac ao me br n, q_arc (T 1) n ar ad, q_arc (T 1) n br bd] ++ (q_pl ((List.range n).erase i) ad (q_upto i G F) ++ q_pl ((List.range n).erase i) bd G)) := q_D_perm (q_mrg_perm [false, false, false, true, false, false, true, false] _ _) hD
        refine va_castS hx hb hown (hts (.classLink RX1 24 "ToyRegatta$Boat") (by decide +kernel)) (hK.1 1 _ rfl).2 (va_recv hK hP (ci := 1) (q0 := 0) rfl rfl) dX1_copyFrom_32 ?_
        refine lv_aload_n hx hb dX1_copyFrom_35 rfl (lv_at hl 1 rfl) ?_
        refine va_get (D := D) (ci := 2) (v := .ref ao) (C := RX1) (T := TX1) (N := 5) hx hb hts iX1 hown hK hP 4 rfl rfl 0 (by decide) (hts (.fieldLink RX1 10 "ToyRegatta$Fleet" "boats" "Ljava/util/ArrayList;") (by decide +kernel)) (fun _ h9 => h9) rfl dX1_copyFrom_36 ?_
        refine lv_iload_n hx hb dX1_copyFrom_39 rfl (lv_at hl 2 rfl) ?_
        refine q_callV (As := [.int (nI i)]) (rs := [.ref (ad i)]) hC (c_AL_get l D T ao br n i me bd h9d (by omega)) q_no_st q_no_at (cwV 1 hts gX1_copyFrom_Jx4a65c_get_915e3 rfl rfl rfl (by decide +kernel) ⟨Nat.le_of_ble_eq_true rfl, Nat.le_of_ble_eq_true rfl⟩) (va_recv hK hP (ci := 0) (q0 := 5) rfl rfl) hK hP hD hS hA (q_mask [false, false, false, false, false, true, false, true] _) rfl hl.1 rfl (Nat.le_of_ble_eq_true rfl) dX1_copyFrom_40 ⟨(Nat.le_of_ble_eq_true rfl), (Nat.le_of_ble_eq_true rfl)⟩ (fun v9 C9 H locs hp hP hD hS => ?_)
        obtain ⟨rfl, rfl⟩ := hp
        have hP : va_P D vwCl ([q_bc (ad i) (F i), q_bc (bd i) (G i), q_fc fl al u, q_ac al md ar n, q_fc fo ao v, q_ac ao me br n, q_arc (T 1) n ar ad, q_arc (T 1) n br bd] ++ (q_pl ((List.range n).erase i) ad (q_upto i G F) ++ q_pl ((List.range n).erase i) bd G)) H := q_P_perm (q_mrg_perm [false, false, false, false, false, true, false, true] _ _) hP
        have hD : va_D A ([q_bc (ad i) (F i), q_bc (bd i) (G i), q_fc fl al u, q_ac al md ar n, q_fc fo ao v, q_ac ao me br n, q_arc (T 1) n ar ad, q_arc (T 1) n br bd] ++ (q_pl ((List.range n).erase i) ad (q_upto i G F) ++ q_pl ((List.range n).erase i) bd G)) := q_D_perm (q_mrg_perm [false, false, false, false, false, true, false, true] _ _) hD
        refine va_castS hx hb hown (hts (.classLink RX1 24 "ToyRegatta$Boat") (by decide +kernel)) (hK.1 1 _ rfl).2 (va_recv hK hP (ci := 1) (q0 := 1) rfl rfl) dX1_copyFrom_43 ?_
        refine q_callV (As := [.ref (bd i)]) (rs := []) hC (c_X0_copyFrom l D T (ad i) (bd i) (F i) (G i) (hG10 i h9d)) q_no_st q_no_at (cwV 1 hts gX1_copyFrom_X0_copyFrom rfl rfl rfl (by decide +kernel) ⟨Nat.le_of_ble_eq_true rfl, Nat.le_of_ble_eq_true rfl⟩) (va_recv hK hP (ci := 1) (q0 := 0) rfl rfl) hK hP hD hS hA (q_mask [true, true, false, false, false, false, false, false] _) rfl hl.1 rfl (Nat.le_of_ble_eq_true rfl) dX1_copyFrom_46 ⟨(Nat.le_of_ble_eq_true rfl), (Nat.le_of_ble_eq_true rfl)⟩ (fun v9 C9 H locs hp hP hD hS => ?_)
        obtain ⟨rfl, rfl⟩ := hp
        have hP : va_P D vwCl ([q_bc (ad i) (G i), q_bc (bd i) (G i), q_fc fl al u, q_ac al md ar n, q_fc fo ao v, q_ac ao me br n, q_arc (T 1) n ar ad, q_arc (T 1) n br bd] ++ (q_pl ((List.range n).erase i) ad (q_upto i G F) ++ q_pl ((List.range n).erase i) bd G)) H := q_P_perm (q_mrg_perm [true, true, false, false, false, false, false, false] _ _) hP
        have hD : va_D A ([q_bc (ad i) (G i), q_bc (bd i) (G i), q_fc fl al u, q_ac al md ar n, q_fc fo ao v, q_ac ao me br n, q_arc (T 1) n ar ad, q_arc (T 1) n br bd] ++ (q_pl ((List.range n).erase i) ad (q_upto i G F) ++ q_pl ((List.range n).erase i) bd G)) := q_D_perm (q_mrg_perm [true, true, false, false, false, false, false, false] _ _) hD
        refine lv_iinc (v := (nI (i + 1))) (lv' := [(2, .int (nI (i + 1))), (0, .ref fl), (1, .ref fo)]) hx hb dX1_copyFrom_49 hl (k := 2) rfl (nI_1 i) (by decide) rfl (fun ls hl => ?_)
        refine lv_goto (tgt := 2) hx hb dX1_copyFrom_52 (by decide) ?_
        have hP : va_P D vwCl ([q_fc fl al u, q_ac al md ar n, q_fc fo ao v, q_ac ao me br n] ++ (q_tl (T 1) n ar ad (q_upto (i + 1) G F) ++ q_tl (T 1) n br bd G)) H := q_P_perm (q_tls2 [q_fc fl al u, q_ac al md ar n, q_fc fo ao v, q_ac ao me br n] h9d (F := (q_upto i G F)) (q_upto_s i G F) rfl) hP
        have hD : va_D A ([q_fc fl al u, q_ac al md ar n, q_fc fo ao v, q_ac ao me br n] ++ (q_tl (T 1) n ar ad (q_upto (i + 1) G F) ++ q_tl (T 1) n br bd G)) := q_D_perm (q_tls2 [q_fc fl al u, q_ac al md ar n, q_fc fo ao v, q_ac ao me br n] h9d (F := (q_upto i G F)) (q_upto_s i G F) rfl) hD
        exact ih (i + 1) (by omega) (by omega)   _ _ ls hP hD hS (lv_sub hl [1, 2, 0] rfl)
  exact L2 (n + 1) 0 (by omega) (by omega)   _ _ ls hP hD hS (lv_sub hl [1, 2, 0] rfl)
