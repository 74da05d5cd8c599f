abbrev rmX5_finish : Room := { frames := 0, cells := 1, slots := 8, locals := 0 }
set_option maxHeartbeats 4000000 in
set_option maxRecDepth 100000 in
theorem c_X5_finish (l : Launch) (D : va_G) (T : Nat → ClassId) (si sw so sj : Nat) (len mi ra go : Int32) (n : Nat) (sd : Nat → Nat) (G : Nat → Nat → Int32) (hn : n ≤ 8) : q_M l D (q_ty T) yX5_finish wsX5_finish rmX5_finish [.ref si] ([q_sm si len sw so sj mi ra go, q_ra (T 3) so n sd] ++ q_gp q_sb (List.range n) sd G) q_no (fun v9 w9 => (∃ z, v9 = some (.int z)) ∧ w9 = ([q_sm si len sw so sj mi ra (-1), q_ra (T 3) so n sd] ++ q_gp q_sb (List.range n) sd (dEnd G n))) := by
  refine q_start (cc := cX5_finish) (maxL := 6) (ret := (some .int)) (by decide) rfl (Nat.le_of_ble_eq_true rfl) ?_
  intro p e s m args below meth c A H locs hx hb hr hts hown hlocks hml hnm hP hK hD hS hA hG ls hl
  have hown : s.vm.findClass RX5 = some m.cls := hown
  have hC : CallFix p m c cX5_finish 6 s args wsX5_finish RX5 := ⟨hx, hb, hml, hown, hts⟩
  have iX5 : ∀ w ∈ wsX50, w ∈ wsX5_finish := by decide +kernel
  have iX4 : ∀ w ∈ wsX40, w ∈ wsX5_finish := by decide +kernel
  have hl : lv_has ls 6 [(0, .ref si)] := hl
  refine lv_aload_n hx hb dX5_finish_0 rfl (lv_at hl 0 rfl) ?_
  refine lv_iconst (v := (-1)) hx hb dX5_finish_1 (by decide) ?_
  refine va_put (D := D) (ci := 6) (v := .int (-1)) (ty := .int) (C := RX5) (T := TX5) (N := 7) hx hb hts iX5 tyX5 tyX5_ok nmX5 hown hK hP hD hS 0 rfl rfl 6 (by decide) (hts (.fieldLink RX5 26 "ToyRegattaLaw$Sim" "gone" "I") (by decide +kernel)) (fun _ h9 => h9) rfl (by decide +kernel) rfl rfl (Nat.le_of_ble_eq_true rfl) dX5_finish_2 (fun H locs hP hD hS => ?_)
  have hP : va_P D vwCl ([q_sm si len sw so sj mi ra (-1), q_ra (T 3) so n sd] ++ q_gp q_sb (List.range n) sd G) H := hP
  have hD : va_D A ([q_sm si len sw so sj mi ra (-1), q_ra (T 3) so n sd] ++ q_gp q_sb (List.range n) sd G) := hD
  refine lv_iconst (v := (-1)) hx hb dX5_finish_5 (by decide) ?_
  refine lv_istore_n (lv' := [(1, .int (-1)), (0, .ref si)]) hx hb dX5_finish_6 rfl hl (by decide) rfl (fun ls hl => ?_)
  refine lv_aload_n hx hb dX5_finish_7 rfl (lv_at hl 1 rfl) ?_
  refine va_get (D := D) (ci := 6) (v := .ref so) (C := RX5) (T := TX5) (N := 7) hx hb hts iX5 hown hK hP 0 rfl rfl 2 (by decide) (hts (.fieldLink RX5 19 "ToyRegattaLaw$Sim" "boats" "[LToyRegattaLaw$Boat;") (by decide +kernel)) (fun _ h9 => h9) rfl dX5_finish_8 ?_
  refine va_alen (D := D) (v := nI n) hx hb hK hP 1 3 rfl rfl rfl dX5_finish_11 ?_
  refine q_newaZ (N := n) hx hb (hts (.arrayClass .boolean) (by decide +kernel)) hK hP hD hS hA (nI_pos (by omega)) (nI_clamp (by omega)) (by omega) (Nat.le_of_ble_eq_true rfl) (by show 0 + n ≤ 8; omega) dX5_finish_12 (fun q12 H hP hD hS => ?_)
  have hP : va_P D vwCl ([q_sm si len sw so sj mi ra (-1), q_ra (T 3) so n sd, (q12, .inl (T 2, n, .inl (fun _ => 0)))] ++ q_gp q_sb (List.range n) sd G) H := q_P_perm (q_apt _ _ _) hP
  have hD : va_D A ([q_sm si len sw so sj mi ra (-1), q_ra (T 3) so n sd, (q12, .inl (T 2, n, .inl (fun _ => 0)))] ++ q_gp q_sb (List.range n) sd G) := q_D_perm (q_apt _ _ _) hD
  refine lv_astore_n (lv' := [(2, .ref q12), (1, .int (-1)), (0, .ref si)]) hx hb dX5_finish_14 rfl hl (by decide) rfl (fun ls hl => ?_)
  refine lv_iconst (v := 0) hx hb dX5_finish_15 (by decide) ?_
  refine lv_istore_n (lv' := [(3, .int 0), (2, .ref q12), (1, .int (-1)), (0, .ref si)]) hx hb dX5_finish_16 rfl hl (by decide) rfl (fun ls hl => ?_)
  have L17 : ∀ (f9 i : Nat) (h9a : n < i + f9) (h9b : i ≤ n) (f1 : Int32) (M : Nat → Nat → Int32) (Dn : Nat → Int32) (h9c : sInv G n i M Dn) (H : Heap) (locs : List Loc) (ls : Array Slot), va_P D vwCl ([q_sm si len sw so sj mi ra (-1), q_ra (T 3) so n sd, (q12, .inl (T 2, n, .inl Dn))] ++ q_gp q_sb (List.range n) sd M) H → va_D A ([q_sm si len sw so sj mi ra (-1), q_ra (T 3) so n sd, (q12, .inl (T 2, n, .inl Dn))] ++ q_gp q_sb (List.range n) sd M) → va_S A s.heap H locs → lv_has ls 6 [(0, .ref si), (1, .int f1), (2, .ref q12), (3, .int (nI i))] → W p l e rmX5_finish s m args below meth c H locs (0 + 1) (0 + n) (q_E below D (q_ty T) (fun v9 w9 => (∃ z, v9 = some (.int z)) ∧ w9 = ([q_sm si len sw so sj mi ra (-1), q_ra (T 3) so n sd] ++ q_gp q_sb (List.range n) sd (dEnd G n))) A args s rmX5_finish) (F0 m 17 ls []) := by
    intro f9
    induction f9 with
    | zero => intro i h9a h9b; exact absurd h9a (by omega)
    | succ f9 ih17 =>
      intro i h9a h9b f1 M Dn h9c H locs ls hP hD hS hl
      refine lv_iload_n hx hb dX5_finish_17 rfl (lv_at hl 3 rfl) ?_
      refine lv_aload_n hx hb dX5_finish_18 rfl (lv_at hl 0 rfl) ?_
      refine va_get (D := D) (ci := 6) (v := .ref so) (C := RX5) (T := TX5) (N := 7) hx hb hts iX5 hown hK hP 0 rfl rfl 2 (by decide) (hts (.fieldLink RX5 19 "ToyRegattaLaw$Sim" "boats" "[LToyRegattaLaw$Boat;") (by decide +kernel)) (fun _ h9 => h9) rfl dX5_finish_19 ?_
      refine va_alen (D := D) (v := nI n) hx hb hK hP 1 3 rfl rfl rfl dX5_finish_22 ?_
      refine lv_icmp_ge (tgt := 199) hx hb dX5_finish_23 (by decide) (fun c_23 => ?_) (fun c_23 => ?_)
      · have h9d := (q_exit c_23 h9b (by omega)).symm
        subst h9d
        rw [q_gp_cn (F := M) (F' := dEnd G n) (h9c.fin (Or.inl rfl)).1] at hP hD
        have hP : va_P D vwCl ([q_sm si len sw so sj mi ra (-1), q_ra (T 3) so n sd, (q12, .inl (T 2, n, .inl Dn))] ++ q_gp q_sb (List.range n) sd (dEnd G n)) H := hP
        have hD : va_D A ([q_sm si len sw so sj mi ra (-1), q_ra (T 3) so n sd, (q12, .inl (T 2, n, .inl Dn))] ++ q_gp q_sb (List.range n) sd (dEnd G n)) := hD
        have hP : va_P D vwCl ([q_sm si len sw so sj mi ra (-1), q_ra (T 3) so n sd] ++ q_gp q_sb (List.range n) sd (dEnd G n)) H := q_P_right (q_P_perm (q_mask [false, false, true] _) hP)
        have hD : va_D A ([q_sm si len sw so sj mi ra (-1), q_ra (T 3) so n sd] ++ q_gp q_sb (List.range n) sd (dEnd G n)) := q_D_right (q_D_perm (q_mask [false, false, true] _) hD)
        refine lv_iload_n hx hb dX5_finish_199 rfl (lv_at hl 1 rfl) ?_
        exact q_iret hx hb hr hlocks hP hK hD hS (Nat.le_of_ble_eq_true rfl) (by show (0 + n) ≤ 8; omega) dX5_finish_200 ⟨⟨_, rfl⟩, rfl⟩
      · have h9d := q_goon c_23 (by omega)
        refine lv_iconst (v := (-1)) hx hb dX5_finish_26 (by decide) ?_
        refine lv_istore (lv' := [(4, .int (-1)), (0, .ref si), (1, .int f1), (2, .ref q12), (3, .int (nI i))]) hx hb dX5_finish_27 hl (by decide) rfl (fun ls hl => ?_)
        refine lv_iconst (v := 0) hx hb dX5_finish_29 (by decide) ?_
        refine lv_istore (lv' := [(5, .int 0), (4, .int (-1)), (0, .ref si), (1, .int f1), (2, .ref q12), (3, .int (nI i))]) hx hb dX5_finish_30 hl (by decide) rfl (fun ls hl => ?_)
        have L32 : ∀ (f9 k : Nat) (h9a : n < k + f9) (h9b : k ≤ n) (H : Heap) (locs : List Loc) (ls : Array Slot), va_P D vwCl ([q_sm si len sw so sj mi ra (-1), q_ra (T 3) so n sd, (q12, .inl (T 2, n, .inl Dn))] ++ q_gp q_sb (List.range n) sd M) H → va_D A ([q_sm si len sw so sj mi ra (-1), q_ra (T 3) so n sd, (q12, .inl (T 2, n, .inl Dn))] ++ q_gp q_sb (List.range n) sd M) → va_S A s.heap H locs → lv_has ls 6 [(0, .ref si), (1, .int f1), (2, .ref q12), (3, .int (nI i)), (4, .int (q_oi (sPk M Dn k))), (5, .int (nI k))] → W p l e rmX5_finish s m args below meth c H locs (0 + 1) (0 + n) (q_E below D (q_ty T) (fun v9 w9 => (∃ z, v9 = some (.int z)) ∧ w9 = ([q_sm si len sw so sj mi ra (-1), q_ra (T 3) so n sd] ++ q_gp q_sb (List.range n) sd (dEnd G n))) A args s rmX5_finish) (F0 m 32 ls []) := by
          intro f9
          induction f9 with
          | zero => intro k h9a h9b; exact absurd h9a (by omega)
          | succ f9 ih32 =>
            intro k h9a h9b   H locs ls hP hD hS hl
            refine lv_iload hx hb dX5_finish_32 (lv_at hl 5 rfl) ?_
            refine lv_aload_n hx hb dX5_finish_34 rfl (lv_at hl 0 rfl) ?_
            refine va_get (D := D) (ci := 6) (v := .ref so) (C := RX5) (T := TX5) (N := 7) hx hb hts iX5 hown hK hP 0 rfl rfl 2 (by decide) (hts (.fieldLink RX5 19 "ToyRegattaLaw$Sim" "boats" "[LToyRegattaLaw$Boat;") (by decide +kernel)) (fun _ h9 => h9) rfl dX5_finish_35 ?_
            refine va_alen (D := D) (v := nI n) hx hb hK hP 1 3 rfl rfl rfl dX5_finish_38 ?_
            refine lv_icmp_ge (tgt := 130) hx hb dX5_finish_39 (by decide) (fun c_39 => ?_) (fun c_39 => ?_)
            · have h9d := (q_exit c_39 h9b (by omega)).symm
              subst h9d
              cases h9o : sPk M Dn n with
              | none =>
                rw [h9o] at hl
                have hl : lv_has ls 6 [(0, .ref si), (1, .int f1), (2, .ref q12), (3, .int (nI i)), (4, .int (-1)), (5, .int (nI n))] := hl
                refine lv_iload hx hb dX5_finish_130 (lv_at hl 4 rfl) ?_
                refine lv_if_ge (tgt := 138) hx hb dX5_finish_132 (by decide) (fun c_132 => absurd c_132 (by decide)) (fun _ => ?_)
                refine lv_goto (tgt := 199) hx hb dX5_finish_135 (by decide) ?_
                rw [q_gp_cn (F := M) (F' := dEnd G n) (h9c.fin (Or.inr h9o)).1] at hP hD
                have hP : va_P D vwCl ([q_sm si len sw so sj mi ra (-1), q_ra (T 3) so n sd, (q12, .inl (T 2, n, .inl Dn))] ++ q_gp q_sb (List.range n) sd (dEnd G n)) H := hP
                have hD : va_D A ([q_sm si len sw so sj mi ra (-1), q_ra (T 3) so n sd, (q12, .inl (T 2, n, .inl Dn))] ++ q_gp q_sb (List.range n) sd (dEnd G n)) := hD
                have hP : va_P D vwCl ([q_sm si len sw so sj mi ra (-1), q_ra (T 3) so n sd] ++ q_gp q_sb (List.range n) sd (dEnd G n)) H := q_P_right (q_P_perm (q_mask [false, false, true] _) hP)
                have hD : va_D A ([q_sm si len sw so sj mi ra (-1), q_ra (T 3) so n sd] ++ q_gp q_sb (List.range n) sd (dEnd G n)) := q_D_right (q_D_perm (q_mask [false, false, true] _) hD)
                refine lv_iload_n hx hb dX5_finish_199 rfl (lv_at hl 1 rfl) ?_
                exact q_iret hx hb hr hlocks hP hK hD hS (Nat.le_of_ble_eq_true rfl) (by show (0 + n) ≤ 8; omega) dX5_finish_200 ⟨⟨_, rfl⟩, rfl⟩
              | some j9 =>
                have h9j : j9 < n := sPk_lt h9o
                have h9n : j9 < n := h9j
                rw [h9o] at hl
                have hl : lv_has ls 6 [(0, .ref si), (1, .int f1), (2, .ref q12), (3, .int (nI i)), (4, .int (nI j9)), (5, .int (nI n))] := hl
                refine lv_iload hx hb dX5_finish_130 (lv_at hl 4 rfl) ?_
                refine lv_if_ge (tgt := 138) hx hb dX5_finish_132 (by decide) (fun c_132 => ?_) (fun c_132 => absurd (nI_pos' (by omega)) c_132)
                refine lv_aload_n hx hb dX5_finish_138 rfl (lv_at hl 2 rfl) ?_
                refine lv_iload hx hb dX5_finish_139 (lv_at hl 4 rfl) ?_
                refine lv_iconst (v := 1) hx hb dX5_finish_141 (by decide) ?_
                refine va_zast (D := D) hx hb hK hP hD hS 2 2 rfl rfl (vp_in_nI h9n (by omega)) dX5_finish_142 (fun H locs hP hD hS => ?_)
                rw [show ((nI j9) : Int32).toNatClampNeg = j9 from (pk_cl j9 rfl (by omega))] at hP hD
                have hP : va_P D vwCl ([q_sm si len sw so sj mi ra (-1), q_ra (T 3) so n sd, (q12, .inl (T 2, n, .inl (upd Dn j9 1)))] ++ q_gp q_sb (List.range n) sd M) H := hP
                have hD : va_D A ([q_sm si len sw so sj mi ra (-1), q_ra (T 3) so n sd, (q12, .inl (T 2, n, .inl (upd Dn j9 1)))] ++ q_gp q_sb (List.range n) sd M) := hD
                refine lv_iload_n hx hb dX5_finish_143 rfl (lv_at hl 3 rfl) ?_
                refine lv_if_ne (tgt := 150) hx hb dX5_finish_144 (by decide) (fun c_144 => ?_) (fun c_144 => ?_)
                · have hP : va_P D vwCl ([q_sb (sd j9) (M j9), q_sm si len sw so sj mi ra (-1), q_ra (T 3) so n sd, (q12, .inl (T 2, n, .inl (upd Dn j9 1)))] ++ q_gp q_sb ((List.range n).erase j9) sd M) H := q_P_perm (q_gno _ h9n rfl) hP
                  have hD : va_D A ([q_sb (sd j9) (M j9), q_sm si len sw so sj mi ra (-1), q_ra (T 3) so n sd, (q12, .inl (T 2, n, .inl (upd Dn j9 1)))] ++ q_gp q_sb ((List.range n).erase j9) sd M) := q_D_perm (q_gno _ h9n rfl) hD
                  refine lv_aload_n hx hb dX5_finish_150 rfl (lv_at hl 0 rfl) ?_
                  refine va_get (D := D) (ci := 6) (v := .ref so) (C := RX5) (T := TX5) (N := 7) hx hb hts iX5 hown hK hP 1 rfl rfl 2 (by decide) (hts (.fieldLink RX5 19 "ToyRegattaLaw$Sim" "boats" "[LToyRegattaLaw$Boat;") (by decide +kernel)) (fun _ h9 => h9) rfl dX5_finish_151 ?_
                  refine lv_iload hx hb dX5_finish_154 (lv_at hl 4 rfl) ?_
                  refine va_aldq (D := D) hx hb hK hP 2 3 rfl rfl (vp_in_nI (N := n) h9n (by omega)) dX5_finish_156 ?_
                  rw [q_ref (n := n) (ad := sd) h9n (by omega)]
                  refine lv_dup hx hb dX5_finish_157 rfl ?_
                  refine va_get (D := D) (ci := 5) (v := .int ((M j9) 3)) (C := RX4) (T := TX4) (N := 10) hx hb hts iX4 hown hK hP 0 rfl rfl 3 (by decide) (hts (.fieldLink RX5 79 "ToyRegattaLaw$Boat" "points" "I") (by decide +kernel)) (fun _ h9 => h9) rfl dX5_finish_158 ?_
                  refine lv_iload_n hx hb dX5_finish_161 rfl (lv_at hl 3 rfl) ?_
                  refine lv_if_ne (tgt := 170) hx hb dX5_finish_162 (by decide) (fun c_162 => ?_) (fun c_162 => ?_)
                  · refine lv_iload_n hx hb dX5_finish_170 rfl (lv_at hl 3 rfl) ?_
                    refine lv_iconst (v := 1) hx hb dX5_finish_171 (by decide) ?_
                    refine lv_icmp_ne (tgt := 179) hx hb dX5_finish_172 (by decide) (fun c_172 => ?_) (fun c_172 => ?_)
                    · refine lv_iload_n hx hb dX5_finish_179 rfl (lv_at hl 3 rfl) ?_
                      refine lv_iconst (v := 2) hx hb dX5_finish_180 (by decide) ?_
                      refine lv_icmp_ne (tgt := 188) hx hb dX5_finish_181 (by decide) (fun c_181 => ?_) (fun c_181 => ?_)
                      · refine lv_iconst (v := 1) hx hb dX5_finish_188 (by decide) ?_
                        refine lv_iadd hx hb dX5_finish_189 ?_
                        refine va_put (D := D) (ci := 5) (v := .int (((M j9) 3) + 1)) (ty := .int) (C := RX4) (T := TX4) (N := 10) hx hb hts iX4 tyX4 tyX4_ok nmX4 hown hK hP hD hS 0 rfl rfl 3 (by decide) (hts (.fieldLink RX5 79 "ToyRegattaLaw$Boat" "points" "I") (by decide +kernel)) (fun _ h9 => h9) rfl (by decide +kernel) rfl rfl (Nat.le_of_ble_eq_true rfl) dX5_finish_190 (fun H locs hP hD hS => ?_)
                        have hP : va_P D vwCl ([q_sb (sd j9) (upd (M j9) 3 (((M j9) 3) + 1)), q_sm si len sw so sj mi ra (-1), q_ra (T 3) so n sd, (q12, .inl (T 2, n, .inl (upd Dn j9 1)))] ++ q_gp q_sb ((List.range n).erase j9) sd M) H := hP
                        have hD : va_D A ([q_sb (sd j9) (upd (M j9) 3 (((M j9) 3) + 1)), q_sm si len sw so sj mi ra (-1), q_ra (T 3) so n sd, (q12, .inl (T 2, n, .inl (upd Dn j9 1)))] ++ q_gp q_sb ((List.range n).erase j9) sd M) := hD
                        have hP : va_P D vwCl ([q_sb (sd j9) (upd (M j9) 3 (M j9 3 + bPts (nI i))), q_sm si len sw so sj mi ra (-1), q_ra (T 3) so n sd, (q12, .inl (T 2, n, .inl (upd Dn j9 1)))] ++ q_gp q_sb ((List.range n).erase j9) sd M) H := by rw [show bPts (nI i) = 1 from by simp only [bPts, if_neg c_162, if_neg c_172, if_neg c_181]]; exact hP
                        have hD : va_D A ([q_sb (sd j9) (upd (M j9) 3 (M j9 3 + bPts (nI i))), q_sm si len sw so sj mi ra (-1), q_ra (T 3) so n sd, (q12, .inl (T 2, n, .inl (upd Dn j9 1)))] ++ q_gp q_sb ((List.range n).erase j9) sd M) := by rw [show bPts (nI i) = 1 from by simp only [bPts, if_neg c_162, if_neg c_172, if_neg c_181]]; exact hD
                        have hP : va_P D vwCl ([q_sm si len sw so sj mi ra (-1), q_ra (T 3) so n sd, (q12, .inl (T 2, n, .inl (upd Dn j9 1)))] ++ q_gp q_sb (List.range n) sd (va_up M j9 (upd (M j9) 3 (M j9 3 + bPts (nI i))))) H := q_P_perm (q_gns [q_sm si len sw so sj mi ra (-1), q_ra (T 3) so n sd, (q12, .inl (T 2, n, .inl (upd Dn j9 1)))] h9n (F := M) rfl) hP
                        have hD : va_D A ([q_sm si len sw so sj mi ra (-1), q_ra (T 3) so n sd, (q12, .inl (T 2, n, .inl (upd Dn j9 1)))] ++ q_gp q_sb (List.range n) sd (va_up M j9 (upd (M j9) 3 (M j9 3 + bPts (nI i))))) := q_D_perm (q_gns [q_sm si len sw so sj mi ra (-1), q_ra (T 3) so n sd, (q12, .inl (T 2, n, .inl (upd Dn j9 1)))] h9n (F := M) rfl) hD
                        refine lv_iinc (v := (nI (i + 1))) (lv' := [(3, .int (nI (i + 1))), (0, .ref si), (1, .int f1), (2, .ref q12), (4, .int (nI j9)), (5, .int (nI n))]) hx hb dX5_finish_193 hl (k := 3) rfl (nI_1 i) (by decide) rfl (fun ls hl => ?_)
                        refine lv_goto (tgt := 17) hx hb dX5_finish_196 (by decide) ?_
                        exact ih17 (i + 1) (by omega) (by omega) _ _ _ (h9c.step hn h9o) _ _ ls hP hD hS (lv_sub hl [1, 2, 3, 0] rfl)
                      · refine lv_iconst (v := 3) hx hb dX5_finish_184 (by decide) ?_
                        refine lv_goto (tgt := 189) hx hb dX5_finish_185 (by decide) ?_
                        refine lv_iadd hx hb dX5_finish_189 ?_
                        refine va_put (D := D) (ci := 5) (v := .int (((M j9) 3) + 3)) (ty := .int) (C := RX4) (T := TX4) (N := 10) hx hb hts iX4 tyX4 tyX4_ok nmX4 hown hK hP hD hS 0 rfl rfl 3 (by decide) (hts (.fieldLink RX5 79 "ToyRegattaLaw$Boat" "points" "I") (by decide +kernel)) (fun _ h9 => h9) rfl (by decide +kernel) rfl rfl (Nat.le_of_ble_eq_true rfl) dX5_finish_190 (fun H locs hP hD hS => ?_)
                        have hP : va_P D vwCl ([q_sb (sd j9) (upd (M j9) 3 (((M j9) 3) + 3)), q_sm si len sw so sj mi ra (-1), q_ra (T 3) so n sd, (q12, .inl (T 2, n, .inl (upd Dn j9 1)))] ++ q_gp q_sb ((List.range n).erase j9) sd M) H := hP
                        have hD : va_D A ([q_sb (sd j9) (upd (M j9) 3 (((M j9) 3) + 3)), q_sm si len sw so sj mi ra (-1), q_ra (T 3) so n sd, (q12, .inl (T 2, n, .inl (upd Dn j9 1)))] ++ q_gp q_sb ((List.range n).erase j9) sd M) := hD
                        have hP : va_P D vwCl ([q_sb (sd j9) (upd (M j9) 3 (M j9 3 + bPts (nI i))), q_sm si len sw so sj mi ra (-1), q_ra (T 3) so n sd, (q12, .inl (T 2, n, .inl (upd Dn j9 1)))] ++ q_gp q_sb ((List.range n).erase j9) sd M) H := by rw [show bPts (nI i) = 3 from by simp only [bPts, if_neg c_162, if_neg c_172, if_pos c_181]]; exact hP
                        have hD : va_D A ([q_sb (sd j9) (upd (M j9) 3 (M j9 3 + bPts (nI i))), q_sm si len sw so sj mi ra (-1), q_ra (T 3) so n sd, (q12, .inl (T 2, n, .inl (upd Dn j9 1)))] ++ q_gp q_sb ((List.range n).erase j9) sd M) := by rw [show bPts (nI i) = 3 from by simp only [bPts, if_neg c_162, if_neg c_172, if_pos c_181]]; exact hD
                        have hP : va_P D vwCl ([q_sm si len sw so sj mi ra (-1), q_ra (T 3) so n sd, (q12, .inl (T 2, n, .inl (upd Dn j9 1)))] ++ q_gp q_sb (List.range n) sd (va_up M j9 (upd (M j9) 3 (M j9 3 + bPts (nI i))))) H := q_P_perm (q_gns [q_sm si len sw so sj mi ra (-1), q_ra (T 3) so n sd, (q12, .inl (T 2, n, .inl (upd Dn j9 1)))] h9n (F := M) rfl) hP
                        have hD : va_D A ([q_sm si len sw so sj mi ra (-1), q_ra (T 3) so n sd, (q12, .inl (T 2, n, .inl (upd Dn j9 1)))] ++ q_gp q_sb (List.range n) sd (va_up M j9 (upd (M j9) 3 (M j9 3 + bPts (nI i))))) := q_D_perm (q_gns [q_sm si len sw so sj mi ra (-1), q_ra (T 3) so n sd, (q12, .inl (T 2, n, .inl (upd Dn j9 1)))] h9n (F := M) rfl) hD
                        refine lv_iinc (v := (nI (i + 1))) (lv' := [(3, .int (nI (i + 1))), (0, .ref si), (1, .int f1), (2, .ref q12), (4, .int (nI j9)), (5, .int (nI n))]) hx hb dX5_finish_193 hl (k := 3) rfl (nI_1 i) (by decide) rfl (fun ls hl => ?_)
                        refine lv_goto (tgt := 17) hx hb dX5_finish_196 (by decide) ?_
                        exact ih17 (i + 1) (by omega) (by omega) _ _ _ (h9c.step hn h9o) _ _ ls hP hD hS (lv_sub hl [1, 2, 3, 0] rfl)
                    · refine lv_iconst (v := 5) hx hb dX5_finish_175 (by decide) ?_
                      refine lv_goto (tgt := 189) hx hb dX5_finish_176 (by decide) ?_
                      refine lv_iadd hx hb dX5_finish_189 ?_
                      refine va_put (D := D) (ci := 5) (v := .int (((M j9) 3) + 5)) (ty := .int) (C := RX4) (T := TX4) (N := 10) hx hb hts iX4 tyX4 tyX4_ok nmX4 hown hK hP hD hS 0 rfl rfl 3 (by decide) (hts (.fieldLink RX5 79 "ToyRegattaLaw$Boat" "points" "I") (by decide +kernel)) (fun _ h9 => h9) rfl (by decide +kernel) rfl rfl (Nat.le_of_ble_eq_true rfl) dX5_finish_190 (fun H locs hP hD hS => ?_)
                      have hP : va_P D vwCl ([q_sb (sd j9) (upd (M j9) 3 (((M j9) 3) + 5)), q_sm si len sw so sj mi ra (-1), q_ra (T 3) so n sd, (q12, .inl (T 2, n, .inl (upd Dn j9 1)))] ++ q_gp q_sb ((List.range n).erase j9) sd M) H := hP
                      have hD : va_D A ([q_sb (sd j9) (upd (M j9) 3 (((M j9) 3) + 5)), q_sm si len sw so sj mi ra (-1), q_ra (T 3) so n sd, (q12, .inl (T 2, n, .inl (upd Dn j9 1)))] ++ q_gp q_sb ((List.range n).erase j9) sd M) := hD
                      have hP : va_P D vwCl ([q_sb (sd j9) (upd (M j9) 3 (M j9 3 + bPts (nI i))), q_sm si len sw so sj mi ra (-1), q_ra (T 3) so n sd, (q12, .inl (T 2, n, .inl (upd Dn j9 1)))] ++ q_gp q_sb ((List.range n).erase j9) sd M) H := by rw [show bPts (nI i) = 5 from by simp only [bPts, if_neg c_162, if_pos c_172]]; exact hP
                      have hD : va_D A ([q_sb (sd j9) (upd (M j9) 3 (M j9 3 + bPts (nI i))), q_sm si len sw so sj mi ra (-1), q_ra (T 3) so n sd, (q12, .inl (T 2, n, .inl (upd Dn j9 1)))] ++ q_gp q_sb ((List.range n).erase j9) sd M) := by rw [show bPts (nI i) = 5 from by simp only [bPts, if_neg c_162, if_pos c_172]]; exact hD
                      have hP : va_P D vwCl ([q_sm si len sw so sj mi ra (-1), q_ra (T 3) so n sd, (q12, .inl (T 2, n, .inl (upd Dn j9 1)))] ++ q_gp q_sb (List.range n) sd (va_up M j9 (upd (M j9) 3 (M j9 3 + bPts (nI i))))) H := q_P_perm (q_gns [q_sm si len sw so sj mi ra (-1), q_ra (T 3) so n sd, (q12, .inl (T 2, n, .inl (upd Dn j9 1)))] h9n (F := M) rfl) hP
                      have hD : va_D A ([q_sm si len sw so sj mi ra (-1), q_ra (T 3) so n sd, (q12, .inl (T 2, n, .inl (upd Dn j9 1)))] ++ q_gp q_sb (List.range n) sd (va_up M j9 (upd (M j9) 3 (M j9 3 + bPts (nI i))))) := q_D_perm (q_gns [q_sm si len sw so sj mi ra (-1), q_ra (T 3) so n sd, (q12, .inl (T 2, n, .inl (upd Dn j9 1)))] h9n (F := M) rfl) hD
                      refine lv_iinc (v := (nI (i + 1))) (lv' := [(3, .int (nI (i + 1))), (0, .ref si), (1, .int f1), (2, .ref q12), (4, .int (nI j9)), (5, .int (nI n))]) hx hb dX5_finish_193 hl (k := 3) rfl (nI_1 i) (by decide) rfl (fun ls hl => ?_)
                      refine lv_goto (tgt := 17) hx hb dX5_finish_196 (by decide) ?_
                      exact ih17 (i + 1) (by omega) (by omega) _ _ _ (h9c.step hn h9o) _ _ ls hP hD hS (lv_sub hl [1, 2, 3, 0] rfl)
                  · refine lv_bipush (v := 8) hx hb dX5_finish_165 (by decide) ?_
                    refine lv_goto (tgt := 189) hx hb dX5_finish_167 (by decide) ?_
                    refine lv_iadd hx hb dX5_finish_189 ?_
                    refine va_put (D := D) (ci := 5) (v := .int (((M j9) 3) + 8)) (ty := .int) (C := RX4) (T := TX4) (N := 10) hx hb hts iX4 tyX4 tyX4_ok nmX4 hown hK hP hD hS 0 rfl rfl 3 (by decide) (hts (.fieldLink RX5 79 "ToyRegattaLaw$Boat" "points" "I") (by decide +kernel)) (fun _ h9 => h9) rfl (by decide +kernel) rfl rfl (Nat.le_of_ble_eq_true rfl) dX5_finish_190 (fun H locs hP hD hS => ?_)
                    have hP : va_P D vwCl ([q_sb (sd j9) (upd (M j9) 3 (((M j9) 3) + 8)), q_sm si len sw so sj mi ra (-1), q_ra (T 3) so n sd, (q12, .inl (T 2, n, .inl (upd Dn j9 1)))] ++ q_gp q_sb ((List.range n).erase j9) sd M) H := hP
                    have hD : va_D A ([q_sb (sd j9) (upd (M j9) 3 (((M j9) 3) + 8)), q_sm si len sw so sj mi ra (-1), q_ra (T 3) so n sd, (q12, .inl (T 2, n, .inl (upd Dn j9 1)))] ++ q_gp q_sb ((List.range n).erase j9) sd M) := hD
                    have hP : va_P D vwCl ([q_sb (sd j9) (upd (M j9) 3 (M j9 3 + bPts (nI i))), q_sm si len sw so sj mi ra (-1), q_ra (T 3) so n sd, (q12, .inl (T 2, n, .inl (upd Dn j9 1)))] ++ q_gp q_sb ((List.range n).erase j9) sd M) H := by rw [show bPts (nI i) = 8 from by simp only [bPts, if_pos c_162]]; exact hP
                    have hD : va_D A ([q_sb (sd j9) (upd (M j9) 3 (M j9 3 + bPts (nI i))), q_sm si len sw so sj mi ra (-1), q_ra (T 3) so n sd, (q12, .inl (T 2, n, .inl (upd Dn j9 1)))] ++ q_gp q_sb ((List.range n).erase j9) sd M) := by rw [show bPts (nI i) = 8 from by simp only [bPts, if_pos c_162]]; exact hD
                    have hP : va_P D vwCl ([q_sm si len sw so sj mi ra (-1), q_ra (T 3) so n sd, (q12, .inl (T 2, n, .inl (upd Dn j9 1)))] ++ q_gp q_sb (List.range n) sd (va_up M j9 (upd (M j9) 3 (M j9 3 + bPts (nI i))))) H := q_P_perm (q_gns [q_sm si len sw so sj mi ra (-1), q_ra (T 3) so n sd, (q12, .inl (T 2, n, .inl (upd Dn j9 1)))] h9n (F := M) rfl) hP
                    have hD : va_D A ([q_sm si len sw so sj mi ra (-1), q_ra (T 3) so n sd, (q12, .inl (T 2, n, .inl (upd Dn j9 1)))] ++ q_gp q_sb (List.range n) sd (va_up M j9 (upd (M j9) 3 (M j9 3 + bPts (nI i))))) := q_D_perm (q_gns [q_sm si len sw so sj mi ra (-1), q_ra (T 3) so n sd, (q12, .inl (T 2, n, .inl (upd Dn j9 1)))] h9n (F := M) rfl) hD
                    refine lv_iinc (v := (nI (i + 1))) (lv' := [(3, .int (nI (i + 1))), (0, .ref si), (1, .int f1), (2, .ref q12), (4, .int (nI j9)), (5, .int (nI n))]) hx hb dX5_finish_193 hl (k := 3) rfl (nI_1 i) (by decide) rfl (fun ls hl => ?_)
                    refine lv_goto (tgt := 17) hx hb dX5_finish_196 (by decide) ?_
                    exact ih17 (i + 1) (by omega) (by omega) _ _ _ (h9c.step hn h9o) _ _ ls hP hD hS (lv_sub hl [1, 2, 3, 0] rfl)
                · refine lv_iload hx hb dX5_finish_147 (lv_at hl 4 rfl) ?_
                  refine lv_istore_n (lv' := [(1, .int (nI j9)), (0, .ref si), (2, .ref q12), (3, .int (nI i)), (4, .int (nI j9)), (5, .int (nI n))]) hx hb dX5_finish_149 rfl hl (by decide) rfl (fun ls hl => ?_)
                  have hP : va_P D vwCl ([q_sb (sd j9) (M j9), q_sm si len sw so sj mi ra (-1), q_ra (T 3) so n sd, (q12, .inl (T 2, n, .inl (upd Dn j9 1)))] ++ q_gp q_sb ((List.range n).erase j9) sd M) H := q_P_perm (q_gno _ h9n rfl) hP
                  have hD : va_D A ([q_sb (sd j9) (M j9), q_sm si len sw so sj mi ra (-1), q_ra (T 3) so n sd, (q12, .inl (T 2, n, .inl (upd Dn j9 1)))] ++ q_gp q_sb ((List.range n).erase j9) sd M) := q_D_perm (q_gno _ h9n rfl) hD
                  refine lv_aload_n hx hb dX5_finish_150 rfl (lv_at hl 1 rfl) ?_
                  refine va_get (D := D) (ci := 6) (v := .ref so) (C := RX5) (T := TX5) (N := 7) hx hb hts iX5 hown hK hP 1 rfl rfl 2 (by decide) (hts (.fieldLink RX5 19 "ToyRegattaLaw$Sim" "boats" "[LToyRegattaLaw$Boat;") (by decide +kernel)) (fun _ h9 => h9) rfl dX5_finish_151 ?_
                  refine lv_iload hx hb dX5_finish_154 (lv_at hl 4 rfl) ?_
                  refine va_aldq (D := D) hx hb hK hP 2 3 rfl rfl (vp_in_nI (N := n) h9n (by omega)) dX5_finish_156 ?_
                  rw [q_ref (n := n) (ad := sd) h9n (by omega)]
                  refine lv_dup hx hb dX5_finish_157 rfl ?_
                  refine va_get (D := D) (ci := 5) (v := .int ((M j9) 3)) (C := RX4) (T := TX4) (N := 10) hx hb hts iX4 hown hK hP 0 rfl rfl 3 (by decide) (hts (.fieldLink RX5 79 "ToyRegattaLaw$Boat" "points" "I") (by decide +kernel)) (fun _ h9 => h9) rfl dX5_finish_158 ?_
                  refine lv_iload_n hx hb dX5_finish_161 rfl (lv_at hl 3 rfl) ?_
                  refine lv_if_ne (tgt := 170) hx hb dX5_finish_162 (by decide) (fun c_162 => ?_) (fun c_162 => ?_)
                  · refine lv_iload_n hx hb dX5_finish_170 rfl (lv_at hl 3 rfl) ?_
                    refine lv_iconst (v := 1) hx hb dX5_finish_171 (by decide) ?_
                    refine lv_icmp_ne (tgt := 179) hx hb dX5_finish_172 (by decide) (fun c_172 => ?_) (fun c_172 => ?_)
                    · refine lv_iload_n hx hb dX5_finish_179 rfl (lv_at hl 3 rfl) ?_
                      refine lv_iconst (v := 2) hx hb dX5_finish_180 (by decide) ?_
                      refine lv_icmp_ne (tgt := 188) hx hb dX5_finish_181 (by decide) (fun c_181 => ?_) (fun c_181 => ?_)
                      · refine lv_iconst (v := 1) hx hb dX5_finish_188 (by decide) ?_
                        refine lv_iadd hx hb dX5_finish_189 ?_
                        refine va_put (D := D) (ci := 5) (v := .int (((M j9) 3) + 1)) (ty := .int) (C := RX4) (T := TX4) (N := 10) hx hb hts iX4 tyX4 tyX4_ok nmX4 hown hK hP hD hS 0 rfl rfl 3 (by decide) (hts (.fieldLink RX5 79 "ToyRegattaLaw$Boat" "points" "I") (by decide +kernel)) (fun _ h9 => h9) rfl (by decide +kernel) rfl rfl (Nat.le_of_ble_eq_true rfl) dX5_finish_190 (fun H locs hP hD hS => ?_)
                        have hP : va_P D vwCl ([q_sb (sd j9) (upd (M j9) 3 (((M j9) 3) + 1)), q_sm si len sw so sj mi ra (-1), q_ra (T 3) so n sd, (q12, .inl (T 2, n, .inl (upd Dn j9 1)))] ++ q_gp q_sb ((List.range n).erase j9) sd M) H := hP
                        have hD : va_D A ([q_sb (sd j9) (upd (M j9) 3 (((M j9) 3) + 1)), q_sm si len sw so sj mi ra (-1), q_ra (T 3) so n sd, (q12, .inl (T 2, n, .inl (upd Dn j9 1)))] ++ q_gp q_sb ((List.range n).erase j9) sd M) := hD
                        have hP : va_P D vwCl ([q_sb (sd j9) (upd (M j9) 3 (M j9 3 + bPts (nI i))), q_sm si len sw so sj mi ra (-1), q_ra (T 3) so n sd, (q12, .inl (T 2, n, .inl (upd Dn j9 1)))] ++ q_gp q_sb ((List.range n).erase j9) sd M) H := by rw [show bPts (nI i) = 1 from by simp only [bPts, if_neg c_162, if_neg c_172, if_neg c_181]]; exact hP
                        have hD : va_D A ([q_sb (sd j9) (upd (M j9) 3 (M j9 3 + bPts (nI i))), q_sm si len sw so sj mi ra (-1), q_ra (T 3) so n sd, (q12, .inl (T 2, n, .inl (upd Dn j9 1)))] ++ q_gp q_sb ((List.range n).erase j9) sd M) := by rw [show bPts (nI i) = 1 from by simp only [bPts, if_neg c_162, if_neg c_172, if_neg c_181]]; exact hD
                        have hP : va_P D vwCl ([q_sm si len sw so sj mi ra (-1), q_ra (T 3) so n sd, (q12, .inl (T 2, n, .inl (upd Dn j9 1)))] ++ q_gp q_sb (List.range n) sd (va_up M j9 (upd (M j9) 3 (M j9 3 + bPts (nI i))))) H := q_P_perm (q_gns [q_sm si len sw so sj mi ra (-1), q_ra (T 3) so n sd, (q12, .inl (T 2, n, .inl (upd Dn j9 1)))] h9n (F := M) rfl) hP
                        have hD : va_D A ([q_sm si len sw so sj mi ra (-1), q_ra (T 3) so n sd, (q12, .inl (T 2, n, .inl (upd Dn j9 1)))] ++ q_gp q_sb (List.range n) sd (va_up M j9 (upd (M j9) 3 (M j9 3 + bPts (nI i))))) := q_D_perm (q_gns [q_sm si len sw so sj mi ra (-1), q_ra (T 3) so n sd, (q12, .inl (T 2, n, .inl (upd Dn j9 1)))] h9n (F := M) rfl) hD
                        refine lv_iinc (v := (nI (i + 1))) (lv' := [(3, .int (nI (i + 1))), (1, .int (nI j9)), (0, .ref si), (2, .ref q12), (4, .int (nI j9)), (5, .int (nI n))]) hx hb dX5_finish_193 hl (k := 3) rfl (nI_1 i) (by decide) rfl (fun ls hl => ?_)
                        refine lv_goto (tgt := 17) hx hb dX5_finish_196 (by decide) ?_
                        exact ih17 (i + 1) (by omega) (by omega) _ _ _ (h9c.step hn h9o) _ _ ls hP hD hS (lv_sub hl [2, 1, 3, 0] rfl)
                      · refine lv_iconst (v := 3) hx hb dX5_finish_184 (by decide) ?_
                        refine lv_goto (tgt := 189) hx hb dX5_finish_185 (by decide) ?_
                        refine lv_iadd hx hb dX5_finish_189 ?_
                        refine va_put (D := D) (ci := 5) (v := .int (((M j9) 3) + 3)) (ty := .int) (C := RX4) (T := TX4) (N := 10) hx hb hts iX4 tyX4 tyX4_ok nmX4 hown hK hP hD hS 0 rfl rfl 3 (by decide) (hts (.fieldLink RX5 79 "ToyRegattaLaw$Boat" "points" "I") (by decide +kernel)) (fun _ h9 => h9) rfl (by decide +kernel) rfl rfl (Nat.le_of_ble_eq_true rfl) dX5_finish_190 (fun H locs hP hD hS => ?_)
                        have hP : va_P D vwCl ([q_sb (sd j9) (upd (M j9) 3 (((M j9) 3) + 3)), q_sm si len sw so sj mi ra (-1), q_ra (T 3) so n sd, (q12, .inl (T 2, n, .inl (upd Dn j9 1)))] ++ q_gp q_sb ((List.range n).erase j9) sd M) H := hP
                        have hD : va_D A ([q_sb (sd j9) (upd (M j9) 3 (((M j9) 3) + 3)), q_sm si len sw so sj mi ra (-1), q_ra (T 3) so n sd, (q12, .inl (T 2, n, .inl (upd Dn j9 1)))] ++ q_gp q_sb ((List.range n).erase j9) sd M) := hD
                        have hP : va_P D vwCl ([q_sb (sd j9) (upd (M j9) 3 (M j9 3 + bPts (nI i))), q_sm si len sw so sj mi ra (-1), q_ra (T 3) so n sd, (q12, .inl (T 2, n, .inl (upd Dn j9 1)))] ++ q_gp q_sb ((List.range n).erase j9) sd M) H := by rw [show bPts (nI i) = 3 from by simp only [bPts, if_neg c_162, if_neg c_172, if_pos c_181]]; exact hP
                        have hD : va_D A ([q_sb (sd j9) (upd (M j9) 3 (M j9 3 + bPts (nI i))), q_sm si len sw so sj mi ra (-1), q_ra (T 3) so n sd, (q12, .inl (T 2, n, .inl (upd Dn j9 1)))] ++ q_gp q_sb ((List.range n).erase j9) sd M) := by rw [show bPts (nI i) = 3 from by simp only [bPts, if_neg c_162, if_neg c_172, if_pos c_181]]; exact hD
                        have hP : va_P D vwCl ([q_sm si len sw so sj mi ra (-1), q_ra (T 3) so n sd, (q12, .inl (T 2, n, .inl (upd Dn j9 1)))] ++ q_gp q_sb (List.range n) sd (va_up M j9 (upd (M j9) 3 (M j9 3 + bPts (nI i))))) H := q_P_perm (q_gns [q_sm si len sw so sj mi ra (-1), q_ra (T 3) so n sd, (q12, .inl (T 2, n, .inl (upd Dn j9 1)))] h9n (F := M) rfl) hP
                        have hD : va_D A ([q_sm si len sw so sj mi ra (-1), q_ra (T 3) so n sd, (q12, .inl (T 2, n, .inl (upd Dn j9 1)))] ++ q_gp q_sb (List.range n) sd (va_up M j9 (upd (M j9) 3 (M j9 3 + bPts (nI i))))) := q_D_perm (q_gns [q_sm si len sw so sj mi ra (-1), q_ra (T 3) so n sd, (q12, .inl (T 2, n, .inl (upd Dn j9 1)))] h9n (F := M) rfl) hD
                        refine lv_iinc (v := (nI (i + 1))) (lv' := [(3, .int (nI (i + 1))), (1, .int (nI j9)), (0, .ref si), (2, .ref q12), (4, .int (nI j9)), (5, .int (nI n))]) hx hb dX5_finish_193 hl (k := 3) rfl (nI_1 i) (by decide) rfl (fun ls hl => ?_)
                        refine lv_goto (tgt := 17) hx hb dX5_finish_196 (by decide) ?_
                        exact ih17 (i + 1) (by omega) (by omega) _ _ _ (h9c.step hn h9o) _ _ ls hP hD hS (lv_sub hl [2, 1, 3, 0] rfl)
                    · refine lv_iconst (v := 5) hx hb dX5_finish_175 (by decide) ?_
                      refine lv_goto (tgt := 189) hx hb dX5_finish_176 (by decide) ?_
                      refine lv_iadd hx hb dX5_finish_189 ?_
                      refine va_put (D := D) (ci := 5) (v := .int (((M j9) 3) + 5)) (ty := .int) (C := RX4) (T := TX4) (N := 10) hx hb hts iX4 tyX4 tyX4_ok nmX4 hown hK hP hD hS 0 rfl rfl 3 (by decide) (hts (.fieldLink RX5 79 "ToyRegattaLaw$Boat" "points" "I") (by decide +kernel)) (fun _ h9 => h9) rfl (by decide +kernel) rfl rfl (Nat.le_of_ble_eq_true rfl) dX5_finish_190 (fun H locs hP hD hS => ?_)
                      have hP : va_P D vwCl ([q_sb (sd j9) (upd (M j9) 3 (((M j9) 3) + 5)), q_sm si len sw so sj mi ra (-1), q_ra (T 3) so n sd, (q12, .inl (T 2, n, .inl (upd Dn j9 1)))] ++ q_gp q_sb ((List.range n).erase j9) sd M) H := hP
                      have hD : va_D A ([q_sb (sd j9) (upd (M j9) 3 (((M j9) 3) + 5)), q_sm si len sw so sj mi ra (-1), q_ra (T 3) so n sd, (q12, .inl (T 2, n, .inl (upd Dn j9 1)))] ++ q_gp q_sb ((List.range n).erase j9) sd M) := hD
                      have hP : va_P D vwCl ([q_sb (sd j9) (upd (M j9) 3 (M j9 3 + bPts (nI i))), q_sm si len sw so sj mi ra (-1), q_ra (T 3) so n sd, (q12, .inl (T 2, n, .inl (upd Dn j9 1)))] ++ q_gp q_sb ((List.range n).erase j9) sd M) H := by rw [show bPts (nI i) = 5 from by simp only [bPts, if_neg c_162, if_pos c_172]]; exact hP
                      have hD : va_D A ([q_sb (sd j9) (upd (M j9) 3 (M j9 3 + bPts (nI i))), q_sm si len sw so sj mi ra (-1), q_ra (T 3) so n sd, (q12, .inl (T 2, n, .inl (upd Dn j9 1)))] ++ q_gp q_sb ((List.range n).erase j9) sd M) := by rw [show bPts (nI i) = 5 from by simp only [bPts, if_neg c_162, if_pos c_172]]; exact hD
                      have hP : va_P D vwCl ([q_sm si len sw so sj mi ra (-1), q_ra (T 3) so n sd, (q12, .inl (T 2, n, .inl (upd Dn j9 1)))] ++ q_gp q_sb (List.range n) sd (va_up M j9 (upd (M j9) 3 (M j9 3 + bPts (nI i))))) H := q_P_perm (q_gns [q_sm si len sw so sj mi ra (-1), q_ra (T 3) so n sd, (q12, .inl (T 2, n, .inl (upd Dn j9 1)))] h9n (F := M) rfl) hP
                      have hD : va_D A ([q_sm si len sw so sj mi ra (-1), q_ra (T 3) so n sd, (q12, .inl (T 2, n, .inl (upd Dn j9 1)))] ++ q_gp q_sb (List.range n) sd (va_up M j9 (upd (M j9) 3 (M j9 3 + bPts (nI i))))) := q_D_perm (q_gns [q_sm si len sw so sj mi ra (-1), q_ra (T 3) so n sd, (q12, .inl (T 2, n, .inl (upd Dn j9 1)))] h9n (F := M) rfl) hD
                      refine lv_iinc (v := (nI (i + 1))) (lv' := [(3, .int (nI (i + 1))), (1, .int (nI j9)), (0, .ref si), (2, .ref q12), (4, .int (nI j9)), (5, .int (nI n))]) hx hb dX5_finish_193 hl (k := 3) rfl (nI_1 i) (by decide) rfl (fun ls hl => ?_)
                      refine lv_goto (tgt := 17) hx hb dX5_finish_196 (by decide) ?_
                      exact ih17 (i + 1) (by omega) (by omega) _ _ _ (h9c.step hn h9o) _ _ ls hP hD hS (lv_sub hl [2, 1, 3, 0] rfl)
                  · refine lv_bipush (v := 8) hx hb dX5_finish_165 (by decide) ?_
                    refine lv_goto (tgt := 189) hx hb dX5_finish_167 (by decide) ?_
                    refine lv_iadd hx hb dX5_finish_189 ?_
                    refine va_put (D := D) (ci := 5) (v := .int (((M j9) 3) + 8)) (ty := .int) (C := RX4) (T := TX4) (N := 10) hx hb hts iX4 tyX4 tyX4_ok nmX4 hown hK hP hD hS 0 rfl rfl 3 (by decide) (hts (.fieldLink RX5 79 "ToyRegattaLaw$Boat" "points" "I") (by decide +kernel)) (fun _ h9 => h9) rfl (by decide +kernel) rfl rfl (Nat.le_of_ble_eq_true rfl) dX5_finish_190 (fun H locs hP hD hS => ?_)
                    have hP : va_P D vwCl ([q_sb (sd j9) (upd (M j9) 3 (((M j9) 3) + 8)), q_sm si len sw so sj mi ra (-1), q_ra (T 3) so n sd, (q12, .inl (T 2, n, .inl (upd Dn j9 1)))] ++ q_gp q_sb ((List.range n).erase j9) sd M) H := hP
                    have hD : va_D A ([q_sb (sd j9) (upd (M j9) 3 (((M j9) 3) + 8)), q_sm si len sw so sj mi ra (-1), q_ra (T 3) so n sd, (q12, .inl (T 2, n, .inl (upd Dn j9 1)))] ++ q_gp q_sb ((List.range n).erase j9) sd M) := hD
                    have hP : va_P D vwCl ([q_sb (sd j9) (upd (M j9) 3 (M j9 3 + bPts (nI i))), q_sm si len sw so sj mi ra (-1), q_ra (T 3) so n sd, (q12, .inl (T 2, n, .inl (upd Dn j9 1)))] ++ q_gp q_sb ((List.range n).erase j9) sd M) H := by rw [show bPts (nI i) = 8 from by simp only [bPts, if_pos c_162]]; exact hP
                    have hD : va_D A ([q_sb (sd j9) (upd (M j9) 3 (M j9 3 + bPts (nI i))), q_sm si len sw so sj mi ra (-1), q_ra (T 3) so n sd, (q12, .inl (T 2, n, .inl (upd Dn j9 1)))] ++ q_gp q_sb ((List.range n).erase j9) sd M) := by rw [show bPts (nI i) = 8 from by simp only [bPts, if_pos c_162]]; exact hD
                    have hP : va_P D vwCl ([q_sm si len sw so sj mi ra (-1), q_ra (T 3) so n sd, (q12, .inl (T 2, n, .inl (upd Dn j9 1)))] ++ q_gp q_sb (List.range n) sd (va_up M j9 (upd (M j9) 3 (M j9 3 + bPts (nI i))))) H := q_P_perm (q_gns [q_sm si len sw so sj mi ra (-1), q_ra (T 3) so n sd, (q12, .inl (T 2, n, .inl (upd Dn j9 1)))] h9n (F := M) rfl) hP
                    have hD : va_D A ([q_sm si len sw so sj mi ra (-1), q_ra (T 3) so n sd, (q12, .inl (T 2, n, .inl (upd Dn j9 1)))] ++ q_gp q_sb (List.range n) sd (va_up M j9 (upd (M j9) 3 (M j9 3 + bPts (nI i))))) := q_D_perm (q_gns [q_sm si len sw so sj mi ra (-1), q_ra (T 3) so n sd, (q12, .inl (T 2, n, .inl (upd Dn j9 1)))] h9n (F := M) rfl) hD
                    refine lv_iinc (v := (nI (i + 1))) (lv' := [(3, .int (nI (i + 1))), (1, .int (nI j9)), (0, .ref si), (2, .ref q12), (4, .int (nI j9)), (5, .int (nI n))]) hx hb dX5_finish_193 hl (k := 3) rfl (nI_1 i) (by decide) rfl (fun ls hl => ?_)
                    refine lv_goto (tgt := 17) hx hb dX5_finish_196 (by decide) ?_
                    exact ih17 (i + 1) (by omega) (by omega) _ _ _ (h9c.step hn h9o) _ _ ls hP hD hS (lv_sub hl [2, 1, 3, 0] rfl)
            · have h9d := q_goon c_39 (by omega)
              have hP : va_P D vwCl ([q_sb (sd k) (M k), q_sm si len sw so sj mi ra (-1), q_ra (T 3) so n sd, (q12, .inl (T 2, n, .inl Dn))] ++ q_gp q_sb ((List.range n).erase k) sd M) H := q_P_perm (q_gno _ h9d rfl) hP
              have hD : va_D A ([q_sb (sd k) (M k), q_sm si len sw so sj mi ra (-1), q_ra (T 3) so n sd, (q12, .inl (T 2, n, .inl Dn))] ++ q_gp q_sb ((List.range n).erase k) sd M) := q_D_perm (q_gno _ h9d rfl) hD
              refine lv_aload_n hx hb dX5_finish_42 rfl (lv_at hl 2 rfl) ?_
              refine lv_iload hx hb dX5_finish_43 (lv_at hl 5 rfl) ?_
              refine va_zald (D := D) hx hb hK hP 3 2 rfl rfl (vp_in_nI h9d (by omega)) dX5_finish_45 ?_
              rw [show ((nI k) : Int32).toNatClampNeg = k from (pk_cl k rfl (by omega))]
              refine lv_if_ne (tgt := 124) hx hb dX5_finish_46 (by decide) (fun c_46 => ?_) (fun c_46 => ?_)
              · refine lv_iinc (v := (nI (k + 1))) (lv' := [(5, .int (nI (k + 1))), (0, .ref si), (1, .int f1), (2, .ref q12), (3, .int (nI i)), (4, .int (q_oi (sPk M Dn k)))]) hx hb dX5_finish_124 hl (k := 5) rfl (nI_1 k) (by decide) rfl (fun ls hl => ?_)
                refine lv_goto (tgt := 32) hx hb dX5_finish_127 (by decide) ?_
                have hP : va_P D vwCl ([q_sm si len sw so sj mi ra (-1), q_ra (T 3) so n sd, (q12, .inl (T 2, n, .inl Dn))] ++ q_gp q_sb (List.range n) sd M) H := q_P_perm (q_gns [q_sm si len sw so sj mi ra (-1), q_ra (T 3) so n sd, (q12, .inl (T 2, n, .inl Dn))] h9d (F := M) (q_up_id M k)) hP
                have hD : va_D A ([q_sm si len sw so sj mi ra (-1), q_ra (T 3) so n sd, (q12, .inl (T 2, n, .inl Dn))] ++ q_gp q_sb (List.range n) sd M) := q_D_perm (q_gns [q_sm si len sw so sj mi ra (-1), q_ra (T 3) so n sd, (q12, .inl (T 2, n, .inl Dn))] h9d (F := M) (q_up_id M k)) hD
                have e9 : (q_oi (sPk M Dn (k + 1))) = (q_oi (sPk M Dn k)) := congrArg q_oi (sPk_skip1 c_46)
                have hl : lv_has ls 6 [(5, .int (nI (k + 1))), (0, .ref si), (1, .int f1), (2, .ref q12), (3, .int (nI i)), (4, .int (q_oi (sPk M Dn (k + 1))))] := by rw [e9]; exact hl
                exact ih32 (k + 1) (by omega) (by omega)   _ _ ls hP hD hS (lv_sub hl [1, 2, 3, 4, 5, 0] rfl)
              · refine lv_aload_n hx hb dX5_finish_49 rfl (lv_at hl 0 rfl) ?_
                refine va_get (D := D) (ci := 6) (v := .ref so) (C := RX5) (T := TX5) (N := 7) hx hb hts iX5 hown hK hP 1 rfl rfl 2 (by decide) (hts (.fieldLink RX5 19 "ToyRegattaLaw$Sim" "boats" "[LToyRegattaLaw$Boat;") (by decide +kernel)) (fun _ h9 => h9) rfl dX5_finish_50 ?_
                refine lv_iload hx hb dX5_finish_53 (lv_at hl 5 rfl) ?_
                refine va_aldq (D := D) hx hb hK hP 2 3 rfl rfl (vp_in_nI (N := n) h9d (by omega)) dX5_finish_55 ?_
                rw [q_ref (n := n) (ad := sd) h9d (by omega)]
                refine va_get (D := D) (ci := 5) (v := .int ((M k) 9)) (C := RX4) (T := TX4) (N := 10) hx hb hts iX4 hown hK hP 0 rfl rfl 5 (by decide) (hts (.fieldLink RX5 43 "ToyRegattaLaw$Boat" "state" "I") (by decide +kernel)) (fun _ h9 => h9) rfl dX5_finish_56 ?_
                refine lv_iconst (v := 2) hx hb dX5_finish_59 (by decide) ?_
                refine lv_icmp_eq (tgt := 66) hx hb dX5_finish_60 (by decide) (fun c_60 => ?_) (fun c_60 => ?_)
                · cases h9o : sPk M Dn k with
                  | none =>
                    rw [h9o] at hl
                    have hl : lv_has ls 6 [(0, .ref si), (1, .int f1), (2, .ref q12), (3, .int (nI i)), (4, .int (-1)), (5, .int (nI k))] := hl
                    refine lv_iload hx hb dX5_finish_66 (lv_at hl 4 rfl) ?_
                    refine lv_if_lt (tgt := 120) hx hb dX5_finish_68 (by decide) (fun _ => ?_) (fun c_68 => absurd c_68 (by decide))
                    refine lv_iload hx hb dX5_finish_120 (lv_at hl 5 rfl) ?_
                    refine lv_istore (lv' := [(4, .int (nI k)), (0, .ref si), (1, .int f1), (2, .ref q12), (3, .int (nI i)), (5, .int (nI k))]) hx hb dX5_finish_122 hl (by decide) rfl (fun ls hl => ?_)
                    refine lv_iinc (v := (nI (k + 1))) (lv' := [(5, .int (nI (k + 1))), (4, .int (nI k)), (0, .ref si), (1, .int f1), (2, .ref q12), (3, .int (nI i))]) hx hb dX5_finish_124 hl (k := 5) rfl (nI_1 k) (by decide) rfl (fun ls hl => ?_)
                    refine lv_goto (tgt := 32) hx hb dX5_finish_127 (by decide) ?_
                    have hP : va_P D vwCl ([q_sm si len sw so sj mi ra (-1), q_ra (T 3) so n sd, (q12, .inl (T 2, n, .inl Dn))] ++ q_gp q_sb (List.range n) sd M) H := q_P_perm (q_gns [q_sm si len sw so sj mi ra (-1), q_ra (T 3) so n sd, (q12, .inl (T 2, n, .inl Dn))] h9d (F := M) (q_up_id M k)) hP
                    have hD : va_D A ([q_sm si len sw so sj mi ra (-1), q_ra (T 3) so n sd, (q12, .inl (T 2, n, .inl Dn))] ++ q_gp q_sb (List.range n) sd M) := q_D_perm (q_gns [q_sm si len sw so sj mi ra (-1), q_ra (T 3) so n sd, (q12, .inl (T 2, n, .inl Dn))] h9d (F := M) (q_up_id M k)) hD
                    have e9 : (q_oi (sPk M Dn (k + 1))) = (nI k) := congrArg q_oi (sPk_new c_46 c_60 h9o)
                    have hl : lv_has ls 6 [(5, .int (nI (k + 1))), (4, .int (q_oi (sPk M Dn (k + 1)))), (0, .ref si), (1, .int f1), (2, .ref q12), (3, .int (nI i))] := by rw [e9]; exact hl
                    exact ih32 (k + 1) (by omega) (by omega)   _ _ ls hP hD hS (lv_sub hl [2, 3, 4, 5, 1, 0] rfl)
                  | some j9 =>
                    have h9j : j9 < k := sPk_lt h9o
                    have h9n : j9 < n := Nat.lt_trans h9j h9d
                    rw [h9o] at hl
                    have hl : lv_has ls 6 [(0, .ref si), (1, .int f1), (2, .ref q12), (3, .int (nI i)), (4, .int (nI j9)), (5, .int (nI k))] := hl
                    refine lv_iload hx hb dX5_finish_66 (lv_at hl 4 rfl) ?_
                    refine lv_if_lt (tgt := 120) hx hb dX5_finish_68 (by decide) (fun c_68 => absurd c_68 (nI_pos (by omega))) (fun c_68 => ?_)
                    refine lv_aload_n hx hb dX5_finish_71 rfl (lv_at hl 0 rfl) ?_
                    refine va_get (D := D) (ci := 6) (v := .ref so) (C := RX5) (T := TX5) (N := 7) hx hb hts iX5 hown hK hP 1 rfl rfl 2 (by decide) (hts (.fieldLink RX5 19 "ToyRegattaLaw$Sim" "boats" "[LToyRegattaLaw$Boat;") (by decide +kernel)) (fun _ h9 => h9) rfl dX5_finish_72 ?_
                    refine lv_iload hx hb dX5_finish_75 (lv_at hl 5 rfl) ?_
                    refine va_aldq (D := D) hx hb hK hP 2 3 rfl rfl (vp_in_nI (N := n) h9d (by omega)) dX5_finish_77 ?_
                    rw [q_ref (n := n) (ad := sd) h9d (by omega)]
                    refine va_get (D := D) (ci := 5) (v := .int ((M k) 6)) (C := RX4) (T := TX4) (N := 10) hx hb hts iX4 hown hK hP 0 rfl rfl 7 (by decide) (hts (.fieldLink RX5 49 "ToyRegattaLaw$Boat" "time" "I") (by decide +kernel)) (fun _ h9 => h9) rfl dX5_finish_78 ?_
                    refine lv_iconst (v := 3) hx hb dX5_finish_81 (by decide) ?_
                    refine lv_aload_n hx hb dX5_finish_82 rfl (lv_at hl 0 rfl) ?_
                    refine va_get (D := D) (ci := 6) (v := .ref so) (C := RX5) (T := TX5) (N := 7) hx hb hts iX5 hown hK hP 1 rfl rfl 2 (by decide) (hts (.fieldLink RX5 19 "ToyRegattaLaw$Sim" "boats" "[LToyRegattaLaw$Boat;") (by decide +kernel)) (fun _ h9 => h9) rfl dX5_finish_83 ?_
                    refine lv_iload hx hb dX5_finish_86 (lv_at hl 5 rfl) ?_
                    refine va_aldq (D := D) hx hb hK hP 2 3 rfl rfl (vp_in_nI (N := n) h9d (by omega)) dX5_finish_88 ?_
                    rw [q_ref (n := n) (ad := sd) h9d (by omega)]
                    refine va_get (D := D) (ci := 5) (v := .int ((M k) 7)) (C := RX4) (T := TX4) (N := 10) hx hb hts iX4 hown hK hP 0 rfl rfl 8 (by decide) (hts (.fieldLink RX5 52 "ToyRegattaLaw$Boat" "fouls" "I") (by decide +kernel)) (fun _ h9 => h9) rfl dX5_finish_89 ?_
                    refine lv_imul hx hb dX5_finish_92 ?_
                    refine lv_iadd hx hb dX5_finish_93 ?_
                    have hP : va_P D vwCl ([q_sm si len sw so sj mi ra (-1), q_ra (T 3) so n sd, (q12, .inl (T 2, n, .inl Dn))] ++ q_gp q_sb (List.range n) sd M) H := q_P_perm (q_gns [q_sm si len sw so sj mi ra (-1), q_ra (T 3) so n sd, (q12, .inl (T 2, n, .inl Dn))] h9d (F := M) (q_up_id M k)) hP
                    have hD : va_D A ([q_sm si len sw so sj mi ra (-1), q_ra (T 3) so n sd, (q12, .inl (T 2, n, .inl Dn))] ++ q_gp q_sb (List.range n) sd M) := q_D_perm (q_gns [q_sm si len sw so sj mi ra (-1), q_ra (T 3) so n sd, (q12, .inl (T 2, n, .inl Dn))] h9d (F := M) (q_up_id M k)) hD
                    have hP : va_P D vwCl ([q_sb (sd j9) (M j9), q_sm si len sw so sj mi ra (-1), q_ra (T 3) so n sd, (q12, .inl (T 2, n, .inl Dn))] ++ q_gp q_sb ((List.range n).erase j9) sd M) H := q_P_perm (q_gno _ h9n rfl) hP
                    have hD : va_D A ([q_sb (sd j9) (M j9), q_sm si len sw so sj mi ra (-1), q_ra (T 3) so n sd, (q12, .inl (T 2, n, .inl Dn))] ++ q_gp q_sb ((List.range n).erase j9) sd M) := q_D_perm (q_gno _ h9n rfl) hD
                    refine lv_aload_n hx hb dX5_finish_94 rfl (lv_at hl 0 rfl) ?_
                    refine va_get (D := D) (ci := 6) (v := .ref so) (C := RX5) (T := TX5) (N := 7) hx hb hts iX5 hown hK hP 1 rfl rfl 2 (by decide) (hts (.fieldLink RX5 19 "ToyRegattaLaw$Sim" "boats" "[LToyRegattaLaw$Boat;") (by decide +kernel)) (fun _ h9 => h9) rfl dX5_finish_95 ?_
                    refine lv_iload hx hb dX5_finish_98 (lv_at hl 4 rfl) ?_
                    refine va_aldq (D := D) hx hb hK hP 2 3 rfl rfl (vp_in_nI (N := n) h9n (by omega)) dX5_finish_100 ?_
                    rw [q_ref (n := n) (ad := sd) h9n (by omega)]
                    refine va_get (D := D) (ci := 5) (v := .int ((M j9) 6)) (C := RX4) (T := TX4) (N := 10) hx hb hts iX4 hown hK hP 0 rfl rfl 7 (by decide) (hts (.fieldLink RX5 49 "ToyRegattaLaw$Boat" "time" "I") (by decide +kernel)) (fun _ h9 => h9) rfl dX5_finish_101 ?_
                    refine lv_iconst (v := 3) hx hb dX5_finish_104 (by decide) ?_
                    refine lv_aload_n hx hb dX5_finish_105 rfl (lv_at hl 0 rfl) ?_
                    refine va_get (D := D) (ci := 6) (v := .ref so) (C := RX5) (T := TX5) (N := 7) hx hb hts iX5 hown hK hP 1 rfl rfl 2 (by decide) (hts (.fieldLink RX5 19 "ToyRegattaLaw$Sim" "boats" "[LToyRegattaLaw$Boat;") (by decide +kernel)) (fun _ h9 => h9) rfl dX5_finish_106 ?_
                    refine lv_iload hx hb dX5_finish_109 (lv_at hl 4 rfl) ?_
                    refine va_aldq (D := D) hx hb hK hP 2 3 rfl rfl (vp_in_nI (N := n) h9n (by omega)) dX5_finish_111 ?_
                    rw [q_ref (n := n) (ad := sd) h9n (by omega)]
                    refine va_get (D := D) (ci := 5) (v := .int ((M j9) 7)) (C := RX4) (T := TX4) (N := 10) hx hb hts iX4 hown hK hP 0 rfl rfl 8 (by decide) (hts (.fieldLink RX5 52 "ToyRegattaLaw$Boat" "fouls" "I") (by decide +kernel)) (fun _ h9 => h9) rfl dX5_finish_112 ?_
                    refine lv_imul hx hb dX5_finish_115 ?_
                    refine lv_iadd hx hb dX5_finish_116 ?_
                    have hP : va_P D vwCl ([q_sm si len sw so sj mi ra (-1), q_ra (T 3) so n sd, (q12, .inl (T 2, n, .inl Dn))] ++ q_gp q_sb (List.range n) sd M) H := q_P_perm (q_gns [q_sm si len sw so sj mi ra (-1), q_ra (T 3) so n sd, (q12, .inl (T 2, n, .inl Dn))] h9n (F := M) (q_up_id M j9)) hP
                    have hD : va_D A ([q_sm si len sw so sj mi ra (-1), q_ra (T 3) so n sd, (q12, .inl (T 2, n, .inl Dn))] ++ q_gp q_sb (List.range n) sd M) := q_D_perm (q_gns [q_sm si len sw so sj mi ra (-1), q_ra (T 3) so n sd, (q12, .inl (T 2, n, .inl Dn))] h9n (F := M) (q_up_id M j9)) hD
                    refine lv_icmp_ge (tgt := 124) hx hb dX5_finish_117 (by decide) (fun c_117 => ?_) (fun c_117 => ?_)
                    · refine lv_iinc (v := (nI (k + 1))) (lv' := [(5, .int (nI (k + 1))), (0, .ref si), (1, .int f1), (2, .ref q12), (3, .int (nI i)), (4, .int (nI j9))]) hx hb dX5_finish_124 hl (k := 5) rfl (nI_1 k) (by decide) rfl (fun ls hl => ?_)
                      refine lv_goto (tgt := 32) hx hb dX5_finish_127 (by decide) ?_
                      have e9 : (q_oi (sPk M Dn (k + 1))) = (nI j9) := congrArg q_oi (sPk_not c_46 c_60 h9o (Int32.not_lt.mpr c_117))
                      have hl : lv_has ls 6 [(5, .int (nI (k + 1))), (0, .ref si), (1, .int f1), (2, .ref q12), (3, .int (nI i)), (4, .int (q_oi (sPk M Dn (k + 1))))] := by rw [e9]; exact hl
                      exact ih32 (k + 1) (by omega) (by omega)   _ _ ls hP hD hS (lv_sub hl [1, 2, 3, 4, 5, 0] rfl)
                    · refine lv_iload hx hb dX5_finish_120 (lv_at hl 5 rfl) ?_
                      refine lv_istore (lv' := [(4, .int (nI k)), (0, .ref si), (1, .int f1), (2, .ref q12), (3, .int (nI i)), (5, .int (nI k))]) hx hb dX5_finish_122 hl (by decide) rfl (fun ls hl => ?_)
                      refine lv_iinc (v := (nI (k + 1))) (lv' := [(5, .int (nI (k + 1))), (4, .int (nI k)), (0, .ref si), (1, .int f1), (2, .ref q12), (3, .int (nI i))]) hx hb dX5_finish_124 hl (k := 5) rfl (nI_1 k) (by decide) rfl (fun ls hl => ?_)
                      refine lv_goto (tgt := 32) hx hb dX5_finish_127 (by decide) ?_
                      have e9 : (q_oi (sPk M Dn (k + 1))) = (nI k) := congrArg q_oi (sPk_bet c_46 c_60 h9o (Int32.not_le.mp c_117))
                      have hl : lv_has ls 6 [(5, .int (nI (k + 1))), (4, .int (q_oi (sPk M Dn (k + 1)))), (0, .ref si), (1, .int f1), (2, .ref q12), (3, .int (nI i))] := by rw [e9]; exact hl
                      exact ih32 (k + 1) (by omega) (by omega)   _ _ ls hP hD hS (lv_sub hl [2, 3, 4, 5, 1, 0] rfl)
                · refine lv_goto (tgt := 124) hx hb dX5_finish_63 (by decide) ?_
                  refine lv_iinc (v := (nI (k + 1))) (lv' := [(5, .int (nI (k + 1))), (0, .ref si), (1, .int f1), (2, .ref q12), (3, .int (nI i)), (4, .int (q_oi (sPk M Dn k)))]) hx hb dX5_finish_124 hl (k := 5) rfl (nI_1 k) (by decide) rfl (fun ls hl => ?_)
                  refine lv_goto (tgt := 32) hx hb dX5_finish_127 (by decide) ?_
                  have hP : va_P D vwCl ([q_sm si len sw so sj mi ra (-1), q_ra (T 3) so n sd, (q12, .inl (T 2, n, .inl Dn))] ++ q_gp q_sb (List.range n) sd M) H := q_P_perm (q_gns [q_sm si len sw so sj mi ra (-1), q_ra (T 3) so n sd, (q12, .inl (T 2, n, .inl Dn))] h9d (F := M) (q_up_id M k)) hP
                  have hD : va_D A ([q_sm si len sw so sj mi ra (-1), q_ra (T 3) so n sd, (q12, .inl (T 2, n, .inl Dn))] ++ q_gp q_sb (List.range n) sd M) := q_D_perm (q_gns [q_sm si len sw so sj mi ra (-1), q_ra (T 3) so n sd, (q12, .inl (T 2, n, .inl Dn))] h9d (F := M) (q_up_id M k)) hD
                  have e9 : (q_oi (sPk M Dn (k + 1))) = (q_oi (sPk M Dn k)) := congrArg q_oi (sPk_skip2 c_60)
                  have hl : lv_has ls 6 [(5, .int (nI (k + 1))), (0, .ref si), (1, .int f1), (2, .ref q12), (3, .int (nI i)), (4, .int (q_oi (sPk M Dn (k + 1))))] := by rw [e9]; exact hl
                  exact ih32 (k + 1) (by omega) (by omega)   _ _ ls hP hD hS (lv_sub hl [1, 2, 3, 4, 5, 0] rfl)
        exact L32 (n + 1) 0 (by omega) (by omega)   _ _ ls hP hD hS (lv_sub hl [2, 3, 4, 5, 1, 0] rfl)
  exact L17 (n + 1) 0 (by omega) (by omega) (-1) G (fun _ => 0) (sInv.init G n) _ _ ls hP hD hS (lv_sub hl [3, 2, 1, 0] rfl)
