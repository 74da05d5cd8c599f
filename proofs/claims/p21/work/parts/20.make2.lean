
def q_fill (j : Nat) (v : Int32) (f : Nat → Int32) : Nat → Int32 := fun i => if i < j then v else f i
theorem q_fill_s (j : Nat) (v : Int32) (f : Nat → Int32) : upd (q_fill j v f) j v = q_fill (j + 1) v f := by
  funext i
  unfold upd q_fill
  by_cases h : i = j
  · subst h; rw [if_pos rfl, if_pos (by omega)]
  · rw [if_neg h]
    by_cases h2 : i < j
    · rw [if_pos h2, if_pos (by omega)]
    · rw [if_neg h2, if_neg (by omega)]
theorem q_fill_0 (v : Int32) (f : Nat → Int32) : q_fill 0 v f = f := by
  funext i
  unfold q_fill
  rw [if_neg (by omega)]
def q_cpj (ju : Nat → Int32) (k : Nat) : Nat → Int32 := fun j => if j < k then ju j else 0
theorem q_cpj_eq (ju : Nat → Int32) (k j : Nat) : va_cpy ju (fun _ => 0) 0 0 k j = q_cpj ju k j := by
  unfold va_cpy q_cpj
  by_cases h : j < k
  · rw [if_pos ⟨by omega, by omega⟩, if_pos h]
    congr 1
    omega
  · rw [if_neg (by omega), if_neg h]
/-- a new row of judges: the old ones, and one more -/
def q_jAdd (ju : Nat → Int32) (k : Nat) (x : Int32) : Nat → Int32 := upd (q_cpj ju k) k x

abbrev rmJ7_fill_53178 : Room := { frames := 0, cells := 0, slots := 0, locals := 0 }
set_option maxHeartbeats 1000000 in
set_option maxRecDepth 100000 in
theorem c_J7_fill (l : Launch) (D : va_G) (T : Nat → ClassId) (a n : Nat) (v : Int32) (f : Nat → Int32) (hn : n < 1000) : q_M l D (q_ty T) yJ7_fill_53178 wsJ7_fill_53178 rmJ7_fill_53178 [.ref a, .int v] [q_ia T a n f] q_no (q_is none [q_ia T a n (q_fill n v f)]) := by
  refine q_start (cc := cJ7_fill_53178) (maxL := 4) (ret := none) (by decide) rfl (Nat.le_of_ble_eq_true rfl) ?_
  intro p e s m args below meth c A H locs hx hb hr hts hown hlocks hml hnm hP hK hD hS hA hG ls hl
  have hown : s.vm.findClass RJ7 = some m.cls := hown
  have hC : CallFix p m c cJ7_fill_53178 4 s args wsJ7_fill_53178 RJ7 := ⟨hx, hb, hml, hown, hts⟩
  have hl : lv_has ls 4 [(0, .ref a), (1, .int v)] := hl
  refine lv_iconst (v := 0) hx hb dJ7_fill_53178_0 (by decide) ?_
  refine lv_istore_n (lv' := [(2, .int 0), (0, .ref a), (1, .int v)]) hx hb dJ7_fill_53178_1 rfl hl (by decide) rfl (fun ls hl => ?_)
  refine lv_aload_n hx hb dJ7_fill_53178_2 rfl (lv_at hl 1 rfl) ?_
  refine va_alen (D := D) (v := nI n) hx hb hK hP 0 0 rfl rfl rfl dJ7_fill_53178_3 ?_
  refine lv_istore_n (lv' := [(3, .int (nI n)), (2, .int 0), (0, .ref a), (1, .int v)]) hx hb dJ7_fill_53178_4 rfl hl (by decide) rfl (fun ls hl => ?_)
  have hP : va_P D vwCl [q_ia T a n (q_fill 0 v f)] H := by rw [q_fill_0]; exact hP
  have hD : va_D A [q_ia T a n (q_fill 0 v f)] := by rw [q_fill_0]; exact hD
  have hl : lv_has ls 4 [(3, .int (nI n)), (2, .int (nI 0)), (0, .ref a), (1, .int v)] := hl
  have L5 : ∀ (f9 j : Nat) (h9a : n < j + f9) (h9b : j ≤ n) (H : Heap) (locs : List Loc) (ls : Array Slot), va_P D vwCl [q_ia T a n (q_fill j v f)] H → va_D A [q_ia T a n (q_fill j v f)] → va_S A s.heap H locs → lv_has ls 4 [(0, .ref a), (1, .int v), (2, .int (nI j)), (3, .int (nI n))] → W p l e rmJ7_fill_53178 s m args below meth c H locs 0 0 (q_E below D (q_ty T) (q_is none [q_ia T a n (q_fill n v f)]) A args s rmJ7_fill_53178) (F0 m 5 ls []) := by
    intro f9
    induction f9 with
    | zero => intro j h9a h9b; exact absurd h9a (by omega)
    | succ f9 ih5 =>
      intro j h9a h9b   H locs ls hP hD hS hl
      refine lv_iload_n hx hb dJ7_fill_53178_5 rfl (lv_at hl 2 rfl) ?_
      refine lv_iload_n hx hb dJ7_fill_53178_6 rfl (lv_at hl 3 rfl) ?_
      refine lv_icmp_ge (tgt := 20) hx hb dJ7_fill_53178_7 (by decide) (fun c_7 => ?_) (fun c_7 => ?_)
      · have h9d := (q_exit c_7 h9b (by omega)).symm
        subst h9d
        exact q_vret hx hb hr hlocks hP hK hD hS (Nat.le_of_ble_eq_true rfl) (Nat.le_of_ble_eq_true rfl) dJ7_fill_53178_20 ⟨rfl, rfl⟩
      · have h9d := q_goon c_7 (by omega)
        refine lv_aload_n hx hb dJ7_fill_53178_10 rfl (lv_at hl 0 rfl) ?_
        refine lv_iload_n hx hb dJ7_fill_53178_11 rfl (lv_at hl 2 rfl) ?_
        refine lv_iload_n hx hb dJ7_fill_53178_12 rfl (lv_at hl 1 rfl) ?_
        refine va_iast (D := D) hx hb hK hP hD hS 0 0 rfl rfl (vp_in_nI h9d (by omega)) dJ7_fill_53178_13 (fun H locs hP hD hS => ?_)
        rw [show ((nI j) : Int32).toNatClampNeg = j from (pk_cl j rfl (by omega))] at hP hD
        have hP : va_P D vwCl [q_ia T a n (upd (q_fill j v f) j v)] H := hP
        have hD : va_D A [q_ia T a n (upd (q_fill j v f) j v)] := hD
        refine lv_iinc (v := (nI (j + 1))) (lv' := [(2, .int (nI (j + 1))), (0, .ref a), (1, .int v), (3, .int (nI n))]) hx hb dJ7_fill_53178_14 hl (k := 2) rfl (nI_1 j) (by decide) rfl (fun ls hl => ?_)
        refine lv_goto (tgt := 5) hx hb dJ7_fill_53178_17 (by decide) ?_
        have hP : va_P D vwCl [q_ia T a n (q_fill (j + 1) v f)] H := by rw [← q_fill_s]; exact hP
        have hD : va_D A [q_ia T a n (q_fill (j + 1) v f)] := by rw [← q_fill_s]; exact hD
        exact ih5 (j + 1) (by omega) (by omega)   _ _ ls hP hD hS (lv_sub hl [1, 2, 0, 3] rfl)
  exact L5 (n + 1) 0 (by omega) (by omega)   _ _ ls hP hD hS (lv_sub hl [2, 3, 1, 0] rfl)
abbrev rmJ7_copyOf_59c91 : Room := { frames := 1, cells := 1, slots := 4, locals := 40 }
set_option maxHeartbeats 1000000 in
set_option maxRecDepth 100000 in
theorem c_J7_copyOf (l : Launch) (D : va_G) (T : Nat → ClassId) (a k : Nat) (ju : Nat → Int32) (hk : k ≤ 3) : q_M l D (q_ty T) yJ7_copyOf_59c91 wsJ7_copyOf_59c91 rmJ7_copyOf_59c91 [.ref a, .int (nI (k + 1))] [q_ia T a k ju] q_no (fun v w => ∃ q, v = some (.ref q) ∧ w = [q_ia T a k ju, q_ia T q (k + 1) (q_cpj ju k)]) := by
  refine q_start (cc := cJ7_copyOf_59c91) (maxL := 3) (ret := (some (.array .int))) (by decide) rfl (Nat.le_of_ble_eq_true rfl) ?_
  intro p e s m args below meth c A H locs hx hb hr hts hown hlocks hml hnm hP hK hD hS hA hG ls hl
  have hown : s.vm.findClass RJ7 = some m.cls := hown
  have hC : CallFix p m c cJ7_copyOf_59c91 3 s args wsJ7_copyOf_59c91 RJ7 := ⟨hx, hb, hml, hown, hts⟩
  have hl : lv_has ls 3 [(0, .ref a), (1, .int (nI (k + 1)))] := hl
  refine lv_iload_n hx hb dJ7_copyOf_59c91_0 rfl (lv_at hl 1 rfl) ?_
  refine lv_aload_n hx hb dJ7_copyOf_59c91_1 rfl (lv_at hl 0 rfl) ?_
  refine va_alen (D := D) (v := nI k) hx hb hK hP 0 0 rfl rfl rfl dJ7_copyOf_59c91_2 ?_
  refine lv_icmp_ne (tgt := 14) hx hb dJ7_copyOf_59c91_3 (by decide) (fun c_3 => ?_) (fun c_3 => absurd c_3 (fun q => absurd ((nI_eq (by omega) (by omega)).mp q) (by omega)))
  refine lv_iload_n hx hb dJ7_copyOf_59c91_14 rfl (lv_at hl 1 rfl) ?_
  refine q_newaI (N := (k + 1)) hx hb (hts (.arrayClass .int) (by decide +kernel)) hK hP hD hS hA (nI_pos (by omega)) (nI_clamp (by omega)) (by omega) (Nat.le_of_ble_eq_true rfl) (by show 0 + (k + 1) ≤ 4; omega) dJ7_copyOf_59c91_15 (fun q15 H hP hD hS => ?_)
  have hP : va_P D vwCl [q_ia T a k ju, (q15, .inl (T 0, (k + 1), .inl (fun _ => 0)))] H := hP
  have hD : va_D A [q_ia T a k ju, (q15, .inl (T 0, (k + 1), .inl (fun _ => 0)))] := hD
  refine lv_astore_n (lv' := [(2, .ref q15), (0, .ref a), (1, .int (nI (k + 1)))]) hx hb dJ7_copyOf_59c91_17 rfl hl (by decide) rfl (fun ls hl => ?_)
  refine lv_aload_n hx hb dJ7_copyOf_59c91_18 rfl (lv_at hl 1 rfl) ?_
  refine lv_iconst (v := 0) hx hb dJ7_copyOf_59c91_19 (by decide) ?_
  refine lv_aload_n hx hb dJ7_copyOf_59c91_20 rfl (lv_at hl 0 rfl) ?_
  refine lv_iconst (v := 0) hx hb dJ7_copyOf_59c91_21 (by decide) ?_
  refine lv_aload_n hx hb dJ7_copyOf_59c91_22 rfl (lv_at hl 1 rfl) ?_
  refine va_alen (D := D) (v := nI k) hx hb hK hP 0 0 rfl rfl rfl dJ7_copyOf_59c91_23 ?_
  refine lv_iload_n hx hb dJ7_copyOf_59c91_24 rfl (lv_at hl 2 rfl) ?_
  refine va_mmin hx hb (hml.trans hl.1.symm) hown (hts (.methodLink RJ7 304 Lib.Math.min.name) (by decide +kernel)) (hts (.static Lib.Math.min.name) (by decide +kernel)) (hts (.initialized "java/lang/Math") (by decide +kernel)) (hts (.code Lib.Math.min.name Lib.Math.min.code 2 (some .int)) (by decide +kernel)) (Nat.le_of_ble_eq_true rfl) (Nat.le_of_ble_eq_true rfl) (Nat.le_of_ble_eq_true rfl) (by show (0 + (k + 1)) ≤ 4; omega) dJ7_copyOf_59c91_25 ?_
  refine W.eq (g2 := F0 m 28 ls [.int (nI k), .int 0, .ref q15, .int 0, .ref a]) (by rw [if_neg (nI_nlt (by omega) (by omega))] <;> rfl) ?_
  refine va_copyi (D := D) hx hb (hml.trans hl.1.symm) hown (hts (.methodLink RJ7 150 arraycopyName) (by decide +kernel)) (hts (.native arraycopyName) (by decide +kernel)) (hts (.static arraycopyName) (by decide +kernel)) (hts (.initialized "java/lang/System") (by decide +kernel)) hK hP hD hS 0 1 0 0 rfl rfl rfl rfl rfl (by decide) (by decide) (nI_pos (by omega)) (by rw [nI_clamp (by omega)]; show 0 + k ≤ k; omega) (by rw [nI_clamp (by omega)]; show 0 + k ≤ k + 1; omega) (fun _ _ => rfl) (Nat.le_of_ble_eq_true rfl) (Nat.le_of_ble_eq_true rfl) dJ7_copyOf_59c91_28 (fun H locs hP hD hS => ?_)
  rw [nI_clamp (by omega)] at hP hD
  have hP := q_ia_ext (k := 1) (n := k + 1) (g := q_cpj ju k) rfl (fun i hi => q_cpj_eq ju k i) hP
  have hD := hD.set (p := 1) (e := .inl (T 0, k + 1, .inl (q_cpj ju k))) rfl
  have hP : va_P D vwCl [q_ia T a k ju, q_ia T q15 (k + 1) (q_cpj ju k)] H := hP
  have hD : va_D A [q_ia T a k ju, q_ia T q15 (k + 1) (q_cpj ju k)] := hD
  refine lv_aload_n hx hb dJ7_copyOf_59c91_31 rfl (lv_at hl 0 rfl) ?_
  exact q_aret hx hb hr (Or.inr ⟨_, rfl⟩) hlocks hP hK hD hS (Nat.le_of_ble_eq_true rfl) (by show (0 + (k + 1)) ≤ 4; omega) dJ7_copyOf_59c91_32 ⟨q15, rfl, rfl⟩
abbrev rmX2_init : Room := { frames := 1, cells := 2, slots := 10, locals := 23 }
set_option maxHeartbeats 1000000 in
set_option maxRecDepth 100000 in
theorem c_X2_init (l : Launch) (D : va_G) (T : Nat → ClassId) (wa : Nat) : q_M l D (q_ty T) yX2_init wsX2_init rmX2_init [.ref wa] [(wa, .inr (3, [.int 0, .null, .null]))] q_no (fun v w => ∃ wi ja, v = none ∧ w = [q_wc wa 60 wi ja, q_ia T wi 10 (q_fill 10 4 (fun _ => 0)), q_ia T ja 0 (fun _ => 0)]) := by
  refine q_start (cc := cX2_init) (maxL := 1) (ret := none) (by decide) rfl (Nat.le_of_ble_eq_true rfl) ?_
  intro p e s m args below meth c A H locs hx hb hr hts hown hlocks hml hnm hP hK hD hS hA hG ls hl
  have hown : s.vm.findClass RX2 = some m.cls := hown
  have hC : CallFix p m c cX2_init 1 s args wsX2_init RX2 := ⟨hx, hb, hml, hown, hts⟩
  have iX2 : ∀ w ∈ wsX20, w ∈ wsX2_init := by decide +kernel
  have hl : lv_has ls 1 [(0, .ref wa)] := hl
  refine lv_aload_n hx hb dX2_init_0 rfl (lv_at hl 0 rfl) ?_
  refine W.objInit hx hb hown (hts (.methodLink RX2 1 objectInit) (by decide +kernel)) (hts (.instanceMethod objectInit) (by decide +kernel)) (hts (.code objectInit ⟨#[0xb1]⟩ 1 none) (by decide +kernel)) rfl (hl.1.trans hml.symm) rfl dX2_init_1 (Nat.le_of_ble_eq_true rfl) (Nat.le_of_ble_eq_true rfl) ?_
  refine W.eq (g2 := F0 m 4 ls []) rfl ?_
  refine lv_aload_n hx hb dX2_init_4 rfl (lv_at hl 0 rfl) ?_
  refine lv_bipush (v := 60) hx hb dX2_init_5 (by decide) ?_
  refine va_put (D := D) (ci := 3) (v := .int 60) (ty := .int) (C := RX2) (T := TX2) (N := 3) hx hb hts iX2 tyX2 tyX2_ok nmX2 hown hK hP hD hS 0 rfl rfl 0 (by decide) (hts (.fieldLink RX2 9 "ToyRegatta$Waters" "length" "I") (by decide +kernel)) (fun _ h9 => h9) rfl (by decide +kernel) rfl rfl (Nat.le_of_ble_eq_true rfl) dX2_init_7 (fun H locs hP hD hS => ?_)
  have hP : va_P D vwCl [(wa, .inr (3, [.int 60, .null, .null]))] H := hP
  have hD : va_D A [(wa, .inr (3, [.int 60, .null, .null]))] := hD
  refine lv_aload_n hx hb dX2_init_10 rfl (lv_at hl 0 rfl) ?_
  refine lv_bipush (v := 10) hx hb dX2_init_11 (by decide) ?_
  refine q_newaI (N := 10) hx hb (hts (.arrayClass .int) (by decide +kernel)) hK hP hD hS hA (by decide) (by decide) (by omega) (Nat.le_of_ble_eq_true rfl) (Nat.le_of_ble_eq_true rfl) dX2_init_13 (fun q13 H hP hD hS => ?_)
  have hP : va_P D vwCl [(wa, .inr (3, [.int 60, .null, .null])), (q13, .inl (T 0, 10, .inl (fun _ => 0)))] H := hP
  have hD : va_D A [(wa, .inr (3, [.int 60, .null, .null])), (q13, .inl (T 0, 10, .inl (fun _ => 0)))] := hD
  refine va_putF (D := D) (ci := 3) (v := .ref q13) (ty := (.array .int)) (C := RX2) (T := TX2) (N := 3) hx hb hts iX2 tyX2 tyX2_ok nmX2 hown hK hP hD hS 0 rfl rfl 1 (by decide) (hts (.fieldLink RX2 13 "ToyRegatta$Waters" "winds" "[I") (by decide +kernel)) (fun _ h9 => h9) rfl hnm rfl (by decide +kernel) rfl rfl (Nat.le_of_ble_eq_true rfl) dX2_init_15 (fun H locs hP hD hS => ?_)
  have hP : va_P D vwCl [(wa, .inr (3, [.int 60, .ref q13, .null])), (q13, .inl (T 0, 10, .inl (fun _ => 0)))] H := hP
  have hD : va_D A [(wa, .inr (3, [.int 60, .ref q13, .null])), (q13, .inl (T 0, 10, .inl (fun _ => 0)))] := hD
  refine lv_aload_n hx hb dX2_init_18 rfl (lv_at hl 0 rfl) ?_
  refine va_get (D := D) (ci := 3) (v := .ref q13) (C := RX2) (T := TX2) (N := 3) hx hb hts iX2 hown hK hP 0 rfl rfl 1 (by decide) (hts (.fieldLink RX2 13 "ToyRegatta$Waters" "winds" "[I") (by decide +kernel)) (fun _ h9 => h9) rfl dX2_init_19 ?_
  refine lv_iconst (v := 4) hx hb dX2_init_22 (by decide) ?_
  refine q_callS (As := [.ref q13, .int 4]) (rs := []) hC (c_J7_fill l D T q13 10 4 (fun _ => 0) (by decide)) q_no_st q_no_at (va_cwS 2 hts gX2_init_J7_fill_53178 rfl rfl rfl (by decide +kernel) ⟨Nat.le_of_ble_eq_true rfl, Nat.le_of_ble_eq_true rfl⟩) hK hP hD hS hA (q_mask [false, true] _) rfl hl.1 rfl (Nat.le_of_ble_eq_true rfl) dX2_init_23 ⟨(Nat.le_of_ble_eq_true rfl), (Nat.le_of_ble_eq_true rfl)⟩ (fun v9 C9 H locs hp hP hD hS => ?_)
  obtain ⟨rfl, rfl⟩ := hp
  have hP : va_P D vwCl [(wa, .inr (3, [.int 60, .ref q13, .null])), q_ia T q13 10 (q_fill 10 4 (fun _ => 0))] H := q_P_perm (q_mrg_perm [false, true] _ _) hP
  have hD : va_D A [(wa, .inr (3, [.int 60, .ref q13, .null])), q_ia T q13 10 (q_fill 10 4 (fun _ => 0))] := q_D_perm (q_mrg_perm [false, true] _ _) hD
  refine lv_aload_n hx hb dX2_init_26 rfl (lv_at hl 0 rfl) ?_
  refine lv_iconst (v := 0) hx hb dX2_init_27 (by decide) ?_
  refine q_newaI (N := 0) hx hb (hts (.arrayClass .int) (by decide +kernel)) hK hP hD hS hA (by decide) (by decide) (by omega) (Nat.le_of_ble_eq_true rfl) (Nat.le_of_ble_eq_true rfl) dX2_init_28 (fun q28 H hP hD hS => ?_)
  have hP : va_P D vwCl [(wa, .inr (3, [.int 60, .ref q13, .null])), q_ia T q13 10 (q_fill 10 4 (fun _ => 0)), (q28, .inl (T 0, 0, .inl (fun _ => 0)))] H := hP
  have hD : va_D A [(wa, .inr (3, [.int 60, .ref q13, .null])), q_ia T q13 10 (q_fill 10 4 (fun _ => 0)), (q28, .inl (T 0, 0, .inl (fun _ => 0)))] := hD
  refine va_put (D := D) (ci := 3) (v := .ref q28) (ty := (.array .int)) (C := RX2) (T := TX2) (N := 3) hx hb hts iX2 tyX2 tyX2_ok nmX2 hown hK hP hD hS 0 rfl rfl 2 (by decide) (hts (.fieldLink RX2 23 "ToyRegatta$Waters" "judges" "[I") (by decide +kernel)) (fun _ h9 => h9) rfl (by decide +kernel) rfl rfl (Nat.le_of_ble_eq_true rfl) dX2_init_30 (fun H locs hP hD hS => ?_)
  have hP : va_P D vwCl [(wa, .inr (3, [.int 60, .ref q13, .ref q28])), q_ia T q13 10 (q_fill 10 4 (fun _ => 0)), (q28, .inl (T 0, 0, .inl (fun _ => 0)))] H := hP
  have hD : va_D A [(wa, .inr (3, [.int 60, .ref q13, .ref q28])), q_ia T q13 10 (q_fill 10 4 (fun _ => 0)), (q28, .inl (T 0, 0, .inl (fun _ => 0)))] := hD
  exact q_vret hx hb hr hlocks hP hK hD hS (Nat.le_of_ble_eq_true rfl) (Nat.le_of_ble_eq_true rfl) dX2_init_33 ⟨q13, q28, rfl, rfl⟩
abbrev rmX2_addJudge : Room := { frames := 2, cells := 1, slots := 4, locals := 62 }
theorem q_perm3 {α : Type} (a b c : α) : [a, b, c].Perm [c, a, b] := by
  have h := List.perm_append_comm (l₁ := [a, b]) (l₂ := [c])
  exact h
set_option maxHeartbeats 1000000 in
set_option maxRecDepth 100000 in
theorem c_X2_addJudge (l : Launch) (D : va_G) (T : Nat → ClassId) (wa wi ja k : Nat) (len x : Int32) (ju : Nat → Int32) (hk : k < 3) : q_M l D (q_ty T) yX2_addJudge wsX2_addJudge rmX2_addJudge [.ref wa, .int x] [q_wc wa len wi ja, q_ia T ja k ju] q_no (fun v w => ∃ q, v = none ∧ w = [q_wc wa len wi q, q_ia T ja k ju, q_ia T q (k + 1) (q_jAdd ju k x)]) := by
  refine q_start (cc := cX2_addJudge) (maxL := 3) (ret := none) (by decide) rfl (Nat.le_of_ble_eq_true rfl) ?_
  intro p e s m args below meth c A H locs hx hb hr hts hown hlocks hml hnm hP hK hD hS hA hG ls hl
  have hown : s.vm.findClass RX2 = some m.cls := hown
  have hC : CallFix p m c cX2_addJudge 3 s args wsX2_addJudge RX2 := ⟨hx, hb, hml, hown, hts⟩
  have iX2 : ∀ w ∈ wsX20, w ∈ wsX2_addJudge := by decide +kernel
  have hl : lv_has ls 3 [(0, .ref wa), (1, .int x)] := hl
  refine lv_aload_n hx hb dX2_addJudge_0 rfl (lv_at hl 0 rfl) ?_
  refine va_get (D := D) (ci := 3) (v := .ref ja) (C := RX2) (T := TX2) (N := 3) hx hb hts iX2 hown hK hP 0 rfl rfl 2 (by decide) (hts (.fieldLink RX2 23 "ToyRegatta$Waters" "judges" "[I") (by decide +kernel)) (fun _ h9 => h9) rfl dX2_addJudge_1 ?_
  refine va_alen (D := D) (v := nI k) hx hb hK hP 1 0 rfl rfl rfl dX2_addJudge_4 ?_
  refine lv_istore_n (lv' := [(2, .int (nI k)), (0, .ref wa), (1, .int x)]) hx hb dX2_addJudge_5 rfl hl (by decide) rfl (fun ls hl => ?_)
  refine lv_aload_n hx hb dX2_addJudge_6 rfl (lv_at hl 1 rfl) ?_
  refine lv_aload_n hx hb dX2_addJudge_7 rfl (lv_at hl 1 rfl) ?_
  refine va_get (D := D) (ci := 3) (v := .ref ja) (C := RX2) (T := TX2) (N := 3) hx hb hts iX2 hown hK hP 0 rfl rfl 2 (by decide) (hts (.fieldLink RX2 23 "ToyRegatta$Waters" "judges" "[I") (by decide +kernel)) (fun _ h9 => h9) rfl dX2_addJudge_8 ?_
  refine lv_iload_n hx hb dX2_addJudge_11 rfl (lv_at hl 0 rfl) ?_
  refine lv_iconst (v := 1) hx hb dX2_addJudge_12 (by decide) ?_
  refine lv_iadd hx hb dX2_addJudge_13 ?_
  refine W.eq (g2 := F0 m 14 ls [.int (nI (k + 1)), .ref ja, .ref wa]) (by rw [← nI_1] <;> rfl) ?_
  refine q_callS (As := [.ref ja, .int (nI (k + 1))]) (rs := [.ref wa]) hC (c_J7_copyOf l D T ja k ju (by omega)) q_no_st q_no_at (va_cwS 2 hts gX2_addJudge_J7_copyOf_59c91 rfl rfl rfl (by decide +kernel) ⟨Nat.le_of_ble_eq_true rfl, Nat.le_of_ble_eq_true rfl⟩) hK hP hD hS hA (q_mask [false, true] _) rfl hl.1 rfl (Nat.le_of_ble_eq_true rfl) dX2_addJudge_14 ⟨(Nat.le_of_ble_eq_true rfl), (Nat.le_of_ble_eq_true rfl)⟩ (fun v9 C9 H locs hp hP hD hS => ?_)
  obtain ⟨q, rfl, rfl⟩ := hp
  have hP : va_P D vwCl [q_ia T ja k ju, q_ia T q (k + 1) (q_cpj ju k), q_wc wa len wi ja] H := q_P_perm (List.Perm.refl _) hP
  have hD : va_D A [q_ia T ja k ju, q_ia T q (k + 1) (q_cpj ju k), q_wc wa len wi ja] := q_D_perm (List.Perm.refl _) hD
  refine va_put (D := D) (ci := 3) (v := .ref q) (ty := (.array .int)) (C := RX2) (T := TX2) (N := 3) hx hb hts iX2 tyX2 tyX2_ok nmX2 hown hK hP hD hS 2 rfl rfl 2 (by decide) (hts (.fieldLink RX2 23 "ToyRegatta$Waters" "judges" "[I") (by decide +kernel)) (fun _ h9 => h9) rfl (by decide +kernel) rfl rfl (Nat.le_of_ble_eq_true rfl) dX2_addJudge_17 (fun H locs hP hD hS => ?_)
  have hP : va_P D vwCl [q_ia T ja k ju, q_ia T q (k + 1) (q_cpj ju k), q_wc wa len wi q] H := hP
  have hD : va_D A [q_ia T ja k ju, q_ia T q (k + 1) (q_cpj ju k), q_wc wa len wi q] := hD
  refine lv_aload_n hx hb dX2_addJudge_20 rfl (lv_at hl 1 rfl) ?_
  refine va_get (D := D) (ci := 3) (v := .ref q) (C := RX2) (T := TX2) (N := 3) hx hb hts iX2 hown hK hP 2 rfl rfl 2 (by decide) (hts (.fieldLink RX2 23 "ToyRegatta$Waters" "judges" "[I") (by decide +kernel)) (fun _ h9 => h9) rfl dX2_addJudge_21 ?_
  refine lv_iload_n hx hb dX2_addJudge_24 rfl (lv_at hl 0 rfl) ?_
  refine lv_iload_n hx hb dX2_addJudge_25 rfl (lv_at hl 2 rfl) ?_
  refine va_iast (D := D) hx hb hK hP hD hS 1 0 rfl rfl (vp_in_nI (by omega) (by omega)) dX2_addJudge_26 (fun H locs hP hD hS => ?_)
  rw [show ((nI k) : Int32).toNatClampNeg = k from (pk_cl k rfl (by omega))] at hP hD
  have hP : va_P D vwCl [q_ia T ja k ju, q_ia T q (k + 1) (upd (q_cpj ju k) k x), q_wc wa len wi q] H := hP
  have hD : va_D A [q_ia T ja k ju, q_ia T q (k + 1) (upd (q_cpj ju k) k x), q_wc wa len wi q] := hD
  have hP : va_P D vwCl [q_wc wa len wi q, q_ia T ja k ju, q_ia T q (k + 1) (q_jAdd ju k x)] H := q_P_perm (q_perm3 _ _ _) hP
  have hD : va_D A [q_wc wa len wi q, q_ia T ja k ju, q_ia T q (k + 1) (q_jAdd ju k x)] := q_D_perm (q_perm3 _ _ _) hD
  exact q_vret hx hb hr hlocks hP hK hD hS (Nat.le_of_ble_eq_true rfl) (Nat.le_of_ble_eq_true rfl) dX2_addJudge_27 ⟨q, rfl, rfl⟩
abbrev rmX1_init : Room := { frames := 4, cells := 1, slots := 3, locals := 80 }
set_option maxHeartbeats 1000000 in
set_option maxRecDepth 100000 in
theorem c_X1_init (l : Launch) (D : va_G) (T : Nat → ClassId) (fl e0 : Nat) : q_M l D (q_ty T) yX1_init wsX1_init rmX1_init [.ref fl] [(fl, .inr (2, [.null, .int 0, .int 0, .int 0, .int 0]))] (q_gE e0) (fun v w => ∃ al, v = none ∧ w = [q_fc fl al (fun _ => 0), q_ac al 0 e0 0]) := by
  refine q_start (cc := cX1_init) (maxL := 1) (ret := none) (by decide) rfl (Nat.le_of_ble_eq_true rfl) ?_
  intro p e s m args below meth c A H locs hx hb hr hts hown hlocks hml hnm hP hK hD hS hA hG ls hl
  have hown : s.vm.findClass RX1 = some m.cls := hown
  have hC : CallFix p m c cX1_init 1 s args wsX1_init RX1 := ⟨hx, hb, hml, hown, hts⟩
  have iX1 : ∀ w ∈ wsX10, w ∈ wsX1_init := by decide +kernel
  have iJx4a65c : ∀ w ∈ wsJx4a65c0, w ∈ wsX1_init := by decide +kernel
  have hl : lv_has ls 1 [(0, .ref fl)] := hl
  refine lv_aload_n hx hb dX1_init_0 rfl (lv_at hl 0 rfl) ?_
  refine W.objInit hx hb hown (hts (.methodLink RX1 1 objectInit) (by decide +kernel)) (hts (.instanceMethod objectInit) (by decide +kernel)) (hts (.code objectInit ⟨#[0xb1]⟩ 1 none) (by decide +kernel)) rfl (hl.1.trans hml.symm) rfl dX1_init_1 (Nat.le_of_ble_eq_true rfl) (Nat.le_of_ble_eq_true rfl) ?_
  refine W.eq (g2 := F0 m 4 ls []) rfl ?_
  refine lv_aload_n hx hb dX1_init_4 rfl (lv_at hl 0 rfl) ?_
  refine va_new (D := D) (ci := 0) (fs := [.int 0, .null, .int 0]) (C := RJx4a65c) (T := TJx4a65c) (N := 3) hx hb hts iJx4a65c tyJx4a65c tyJx4a65c_ok hown (hts (.classLink RX1 7 RJx4a65c) (by decide +kernel)) (hts (.instantiable RJx4a65c 3) (by decide +kernel)) (hts (.initialized RJx4a65c) (by decide +kernel)) hK hP hD hS hA rfl (fun j hj => by rcases (show j = 0 ∨ j = 1 ∨ j = 2 by omega) with rfl | rfl | rfl <;> rfl) (Nat.le_of_ble_eq_true rfl) (Nat.le_of_ble_eq_true rfl) dX1_init_5 (fun q5 H hP hD hS => ?_)
  have hP : va_P D vwCl [(fl, .inr (2, [.null, .int 0, .int 0, .int 0, .int 0])), (q5, .inr (0, [.int 0, .null, .int 0]))] H := hP
  have hD : va_D A [(fl, .inr (2, [.null, .int 0, .int 0, .int 0, .int 0])), (q5, .inr (0, [.int 0, .null, .int 0]))] := hD
  refine lv_dup hx hb dX1_init_8 rfl ?_
  refine q_callI (As := []) (rs := [.ref q5, .ref fl]) hC (c_AL_init l D T q5 e0) (q_gE_st e0) (q_gE_at hG hD hS hA (q_mask [false, true] _)) (cwI 0 hts gX1_init_Jx4a65c_init_da8c8 rfl rfl rfl (hts (.initialized RJx4a65c) (by decide +kernel)) (hts (.methodLink RX1 9 yJx4a65c_init_da8c8) (by decide +kernel)) (hts (.instanceMethod yJx4a65c_init_da8c8) (by decide +kernel)) rfl (by decide +kernel) ⟨Nat.le_of_ble_eq_true rfl, Nat.le_of_ble_eq_true rfl⟩) hK hP hD hS hA (q_mask [false, true] _) rfl hl.1 rfl (Nat.le_of_ble_eq_true rfl) dX1_init_9 ⟨(Nat.le_of_ble_eq_true rfl), (Nat.le_of_ble_eq_true rfl)⟩ (fun v9 C9 H locs hp hP hD hS => ?_)
  obtain ⟨rfl, rfl⟩ := hp
  have hP : va_P D vwCl [(fl, .inr (2, [.null, .int 0, .int 0, .int 0, .int 0])), q_ac q5 0 e0 0] H := q_P_perm (q_mrg_perm [false, true] _ _) hP
  have hD : va_D A [(fl, .inr (2, [.null, .int 0, .int 0, .int 0, .int 0])), q_ac q5 0 e0 0] := q_D_perm (q_mrg_perm [false, true] _ _) hD
  refine va_putF (D := D) (ci := 2) (v := .ref q5) (ty := (.object "java/util/ArrayList")) (C := RX1) (T := TX1) (N := 5) hx hb hts iX1 tyX1 tyX1_ok nmX1 hown hK hP hD hS 0 rfl rfl 0 (by decide) (hts (.fieldLink RX1 10 "ToyRegatta$Fleet" "boats" "Ljava/util/ArrayList;") (by decide +kernel)) (fun _ h9 => h9) rfl hnm rfl (by decide +kernel) rfl rfl (Nat.le_of_ble_eq_true rfl) dX1_init_12 (fun H locs hP hD hS => ?_)
  have hP : va_P D vwCl [(fl, .inr (2, [.ref q5, .int 0, .int 0, .int 0, .int 0])), q_ac q5 0 e0 0] H := hP
  have hD : va_D A [(fl, .inr (2, [.ref q5, .int 0, .int 0, .int 0, .int 0])), q_ac q5 0 e0 0] := hD
  exact q_vret hx hb hr hlocks hP hK hD hS (Nat.le_of_ble_eq_true rfl) (Nat.le_of_ble_eq_true rfl) dX1_init_15 ⟨q5, rfl, rfl⟩
abbrev q_xc (x W fl tf tb : Nat) : Nat × va_E := (x, .inr (4, [.ref W, .ref fl, .ref tf, .ref tb]))
abbrev rmX3_init : Room := { frames := 5, cells := 8, slots := 40, locals := 100 }
set_option maxHeartbeats 1000000 in
set_option maxRecDepth 100000 in
theorem c_X3_init (l : Launch) (D : va_G) (T : Nat → ClassId) (x e0 : Nat) : q_M l D (q_ty T) yX3_init wsX3_init rmX3_init [.ref x] [(x, .inr (4, [.null, .null, .null, .null]))] (q_gE e0) (fun v w => ∃ W wi ja fl al tf ta tb, v = none ∧ w.Perm [q_xc x W fl tf tb, q_wc W 60 wi ja, q_ia T wi 10 (q_fill 10 4 (fun _ => 0)), q_ia T ja 0 (fun _ => 0), q_fc fl al (fun _ => 0), q_ac al 0 e0 0, q_fc tf ta (fun _ => 0), q_ac ta 0 e0 0, q_bc tb (bNew 1 0)]) := by
  refine q_start (cc := cX3_init) (maxL := 1) (ret := none) (by decide) rfl (Nat.le_of_ble_eq_true rfl) ?_
  intro p e s m args below meth c A H locs hx hb hr hts hown hlocks hml hnm hP hK hD hS hA hG ls hl
  have hown : s.vm.findClass RX3 = some m.cls := hown
  have hC : CallFix p m c cX3_init 1 s args wsX3_init RX3 := ⟨hx, hb, hml, hown, hts⟩
  have iX3 : ∀ w ∈ wsX30, w ∈ wsX3_init := by decide +kernel
  have iX2 : ∀ w ∈ wsX20, w ∈ wsX3_init := by decide +kernel
  have iX1 : ∀ w ∈ wsX10, w ∈ wsX3_init := by decide +kernel
  have iX0 : ∀ w ∈ wsX00, w ∈ wsX3_init := by decide +kernel
  have hl : lv_has ls 1 [(0, .ref x)] := hl
  refine lv_aload_n hx hb dX3_init_0 rfl (lv_at hl 0 rfl) ?_
  refine W.objInit hx hb hown (hts (.methodLink RX3 1 objectInit) (by decide +kernel)) (hts (.instanceMethod objectInit) (by decide +kernel)) (hts (.code objectInit ⟨#[0xb1]⟩ 1 none) (by decide +kernel)) rfl (hl.1.trans hml.symm) rfl dX3_init_1 (Nat.le_of_ble_eq_true rfl) (Nat.le_of_ble_eq_true rfl) ?_
  refine W.eq (g2 := F0 m 4 ls []) rfl ?_
  refine lv_aload_n hx hb dX3_init_4 rfl (lv_at hl 0 rfl) ?_
  refine va_new (D := D) (ci := 3) (fs := [.int 0, .null, .null]) (C := RX2) (T := TX2) (N := 3) hx hb hts iX2 tyX2 tyX2_ok hown (hts (.classLink RX3 7 RX2) (by decide +kernel)) (hts (.instantiable RX2 3) (by decide +kernel)) (hts (.initialized RX2) (by decide +kernel)) hK hP hD hS hA rfl (fun j hj => by rcases (show j = 0 ∨ j = 1 ∨ j = 2 by omega) with rfl | rfl | rfl <;> rfl) (Nat.le_of_ble_eq_true rfl) (Nat.le_of_ble_eq_true rfl) dX3_init_5 (fun q5 H hP hD hS => ?_)
  have hP : va_P D vwCl [(x, .inr (4, [.null, .null, .null, .null])), (q5, .inr (3, [.int 0, .null, .null]))] H := hP
  have hD : va_D A [(x, .inr (4, [.null, .null, .null, .null])), (q5, .inr (3, [.int 0, .null, .null]))] := hD
  refine lv_dup hx hb dX3_init_8 rfl ?_
  refine q_callI (As := []) (rs := [.ref q5, .ref x]) hC (c_X2_init l D T q5) q_no_st q_no_at (cwI 0 hts gX3_init_X2_init rfl rfl rfl (hts (.initialized RX2) (by decide +kernel)) (hts (.methodLink RX3 9 yX2_init) (by decide +kernel)) (hts (.instanceMethod yX2_init) (by decide +kernel)) rfl (by decide +kernel) ⟨Nat.le_of_ble_eq_true rfl, Nat.le_of_ble_eq_true rfl⟩) hK hP hD hS hA (q_mask [false, true] _) rfl hl.1 rfl (Nat.le_of_ble_eq_true rfl) dX3_init_9 ⟨(Nat.le_of_ble_eq_true rfl), (Nat.le_of_ble_eq_true rfl)⟩ (fun v9 C9 H locs hp hP hD hS => ?_)
  obtain ⟨wi, ja, rfl, rfl⟩ := hp
  have hP : va_P D vwCl [q_wc q5 60 wi ja, q_ia T wi 10 (q_fill 10 4 (fun _ => 0)), q_ia T ja 0 (fun _ => 0), (x, .inr (4, [.null, .null, .null, .null]))] H := q_P_perm (List.Perm.refl _) hP
  have hD : va_D A [q_wc q5 60 wi ja, q_ia T wi 10 (q_fill 10 4 (fun _ => 0)), q_ia T ja 0 (fun _ => 0), (x, .inr (4, [.null, .null, .null, .null]))] := q_D_perm (List.Perm.refl _) hD
  refine va_putF (D := D) (ci := 4) (v := .ref q5) (ty := (.object "ToyRegatta$Waters")) (C := RX3) (T := TX3) (N := 4) hx hb hts iX3 tyX3 tyX3_ok nmX3 hown hK hP hD hS 3 rfl rfl 0 (by decide) (hts (.fieldLink RX3 10 "ToyRegatta" "waters" "LToyRegatta$Waters;") (by decide +kernel)) (fun _ h9 => h9) rfl hnm rfl (by decide +kernel) rfl rfl (Nat.le_of_ble_eq_true rfl) dX3_init_12 (fun H locs hP hD hS => ?_)
  have hP : va_P D vwCl [q_wc q5 60 wi ja, q_ia T wi 10 (q_fill 10 4 (fun _ => 0)), q_ia T ja 0 (fun _ => 0), (x, .inr (4, [.ref q5, .null, .null, .null]))] H := hP
  have hD : va_D A [q_wc q5 60 wi ja, q_ia T wi 10 (q_fill 10 4 (fun _ => 0)), q_ia T ja 0 (fun _ => 0), (x, .inr (4, [.ref q5, .null, .null, .null]))] := hD
  refine lv_aload_n hx hb dX3_init_15 rfl (lv_at hl 0 rfl) ?_
  refine va_new (D := D) (ci := 2) (fs := [.null, .int 0, .int 0, .int 0, .int 0]) (C := RX1) (T := TX1) (N := 5) hx hb hts iX1 tyX1 tyX1_ok hown (hts (.classLink RX3 16 RX1) (by decide +kernel)) (hts (.instantiable RX1 5) (by decide +kernel)) (hts (.initialized RX1) (by decide +kernel)) hK hP hD hS hA rfl (fun j hj => by rcases (show j = 0 ∨ j = 1 ∨ j = 2 ∨ j = 3 ∨ j = 4 by omega) with rfl | rfl | rfl | rfl | rfl <;> rfl) (Nat.le_of_ble_eq_true rfl) (Nat.le_of_ble_eq_true rfl) dX3_init_16 (fun q16 H hP hD hS => ?_)
  have hP : va_P D vwCl [q_wc q5 60 wi ja, q_ia T wi 10 (q_fill 10 4 (fun _ => 0)), q_ia T ja 0 (fun _ => 0), (x, .inr (4, [.ref q5, .null, .null, .null])), (q16, .inr (2, [.null, .int 0, .int 0, .int 0, .int 0]))] H := hP
  have hD : va_D A [q_wc q5 60 wi ja, q_ia T wi 10 (q_fill 10 4 (fun _ => 0)), q_ia T ja 0 (fun _ => 0), (x, .inr (4, [.ref q5, .null, .null, .null])), (q16, .inr (2, [.null, .int 0, .int 0, .int 0, .int 0]))] := hD
  refine lv_dup hx hb dX3_init_19 rfl ?_
  refine q_callI (As := []) (rs := [.ref q16, .ref x]) hC (c_X1_init l D T q16 e0) (q_gE_st e0) (q_gE_at hG hD hS hA (q_mask [false, false, false, false, true] _)) (cwI 0 hts gX3_init_X1_init rfl rfl rfl (hts (.initialized RX1) (by decide +kernel)) (hts (.methodLink RX3 18 yX1_init) (by decide +kernel)) (hts (.instanceMethod yX1_init) (by decide +kernel)) rfl (by decide +kernel) ⟨Nat.le_of_ble_eq_true rfl, Nat.le_of_ble_eq_true rfl⟩) hK hP hD hS hA (q_mask [false, false, false, false, true] _) rfl hl.1 rfl (Nat.le_of_ble_eq_true rfl) dX3_init_20 ⟨(Nat.le_of_ble_eq_true rfl), (Nat.le_of_ble_eq_true rfl)⟩ (fun v9 C9 H locs hp hP hD hS => ?_)
  obtain ⟨al20, rfl, rfl⟩ := hp
  have hP : va_P D vwCl [q_fc q16 al20 (fun _ => (0 : Int32)), q_ac al20 0 e0 0, q_wc q5 60 wi ja, q_ia T wi 10 (q_fill 10 4 (fun _ => 0)), q_ia T ja 0 (fun _ => 0), (x, .inr (4, [.ref q5, .null, .null, .null]))] H := q_P_perm (List.Perm.refl _) hP
  have hD : va_D A [q_fc q16 al20 (fun _ => (0 : Int32)), q_ac al20 0 e0 0, q_wc q5 60 wi ja, q_ia T wi 10 (q_fill 10 4 (fun _ => 0)), q_ia T ja 0 (fun _ => 0), (x, .inr (4, [.ref q5, .null, .null, .null]))] := q_D_perm (List.Perm.refl _) hD
  refine va_putF (D := D) (ci := 4) (v := .ref q16) (ty := (.object "ToyRegatta$Fleet")) (C := RX3) (T := TX3) (N := 4) hx hb hts iX3 tyX3 tyX3_ok nmX3 hown hK hP hD hS 5 rfl rfl 1 (by decide) (hts (.fieldLink RX3 19 "ToyRegatta" "fleet" "LToyRegatta$Fleet;") (by decide +kernel)) (fun _ h9 => h9) rfl hnm rfl (by decide +kernel) rfl rfl (Nat.le_of_ble_eq_true rfl) dX3_init_23 (fun H locs hP hD hS => ?_)
  have hP : va_P D vwCl [q_fc q16 al20 (fun _ => (0 : Int32)), q_ac al20 0 e0 0, q_wc q5 60 wi ja, q_ia T wi 10 (q_fill 10 4 (fun _ => 0)), q_ia T ja 0 (fun _ => 0), (x, .inr (4, [.ref q5, .ref q16, .null, .null]))] H := hP
  have hD : va_D A [q_fc q16 al20 (fun _ => (0 : Int32)), q_ac al20 0 e0 0, q_wc q5 60 wi ja, q_ia T wi 10 (q_fill 10 4 (fun _ => 0)), q_ia T ja 0 (fun _ => 0), (x, .inr (4, [.ref q5, .ref q16, .null, .null]))] := hD
  refine lv_aload_n hx hb dX3_init_26 rfl (lv_at hl 0 rfl) ?_
  refine va_new (D := D) (ci := 2) (fs := [.null, .int 0, .int 0, .int 0, .int 0]) (C := RX1) (T := TX1) (N := 5) hx hb hts iX1 tyX1 tyX1_ok hown (hts (.classLink RX3 16 RX1) (by decide +kernel)) (hts (.instantiable RX1 5) (by decide +kernel)) (hts (.initialized RX1) (by decide +kernel)) hK hP hD hS hA rfl (fun j hj => by rcases (show j = 0 ∨ j = 1 ∨ j = 2 ∨ j = 3 ∨ j = 4 by omega) with rfl | rfl | rfl | rfl | rfl <;> rfl) (Nat.le_of_ble_eq_true rfl) (Nat.le_of_ble_eq_true rfl) dX3_init_27 (fun q27 H hP hD hS => ?_)
  have hP : va_P D vwCl [q_fc q16 al20 (fun _ => (0 : Int32)), q_ac al20 0 e0 0, q_wc q5 60 wi ja, q_ia T wi 10 (q_fill 10 4 (fun _ => 0)), q_ia T ja 0 (fun _ => 0), (x, .inr (4, [.ref q5, .ref q16, .null, .null])), (q27, .inr (2, [.null, .int 0, .int 0, .int 0, .int 0]))] H := hP
  have hD : va_D A [q_fc q16 al20 (fun _ => (0 : Int32)), q_ac al20 0 e0 0, q_wc q5 60 wi ja, q_ia T wi 10 (q_fill 10 4 (fun _ => 0)), q_ia T ja 0 (fun _ => 0), (x, .inr (4, [.ref q5, .ref q16, .null, .null])), (q27, .inr (2, [.null, .int 0, .int 0, .int 0, .int 0]))] := hD
  refine lv_dup hx hb dX3_init_30 rfl ?_
  refine q_callI (As := []) (rs := [.ref q27, .ref x]) hC (c_X1_init l D T q27 e0) (q_gE_st e0) (q_gE_at hG hD hS hA (q_mask [false, false, false, false, false, false, true] _)) (cwI 0 hts gX3_init_X1_init rfl rfl rfl (hts (.initialized RX1) (by decide +kernel)) (hts (.methodLink RX3 18 yX1_init) (by decide +kernel)) (hts (.instanceMethod yX1_init) (by decide +kernel)) rfl (by decide +kernel) ⟨Nat.le_of_ble_eq_true rfl, Nat.le_of_ble_eq_true rfl⟩) hK hP hD hS hA (q_mask [false, false, false, false, false, false, true] _) rfl hl.1 rfl (Nat.le_of_ble_eq_true rfl) dX3_init_31 ⟨(Nat.le_of_ble_eq_true rfl), (Nat.le_of_ble_eq_true rfl)⟩ (fun v9 C9 H locs hp hP hD hS => ?_)
  obtain ⟨al31, rfl, rfl⟩ := hp
  have hP : va_P D vwCl [q_fc q27 al31 (fun _ => (0 : Int32)), q_ac al31 0 e0 0, q_fc q16 al20 (fun _ => (0 : Int32)), q_ac al20 0 e0 0, q_wc q5 60 wi ja, q_ia T wi 10 (q_fill 10 4 (fun _ => 0)), q_ia T ja 0 (fun _ => 0), (x, .inr (4, [.ref q5, .ref q16, .null, .null]))] H := q_P_perm (List.Perm.refl _) hP
  have hD : va_D A [q_fc q27 al31 (fun _ => (0 : Int32)), q_ac al31 0 e0 0, q_fc q16 al20 (fun _ => (0 : Int32)), q_ac al20 0 e0 0, q_wc q5 60 wi ja, q_ia T wi 10 (q_fill 10 4 (fun _ => 0)), q_ia T ja 0 (fun _ => 0), (x, .inr (4, [.ref q5, .ref q16, .null, .null]))] := q_D_perm (List.Perm.refl _) hD
  refine va_putF (D := D) (ci := 4) (v := .ref q27) (ty := (.object "ToyRegatta$Fleet")) (C := RX3) (T := TX3) (N := 4) hx hb hts iX3 tyX3 tyX3_ok nmX3 hown hK hP hD hS 7 rfl rfl 2 (by decide) (hts (.fieldLink RX3 23 "ToyRegatta" "trialFleet" "LToyRegatta$Fleet;") (by decide +kernel)) (fun _ h9 => h9) rfl hnm rfl (by decide +kernel) rfl rfl (Nat.le_of_ble_eq_true rfl) dX3_init_34 (fun H locs hP hD hS => ?_)
  have hP : va_P D vwCl [q_fc q27 al31 (fun _ => (0 : Int32)), q_ac al31 0 e0 0, q_fc q16 al20 (fun _ => (0 : Int32)), q_ac al20 0 e0 0, q_wc q5 60 wi ja, q_ia T wi 10 (q_fill 10 4 (fun _ => 0)), q_ia T ja 0 (fun _ => 0), (x, .inr (4, [.ref q5, .ref q16, .ref q27, .null]))] H := hP
  have hD : va_D A [q_fc q27 al31 (fun _ => (0 : Int32)), q_ac al31 0 e0 0, q_fc q16 al20 (fun _ => (0 : Int32)), q_ac al20 0 e0 0, q_wc q5 60 wi ja, q_ia T wi 10 (q_fill 10 4 (fun _ => 0)), q_ia T ja 0 (fun _ => 0), (x, .inr (4, [.ref q5, .ref q16, .ref q27, .null]))] := hD
  refine lv_aload_n hx hb dX3_init_37 rfl (lv_at hl 0 rfl) ?_
  refine va_new (D := D) (ci := 1) (fs := [.int 0, .int 0, .int 0, .int 0, .int 0, .int 0, .int 0, .int 0, .int 0, .int 0, .int 0]) (C := RX0) (T := TX0) (N := 11) hx hb hts iX0 tyX0 tyX0_ok hown (hts (.classLink RX3 26 RX0) (by decide +kernel)) (hts (.instantiable RX0 11) (by decide +kernel)) (hts (.initialized RX0) (by decide +kernel)) hK hP hD hS hA rfl (fun j hj => by rcases (show j = 0 ∨ j = 1 ∨ j = 2 ∨ j = 3 ∨ j = 4 ∨ j = 5 ∨ j = 6 ∨ j = 7 ∨ j = 8 ∨ j = 9 ∨ j = 10 by omega) with rfl | rfl | rfl | rfl | rfl | rfl | rfl | rfl | rfl | rfl | rfl <;> rfl) (Nat.le_of_ble_eq_true rfl) (Nat.le_of_ble_eq_true rfl) dX3_init_38 (fun q38 H hP hD hS => ?_)
  have hP : va_P D vwCl [q_fc q27 al31 (fun _ => (0 : Int32)), q_ac al31 0 e0 0, q_fc q16 al20 (fun _ => (0 : Int32)), q_ac al20 0 e0 0, q_wc q5 60 wi ja, q_ia T wi 10 (q_fill 10 4 (fun _ => 0)), q_ia T ja 0 (fun _ => 0), (x, .inr (4, [.ref q5, .ref q16, .ref q27, .null])), q_bc q38 (fun _ => (0 : Int32))] H := hP
  have hD : va_D A [q_fc q27 al31 (fun _ => (0 : Int32)), q_ac al31 0 e0 0, q_fc q16 al20 (fun _ => (0 : Int32)), q_ac al20 0 e0 0, q_wc q5 60 wi ja, q_ia T wi 10 (q_fill 10 4 (fun _ => 0)), q_ia T ja 0 (fun _ => 0), (x, .inr (4, [.ref q5, .ref q16, .ref q27, .null])), q_bc q38 (fun _ => (0 : Int32))] := hD
  refine lv_dup hx hb dX3_init_41 rfl ?_
  refine lv_iconst (v := 1) hx hb dX3_init_42 (by decide) ?_
  refine lv_iconst (v := 0) hx hb dX3_init_43 (by decide) ?_
  refine q_callI (As := [.int 1, .int 0]) (rs := [.ref q38, .ref x]) hC (c_X0_init l D T q38 1 0) q_no_st q_no_at (cwI 2 hts gX3_init_X0_init rfl rfl rfl (hts (.initialized RX0) (by decide +kernel)) (hts (.methodLink RX3 28 yX0_init) (by decide +kernel)) (hts (.instanceMethod yX0_init) (by decide +kernel)) rfl (by decide +kernel) ⟨Nat.le_of_ble_eq_true rfl, Nat.le_of_ble_eq_true rfl⟩) hK hP hD hS hA (q_mask [false, false, false, false, false, false, false, false, true] _) rfl hl.1 rfl (Nat.le_of_ble_eq_true rfl) dX3_init_44 ⟨(Nat.le_of_ble_eq_true rfl), (Nat.le_of_ble_eq_true rfl)⟩ (fun v9 C9 H locs hp hP hD hS => ?_)
  obtain ⟨rfl, rfl⟩ := hp
  have hP : va_P D vwCl [q_bc q38 (bNew 1 0), q_fc q27 al31 (fun _ => (0 : Int32)), q_ac al31 0 e0 0, q_fc q16 al20 (fun _ => (0 : Int32)), q_ac al20 0 e0 0, q_wc q5 60 wi ja, q_ia T wi 10 (q_fill 10 4 (fun _ => 0)), q_ia T ja 0 (fun _ => 0), (x, .inr (4, [.ref q5, .ref q16, .ref q27, .null]))] H := q_P_perm (List.Perm.refl _) hP
  have hD : va_D A [q_bc q38 (bNew 1 0), q_fc q27 al31 (fun _ => (0 : Int32)), q_ac al31 0 e0 0, q_fc q16 al20 (fun _ => (0 : Int32)), q_ac al20 0 e0 0, q_wc q5 60 wi ja, q_ia T wi 10 (q_fill 10 4 (fun _ => 0)), q_ia T ja 0 (fun _ => 0), (x, .inr (4, [.ref q5, .ref q16, .ref q27, .null]))] := q_D_perm (List.Perm.refl _) hD
  refine va_putF (D := D) (ci := 4) (v := .ref q38) (ty := (.object "ToyRegatta$Boat")) (C := RX3) (T := TX3) (N := 4) hx hb hts iX3 tyX3 tyX3_ok nmX3 hown hK hP hD hS 8 rfl rfl 3 (by decide) (hts (.fieldLink RX3 31 "ToyRegatta" "trialBoat" "LToyRegatta$Boat;") (by decide +kernel)) (fun _ h9 => h9) rfl hnm rfl (by decide +kernel) rfl rfl (Nat.le_of_ble_eq_true rfl) dX3_init_47 (fun H locs hP hD hS => ?_)
  have hP : va_P D vwCl [q_bc q38 (bNew 1 0), q_fc q27 al31 (fun _ => (0 : Int32)), q_ac al31 0 e0 0, q_fc q16 al20 (fun _ => (0 : Int32)), q_ac al20 0 e0 0, q_wc q5 60 wi ja, q_ia T wi 10 (q_fill 10 4 (fun _ => 0)), q_ia T ja 0 (fun _ => 0), (x, .inr (4, [.ref q5, .ref q16, .ref q27, .ref q38]))] H := hP
  have hD : va_D A [q_bc q38 (bNew 1 0), q_fc q27 al31 (fun _ => (0 : Int32)), q_ac al31 0 e0 0, q_fc q16 al20 (fun _ => (0 : Int32)), q_ac al20 0 e0 0, q_wc q5 60 wi ja, q_ia T wi 10 (q_fill 10 4 (fun _ => 0)), q_ia T ja 0 (fun _ => 0), (x, .inr (4, [.ref q5, .ref q16, .ref q27, .ref q38]))] := hD
  exact q_vret hx hb hr hlocks hP hK hD hS (Nat.le_of_ble_eq_true rfl) (Nat.le_of_ble_eq_true rfl) dX3_init_50 ⟨q5, wi, ja, q16, al20, q27, al31, q38, rfl, q_pc (fun inst a => by simp only [q_xc, List.count_cons, List.count_nil]; omega)⟩
