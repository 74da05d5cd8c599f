/-! the law's loop -/
theorem l_head {L i : Nat} (hL : L ≤ 1536) (hi : i ≤ 2000) : Int32.ofNat L - 3 < nI i ↔ L < i + 3 := by
  have h1 : (nI L).toInt = L := nI_toInt (by omega)
  have h2 : (nI i).toInt = i := nI_toInt (by omega)
  have h3 : (nI L - 3).toInt = (L : Int) - 3 := by
    rw [Int32.toInt_sub, h1, show (3 : Int32).toInt = 3 by decide]
    have e : (2 ^ 32 : Nat) = 4294967296 := by decide
    rw [e]
    simp only [Int.bmod]
    split <;> omega
  show nI L - 3 < nI i ↔ _
  rw [Int32.lt_iff_toInt_lt, h3, h2]
  omega
theorem law_step {p : Program} {l : Launch} {e : Env} {s : State} {m : MethodId} {below : List Frame} {meth : Method} {c : Code} {D : va_G} {T : Nat → ClassId} {e0 : Nat} {A : Nat → Prop} {b L : Nat} {xs : Nat → Int32} {Q : State → Prop} (Am : lAm p l s m meth c D T e0 A b L xs) {J qi : Nat} (kont : lGo p l e s m below meth c b D T e0 A Q J (qi + 3) 23) : lGo p l e s m below meth c b D T e0 A Q J qi 1013 := by
  intro x wa fl tf tb al ta ar br wi ja mo mw mE mf mn out n k mk md mt th len u v ad bd F K G ju wf rt wg ey nu of H locs ls hI h0 hP hD hS hl
  obtain ⟨hx, hb, hml, hown, hts, hX, hbl, hbA, hK, hA, hG, hGA, hst, hL⟩ := Am
  refine lv_iinc (v := nI (qi + 3)) (lv' := [(4, .int (nI (qi + 3))), (0, .ref b), (1, .ref x), (2, .ref mo), (3, .ref out)]) hx hb dL_law_1013 hl (k := 4) rfl (by rw [show Int32.ofInt 3 = nI 3 from by decide]; exact nI_add qi 3) (by decide) rfl (fun ls hl => ?_)
  refine lv_goto (tgt := 23) hx hb dL_law_1016 (by decide) ?_
  exact kont x wa fl tf tb al ta ar br wi ja mo mw mE mf mn out n k mk md mt th len u v ad bd F K G ju wf rt wg ey nu of H locs ls hI h0 hP hD hS (lv_sub hl [1, 2, 3, 4, 0] rfl)
set_option maxHeartbeats 4000000 in
set_option maxRecDepth 100000 in
theorem law_body {p : Program} {l : Launch} {e : Env} {s : State} {m : MethodId} {below : List Frame} {meth : Method} {c : Code} {D : va_G} {T : Nat → ClassId} {e0 : Nat} {A : Nat → Prop} {b L : Nat} {xs : Nat → Int32} {Q : State → Prop} (Am : lAm p l s m meth c D T e0 A b L xs) {J qi : Nat} (hJ : J < 512) (hq : qi + 3 ≤ L) (kont : lGo p l e s m below meth c b D T e0 A Q (J + 1) qi 1013) : lGo p l e s m below meth c b D T e0 A Q J qi 32 := by
  intro x wa fl tf tb al ta ar br wi ja mo mw mE mf mn out n k mk md mt th len u v ad bd F K G ju wf rt wg ey nu of H locs ls hI h0 hP hD hS hl
  obtain ⟨hx, hb, hml, hown, hts, hX, hbl, hbA, hK, hA, hG, hGA, hst, hL⟩ := id Am
  refine lv_aload_n hx hb dL_law_32 rfl (lv_at hl 0 rfl) ?_
  refine lv_iload hx hb dL_law_33 (lv_at hl 4 rfl) ?_
  refine va_sld hx hb hX hbl hbA hS (vp_in_nI (by omega) (by omega)) dL_law_35 ?_
  refine lv_bipush (v := 31) hx hb dL_law_36 (by decide) ?_
  refine lv_iand hx hb dL_law_38 ?_
  refine lv_topi (fun v9 ev9 => ?_)
  rcases (show v9.toInt < 0 ∨ 17 < v9.toInt ∨ v9.toInt = 0 ∨ v9.toInt = 1 ∨ v9.toInt = 2 ∨ v9.toInt = 3 ∨ v9.toInt = 4 ∨ v9.toInt = 5 ∨ v9.toInt = 6 ∨ v9.toInt = 7 ∨ v9.toInt = 8 ∨ v9.toInt = 9 ∨ v9.toInt = 10 ∨ v9.toInt = 11 ∨ v9.toInt = 12 ∨ v9.toInt = 13 ∨ v9.toInt = 14 ∨ v9.toInt = 15 ∨ v9.toInt = 16 ∨ v9.toInt = 17 by omega) with h | h | h | h | h | h | h | h | h | h | h | h | h | h | h | h | h | h | h | h
  · refine lv_tableOut (tgt := 1013) hx hb dL_law_39 (Or.inl h) (by decide) ?_
    refine W.widen (k := 20 + 1220 * (J + 1)) (n := 300 + 7500 * (J + 1)) (by omega) (by omega) ?_
    exact kont x wa fl tf tb al ta ar br wi ja mo mw mE mf mn out n k mk md mt th len u v ad bd F K G ju wf rt wg ey nu of H locs ls hI.more h0 hP hD hS hl
  · refine lv_tableOut (tgt := 1013) hx hb dL_law_39 (Or.inr h) (by decide) ?_
    refine W.widen (k := 20 + 1220 * (J + 1)) (n := 300 + 7500 * (J + 1)) (by omega) (by omega) ?_
    exact kont x wa fl tf tb al ta ar br wi ja mo mw mE mf mn out n k mk md mt th len u v ad bd F K G ju wf rt wg ey nu of H locs ls hI.more h0 hP hD hS hl
  · refine lv_tableIn (off := 85) (tgt := 124) hx hb dL_law_39 (by rw [h]; decide) (by rw [h]; decide) (by rw [h]; rfl) (by decide) ?_
    exact law_c0 Am hJ hq kont x wa fl tf tb al ta ar br wi ja mo mw mE mf mn out n k mk md mt th len u v ad bd F K G ju wf rt wg ey nu of H locs ls hI h0 hP hD hS hl
  · refine lv_tableIn (off := 141) (tgt := 180) hx hb dL_law_39 (by rw [h]; decide) (by rw [h]; decide) (by rw [h]; rfl) (by decide) ?_
    exact law_c1 Am hJ hq kont x wa fl tf tb al ta ar br wi ja mo mw mE mf mn out n k mk md mt th len u v ad bd F K G ju wf rt wg ey nu of H locs ls hI h0 hP hD hS hl
  · refine lv_tableIn (off := 209) (tgt := 248) hx hb dL_law_39 (by rw [h]; decide) (by rw [h]; decide) (by rw [h]; rfl) (by decide) ?_
    exact law_c2 Am hJ hq kont x wa fl tf tb al ta ar br wi ja mo mw mE mf mn out n k mk md mt th len u v ad bd F K G ju wf rt wg ey nu of H locs ls hI h0 hP hD hS hl
  · refine lv_tableIn (off := 277) (tgt := 316) hx hb dL_law_39 (by rw [h]; decide) (by rw [h]; decide) (by rw [h]; rfl) (by decide) ?_
    exact law_c3 Am hJ hq kont x wa fl tf tb al ta ar br wi ja mo mw mE mf mn out n k mk md mt th len u v ad bd F K G ju wf rt wg ey nu of H locs ls hI h0 hP hD hS hl
  · refine lv_tableIn (off := 345) (tgt := 384) hx hb dL_law_39 (by rw [h]; decide) (by rw [h]; decide) (by rw [h]; rfl) (by decide) ?_
    exact law_c4 Am hJ hq kont x wa fl tf tb al ta ar br wi ja mo mw mE mf mn out n k mk md mt th len u v ad bd F K G ju wf rt wg ey nu of H locs ls hI h0 hP hD hS hl
  · refine lv_tableIn (off := 401) (tgt := 440) hx hb dL_law_39 (by rw [h]; decide) (by rw [h]; decide) (by rw [h]; rfl) (by decide) ?_
    exact law_c5 Am hJ hq kont x wa fl tf tb al ta ar br wi ja mo mw mE mf mn out n k mk md mt th len u v ad bd F K G ju wf rt wg ey nu of H locs ls hI h0 hP hD hS hl
  · refine lv_tableIn (off := 445) (tgt := 484) hx hb dL_law_39 (by rw [h]; decide) (by rw [h]; decide) (by rw [h]; rfl) (by decide) ?_
    exact law_c6 Am hJ hq kont x wa fl tf tb al ta ar br wi ja mo mw mE mf mn out n k mk md mt th len u v ad bd F K G ju wf rt wg ey nu of H locs ls hI h0 hP hD hS hl
  · refine lv_tableIn (off := 501) (tgt := 540) hx hb dL_law_39 (by rw [h]; decide) (by rw [h]; decide) (by rw [h]; rfl) (by decide) ?_
    exact law_c7 Am hJ hq kont x wa fl tf tb al ta ar br wi ja mo mw mE mf mn out n k mk md mt th len u v ad bd F K G ju wf rt wg ey nu of H locs ls hI h0 hP hD hS hl
  · refine lv_tableIn (off := 569) (tgt := 608) hx hb dL_law_39 (by rw [h]; decide) (by rw [h]; decide) (by rw [h]; rfl) (by decide) ?_
    exact law_c8 Am hJ hq kont x wa fl tf tb al ta ar br wi ja mo mw mE mf mn out n k mk md mt th len u v ad bd F K G ju wf rt wg ey nu of H locs ls hI h0 hP hD hS hl
  · refine lv_tableIn (off := 637) (tgt := 676) hx hb dL_law_39 (by rw [h]; decide) (by rw [h]; decide) (by rw [h]; rfl) (by decide) ?_
    exact law_c9 Am hJ hq kont x wa fl tf tb al ta ar br wi ja mo mw mE mf mn out n k mk md mt th len u v ad bd F K G ju wf rt wg ey nu of H locs ls hI h0 hP hD hS hl
  · refine lv_tableIn (off := 693) (tgt := 732) hx hb dL_law_39 (by rw [h]; decide) (by rw [h]; decide) (by rw [h]; rfl) (by decide) ?_
    exact law_c10 Am hJ hq kont x wa fl tf tb al ta ar br wi ja mo mw mE mf mn out n k mk md mt th len u v ad bd F K G ju wf rt wg ey nu of H locs ls hI h0 hP hD hS hl
  · refine lv_tableIn (off := 706) (tgt := 745) hx hb dL_law_39 (by rw [h]; decide) (by rw [h]; decide) (by rw [h]; rfl) (by decide) ?_
    exact law_c11 Am hJ hq kont x wa fl tf tb al ta ar br wi ja mo mw mE mf mn out n k mk md mt th len u v ad bd F K G ju wf rt wg ey nu of H locs ls hI h0 hP hD hS hl
  · refine lv_tableIn (off := 719) (tgt := 758) hx hb dL_law_39 (by rw [h]; decide) (by rw [h]; decide) (by rw [h]; rfl) (by decide) ?_
    exact law_c12 Am hJ hq kont x wa fl tf tb al ta ar br wi ja mo mw mE mf mn out n k mk md mt th len u v ad bd F K G ju wf rt wg ey nu of H locs ls hI h0 hP hD hS hl
  · refine lv_tableIn (off := 794) (tgt := 833) hx hb dL_law_39 (by rw [h]; decide) (by rw [h]; decide) (by rw [h]; rfl) (by decide) ?_
    exact law_c13 Am hJ hq kont x wa fl tf tb al ta ar br wi ja mo mw mE mf mn out n k mk md mt th len u v ad bd F K G ju wf rt wg ey nu of H locs ls hI h0 hP hD hS hl
  · refine lv_tableIn (off := 850) (tgt := 889) hx hb dL_law_39 (by rw [h]; decide) (by rw [h]; decide) (by rw [h]; rfl) (by decide) ?_
    exact law_c14 Am hJ hq kont x wa fl tf tb al ta ar br wi ja mo mw mE mf mn out n k mk md mt th len u v ad bd F K G ju wf rt wg ey nu of H locs ls hI h0 hP hD hS hl
  · refine lv_tableIn (off := 863) (tgt := 902) hx hb dL_law_39 (by rw [h]; decide) (by rw [h]; decide) (by rw [h]; rfl) (by decide) ?_
    exact law_c15 Am hJ hq kont x wa fl tf tb al ta ar br wi ja mo mw mE mf mn out n k mk md mt th len u v ad bd F K G ju wf rt wg ey nu of H locs ls hI h0 hP hD hS hl
  · refine lv_tableIn (off := 919) (tgt := 958) hx hb dL_law_39 (by rw [h]; decide) (by rw [h]; decide) (by rw [h]; rfl) (by decide) ?_
    exact law_c16 Am hJ hq kont x wa fl tf tb al ta ar br wi ja mo mw mE mf mn out n k mk md mt th len u v ad bd F K G ju wf rt wg ey nu of H locs ls hI h0 hP hD hS hl
  · refine lv_tableIn (off := 960) (tgt := 999) hx hb dL_law_39 (by rw [h]; decide) (by rw [h]; decide) (by rw [h]; rfl) (by decide) ?_
    exact law_c17 Am hJ hq kont x wa fl tf tb al ta ar br wi ja mo mw mE mf mn out n k mk md mt th len u v ad bd F K G ju wf rt wg ey nu of H locs ls hI h0 hP hD hS hl
set_option maxHeartbeats 4000000 in
set_option maxRecDepth 100000 in
theorem law_loop {p : Program} {l : Launch} {e : Env} {s : State} {m : MethodId} {below : List Frame} {meth : Method} {c : Code} {D : va_G} {T : Nat → ClassId} {e0 : Nat} {A : Nat → Prop} {b L : Nat} {xs : Nat → Int32} {Q : State → Prop} (Am : lAm p l s m meth c D T e0 A b L xs) (hend : ∀ (H : Heap) (locs : List Loc) (ls : Array Slot) (cells slots : Nat), va_S A s.heap H locs → cells ≤ 626356 → slots ≤ 7217037 → W p l e room_1 s m #[Value.ref b] below meth c H locs cells slots Q (F0 m 1019 ls [])) :
    ∀ (f J : Nat), J + f = 512 → lGo p l e s m below meth c b D T e0 A Q J (3 * J) 23 := by
  intro f
  induction f with
  | zero =>
    intro J hJ
    intro x wa fl tf tb al ta ar br wi ja mo mw mE mf mn out n k mk md mt th len u v ad bd F K G ju wf rt wg ey nu of H locs ls hI h0 hP hD hS hl
    obtain ⟨hx, hb, hml, hown, hts, hX, hbl, hbA, hK, hA, hG, hGA, hst, hL⟩ := id Am
    refine lv_iload hx hb dL_law_23 (lv_at hl 4 rfl) ?_
    refine lv_aload_n hx hb dL_law_25 rfl (lv_at hl 0 rfl) ?_
    refine va_slen hx hb hX hbl hbA hS dL_law_26 ?_
    refine lv_iconst (v := 3) hx hb dL_law_27 (by decide) ?_
    refine lv_isub hx hb dL_law_28 ?_
    refine lv_icmp_gt (tgt := 1019) hx hb dL_law_29 (by decide) (fun c_29 => ?_) (fun c_29 => ?_)
    · exact hend _ _ _ _ _ hS (by omega) (by omega)
    · exact absurd ((l_head hL (by omega)).mpr (by omega)) c_29
  | succ f ih =>
    intro J hJ
    intro x wa fl tf tb al ta ar br wi ja mo mw mE mf mn out n k mk md mt th len u v ad bd F K G ju wf rt wg ey nu of H locs ls hI h0 hP hD hS hl
    obtain ⟨hx, hb, hml, hown, hts, hX, hbl, hbA, hK, hA, hG, hGA, hst, hL⟩ := id Am
    refine lv_iload hx hb dL_law_23 (lv_at hl 4 rfl) ?_
    refine lv_aload_n hx hb dL_law_25 rfl (lv_at hl 0 rfl) ?_
    refine va_slen hx hb hX hbl hbA hS dL_law_26 ?_
    refine lv_iconst (v := 3) hx hb dL_law_27 (by decide) ?_
    refine lv_isub hx hb dL_law_28 ?_
    refine lv_icmp_gt (tgt := 1019) hx hb dL_law_29 (by decide) (fun c_29 => ?_) (fun c_29 => ?_)
    · exact hend _ _ _ _ _ hS (by omega) (by omega)
    · have hq : 3 * J + 3 ≤ L := by
        rcases Nat.lt_or_ge L (3 * J + 3) with q | q
        · exact absurd ((l_head hL (by omega)).mpr q) c_29
        · exact q
      exact law_body Am (by omega) hq (law_step Am (ih (J + 1) (by omega))) x wa fl tf tb al ta ar br wi ja mo mw mE mf mn out n k mk md mt th len u v ad bd F K G ju wf rt wg ey nu of H locs ls hI h0 hP hD hS hl
