/-! the simulation's start; a minute of it and of the class -/
def q_gAO : (Nat → Prop) → State → Prop := fun _ U => va_AO RX4 U
theorem q_gAO_st : q_st q_gAO := fun _ _ _ _ hvm h => h.moved hvm
theorem q_gAO_at {A A2 : Nat → Prop} {s : State} {H : Heap} (hG : q_gAO A s) : ∀ U : State, U.heap = H → s.WarmedH U.vm → q_gAO A2 U := fun _ _ hW => va_AO.moved hW.alike hG
/-- how many come in, as the simulation tells it -/
def sNow (G : Nat → Nat → Int32) (nu : Nat → Int32) (w : Int32) (ey : Nat → Int32) (k n : Nat) (len : Int32) : Int32 := if nu 2 = 1 then q_sum (dArr (rG2 G w ey k n) len) n else 0
theorem c_X5_pass (l : Launch) (D : va_G) (T : Nat → ClassId) (si sw so sj n k mk w0 : Nat) (len : Int32) (sd : Nat → Nat) (G : Nat → Nat → Int32) (wg ey nu : Nat → Int32) (hn : n ≤ 8) (hk : k ≤ 3) (hm : nu 0 = nI mk) (hmk : mk < 2 ^ 30) (hw0 : w0 < 10) (ew : wg (mk % 10) = nI w0) (hB : pBs G n) (hj : sJu ey k) (hwt : sWt G n) (hp5 : pP G n 60) (hgo : rGo nu 0) (hon : nu 2 = 0 ∨ nu 2 = 1) : q_M l D (q_ty T) yX5_pass wsX5_pass rmX5_pass [.ref si] ([q_sm si len sw so sj (nu 0) (nu 1) (sGo nu), q_ia T sw 10 wg, q_ra (T 3) so n sd, q_ia T sj k ey] ++ q_gp q_sb (List.range n) sd G) q_no (q_is (some (.int (sNow G nu (nI w0) ey k n len))) ([q_sm si len sw so sj (rU G nu (nI w0) ey k len n 0) (rU G nu (nI w0) ey k len n 1) (sGo (rU G nu (nI w0) ey k len n)), q_ia T sw 10 wg, q_ra (T 3) so n sd, q_ia T sj k ey] ++ q_gp q_sb (List.range n) sd (rG G nu (nI w0) ey k len n))) := by
  rcases hon with ho | ho
  · rw [show sNow G nu (nI w0) ey k n len = 0 from if_neg (by rw [ho]; decide)]
    exact c_X5_pass_off l D T si sw so sj n k mk w0 len sd G wg ey nu hn hk hm hmk hw0 ew hB hj hwt hp5 ho
  · rw [show sNow G nu (nI w0) ey k n len = q_sum (dArr (rG2 G (nI w0) ey k n) len) n from if_pos ho]
    rcases hgo with q | ⟨g, -, g2, g3⟩
    · exact absurd q (s_on ho)
    · exact c_X5_pass_on l D T si sw so sj n k mk w0 len sd G wg ey nu hn hk hm hmk hw0 ew hB hj hwt hp5 g ho g3 g2
section KP
variable {e0 j ar br n k mk w0 : Nat} {len : Int32} {F G : Nat → Nat → Int32} {u nu wf wg ju ey : Nat → Int32}
theorem k_it1 (hm : u 0 = nI mk) (hmk : mk < 2 ^ 31) (hw : wf (mk % 10) = nI w0) : mIt wf ju k len n (F, u) 1 = (mF F u (nI w0) ju k len n, mU F u (nI w0) ju k len n) := by
  show mS wf ju k len n (F, u) = _
  unfold mS
  rw [show wAt wf ((F, u).2 0) = nI w0 from by unfold wAt; rw [show (F, u).2 0 = u 0 from rfl, hm, nI_clamp hmk, hw]]
theorem k_ar1 (hm : u 0 = nI mk) (hmk : mk < 2 ^ 31) (hw : wf (mk % 10) = nI w0) : q_sum (mAr wf ju k len n (F, u)) 1 = mR1 F u (nI w0) ju k len n := by
  have e : mAr wf ju k len n (F, u) 0 = mR1 F u (nI w0) ju k len n := by
    show mR1 F u (wAt wf (u 0)) ju k len n = _
    rw [show wAt wf (u 0) = nI w0 from by unfold wAt; rw [hm, nI_clamp hmk, hw]]
  rw [q_sum, e, q_sum, Int32.zero_add]
theorem k_now (hF : pF F G n) (hU : pU u nu) (hj : ∀ j, j < k → ju j = ey j) (w : Int32) : mR1 F u w ju k len n = sNow G nu w ey k n len := by
  unfold mR1 sNow
  by_cases c : u 2 = 0
  · rw [if_pos c, if_neg (fun q => absurd (c.symm.trans (hU.2.2.1.trans q)) (by decide))]
  · rw [if_neg c, if_pos (hU.2.2.1.symm.trans (hU.2.2.2.2.resolve_left c))]
    exact (hF.race hj w len 0).2
end KP
