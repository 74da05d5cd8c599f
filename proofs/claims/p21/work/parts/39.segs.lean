/-! the law's body: worlds in segments, calls of the law's own static methods, the loop's state -/
def q_cat : List va_W → va_W
  | [] => []
  | [t] => t
  | s :: t :: r => s ++ q_cat (t :: r)
theorem q_cat_flat : ∀ S : List va_W, q_cat S = S.flatten
  | [] => rfl
  | [t] => by simp [q_cat]
  | s :: t :: r => by
    rw [q_cat, q_cat_flat (t :: r)]
    rfl
theorem q_flat_perm {α : Type} {a b : List (List α)} (h : a.Perm b) : a.flatten.Perm b.flatten := by
  induction h with
  | nil => exact List.Perm.refl _
  | cons x _ ih =>
    rw [List.flatten_cons, List.flatten_cons]
    exact ih.append_left _
  | swap x y l =>
    simp only [List.flatten_cons, ← List.append_assoc]
    exact List.perm_append_comm.append_right _
  | trans _ _ ih1 ih2 => exact ih1.trans ih2
theorem q_seg_id {α : Type} (S : List α) (d : α) : (List.range S.length).map (fun i => S.getD i d) = S := by
  apply List.ext_getElem
  · simp
  · intro i h1 h2
    simp [List.getD, h2]
/-- the segments a to the front, the segments b behind them -/
theorem q_segp (N : Nat) (S : List va_W) (a b : List Nat) (hN : S.length = N) (h : List.isPerm (List.range N) (a ++ b) = true) : (q_cat S).Perm (q_cat (a.map (fun i => S.getD i [])) ++ q_cat (b.map (fun i => S.getD i []))) := by
  subst hN
  rw [q_cat_flat, q_cat_flat, q_cat_flat, ← List.flatten_append, ← List.map_append]
  have h1 := q_flat_perm ((List.isPerm_iff.mp h).map (fun i => S.getD i []))
  rw [q_seg_id] at h1
  exact h1
/-- .. and in a new order -/
theorem q_segb (N : Nat) (S1 S2 : List va_W) (js : List Nat) (hN : (S1 ++ S2).length = N) (h : List.isPerm (List.range N) js = true) : (q_cat S1 ++ q_cat S2).Perm (q_cat (js.map (fun i => (S1 ++ S2).getD i []))) := by
  subst hN
  rw [q_cat_flat, q_cat_flat, q_cat_flat, ← List.flatten_append]
  have h1 := q_flat_perm ((List.isPerm_iff.mp h).map (fun i => (S1 ++ S2).getD i []))
  rw [q_seg_id] at h1
  exact h1
