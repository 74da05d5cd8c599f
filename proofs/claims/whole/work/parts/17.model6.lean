
/-- what the tables say of int[] and int[][] beside -/
def q_gA : (Nat → Prop) → State → Prop := fun _ U => (Cond.castable "[I" "java/lang/Cloneable").before #[] U = true ∧ (Cond.arrayOver (.array .int)).before #[] U = true
theorem q_gA_mv {A A' : Nat → Prop} {U V : State} (hvm : U.vm.Alike V.vm) (h : q_gA A U) : q_gA A' V := by
  refine ⟨?_, ?_⟩
  · have h1 : (Cond.castable "[I" "java/lang/Cloneable").before #[] (U.setVm V.vm) = true := by rw [Cond.castable_setVm hvm]; exact h.1
    exact va_tabs rfl (rfl : (U.setVm V.vm).vm = V.vm) h1
  · obtain ⟨comp, c, k, h1, h2, h3, h4, h5⟩ := arrayOverA_spec h.2
    obtain ⟨k', hk', he⟩ := hvm.2.2 _ _ h3
    have e : V.vm.bare = U.vm.bare := by first | exact hvm.bare_eq | exact hvm.bare_eq.symm
    have hb1 := va_idx_bare U.vm comp
    rw [← e] at hb1
    have hi : (V.vm.classes.findIdx? fun (x : Class) => match x.kind with | .array component _ => component == comp | _ => false) = some c := (va_idx_bare V.vm comp).symm.trans (hb1.trans h2)
    have hkind : k'.kind = .array comp (.array .int) := by rw [he]; exact h4
    have f1 : V.vm.findClass (FieldType.array .int).toString = some comp := by rw [hvm.findClass]; exact h1
    have f2 : V.vm.findClass ("[" ++ (FieldType.array .int).toString) = some c := by rw [hvm.findClass]; exact h5
    unfold Cond.before Cond.holds
    simp only [Cond.value]
    rw [f1, Option.bind_some]
    refine (congrArg (fun o : Option Nat => (o.bind (fun c => (V.vm.classes[c]?).map fun (k : Class) => match k.kind with | .array _ ty => decide (ty = FieldType.array .int) && decide (V.vm.findClass ("[" ++ (FieldType.array .int).toString) = some c) | _ => false) == some true)) hi).trans ?_
    simp [hk', hkind, f2]
theorem q_gA_st : q_st q_gA := fun _ _ _ _ hvm h => q_gA_mv hvm h
theorem q_gA_at {A0 A : Nat → Prop} {H : Heap} {s : State} (h : q_gA A0 s) : ∀ U : State, U.heap = H → s.WarmedH U.vm → q_gA A U := fun _ _ hW => q_gA_mv hW.alike h
section QM
variable {p : Program} {l : Launch} {e : Env} {R : Room} {s : State} {m : MethodId} {args : Array Value} {below : List Frame} {meth : Method} {c : Code} {H : Heap} {locs : List Loc} {cells slots : Nat} {Q : State → Prop} {D : va_G} {T : Nat → ClassId} {A : Nat → Prop} {w : va_W} {cc : ByteArray} {pc : Nat} {ls : Array Slot} {rest : List Value} {H0 : Heap} {a : Nat}
theorem q_newM (hexec : p.tables.exec = Jvm.exec) (hb : c.code = cc) {own : String} {index : Nat} (hown : s.vm.findClass own = some m.cls) (hclink : (Cond.classLink own index "[I").before args s = true) (hover : (Cond.arrayOver (.array .int)).before args s = true) (hK : va_K D vwCl (q_ty T) s) (hP : va_P D vwCl w H) (hD : va_D A w) (hS : va_S A H0 H locs) (hA : ∀ q, H0.size ≤ q → A q)
    {n : Int32} {N : Nat} (hn : ¬ n < 0) (hN : n.toNatClampNeg = N) (hbytes : N * 4 ≤ 536870912) (hcells : cells + 1 ≤ R.cells) (hslots : slots + N ≤ R.slots) (hdg : decode cc pc = .ok (.anewarray index, 3))
    (kk : ∀ (q : Nat) (H1 : Heap), va_P D vwCl (w ++ [(q, .inl (T 4, N, .inr (.inr (.inr (.inr (fun _ => none))))))]) H1 → va_D A (w ++ [(q, .inl (T 4, N, .inr (.inr (.inr (.inr (fun _ => none))))))]) → va_S A H0 H1 locs →
      W p l e R s m args below meth c H1 locs (cells + 1) (slots + N) Q (F0 m (pc + 3) ls (.ref q :: rest))) : W p l e R s m args below meth c H locs cells slots Q (F0 m pc ls (.int n :: rest)) := by
  subst hN
  refine W.anewA (t := .int) hexec hb hown hclink hover rfl hdg rfl hn hbytes hcells hslots fun cA kA comp f1 f2 f3 f4 => ?_
  have e2 : s.vm.findClass ("[" ++ (FieldType.array .int).toString) = some (T 4) := (hK.2 4 _ rfl).2
  have e3 : cA = T 4 := Option.some.inj (f1.symm.trans e2)
  subst e3
  generalize hH1 : H.push ({ cls := T 4, slots := Array.replicate n.toNatClampNeg .null, vm := .none } : Cell) = H1
  have z1 : H1.size = H.size + 1 := by rw [← hH1, Array.size_push]
  have e1 : H1[H.size]? = some (arrV (T 4) n.toNatClampNeg (fun _ => .null)) := by rw [← hH1, Array.getElem?_push_size, ← arrV_new]
  have o1 : ∀ q : Nat, q < H.size → H1[q]? = H[q]? := fun q hq => by rw [← hH1, Array.getElem?_push, if_neg (Nat.ne_of_lt hq)]
  have hk : ∀ (k : Nat) (x : Nat × va_E), w[k]? = some x → H1[x.1]? = H[x.1]? := fun k x hx => o1 x.1 ((hP k x hx).lt)
  refine kk H.size H1 ((hP.kept hk).app (fun k x hx => ?_)) (hD.push hP rfl (hA _ hS.1)) ⟨Nat.le_trans hS.1 (by omega), fun x h1 h2 => (o1 x (Nat.lt_of_lt_of_le h1 hS.1)).trans (hS.2.1 x h1 h2), hS.2.2⟩
  have hz : k < 1 := (List.getElem?_eq_some_iff.mp hx).1
  rw [show k = 0 by omega] at hx
  cases hx
  show H1[H.size]? = some (vp_cell _ _)
  rw [vp_cell_q]
  exact e1
theorem q_aldM (hexec : p.tables.exec = Jvm.exec) (hb : c.code = cc) (hK : va_K D vwCl (q_ty T) s) (hP : va_P D vwCl w H) (q0 : Nat) {n : Nat} {f : Nat → Option Nat} (ha : w[q0]? = some (a, .inl (T 4, n, .inr (.inr (.inr (.inr f)))))) {i : Int32} (hin : vp_in i n) (hdg : decode cc pc = .ok (.aaload, 1))
    (kk : W p l e R s m args below meth c H locs cells slots Q (F0 m (pc + 1) ls (va_rf (f i.toNatClampNeg) :: rest))) : W p l e R s m args below meth c H locs cells slots Q (F0 m pc ls (.int i :: .ref a :: rest)) := by
  have hlt : i.toNatClampNeg < n := Nat.not_le.mp fun q => hin (Or.inr q)
  exact W.aald (v := va_rf (f i.toNatClampNeg)) (ty := .array .int) hexec hb (hP q0 _ ha) ((hK.2 4 _ rfl).1 n (fun j => va_rf (f j))) rfl (fun q => by cases q) (by show ¬ (i < 0 ∨ (arrV _ _ _).slots.size ≤ _); rw [arrV_size]; exact hin) (by show (arrV _ _ _).slots[_]? = _; rw [arrV_read _ _ hlt]) rfl rfl hdg kk
theorem q_astM (hexec : p.tables.exec = Jvm.exec) (hb : c.code = cc) (hover : (Cond.arrayOver (.array .int)).before args s = true) (hK : va_K D vwCl (q_ty T) s) (hP : va_P D vwCl w H) (hD : va_D A w) (hS : va_S A H0 H locs) (q0 qk : Nat) {n v nv : Nat} {f : Nat → Option Nat} {g : Nat → Int32} (ha : w[q0]? = some (a, .inl (T 4, n, .inr (.inr (.inr (.inr f)))))) (hv : w[qk]? = some (v, .inl (T 0, nv, .inl g))) {i : Int32} (hin : vp_in i n) (hdg : decode cc pc = .ok (.aastore, 1))
    (kk : ∀ (H1 : Heap) (locs1 : List Loc), va_P D vwCl (w.set q0 (a, .inl (T 4, n, .inr (.inr (.inr (.inr (va_up f i.toNatClampNeg (some v)))))))) H1 → va_D A (w.set q0 (a, .inl (T 4, n, .inr (.inr (.inr (.inr (va_up f i.toNatClampNeg (some v)))))))) → va_S A H0 H1 locs1 → W p l e R s m args below meth c H1 locs1 cells slots Q (F0 m (pc + 1) ls rest)) : W p l e R s m args below meth c H locs cells slots Q (F0 m pc ls (.ref v :: .int i :: .ref a :: rest)) := by
  have hlt : i.toNatClampNeg < n := Nat.not_le.mp fun q => hin (Or.inr q)
  have h0 : ¬ i < 0 := fun q => hin (Or.inl q)
  obtain ⟨comp, c4, k4, g1, -, g3, g4, g5⟩ := arrayOverA_spec hover
  have e4 : c4 = T 4 := Option.some.inj (g5.symm.trans (hK.2 4 _ rfl).2)
  have e0 : comp = T 0 := Option.some.inj (g1.symm.trans (hK.2 0 _ rfl).2)
  subst e4; subst e0
  obtain ⟨-, k0, k01, -⟩ := (hK.2 0 _ rfl).1 nv (fun j => .int (g j))
  refine W.aast hexec hb (hP q0 _ ha) (fun q h => by cases h) (fun h => by cases h) g3 g4 rfl k01 ⟨h0, by show _ < (arrV _ _ _).slots.size; rw [arrV_size]; exact hlt⟩ (hP qk _ hv) (fun q h => by cases h) k01 (va_asg _ _) rfl rfl hdg fun H1 e z oq => ?_
  refine kk H1 _ (hP.set hD ha ?_ oq) (hD.set ha) (hS.put z oq (hD.2 q0 _ ha))
  show H1[a]? = some (vp_cell _ _)
  rw [e]
  rw [vp_cell_q, vp_cell_q, arrV_store]
  have e8 : (updV (fun j => va_rf (f j)) i.toNatClampNeg (.ref v)) = fun j => va_rf (va_up f i.toNatClampNeg (some v) j) := by
    funext j
    by_cases h : j = i.toNatClampNeg <;> simp [updV, va_up, va_rf, h]
  exact congrArg (fun z => some (arrV (T 4) n z)) e8
end QM


theorem q_nmI {D : va_G} {T : Nat → ClassId} {s : State} (hK : va_K D vwCl (q_ty T) s) : s.vm.findClass "[I" = some (T 0) := by
  have h : s.vm.findClass ("[" ++ FieldType.int.toString) = some (T 0) := (hK.2 0 _ rfl).2
  rwa [show "[" ++ FieldType.int.toString = "[I" from by decide] at h
theorem q_arr_ext {cA : ClassId} {n : Nat} {f g : Nat → Int32} (h : ∀ i, i < n → f i = g i) : vp_cell cA (n, .inl f) = vp_cell cA (n, .inl g) := by
  rw [vp_cell_i, vp_cell_i]
  unfold arrV
  congr 1
  apply Array.ext
  · simp
  · intro i h1 h2
    simp at h1
    simp [h i h1]
theorem q_ia_ext {D : va_G} {cl : List vw_C} {w : va_W} {H : Heap} {k a n : Nat} {cA : ClassId} {f g : Nat → Int32} (hk : w[k]? = some (a, .inl (cA, n, .inl f))) (h : ∀ i, i < n → f i = g i) (hP : va_P D cl w H) : va_P D cl (w.set k (a, .inl (cA, n, .inl g))) H := by
  intro j q hq
  by_cases e : j = k
  · subst e
    have hl := (List.getElem?_eq_some_iff.mp hk).1
    rw [List.getElem?_set_self hl] at hq
    cases hq
    have h1 := hP j _ hk
    show H[a]? = some (vp_cell cA (n, .inl g))
    rw [← q_arr_ext h]
    exact h1
  · rw [List.getElem?_set_ne (Ne.symm e)] at hq
    exact hP j q hq
def q_two (a b : Nat) : Nat → Option Nat := va_up (va_up (fun _ => none) 0 (some a)) 1 (some b)
abbrev q_kc (T : Nat → ClassId) (a x y : Nat) : Nat × va_E := (a, .inl (T 4, 2, .inr (.inr (.inr (.inr (q_two x y))))))
theorem q_cpy_all {f g : Nat → Int32} {n i : Nat} (h : i < n) : va_cpy f g (0 : Int32).toNatClampNeg (0 : Int32).toNatClampNeg n i = f i := by
  show va_cpy f g 0 0 n i = f i
  unfold va_cpy
  rw [if_pos ⟨Nat.zero_le _, by omega⟩]
  congr 1
  omega

abbrev rmX4_kept : Room := { frames := 1, cells := 3, slots := 86, locals := 40 }
set_option maxHeartbeats 1000000 in
set_option maxRecDepth 100000 in
theorem c_X4_kept (l : Launch) (D : va_G) (T : Nat → ClassId) (mo mw me mf mn nb nj : Nat) (th len : Int32) (G : Nat → Nat → Int32) (nu : Nat → Int32) : q_M l D (q_ty T) yX4_kept wsX4_kept rmX4_kept [.ref mo] [q_mc mo th nb nj len mw me mf mn, q_fa T mf G, q_ia T mn 4 nu] q_gA (fun v w => ∃ q1 qa qb, v = some (.ref q1) ∧ w = [q_mc mo th nb nj len mw me mf mn, q_fa T mf G, q_ia T mn 4 nu, q_kc T q1 qa qb, q_fa T qa G, q_ia T qb 4 nu]) := by
  refine q_start (cc := cX4_kept) (maxL := 1) (ret := (some (.array (.array .int)))) (by decide) rfl (Nat.le_of_ble_eq_true rfl) ?_
  intro p e s m args below meth c A H locs hx hb hr hts hown hlocks hml hnm hP hK hD hS hA hG ls hl
  have hown : s.vm.findClass RX4 = some m.cls := hown
  have hC : CallFix p m c cX4_kept 1 s args wsX4_kept RX4 := ⟨hx, hb, hml, hown, hts⟩
  have iX4 : ∀ w ∈ wsX40, w ∈ wsX4_kept := by decide +kernel
  have hl : lv_has ls 1 [(0, .ref mo)] := hl
  refine lv_iconst (v := 2) hx hb dX4_kept_0 (by decide) ?_
  refine q_newM (N := 2) hx hb hown (hts (.classLink RX4 134 "[I") (by decide +kernel)) hG.2 hK hP hD hS hA (by decide) (by decide) (by omega) (Nat.le_of_ble_eq_true rfl) (Nat.le_of_ble_eq_true rfl) dX4_kept_1 (fun q1 H hP hD hS => ?_)
  have hP : va_P D vwCl [q_mc mo th nb nj len mw me mf mn, q_fa T mf G, q_ia T mn 4 nu, (q1, .inl (T 4, 2, .inr (.inr (.inr (.inr (fun _ => none))))))] H := hP
  have hD : va_D A [q_mc mo th nb nj len mw me mf mn, q_fa T mf G, q_ia T mn 4 nu, (q1, .inl (T 4, 2, .inr (.inr (.inr (.inr (fun _ => none))))))] := hD
  refine lv_dup hx hb dX4_kept_4 rfl ?_
  refine lv_iconst (v := 0) hx hb dX4_kept_5 (by decide) ?_
  refine lv_aload_n hx hb dX4_kept_6 rfl (lv_at hl 0 rfl) ?_
  refine va_get (D := D) (ci := 5) (v := .ref mf) (C := RX4) (T := TX4) (N := 8) hx hb hts iX4 hown hK hP 0 rfl rfl 6 (by decide) (hts (.fieldLink RX4 20 "ToyRegattaModel" "fleet" "[I") (by decide +kernel)) (fun _ h9 => h9) rfl dX4_kept_7 ?_
  refine va_clone (D := D) (x := (80, .inl (q_flat G))) (ty := .int) hx hb (hml.trans hl.1.symm) hown (hts (.methodLink RX4 135 ⟨"[I", "clone", "()Ljava/lang/Object;"⟩) (by decide +kernel)) (hts (.sameMethod "[I" "java/lang/Object" "clone" "()Ljava/lang/Object;") (by decide +kernel)) (hts (.native ⟨"java/lang/Object", "clone", "()Ljava/lang/Object;"⟩) (by decide +kernel)) (hts (.instanceMethod ⟨"java/lang/Object", "clone", "()Ljava/lang/Object;"⟩) (by decide +kernel)) (hts (.selects "[I" ⟨"[I", "clone", "()Ljava/lang/Object;"⟩ ⟨"java/lang/Object", "clone", "()Ljava/lang/Object;"⟩) (by decide +kernel)) hG.1 hK hP hD hS hA 1 0 rfl rfl (q_nmI hK) (va_fit (n := 80) (F := fun j => .int ((q_flat G) j)) (fun _ _ => rfl)) (Nat.le_of_ble_eq_true rfl) (Nat.le_of_ble_eq_true rfl) (Nat.le_of_ble_eq_true rfl) (Nat.le_of_ble_eq_true rfl) dX4_kept_10 (fun qa H _ hP hD hS => ?_)
  have hP : va_P D vwCl [q_mc mo th nb nj len mw me mf mn, q_fa T mf G, q_ia T mn 4 nu, (q1, .inl (T 4, 2, .inr (.inr (.inr (.inr (fun _ => none)))))), q_fa T qa G] H := hP
  have hD : va_D A [q_mc mo th nb nj len mw me mf mn, q_fa T mf G, q_ia T mn 4 nu, (q1, .inl (T 4, 2, .inr (.inr (.inr (.inr (fun _ => none)))))), q_fa T qa G] := hD
  refine va_castA (D := D) hx hb hown (hts (.classLink RX4 134 "[I") (by decide +kernel)) hP 4 rfl (q_nmI hK) dX4_kept_13 ?_
  refine q_astM (args := args) (i := 0) hx hb hG.2 hK hP hD hS 3 4 rfl rfl (by unfold vp_in; decide) dX4_kept_16 (fun H locs hP hD hS => ?_)
  rw [show (0 : Int32).toNatClampNeg = 0 from by decide] at hP hD
  have hP : va_P D vwCl [q_mc mo th nb nj len mw me mf mn, q_fa T mf G, q_ia T mn 4 nu, (q1, .inl (T 4, 2, .inr (.inr (.inr (.inr (va_up (fun _ => none) 0 (some qa))))))), q_fa T qa G] H := hP
  have hD : va_D A [q_mc mo th nb nj len mw me mf mn, q_fa T mf G, q_ia T mn 4 nu, (q1, .inl (T 4, 2, .inr (.inr (.inr (.inr (va_up (fun _ => none) 0 (some qa))))))), q_fa T qa G] := hD
  refine lv_dup hx hb dX4_kept_17 rfl ?_
  refine lv_iconst (v := 1) hx hb dX4_kept_18 (by decide) ?_
  refine lv_aload_n hx hb dX4_kept_19 rfl (lv_at hl 0 rfl) ?_
  refine va_get (D := D) (ci := 5) (v := .ref mn) (C := RX4) (T := TX4) (N := 8) hx hb hts iX4 hown hK hP 0 rfl rfl 7 (by decide) (hts (.fieldLink RX4 23 "ToyRegattaModel" "numbers" "[I") (by decide +kernel)) (fun _ h9 => h9) rfl dX4_kept_20 ?_
  refine va_clone (D := D) (x := (4, .inl nu)) (ty := .int) hx hb (hml.trans hl.1.symm) hown (hts (.methodLink RX4 135 ⟨"[I", "clone", "()Ljava/lang/Object;"⟩) (by decide +kernel)) (hts (.sameMethod "[I" "java/lang/Object" "clone" "()Ljava/lang/Object;") (by decide +kernel)) (hts (.native ⟨"java/lang/Object", "clone", "()Ljava/lang/Object;"⟩) (by decide +kernel)) (hts (.instanceMethod ⟨"java/lang/Object", "clone", "()Ljava/lang/Object;"⟩) (by decide +kernel)) (hts (.selects "[I" ⟨"[I", "clone", "()Ljava/lang/Object;"⟩ ⟨"java/lang/Object", "clone", "()Ljava/lang/Object;"⟩) (by decide +kernel)) hG.1 hK hP hD hS hA 2 0 rfl rfl (q_nmI hK) (va_fit (n := 4) (F := fun j => .int (nu j)) (fun _ _ => rfl)) (Nat.le_of_ble_eq_true rfl) (Nat.le_of_ble_eq_true rfl) (Nat.le_of_ble_eq_true rfl) (Nat.le_of_ble_eq_true rfl) dX4_kept_23 (fun qb H _ hP hD hS => ?_)
  have hP : va_P D vwCl [q_mc mo th nb nj len mw me mf mn, q_fa T mf G, q_ia T mn 4 nu, (q1, .inl (T 4, 2, .inr (.inr (.inr (.inr (va_up (fun _ => none) 0 (some qa))))))), q_fa T qa G, q_ia T qb 4 nu] H := hP
  have hD : va_D A [q_mc mo th nb nj len mw me mf mn, q_fa T mf G, q_ia T mn 4 nu, (q1, .inl (T 4, 2, .inr (.inr (.inr (.inr (va_up (fun _ => none) 0 (some qa))))))), q_fa T qa G, q_ia T qb 4 nu] := hD
  refine va_castA (D := D) hx hb hown (hts (.classLink RX4 134 "[I") (by decide +kernel)) hP 5 rfl (q_nmI hK) dX4_kept_26 ?_
  refine q_astM (args := args) (i := 1) hx hb hG.2 hK hP hD hS 3 5 rfl rfl (by unfold vp_in; decide) dX4_kept_29 (fun H locs hP hD hS => ?_)
  rw [show (1 : Int32).toNatClampNeg = 1 from by decide] at hP hD
  have hP : va_P D vwCl [q_mc mo th nb nj len mw me mf mn, q_fa T mf G, q_ia T mn 4 nu, q_kc T q1 qa qb, q_fa T qa G, q_ia T qb 4 nu] H := hP
  have hD : va_D A [q_mc mo th nb nj len mw me mf mn, q_fa T mf G, q_ia T mn 4 nu, q_kc T q1 qa qb, q_fa T qa G, q_ia T qb 4 nu] := hD
  exact q_aret hx hb hr (Or.inr ⟨_, rfl⟩) hlocks hP hK hD hS (Nat.le_of_ble_eq_true rfl) (Nat.le_of_ble_eq_true rfl) dX4_kept_30 ⟨q1, qa, qb, rfl, rfl⟩
abbrev rmX4_bringBack : Room := { frames := 1, cells := 0, slots := 0, locals := 40 }
set_option maxHeartbeats 1000000 in
set_option maxRecDepth 100000 in
theorem c_X4_bringBack (l : Launch) (D : va_G) (T : Nat → ClassId) (mo mw me mf mn nb nj : Nat) (th len : Int32) (G G1 : Nat → Nat → Int32) (nu n1 : Nat → Int32) (q1 qa qb : Nat) : q_M l D (q_ty T) yX4_bringBack wsX4_bringBack rmX4_bringBack [.ref mo, .ref q1] [q_mc mo th nb nj len mw me mf mn, q_fa T mf G1, q_ia T mn 4 n1, q_kc T q1 qa qb, q_fa T qa G, q_ia T qb 4 nu] q_no (q_is none [q_mc mo th nb nj len mw me mf mn, q_fa T mf G, q_ia T mn 4 nu, q_kc T q1 qa qb, q_fa T qa G, q_ia T qb 4 nu]) := by
  refine q_start (cc := cX4_bringBack) (maxL := 2) (ret := none) (by decide) rfl (Nat.le_of_ble_eq_true rfl) ?_
  intro p e s m args below meth c A H locs hx hb hr hts hown hlocks hml hnm hP hK hD hS hA hG ls hl
  have hown : s.vm.findClass RX4 = some m.cls := hown
  have hC : CallFix p m c cX4_bringBack 2 s args wsX4_bringBack RX4 := ⟨hx, hb, hml, hown, hts⟩
  have iX4 : ∀ w ∈ wsX40, w ∈ wsX4_bringBack := by decide +kernel
  have hl : lv_has ls 2 [(0, .ref mo), (1, .ref q1)] := hl
  refine lv_aload_n hx hb dX4_bringBack_0 rfl (lv_at hl 1 rfl) ?_
  refine lv_iconst (v := 0) hx hb dX4_bringBack_1 (by decide) ?_
  refine q_aldM hx hb hK hP 3 rfl (by unfold vp_in; decide) dX4_bringBack_2 ?_
  refine W.eq (g2 := F0 m 3 ls [.ref qa]) rfl ?_
  refine lv_iconst (v := 0) hx hb dX4_bringBack_3 (by decide) ?_
  refine lv_aload_n hx hb dX4_bringBack_4 rfl (lv_at hl 0 rfl) ?_
  refine va_get (D := D) (ci := 5) (v := .ref mf) (C := RX4) (T := TX4) (N := 8) hx hb hts iX4 hown hK hP 0 rfl rfl 6 (by decide) (hts (.fieldLink RX4 20 "ToyRegattaModel" "fleet" "[I") (by decide +kernel)) (fun _ h9 => h9) rfl dX4_bringBack_5 ?_
  refine lv_iconst (v := 0) hx hb dX4_bringBack_8 (by decide) ?_
  refine lv_aload_n hx hb dX4_bringBack_9 rfl (lv_at hl 0 rfl) ?_
  refine va_get (D := D) (ci := 5) (v := .ref mf) (C := RX4) (T := TX4) (N := 8) hx hb hts iX4 hown hK hP 0 rfl rfl 6 (by decide) (hts (.fieldLink RX4 20 "ToyRegattaModel" "fleet" "[I") (by decide +kernel)) (fun _ h9 => h9) rfl dX4_bringBack_10 ?_
  refine va_alen (D := D) (v := 80) hx hb hK hP 1 0 rfl rfl rfl dX4_bringBack_13 ?_
  refine va_copyi (D := D) hx hb (hml.trans hl.1.symm) hown (hts (.methodLink RX4 44 arraycopyName) (by decide +kernel)) (hts (.native arraycopyName) (by decide +kernel)) (hts (.static arraycopyName) (by decide +kernel)) (hts (.initialized "java/lang/System") (by decide +kernel)) hK hP hD hS 4 1 0 0 rfl rfl rfl rfl rfl (by decide) (by decide) (by decide) (by decide) (by decide) (fun _ _ => rfl) (Nat.le_of_ble_eq_true rfl) (Nat.le_of_ble_eq_true rfl) dX4_bringBack_14 (fun H locs hP hD hS => ?_)
  have hP := q_ia_ext (k := 1) (n := 80) (g := (q_flat G)) rfl (fun i hi => q_cpy_all hi) hP
  have hD := hD.set (p := 1) (e := .inl (T 0, 80, .inl (q_flat G))) rfl
  have hP : va_P D vwCl [q_mc mo th nb nj len mw me mf mn, q_fa T mf G, q_ia T mn 4 n1, q_kc T q1 qa qb, q_fa T qa G, q_ia T qb 4 nu] H := hP
  have hD : va_D A [q_mc mo th nb nj len mw me mf mn, q_fa T mf G, q_ia T mn 4 n1, q_kc T q1 qa qb, q_fa T qa G, q_ia T qb 4 nu] := hD
  refine lv_aload_n hx hb dX4_bringBack_17 rfl (lv_at hl 1 rfl) ?_
  refine lv_iconst (v := 1) hx hb dX4_bringBack_18 (by decide) ?_
  refine q_aldM hx hb hK hP 3 rfl (by unfold vp_in; decide) dX4_bringBack_19 ?_
  refine W.eq (g2 := F0 m 20 ls [.ref qb]) rfl ?_
  refine lv_iconst (v := 0) hx hb dX4_bringBack_20 (by decide) ?_
  refine lv_aload_n hx hb dX4_bringBack_21 rfl (lv_at hl 0 rfl) ?_
  refine va_get (D := D) (ci := 5) (v := .ref mn) (C := RX4) (T := TX4) (N := 8) hx hb hts iX4 hown hK hP 0 rfl rfl 7 (by decide) (hts (.fieldLink RX4 23 "ToyRegattaModel" "numbers" "[I") (by decide +kernel)) (fun _ h9 => h9) rfl dX4_bringBack_22 ?_
  refine lv_iconst (v := 0) hx hb dX4_bringBack_25 (by decide) ?_
  refine lv_aload_n hx hb dX4_bringBack_26 rfl (lv_at hl 0 rfl) ?_
  refine va_get (D := D) (ci := 5) (v := .ref mn) (C := RX4) (T := TX4) (N := 8) hx hb hts iX4 hown hK hP 0 rfl rfl 7 (by decide) (hts (.fieldLink RX4 23 "ToyRegattaModel" "numbers" "[I") (by decide +kernel)) (fun _ h9 => h9) rfl dX4_bringBack_27 ?_
  refine va_alen (D := D) (v := 4) hx hb hK hP 2 0 rfl rfl rfl dX4_bringBack_30 ?_
  refine va_copyi (D := D) hx hb (hml.trans hl.1.symm) hown (hts (.methodLink RX4 44 arraycopyName) (by decide +kernel)) (hts (.native arraycopyName) (by decide +kernel)) (hts (.static arraycopyName) (by decide +kernel)) (hts (.initialized "java/lang/System") (by decide +kernel)) hK hP hD hS 5 2 0 0 rfl rfl rfl rfl rfl (by decide) (by decide) (by decide) (by decide) (by decide) (fun _ _ => rfl) (Nat.le_of_ble_eq_true rfl) (Nat.le_of_ble_eq_true rfl) dX4_bringBack_31 (fun H locs hP hD hS => ?_)
  have hP := q_ia_ext (k := 2) (n := 4) (g := nu) rfl (fun i hi => q_cpy_all hi) hP
  have hD := hD.set (p := 2) (e := .inl (T 0, 4, .inl nu)) rfl
  have hP : va_P D vwCl [q_mc mo th nb nj len mw me mf mn, q_fa T mf G, q_ia T mn 4 nu, q_kc T q1 qa qb, q_fa T qa G, q_ia T qb 4 nu] H := hP
  have hD : va_D A [q_mc mo th nb nj len mw me mf mn, q_fa T mf G, q_ia T mn 4 nu, q_kc T q1 qa qb, q_fa T qa G, q_ia T qb 4 nu] := hD
  exact q_vret hx hb hr hlocks hP hK hD hS (Nat.le_of_ble_eq_true rfl) (Nat.le_of_ble_eq_true rfl) dX4_bringBack_34 ⟨rfl, rfl⟩
abbrev rmX4_when : Room := { frames := 7, cells := 123, slots := 806, locals := 152 }
set_option maxHeartbeats 1000000 in
set_option maxRecDepth 100000 in
theorem c_X4_when_ok (l : Launch) (D : va_G) (T : Nat → ClassId) (mo mw me mf mn nb nj : Nat) (th len : Int32) (G : Nat → Nat → Int32) (wf ey nu : Nat → Int32) (mk : Nat) (hm : nu 0 = nI mk) (hmk : mk < 2 ^ 30) (hn : nb ≤ 8) (hj : nj ≤ 3) (hz : mHz G nb) (hgo : rGo nu 0) (b : Nat) (hb8 : b < nb) (h1 : ¬ bOn nu = 0) : q_M l D (q_ty T) yX4_when wsX4_when rmX4_when [.ref mo, .int (nI b)] [q_mc mo th nb nj len mw me mf mn, q_ia T mw 10 wf, q_ia T me 3 ey, q_fa T mf G, q_ia T mn 4 nu] q_gA (q_is (some (.int ((rRun wf ey nj len nb 60 (G, nu)).1 b 6))) [q_mc mo 0 nb nj len mw me mf mn, q_ia T mw 10 wf, q_ia T me 3 ey, q_fa T mf G, q_ia T mn 4 nu]) := by
  refine q_start (cc := cX4_when) (maxL := 4) (ret := (some .int)) (by decide) rfl (Nat.le_of_ble_eq_true rfl) ?_
  intro p e s m args below meth c A H locs hx hb hr hts hown hlocks hml hnm hP hK hD hS hA hG ls hl
  have hown : s.vm.findClass RX4 = some m.cls := hown
  have hC : CallFix p m c cX4_when 4 s args wsX4_when RX4 := ⟨hx, hb, hml, hown, hts⟩
  have iX4 : ∀ w ∈ wsX40, w ∈ wsX4_when := by decide +kernel
  have hl : lv_has ls 4 [(0, .ref mo), (1, .int (nI b))] := hl
  refine lv_aload_n hx hb dX4_when_0 rfl (lv_at hl 0 rfl) ?_
  refine lv_iconst (v := 0) hx hb dX4_when_1 (by decide) ?_
  refine va_put (D := D) (ci := 5) (v := .int 0) (ty := .int) (C := RX4) (T := TX4) (N := 8) hx hb hts iX4 tyX4 tyX4_ok nmX4 hown hK hP hD hS 0 rfl rfl 0 (by decide) (hts (.fieldLink RX4 26 "ToyRegattaModel" "thrown" "I") (by decide +kernel)) (fun _ h9 => h9) rfl (by decide +kernel) rfl rfl (Nat.le_of_ble_eq_true rfl) dX4_when_2 (fun H locs hP hD hS => ?_)
  have hP : va_P D vwCl [q_mc mo 0 nb nj len mw me mf mn, q_ia T mw 10 wf, q_ia T me 3 ey, q_fa T mf G, q_ia T mn 4 nu] H := hP
  have hD : va_D A [q_mc mo 0 nb nj len mw me mf mn, q_ia T mw 10 wf, q_ia T me 3 ey, q_fa T mf G, q_ia T mn 4 nu] := hD
  refine lv_aload_n hx hb dX4_when_5 rfl (lv_at hl 0 rfl) ?_
  refine lv_iload_n hx hb dX4_when_6 rfl (lv_at hl 1 rfl) ?_
  refine q_callV (As := [.int (nI b)]) (rs := []) hC (c_X4_isBoat l D T mo mw me mf mn nb nj 0 len (nI b)) q_no_st q_no_at (cwV 1 hts gX4_when_X4_isBoat rfl rfl rfl (by decide +kernel) ⟨Nat.le_of_ble_eq_true rfl, Nat.le_of_ble_eq_true rfl⟩) (va_recv hK hP (ci := 5) (q0 := 0) rfl rfl) hK hP hD hS hA (q_mask [true, false, false, false, false] _) rfl hl.1 rfl (Nat.le_of_ble_eq_true rfl) dX4_when_7 ⟨(Nat.le_of_ble_eq_true rfl), (Nat.le_of_ble_eq_true rfl)⟩ (fun v9 C9 H locs hp hP hD hS => ?_)
  obtain ⟨rfl, rfl⟩ := hp
  have hP : va_P D vwCl [q_mc mo 0 nb nj len mw me mf mn, q_ia T mw 10 wf, q_ia T me 3 ey, q_fa T mf G, q_ia T mn 4 nu] H := q_P_perm (q_mrg_perm [true, false, false, false, false] _ _) hP
  have hD : va_D A [q_mc mo 0 nb nj len mw me mf mn, q_ia T mw 10 wf, q_ia T me 3 ey, q_fa T mf G, q_ia T mn 4 nu] := q_D_perm (q_mrg_perm [true, false, false, false, false] _ _) hD
  refine lv_if_ne (tgt := 19) hx hb dX4_when_10 (by decide) (fun c_10 => ?_) (fun c_10 => absurd c_10 (q_isb hb8 hn))
  refine lv_aload_n hx hb dX4_when_19 rfl (lv_at hl 0 rfl) ?_
  refine q_callV (As := []) (rs := []) hC (c_X4_isRace l D T mo mw me mf mn nb nj 0 len nu) q_no_st q_no_at (cwV 0 hts gX4_when_X4_isRace rfl rfl rfl (by decide +kernel) ⟨Nat.le_of_ble_eq_true rfl, Nat.le_of_ble_eq_true rfl⟩) (va_recv hK hP (ci := 5) (q0 := 0) rfl rfl) hK hP hD hS hA (q_mask [true, false, false, false, true] _) rfl hl.1 rfl (Nat.le_of_ble_eq_true rfl) dX4_when_20 ⟨(Nat.le_of_ble_eq_true rfl), (Nat.le_of_ble_eq_true rfl)⟩ (fun v9 C9 H locs hp hP hD hS => ?_)
  obtain ⟨rfl, rfl⟩ := hp
  have hP : va_P D vwCl [q_mc mo 0 nb nj len mw me mf mn, q_ia T mw 10 wf, q_ia T me 3 ey, q_fa T mf G, q_ia T mn 4 nu] H := q_P_perm (q_mrg_perm [true, false, false, false, true] _ _) hP
  have hD : va_D A [q_mc mo 0 nb nj len mw me mf mn, q_ia T mw 10 wf, q_ia T me 3 ey, q_fa T mf G, q_ia T mn 4 nu] := q_D_perm (q_mrg_perm [true, false, false, false, true] _ _) hD
  refine lv_if_ne (tgt := 28) hx hb dX4_when_23 (by decide) (fun c_23 => ?_) (fun c_23 => absurd c_23 h1)
  refine lv_aload_n hx hb dX4_when_28 rfl (lv_at hl 0 rfl) ?_
  refine q_callV (As := []) (rs := []) hC (c_X4_kept l D T mo mw me mf mn nb nj 0 len G nu) q_gA_st (q_gA_at hG) (cwV 0 hts gX4_when_X4_kept rfl rfl rfl (by decide +kernel) ⟨Nat.le_of_ble_eq_true rfl, Nat.le_of_ble_eq_true rfl⟩) (va_recv hK hP (ci := 5) (q0 := 0) rfl rfl) hK hP hD hS hA (q_mask [true, false, false, true, true] _) rfl hl.1 rfl (Nat.le_of_ble_eq_true rfl) dX4_when_29 ⟨(Nat.le_of_ble_eq_true rfl), (Nat.le_of_ble_eq_true rfl)⟩ (fun v9 C9 H locs hp hP hD hS => ?_)
  obtain ⟨q1, qa, qb, rfl, rfl⟩ := hp
  have hP : va_P D vwCl [q_mc mo 0 nb nj len mw me mf mn, q_ia T mw 10 wf, q_ia T me 3 ey, q_fa T mf G, q_ia T mn 4 nu, q_kc T q1 qa qb, q_fa T qa G, q_ia T qb 4 nu] H := q_P_perm ((show ([q_mc mo 0 nb nj len mw me mf mn, q_fa T mf G, q_ia T mn 4 nu] ++ ([q_kc T q1 qa qb, q_fa T qa G, q_ia T qb 4 nu] ++ [q_ia T mw 10 wf, q_ia T me 3 ey])).Perm ([q_mc mo 0 nb nj len mw me mf mn, q_fa T mf G, q_ia T mn 4 nu] ++ ([q_ia T mw 10 wf, q_ia T me 3 ey] ++ [q_kc T q1 qa qb, q_fa T qa G, q_ia T qb 4 nu])) from List.perm_append_comm.append_left _).trans (show (([q_mc mo 0 nb nj len mw me mf mn, q_fa T mf G, q_ia T mn 4 nu] ++ [q_ia T mw 10 wf, q_ia T me 3 ey]) ++ [q_kc T q1 qa qb, q_fa T qa G, q_ia T qb 4 nu]).Perm ([q_mc mo 0 nb nj len mw me mf mn, q_ia T mw 10 wf, q_ia T me 3 ey, q_fa T mf G, q_ia T mn 4 nu] ++ [q_kc T q1 qa qb, q_fa T qa G, q_ia T qb 4 nu]) from (q_mrg_perm [true, false, false, true, true] [q_mc mo 0 nb nj len mw me mf mn, q_fa T mf G, q_ia T mn 4 nu] [q_ia T mw 10 wf, q_ia T me 3 ey]).append_right _)) hP
  have hD : va_D A [q_mc mo 0 nb nj len mw me mf mn, q_ia T mw 10 wf, q_ia T me 3 ey, q_fa T mf G, q_ia T mn 4 nu, q_kc T q1 qa qb, q_fa T qa G, q_ia T qb 4 nu] := q_D_perm ((show ([q_mc mo 0 nb nj len mw me mf mn, q_fa T mf G, q_ia T mn 4 nu] ++ ([q_kc T q1 qa qb, q_fa T qa G, q_ia T qb 4 nu] ++ [q_ia T mw 10 wf, q_ia T me 3 ey])).Perm ([q_mc mo 0 nb nj len mw me mf mn, q_fa T mf G, q_ia T mn 4 nu] ++ ([q_ia T mw 10 wf, q_ia T me 3 ey] ++ [q_kc T q1 qa qb, q_fa T qa G, q_ia T qb 4 nu])) from List.perm_append_comm.append_left _).trans (show (([q_mc mo 0 nb nj len mw me mf mn, q_fa T mf G, q_ia T mn 4 nu] ++ [q_ia T mw 10 wf, q_ia T me 3 ey]) ++ [q_kc T q1 qa qb, q_fa T qa G, q_ia T qb 4 nu]).Perm ([q_mc mo 0 nb nj len mw me mf mn, q_ia T mw 10 wf, q_ia T me 3 ey, q_fa T mf G, q_ia T mn 4 nu] ++ [q_kc T q1 qa qb, q_fa T qa G, q_ia T qb 4 nu]) from (q_mrg_perm [true, false, false, true, true] [q_mc mo 0 nb nj len mw me mf mn, q_fa T mf G, q_ia T mn 4 nu] [q_ia T mw 10 wf, q_ia T me 3 ey]).append_right _)) hD
  refine lv_astore_n (lv' := [(2, .ref q1), (0, .ref mo), (1, .int (nI b))]) hx hb dX4_when_32 rfl hl (by decide) rfl (fun ls hl => ?_)
  refine lv_aload_n hx hb dX4_when_33 rfl (lv_at hl 1 rfl) ?_
  refine q_callV (As := []) (rs := []) hC (c_X4_sailOut l D T mo mw me mf mn nb nj 0 len G wf ey nu mk hm hmk hn hj hz hgo) q_no_st q_no_at (cwV 0 hts gX4_when_X4_sailOut rfl rfl rfl (by decide +kernel) ⟨Nat.le_of_ble_eq_true rfl, Nat.le_of_ble_eq_true rfl⟩) (va_recv hK hP (ci := 5) (q0 := 0) rfl rfl) hK hP hD hS hA (q_mask [true, true, true, true, true, false, false, false] _) rfl hl.1 rfl (Nat.le_of_ble_eq_true rfl) dX4_when_34 ⟨(Nat.le_of_ble_eq_true rfl), (Nat.le_of_ble_eq_true rfl)⟩ (fun v9 C9 H locs hp hP hD hS => ?_)
  obtain ⟨rfl, rfl⟩ := hp
  have hP : va_P D vwCl [q_mc mo 0 nb nj len mw me mf mn, q_ia T mw 10 wf, q_ia T me 3 ey, q_fa T mf ((rRun wf ey nj len nb 60 (G, nu)).1), q_ia T mn 4 ((rRun wf ey nj len nb 60 (G, nu)).2), q_kc T q1 qa qb, q_fa T qa G, q_ia T qb 4 nu] H := q_P_perm (q_mrg_perm [true, true, true, true, true, false, false, false] _ _) hP
  have hD : va_D A [q_mc mo 0 nb nj len mw me mf mn, q_ia T mw 10 wf, q_ia T me 3 ey, q_fa T mf ((rRun wf ey nj len nb 60 (G, nu)).1), q_ia T mn 4 ((rRun wf ey nj len nb 60 (G, nu)).2), q_kc T q1 qa qb, q_fa T qa G, q_ia T qb 4 nu] := q_D_perm (q_mrg_perm [true, true, true, true, true, false, false, false] _ _) hD
  refine lv_aload_n hx hb dX4_when_37 rfl (lv_at hl 1 rfl) ?_
  refine lv_iload_n hx hb dX4_when_38 rfl (lv_at hl 2 rfl) ?_
  refine lv_bipush (v := 6) hx hb dX4_when_39 (by decide) ?_
  refine q_callV (As := [.int (nI b), .int 6]) (rs := []) hC (c_X4_bo l D T mo mw me mf mn nb nj 0 len ((rRun wf ey nj len nb 60 (G, nu)).1) b 6 ((rRun wf ey nj len nb 60 (G, nu)).1 b) (by omega) (by omega) rfl) q_no_st q_no_at (cwV 2 hts gX4_when_X4_bo rfl rfl rfl (by decide +kernel) ⟨Nat.le_of_ble_eq_true rfl, Nat.le_of_ble_eq_true rfl⟩) (va_recv hK hP (ci := 5) (q0 := 0) rfl rfl) hK hP hD hS hA (q_mask [true, false, false, true, false, false, false, false] _) rfl hl.1 rfl (Nat.le_of_ble_eq_true rfl) dX4_when_41 ⟨(Nat.le_of_ble_eq_true rfl), (Nat.le_of_ble_eq_true rfl)⟩ (fun v9 C9 H locs hp hP hD hS => ?_)
  obtain ⟨rfl, rfl⟩ := hp
  have hP : va_P D vwCl [q_mc mo 0 nb nj len mw me mf mn, q_ia T mw 10 wf, q_ia T me 3 ey, q_fa T mf ((rRun wf ey nj len nb 60 (G, nu)).1), q_ia T mn 4 ((rRun wf ey nj len nb 60 (G, nu)).2), q_kc T q1 qa qb, q_fa T qa G, q_ia T qb 4 nu] H := q_P_perm (q_mrg_perm [true, false, false, true, false, false, false, false] _ _) hP
  have hD : va_D A [q_mc mo 0 nb nj len mw me mf mn, q_ia T mw 10 wf, q_ia T me 3 ey, q_fa T mf ((rRun wf ey nj len nb 60 (G, nu)).1), q_ia T mn 4 ((rRun wf ey nj len nb 60 (G, nu)).2), q_kc T q1 qa qb, q_fa T qa G, q_ia T qb 4 nu] := q_D_perm (q_mrg_perm [true, false, false, true, false, false, false, false] _ _) hD
  refine lv_istore_n (lv' := [(3, .int ((rRun wf ey nj len nb 60 (G, nu)).1 b 6)), (2, .ref q1), (0, .ref mo), (1, .int (nI b))]) hx hb dX4_when_44 rfl hl (by decide) rfl (fun ls hl => ?_)
  refine lv_aload_n hx hb dX4_when_45 rfl (lv_at hl 2 rfl) ?_
  refine lv_aload_n hx hb dX4_when_46 rfl (lv_at hl 1 rfl) ?_
  refine q_callV (As := [.ref q1]) (rs := []) hC (c_X4_bringBack l D T mo mw me mf mn nb nj 0 len G ((rRun wf ey nj len nb 60 (G, nu)).1) nu ((rRun wf ey nj len nb 60 (G, nu)).2) q1 qa qb) q_no_st q_no_at (cwV 1 hts gX4_when_X4_bringBack rfl rfl rfl (by decide +kernel) ⟨Nat.le_of_ble_eq_true rfl, Nat.le_of_ble_eq_true rfl⟩) (va_recv hK hP (ci := 5) (q0 := 0) rfl rfl) hK hP hD hS hA (q_mask [true, false, false, true, true, true, true, true] _) rfl hl.1 rfl (Nat.le_of_ble_eq_true rfl) dX4_when_47 ⟨(Nat.le_of_ble_eq_true rfl), (Nat.le_of_ble_eq_true rfl)⟩ (fun v9 C9 H locs hp hP hD hS => ?_)
  obtain ⟨rfl, rfl⟩ := hp
  have hP : va_P D vwCl [q_mc mo 0 nb nj len mw me mf mn, q_ia T mw 10 wf, q_ia T me 3 ey, q_fa T mf G, q_ia T mn 4 nu, q_kc T q1 qa qb, q_fa T qa G, q_ia T qb 4 nu] H := q_P_perm (q_mrg_perm [true, false, false, true, true, true, true, true] _ _) hP
  have hD : va_D A [q_mc mo 0 nb nj len mw me mf mn, q_ia T mw 10 wf, q_ia T me 3 ey, q_fa T mf G, q_ia T mn 4 nu, q_kc T q1 qa qb, q_fa T qa G, q_ia T qb 4 nu] := q_D_perm (q_mrg_perm [true, false, false, true, true, true, true, true] _ _) hD
  have hP : va_P D vwCl [q_mc mo 0 nb nj len mw me mf mn, q_ia T mw 10 wf, q_ia T me 3 ey, q_fa T mf G, q_ia T mn 4 nu] H := hP.sub [0, 1, 2, 3, 4] rfl
  have hD : va_D A [q_mc mo 0 nb nj len mw me mf mn, q_ia T mw 10 wf, q_ia T me 3 ey, q_fa T mf G, q_ia T mn 4 nu] := hD.sub [0, 1, 2, 3, 4] (by decide) rfl
  refine lv_iload_n hx hb dX4_when_50 rfl (lv_at hl 0 rfl) ?_
  exact q_iret hx hb hr hlocks hP hK hD hS (Nat.le_of_ble_eq_true rfl) (Nat.le_of_ble_eq_true rfl) dX4_when_51 ⟨rfl, rfl⟩
set_option maxHeartbeats 1000000 in
set_option maxRecDepth 100000 in
theorem c_X4_when_no (l : Launch) (D : va_G) (T : Nat → ClassId) (mo mw me mf mn nb nj : Nat) (th len : Int32) (G : Nat → Nat → Int32) (nu : Nat → Int32) (b : Nat) (hn : nb ≤ 8) (hb8 : b < nb) (h1 : bOn nu = 0) : q_M l D (q_ty T) yX4_when wsX4_when rmX4_when [.ref mo, .int (nI b)] [q_mc mo th nb nj len mw me mf mn, q_fa T mf G, q_ia T mn 4 nu] q_no (q_is (some (.int (-1))) [q_mc mo 0 nb nj len mw me mf mn, q_fa T mf G, q_ia T mn 4 nu]) := by
  refine q_start (cc := cX4_when) (maxL := 4) (ret := (some .int)) (by decide) rfl (Nat.le_of_ble_eq_true rfl) ?_
  intro p e s m args below meth c A H locs hx hb hr hts hown hlocks hml hnm hP hK hD hS hA hG ls hl
  have hown : s.vm.findClass RX4 = some m.cls := hown
  have hC : CallFix p m c cX4_when 4 s args wsX4_when RX4 := ⟨hx, hb, hml, hown, hts⟩
  have iX4 : ∀ w ∈ wsX40, w ∈ wsX4_when := by decide +kernel
  have hl : lv_has ls 4 [(0, .ref mo), (1, .int (nI b))] := hl
  refine lv_aload_n hx hb dX4_when_0 rfl (lv_at hl 0 rfl) ?_
  refine lv_iconst (v := 0) hx hb dX4_when_1 (by decide) ?_
  refine va_put (D := D) (ci := 5) (v := .int 0) (ty := .int) (C := RX4) (T := TX4) (N := 8) hx hb hts iX4 tyX4 tyX4_ok nmX4 hown hK hP hD hS 0 rfl rfl 0 (by decide) (hts (.fieldLink RX4 26 "ToyRegattaModel" "thrown" "I") (by decide +kernel)) (fun _ h9 => h9) rfl (by decide +kernel) rfl rfl (Nat.le_of_ble_eq_true rfl) dX4_when_2 (fun H locs hP hD hS => ?_)
  have hP : va_P D vwCl [q_mc mo 0 nb nj len mw me mf mn, q_fa T mf G, q_ia T mn 4 nu] H := hP
  have hD : va_D A [q_mc mo 0 nb nj len mw me mf mn, q_fa T mf G, q_ia T mn 4 nu] := hD
  refine lv_aload_n hx hb dX4_when_5 rfl (lv_at hl 0 rfl) ?_
  refine lv_iload_n hx hb dX4_when_6 rfl (lv_at hl 1 rfl) ?_
  refine q_callV (As := [.int (nI b)]) (rs := []) hC (c_X4_isBoat l D T mo mw me mf mn nb nj 0 len (nI b)) q_no_st q_no_at (cwV 1 hts gX4_when_X4_isBoat rfl rfl rfl (by decide +kernel) ⟨Nat.le_of_ble_eq_true rfl, Nat.le_of_ble_eq_true rfl⟩) (va_recv hK hP (ci := 5) (q0 := 0) rfl rfl) hK hP hD hS hA (q_mask [true, false, false] _) rfl hl.1 rfl (Nat.le_of_ble_eq_true rfl) dX4_when_7 ⟨(Nat.le_of_ble_eq_true rfl), (Nat.le_of_ble_eq_true rfl)⟩ (fun v9 C9 H locs hp hP hD hS => ?_)
  obtain ⟨rfl, rfl⟩ := hp
  have hP : va_P D vwCl [q_mc mo 0 nb nj len mw me mf mn, q_fa T mf G, q_ia T mn 4 nu] H := q_P_perm (q_mrg_perm [true, false, false] _ _) hP
  have hD : va_D A [q_mc mo 0 nb nj len mw me mf mn, q_fa T mf G, q_ia T mn 4 nu] := q_D_perm (q_mrg_perm [true, false, false] _ _) hD
  refine lv_if_ne (tgt := 19) hx hb dX4_when_10 (by decide) (fun c_10 => ?_) (fun c_10 => absurd c_10 (q_isb hb8 hn))
  refine lv_aload_n hx hb dX4_when_19 rfl (lv_at hl 0 rfl) ?_
  refine q_callV (As := []) (rs := []) hC (c_X4_isRace l D T mo mw me mf mn nb nj 0 len nu) q_no_st q_no_at (cwV 0 hts gX4_when_X4_isRace rfl rfl rfl (by decide +kernel) ⟨Nat.le_of_ble_eq_true rfl, Nat.le_of_ble_eq_true rfl⟩) (va_recv hK hP (ci := 5) (q0 := 0) rfl rfl) hK hP hD hS hA (q_mask [true, false, true] _) rfl hl.1 rfl (Nat.le_of_ble_eq_true rfl) dX4_when_20 ⟨(Nat.le_of_ble_eq_true rfl), (Nat.le_of_ble_eq_true rfl)⟩ (fun v9 C9 H locs hp hP hD hS => ?_)
  obtain ⟨rfl, rfl⟩ := hp
  have hP : va_P D vwCl [q_mc mo 0 nb nj len mw me mf mn, q_fa T mf G, q_ia T mn 4 nu] H := q_P_perm (q_mrg_perm [true, false, true] _ _) hP
  have hD : va_D A [q_mc mo 0 nb nj len mw me mf mn, q_fa T mf G, q_ia T mn 4 nu] := q_D_perm (q_mrg_perm [true, false, true] _ _) hD
  refine lv_if_ne (tgt := 28) hx hb dX4_when_23 (by decide) (fun c_23 => absurd h1 c_23) (fun c_23 => ?_)
  refine lv_iconst (v := (-1)) hx hb dX4_when_26 (by decide) ?_
  exact q_iret hx hb hr hlocks hP hK hD hS (Nat.le_of_ble_eq_true rfl) (Nat.le_of_ble_eq_true rfl) dX4_when_27 ⟨rfl, rfl⟩
set_option maxHeartbeats 1000000 in
set_option maxRecDepth 100000 in
theorem c_X4_when_f1 (l : Launch) (D : va_G) (T : Nat → ClassId) (mo mw me mf mn nb nj : Nat) (th len : Int32) (x : Int32) (h1 : bIsIn x 0 (nI nb - 1) = 0) : q_M l D (q_ty T) yX4_when wsX4_when rmX4_when [.ref mo, .int x] [q_mc mo th nb nj len mw me mf mn] q_no (q_is (some (.int 0)) [q_mc mo 1 nb nj len mw me mf mn]) := by
  refine q_start (cc := cX4_when) (maxL := 4) (ret := (some .int)) (by decide) rfl (Nat.le_of_ble_eq_true rfl) ?_
  intro p e s m args below meth c A H locs hx hb hr hts hown hlocks hml hnm hP hK hD hS hA hG ls hl
  have hown : s.vm.findClass RX4 = some m.cls := hown
  have hC : CallFix p m c cX4_when 4 s args wsX4_when RX4 := ⟨hx, hb, hml, hown, hts⟩
  have iX4 : ∀ w ∈ wsX40, w ∈ wsX4_when := by decide +kernel
  have hl : lv_has ls 4 [(0, .ref mo), (1, .int x)] := hl
  refine lv_aload_n hx hb dX4_when_0 rfl (lv_at hl 0 rfl) ?_
  refine lv_iconst (v := 0) hx hb dX4_when_1 (by decide) ?_
  refine va_put (D := D) (ci := 5) (v := .int 0) (ty := .int) (C := RX4) (T := TX4) (N := 8) hx hb hts iX4 tyX4 tyX4_ok nmX4 hown hK hP hD hS 0 rfl rfl 0 (by decide) (hts (.fieldLink RX4 26 "ToyRegattaModel" "thrown" "I") (by decide +kernel)) (fun _ h9 => h9) rfl (by decide +kernel) rfl rfl (Nat.le_of_ble_eq_true rfl) dX4_when_2 (fun H locs hP hD hS => ?_)
  have hP : va_P D vwCl [q_mc mo 0 nb nj len mw me mf mn] H := hP
  have hD : va_D A [q_mc mo 0 nb nj len mw me mf mn] := hD
  refine lv_aload_n hx hb dX4_when_5 rfl (lv_at hl 0 rfl) ?_
  refine lv_iload_n hx hb dX4_when_6 rfl (lv_at hl 1 rfl) ?_
  refine q_callV (As := [.int x]) (rs := []) hC (c_X4_isBoat l D T mo mw me mf mn nb nj 0 len x) q_no_st q_no_at (cwV 1 hts gX4_when_X4_isBoat rfl rfl rfl (by decide +kernel) ⟨Nat.le_of_ble_eq_true rfl, Nat.le_of_ble_eq_true rfl⟩) (va_recv hK hP (ci := 5) (q0 := 0) rfl rfl) hK hP hD hS hA (q_mask [true] _) rfl hl.1 rfl (Nat.le_of_ble_eq_true rfl) dX4_when_7 ⟨(Nat.le_of_ble_eq_true rfl), (Nat.le_of_ble_eq_true rfl)⟩ (fun v9 C9 H locs hp hP hD hS => ?_)
  obtain ⟨rfl, rfl⟩ := hp
  have hP : va_P D vwCl [q_mc mo 0 nb nj len mw me mf mn] H := q_P_perm (q_mrg_perm [true] _ _) hP
  have hD : va_D A [q_mc mo 0 nb nj len mw me mf mn] := q_D_perm (q_mrg_perm [true] _ _) hD
  refine lv_if_ne (tgt := 19) hx hb dX4_when_10 (by decide) (fun c_10 => absurd h1 c_10) (fun c_10 => ?_)
  refine lv_aload_n hx hb dX4_when_13 rfl (lv_at hl 0 rfl) ?_
  refine lv_iconst (v := 1) hx hb dX4_when_14 (by decide) ?_
  refine q_callV (As := [.int 1]) (rs := []) hC (c_X4_fail l D T mo mw me mf mn nb nj 0 len 1) q_no_st q_no_at (cwV 1 hts gX4_when_X4_fail rfl rfl rfl (by decide +kernel) ⟨Nat.le_of_ble_eq_true rfl, Nat.le_of_ble_eq_true rfl⟩) (va_recv hK hP (ci := 5) (q0 := 0) rfl rfl) hK hP hD hS hA (q_mask [true] _) rfl hl.1 rfl (Nat.le_of_ble_eq_true rfl) dX4_when_15 ⟨(Nat.le_of_ble_eq_true rfl), (Nat.le_of_ble_eq_true rfl)⟩ (fun v9 C9 H locs hp hP hD hS => ?_)
  obtain ⟨rfl, rfl⟩ := hp
  have hP : va_P D vwCl [q_mc mo 1 nb nj len mw me mf mn] H := q_P_perm (q_mrg_perm [true] _ _) hP
  have hD : va_D A [q_mc mo 1 nb nj len mw me mf mn] := q_D_perm (q_mrg_perm [true] _ _) hD
  exact q_iret hx hb hr hlocks hP hK hD hS (Nat.le_of_ble_eq_true rfl) (Nat.le_of_ble_eq_true rfl) dX4_when_18 ⟨rfl, rfl⟩

def rWin (G : Nat → Nat → Int32) (n : Nat) : Nat → Int32
  | 0 => -1
  | b + 1 => if G b 9 = 2 then (if dRank G n b = 0 then nI b else rWin G n b) else rWin G n b

abbrev rmX4_winner : Room := { frames := 7, cells := 123, slots := 806, locals := 152 }
set_option maxHeartbeats 1000000 in
set_option maxRecDepth 100000 in
theorem c_X4_winner_ok1 (l : Launch) (D : va_G) (T : Nat → ClassId) (mo mw me mf mn nb nj : Nat) (th len : Int32) (G : Nat → Nat → Int32) (wf ey nu : Nat → Int32) (mk : Nat) (hm : nu 0 = nI mk) (hmk : mk < 2 ^ 30) (hn : nb ≤ 8) (hj : nj ≤ 3) (hz : mHz G nb) (hgo : rGo nu 0) (h1 : ¬ bOn nu = 0) : q_M l D (q_ty T) yX4_winner wsX4_winner rmX4_winner [.ref mo] [q_mc mo th nb nj len mw me mf mn, q_ia T mw 10 wf, q_ia T me 3 ey, q_fa T mf G, q_ia T mn 4 nu] q_gA (q_is (some (.int (rWin (rRun wf ey nj len nb 60 (G, nu)).1 nb nb))) [q_mc mo 0 nb nj len mw me mf mn, q_ia T mw 10 wf, q_ia T me 3 ey, q_fa T mf G, q_ia T mn 4 nu]) := by
  refine q_start (cc := cX4_winner) (maxL := 4) (ret := (some .int)) (by decide) rfl (Nat.le_of_ble_eq_true rfl) ?_
  intro p e s m args below meth c A H locs hx hb hr hts hown hlocks hml hnm hP hK hD hS hA hG ls hl
  have hown : s.vm.findClass RX4 = some m.cls := hown
  have hC : CallFix p m c cX4_winner 4 s args wsX4_winner RX4 := ⟨hx, hb, hml, hown, hts⟩
  have iX4 : ∀ w ∈ wsX40, w ∈ wsX4_winner := by decide +kernel
  have hl : lv_has ls 4 [(0, .ref mo)] := hl
  refine lv_aload_n hx hb dX4_winner_0 rfl (lv_at hl 0 rfl) ?_
  refine lv_iconst (v := 0) hx hb dX4_winner_1 (by decide) ?_
  refine va_put (D := D) (ci := 5) (v := .int 0) (ty := .int) (C := RX4) (T := TX4) (N := 8) hx hb hts iX4 tyX4 tyX4_ok nmX4 hown hK hP hD hS 0 rfl rfl 0 (by decide) (hts (.fieldLink RX4 26 "ToyRegattaModel" "thrown" "I") (by decide +kernel)) (fun _ h9 => h9) rfl (by decide +kernel) rfl rfl (Nat.le_of_ble_eq_true rfl) dX4_winner_2 (fun H locs hP hD hS => ?_)
  have hP : va_P D vwCl [q_mc mo 0 nb nj len mw me mf mn, q_ia T mw 10 wf, q_ia T me 3 ey, q_fa T mf G, q_ia T mn 4 nu] H := hP
  have hD : va_D A [q_mc mo 0 nb nj len mw me mf mn, q_ia T mw 10 wf, q_ia T me 3 ey, q_fa T mf G, q_ia T mn 4 nu] := hD
  refine lv_aload_n hx hb dX4_winner_5 rfl (lv_at hl 0 rfl) ?_
  refine q_callV (As := []) (rs := []) hC (c_X4_isRace l D T mo mw me mf mn nb nj 0 len nu) q_no_st q_no_at (cwV 0 hts gX4_winner_X4_isRace rfl rfl rfl (by decide +kernel) ⟨Nat.le_of_ble_eq_true rfl, Nat.le_of_ble_eq_true rfl⟩) (va_recv hK hP (ci := 5) (q0 := 0) rfl rfl) hK hP hD hS hA (q_mask [true, false, false, false, true] _) rfl hl.1 rfl (Nat.le_of_ble_eq_true rfl) dX4_winner_6 ⟨(Nat.le_of_ble_eq_true rfl), (Nat.le_of_ble_eq_true rfl)⟩ (fun v9 C9 H locs hp hP hD hS => ?_)
  obtain ⟨rfl, rfl⟩ := hp
  have hP : va_P D vwCl [q_mc mo 0 nb nj len mw me mf mn, q_ia T mw 10 wf, q_ia T me 3 ey, q_fa T mf G, q_ia T mn 4 nu] H := q_P_perm (q_mrg_perm [true, false, false, false, true] _ _) hP
  have hD : va_D A [q_mc mo 0 nb nj len mw me mf mn, q_ia T mw 10 wf, q_ia T me 3 ey, q_fa T mf G, q_ia T mn 4 nu] := q_D_perm (q_mrg_perm [true, false, false, false, true] _ _) hD
  refine lv_if_ne (tgt := 21) hx hb dX4_winner_9 (by decide) (fun c_9 => ?_) (fun c_9 => absurd c_9 h1)
  refine lv_aload_n hx hb dX4_winner_21 rfl (lv_at hl 0 rfl) ?_
  refine q_callV (As := []) (rs := []) hC (c_X4_kept l D T mo mw me mf mn nb nj 0 len G nu) q_gA_st (q_gA_at hG) (cwV 0 hts gX4_winner_X4_kept rfl rfl rfl (by decide +kernel) ⟨Nat.le_of_ble_eq_true rfl, Nat.le_of_ble_eq_true rfl⟩) (va_recv hK hP (ci := 5) (q0 := 0) rfl rfl) hK hP hD hS hA (q_mask [true, false, false, true, true] _) rfl hl.1 rfl (Nat.le_of_ble_eq_true rfl) dX4_winner_22 ⟨(Nat.le_of_ble_eq_true rfl), (Nat.le_of_ble_eq_true rfl)⟩ (fun v9 C9 H locs hp hP hD hS => ?_)
  obtain ⟨q1, qa, qb, rfl, rfl⟩ := hp
  have hP : va_P D vwCl [q_mc mo 0 nb nj len mw me mf mn, q_ia T mw 10 wf, q_ia T me 3 ey, q_fa T mf G, q_ia T mn 4 nu, q_kc T q1 qa qb, q_fa T qa G, q_ia T qb 4 nu] H := q_P_perm ((show ([q_mc mo 0 nb nj len mw me mf mn, q_fa T mf G, q_ia T mn 4 nu] ++ ([q_kc T q1 qa qb, q_fa T qa G, q_ia T qb 4 nu] ++ [q_ia T mw 10 wf, q_ia T me 3 ey])).Perm ([q_mc mo 0 nb nj len mw me mf mn, q_fa T mf G, q_ia T mn 4 nu] ++ ([q_ia T mw 10 wf, q_ia T me 3 ey] ++ [q_kc T q1 qa qb, q_fa T qa G, q_ia T qb 4 nu])) from List.perm_append_comm.append_left _).trans (show (([q_mc mo 0 nb nj len mw me mf mn, q_fa T mf G, q_ia T mn 4 nu] ++ [q_ia T mw 10 wf, q_ia T me 3 ey]) ++ [q_kc T q1 qa qb, q_fa T qa G, q_ia T qb 4 nu]).Perm ([q_mc mo 0 nb nj len mw me mf mn, q_ia T mw 10 wf, q_ia T me 3 ey, q_fa T mf G, q_ia T mn 4 nu] ++ [q_kc T q1 qa qb, q_fa T qa G, q_ia T qb 4 nu]) from (q_mrg_perm [true, false, false, true, true] [q_mc mo 0 nb nj len mw me mf mn, q_fa T mf G, q_ia T mn 4 nu] [q_ia T mw 10 wf, q_ia T me 3 ey]).append_right _)) hP
  have hD : va_D A [q_mc mo 0 nb nj len mw me mf mn, q_ia T mw 10 wf, q_ia T me 3 ey, q_fa T mf G, q_ia T mn 4 nu, q_kc T q1 qa qb, q_fa T qa G, q_ia T qb 4 nu] := q_D_perm ((show ([q_mc mo 0 nb nj len mw me mf mn, q_fa T mf G, q_ia T mn 4 nu] ++ ([q_kc T q1 qa qb, q_fa T qa G, q_ia T qb 4 nu] ++ [q_ia T mw 10 wf, q_ia T me 3 ey])).Perm ([q_mc mo 0 nb nj len mw me mf mn, q_fa T mf G, q_ia T mn 4 nu] ++ ([q_ia T mw 10 wf, q_ia T me 3 ey] ++ [q_kc T q1 qa qb, q_fa T qa G, q_ia T qb 4 nu])) from List.perm_append_comm.append_left _).trans (show (([q_mc mo 0 nb nj len mw me mf mn, q_fa T mf G, q_ia T mn 4 nu] ++ [q_ia T mw 10 wf, q_ia T me 3 ey]) ++ [q_kc T q1 qa qb, q_fa T qa G, q_ia T qb 4 nu]).Perm ([q_mc mo 0 nb nj len mw me mf mn, q_ia T mw 10 wf, q_ia T me 3 ey, q_fa T mf G, q_ia T mn 4 nu] ++ [q_kc T q1 qa qb, q_fa T qa G, q_ia T qb 4 nu]) from (q_mrg_perm [true, false, false, true, true] [q_mc mo 0 nb nj len mw me mf mn, q_fa T mf G, q_ia T mn 4 nu] [q_ia T mw 10 wf, q_ia T me 3 ey]).append_right _)) hD
  refine lv_astore_n (lv' := [(1, .ref q1), (0, .ref mo)]) hx hb dX4_winner_25 rfl hl (by decide) rfl (fun ls hl => ?_)
  refine lv_aload_n hx hb dX4_winner_26 rfl (lv_at hl 1 rfl) ?_
  refine q_callV (As := []) (rs := []) hC (c_X4_isRace l D T mo mw me mf mn nb nj 0 len nu) q_no_st q_no_at (cwV 0 hts gX4_winner_X4_isRace rfl rfl rfl (by decide +kernel) ⟨Nat.le_of_ble_eq_true rfl, Nat.le_of_ble_eq_true rfl⟩) (va_recv hK hP (ci := 5) (q0 := 0) rfl rfl) hK hP hD hS hA (q_mask [true, false, false, false, true, false, false, false] _) rfl hl.1 rfl (Nat.le_of_ble_eq_true rfl) dX4_winner_27 ⟨(Nat.le_of_ble_eq_true rfl), (Nat.le_of_ble_eq_true rfl)⟩ (fun v9 C9 H locs hp hP hD hS => ?_)
  obtain ⟨rfl, rfl⟩ := hp
  have hP : va_P D vwCl [q_mc mo 0 nb nj len mw me mf mn, q_ia T mw 10 wf, q_ia T me 3 ey, q_fa T mf G, q_ia T mn 4 nu, q_kc T q1 qa qb, q_fa T qa G, q_ia T qb 4 nu] H := q_P_perm (q_mrg_perm [true, false, false, false, true, false, false, false] _ _) hP
  have hD : va_D A [q_mc mo 0 nb nj len mw me mf mn, q_ia T mw 10 wf, q_ia T me 3 ey, q_fa T mf G, q_ia T mn 4 nu, q_kc T q1 qa qb, q_fa T qa G, q_ia T qb 4 nu] := q_D_perm (q_mrg_perm [true, false, false, false, true, false, false, false] _ _) hD
  refine lv_if_ne (tgt := 38) hx hb dX4_winner_30 (by decide) (fun c_30 => ?_) (fun c_30 => absurd c_30 h1)
  refine lv_aload_n hx hb dX4_winner_38 rfl (lv_at hl 1 rfl) ?_
  refine q_callV (As := []) (rs := []) hC (c_X4_sailOut l D T mo mw me mf mn nb nj 0 len G wf ey nu mk hm hmk hn hj hz hgo) q_no_st q_no_at (cwV 0 hts gX4_winner_X4_sailOut rfl rfl rfl (by decide +kernel) ⟨Nat.le_of_ble_eq_true rfl, Nat.le_of_ble_eq_true rfl⟩) (va_recv hK hP (ci := 5) (q0 := 0) rfl rfl) hK hP hD hS hA (q_mask [true, true, true, true, true, false, false, false] _) rfl hl.1 rfl (Nat.le_of_ble_eq_true rfl) dX4_winner_39 ⟨(Nat.le_of_ble_eq_true rfl), (Nat.le_of_ble_eq_true rfl)⟩ (fun v9 C9 H locs hp hP hD hS => ?_)
  obtain ⟨rfl, rfl⟩ := hp
  have hP : va_P D vwCl [q_mc mo 0 nb nj len mw me mf mn, q_ia T mw 10 wf, q_ia T me 3 ey, q_fa T mf ((rRun wf ey nj len nb 60 (G, nu)).1), q_ia T mn 4 ((rRun wf ey nj len nb 60 (G, nu)).2), q_kc T q1 qa qb, q_fa T qa G, q_ia T qb 4 nu] H := q_P_perm (q_mrg_perm [true, true, true, true, true, false, false, false] _ _) hP
  have hD : va_D A [q_mc mo 0 nb nj len mw me mf mn, q_ia T mw 10 wf, q_ia T me 3 ey, q_fa T mf ((rRun wf ey nj len nb 60 (G, nu)).1), q_ia T mn 4 ((rRun wf ey nj len nb 60 (G, nu)).2), q_kc T q1 qa qb, q_fa T qa G, q_ia T qb 4 nu] := q_D_perm (q_mrg_perm [true, true, true, true, true, false, false, false] _ _) hD
  refine lv_iconst (v := (-1)) hx hb dX4_winner_42 (by decide) ?_
  refine lv_istore_n (lv' := [(2, .int (-1)), (1, .ref q1), (0, .ref mo)]) hx hb dX4_winner_43 rfl hl (by decide) rfl (fun ls hl => ?_)
  refine lv_iconst (v := 0) hx hb dX4_winner_44 (by decide) ?_
  refine lv_istore_n (lv' := [(3, .int 0), (2, .int (-1)), (1, .ref q1), (0, .ref mo)]) hx hb dX4_winner_45 rfl hl (by decide) rfl (fun ls hl => ?_)
  have L46 : ∀ (f9 b : Nat) (h9a : nb < b + f9) (h9b : b ≤ nb) (H : Heap) (locs : List Loc) (ls : Array Slot), va_P D vwCl [q_mc mo 0 nb nj len mw me mf mn, q_ia T mw 10 wf, q_ia T me 3 ey, q_fa T mf ((rRun wf ey nj len nb 60 (G, nu)).1), q_ia T mn 4 ((rRun wf ey nj len nb 60 (G, nu)).2), q_kc T q1 qa qb, q_fa T qa G, q_ia T qb 4 nu] H → va_D A [q_mc mo 0 nb nj len mw me mf mn, q_ia T mw 10 wf, q_ia T me 3 ey, q_fa T mf ((rRun wf ey nj len nb 60 (G, nu)).1), q_ia T mn 4 ((rRun wf ey nj len nb 60 (G, nu)).2), q_kc T q1 qa qb, q_fa T qa G, q_ia T qb 4 nu] → va_S A s.heap H locs → lv_has ls 4 [(0, .ref mo), (1, .ref q1), (2, .int (rWin (rRun wf ey nj len nb 60 (G, nu)).1 nb b)), (3, .int (nI b))] → W p l e rmX4_winner s m args below meth c H locs ((0 + 3) + 120) ((0 + 86) + 720) (q_E below D (q_ty T) (q_is (some (.int (rWin (rRun wf ey nj len nb 60 (G, nu)).1 nb nb))) [q_mc mo 0 nb nj len mw me mf mn, q_ia T mw 10 wf, q_ia T me 3 ey, q_fa T mf G, q_ia T mn 4 nu]) A args s rmX4_winner) (F0 m 46 ls []) := by
    intro f9
    induction f9 with
    | zero => intro b h9a h9b; exact absurd h9a (by omega)
    | succ f9 ih46 =>
      intro b h9a h9b   H locs ls hP hD hS hl
      refine lv_iload_n hx hb dX4_winner_46 rfl (lv_at hl 3 rfl) ?_
      refine lv_aload_n hx hb dX4_winner_47 rfl (lv_at hl 0 rfl) ?_
      refine va_get (D := D) (ci := 5) (v := .int (nI nb)) (C := RX4) (T := TX4) (N := 8) hx hb hts iX4 hown hK hP 0 rfl rfl 1 (by decide) (hts (.fieldLink RX4 29 "ToyRegattaModel" "boats" "I") (by decide +kernel)) (fun _ h9 => h9) rfl dX4_winner_48 ?_
      refine lv_icmp_ge (tgt := 81) hx hb dX4_winner_51 (by decide) (fun c_51 => ?_) (fun c_51 => ?_)
      · have h9d := (q_exit c_51 h9b (by omega)).symm
        subst h9d
        refine lv_aload_n hx hb dX4_winner_81 rfl (lv_at hl 0 rfl) ?_
        refine lv_aload_n hx hb dX4_winner_82 rfl (lv_at hl 1 rfl) ?_
        refine q_callV (As := [.ref q1]) (rs := []) hC (c_X4_bringBack l D T mo mw me mf mn nb nj 0 len G ((rRun wf ey nj len nb 60 (G, nu)).1) nu ((rRun wf ey nj len nb 60 (G, nu)).2) q1 qa qb) q_no_st q_no_at (cwV 1 hts gX4_winner_X4_bringBack rfl rfl rfl (by decide +kernel) ⟨Nat.le_of_ble_eq_true rfl, Nat.le_of_ble_eq_true rfl⟩) (va_recv hK hP (ci := 5) (q0 := 0) rfl rfl) hK hP hD hS hA (q_mask [true, false, false, true, true, true, true, true] _) rfl hl.1 rfl (Nat.le_of_ble_eq_true rfl) dX4_winner_83 ⟨(Nat.le_of_ble_eq_true rfl), (Nat.le_of_ble_eq_true rfl)⟩ (fun v9 C9 H locs hp hP hD hS => ?_)
        obtain ⟨rfl, rfl⟩ := hp
        have hP : va_P D vwCl [q_mc mo 0 nb nj len mw me mf mn, q_ia T mw 10 wf, q_ia T me 3 ey, q_fa T mf G, q_ia T mn 4 nu, q_kc T q1 qa qb, q_fa T qa G, q_ia T qb 4 nu] H := q_P_perm (q_mrg_perm [true, false, false, true, true, true, true, true] _ _) hP
        have hD : va_D A [q_mc mo 0 nb nj len mw me mf mn, q_ia T mw 10 wf, q_ia T me 3 ey, q_fa T mf G, q_ia T mn 4 nu, q_kc T q1 qa qb, q_fa T qa G, q_ia T qb 4 nu] := q_D_perm (q_mrg_perm [true, false, false, true, true, true, true, true] _ _) hD
        have hP : va_P D vwCl [q_mc mo 0 nb nj len mw me mf mn, q_ia T mw 10 wf, q_ia T me 3 ey, q_fa T mf G, q_ia T mn 4 nu] H := hP.sub [0, 1, 2, 3, 4] rfl
        have hD : va_D A [q_mc mo 0 nb nj len mw me mf mn, q_ia T mw 10 wf, q_ia T me 3 ey, q_fa T mf G, q_ia T mn 4 nu] := hD.sub [0, 1, 2, 3, 4] (by decide) rfl
        refine lv_iload_n hx hb dX4_winner_86 rfl (lv_at hl 2 rfl) ?_
        exact q_iret hx hb hr hlocks hP hK hD hS (Nat.le_of_ble_eq_true rfl) (Nat.le_of_ble_eq_true rfl) dX4_winner_87 ⟨rfl, rfl⟩
      · have h9d := q_goon c_51 (by omega)
        refine lv_aload_n hx hb dX4_winner_54 rfl (lv_at hl 0 rfl) ?_
        refine lv_iload_n hx hb dX4_winner_55 rfl (lv_at hl 3 rfl) ?_
        refine lv_bipush (v := 9) hx hb dX4_winner_56 (by decide) ?_
        refine q_callV (As := [.int (nI b), .int 9]) (rs := []) hC (c_X4_bo l D T mo mw me mf mn nb nj 0 len ((rRun wf ey nj len nb 60 (G, nu)).1) b 9 ((rRun wf ey nj len nb 60 (G, nu)).1 b) (by omega) (by omega) rfl) q_no_st q_no_at (cwV 2 hts gX4_winner_X4_bo rfl rfl rfl (by decide +kernel) ⟨Nat.le_of_ble_eq_true rfl, Nat.le_of_ble_eq_true rfl⟩) (va_recv hK hP (ci := 5) (q0 := 0) rfl rfl) hK hP hD hS hA (q_mask [true, false, false, true, false, false, false, false] _) rfl hl.1 rfl (Nat.le_of_ble_eq_true rfl) dX4_winner_58 ⟨(Nat.le_of_ble_eq_true rfl), (Nat.le_of_ble_eq_true rfl)⟩ (fun v9 C9 H locs hp hP hD hS => ?_)
        obtain ⟨rfl, rfl⟩ := hp
        have hP : va_P D vwCl [q_mc mo 0 nb nj len mw me mf mn, q_ia T mw 10 wf, q_ia T me 3 ey, q_fa T mf ((rRun wf ey nj len nb 60 (G, nu)).1), q_ia T mn 4 ((rRun wf ey nj len nb 60 (G, nu)).2), q_kc T q1 qa qb, q_fa T qa G, q_ia T qb 4 nu] H := q_P_perm (q_mrg_perm [true, false, false, true, false, false, false, false] _ _) hP
        have hD : va_D A [q_mc mo 0 nb nj len mw me mf mn, q_ia T mw 10 wf, q_ia T me 3 ey, q_fa T mf ((rRun wf ey nj len nb 60 (G, nu)).1), q_ia T mn 4 ((rRun wf ey nj len nb 60 (G, nu)).2), q_kc T q1 qa qb, q_fa T qa G, q_ia T qb 4 nu] := q_D_perm (q_mrg_perm [true, false, false, true, false, false, false, false] _ _) hD
        refine lv_iconst (v := 2) hx hb dX4_winner_61 (by decide) ?_
        refine lv_icmp_ne (tgt := 75) hx hb dX4_winner_62 (by decide) (fun c_62 => ?_) (fun c_62 => ?_)
        · refine lv_iinc (v := (nI (b + 1))) (lv' := [(3, .int (nI (b + 1))), (0, .ref mo), (1, .ref q1), (2, .int (rWin (rRun wf ey nj len nb 60 (G, nu)).1 nb b))]) hx hb dX4_winner_75 hl (k := 3) rfl (nI_1 b) (by decide) rfl (fun ls hl => ?_)
          refine lv_goto (tgt := 46) hx hb dX4_winner_78 (by decide) ?_
          have e9 : (rWin (rRun wf ey nj len nb 60 (G, nu)).1 nb (b + 1)) = (rWin (rRun wf ey nj len nb 60 (G, nu)).1 nb b) := by simp only [rWin, if_neg c_9, if_neg c_30, if_neg c_62]
          have hl : lv_has ls 4 [(3, .int (nI (b + 1))), (0, .ref mo), (1, .ref q1), (2, .int (rWin (rRun wf ey nj len nb 60 (G, nu)).1 nb (b + 1)))] := by rw [e9]; exact hl
          exact ih46 (b + 1) (by omega) (by omega)   _ _ ls hP hD hS (lv_sub hl [1, 2, 3, 0] rfl)
        · refine lv_aload_n hx hb dX4_winner_65 rfl (lv_at hl 0 rfl) ?_
          refine lv_iload_n hx hb dX4_winner_66 rfl (lv_at hl 3 rfl) ?_
          refine q_callV (As := [.int (nI b)]) (rs := []) hC (c_X4_placeOf l D T mo mw me mf mn nb nj 0 len ((rRun wf ey nj len nb 60 (G, nu)).1) b h9d hn) q_no_st q_no_at (cwV 1 hts gX4_winner_X4_placeOf rfl rfl rfl (by decide +kernel) ⟨Nat.le_of_ble_eq_true rfl, Nat.le_of_ble_eq_true rfl⟩) (va_recv hK hP (ci := 5) (q0 := 0) rfl rfl) hK hP hD hS hA (q_mask [true, false, false, true, false, false, false, false] _) rfl hl.1 rfl (Nat.le_of_ble_eq_true rfl) dX4_winner_67 ⟨(Nat.le_of_ble_eq_true rfl), (Nat.le_of_ble_eq_true rfl)⟩ (fun v9 C9 H locs hp hP hD hS => ?_)
          obtain ⟨rfl, rfl⟩ := hp
          have hP : va_P D vwCl [q_mc mo 0 nb nj len mw me mf mn, q_ia T mw 10 wf, q_ia T me 3 ey, q_fa T mf ((rRun wf ey nj len nb 60 (G, nu)).1), q_ia T mn 4 ((rRun wf ey nj len nb 60 (G, nu)).2), q_kc T q1 qa qb, q_fa T qa G, q_ia T qb 4 nu] H := q_P_perm (q_mrg_perm [true, false, false, true, false, false, false, false] _ _) hP
          have hD : va_D A [q_mc mo 0 nb nj len mw me mf mn, q_ia T mw 10 wf, q_ia T me 3 ey, q_fa T mf ((rRun wf ey nj len nb 60 (G, nu)).1), q_ia T mn 4 ((rRun wf ey nj len nb 60 (G, nu)).2), q_kc T q1 qa qb, q_fa T qa G, q_ia T qb 4 nu] := q_D_perm (q_mrg_perm [true, false, false, true, false, false, false, false] _ _) hD
          refine lv_if_ne (tgt := 75) hx hb dX4_winner_70 (by decide) (fun c_70 => ?_) (fun c_70 => ?_)
          · refine lv_iinc (v := (nI (b + 1))) (lv' := [(3, .int (nI (b + 1))), (0, .ref mo), (1, .ref q1), (2, .int (rWin (rRun wf ey nj len nb 60 (G, nu)).1 nb b))]) hx hb dX4_winner_75 hl (k := 3) rfl (nI_1 b) (by decide) rfl (fun ls hl => ?_)
            refine lv_goto (tgt := 46) hx hb dX4_winner_78 (by decide) ?_
            have e9 : (rWin (rRun wf ey nj len nb 60 (G, nu)).1 nb (b + 1)) = (rWin (rRun wf ey nj len nb 60 (G, nu)).1 nb b) := by simp only [rWin, if_neg c_9, if_neg c_30, if_pos c_62, if_neg c_70]
            have hl : lv_has ls 4 [(3, .int (nI (b + 1))), (0, .ref mo), (1, .ref q1), (2, .int (rWin (rRun wf ey nj len nb 60 (G, nu)).1 nb (b + 1)))] := by rw [e9]; exact hl
            exact ih46 (b + 1) (by omega) (by omega)   _ _ ls hP hD hS (lv_sub hl [1, 2, 3, 0] rfl)
          · refine lv_iload_n hx hb dX4_winner_73 rfl (lv_at hl 3 rfl) ?_
            refine lv_istore_n (lv' := [(2, .int (nI b)), (0, .ref mo), (1, .ref q1), (3, .int (nI b))]) hx hb dX4_winner_74 rfl hl (by decide) rfl (fun ls hl => ?_)
            refine lv_iinc (v := (nI (b + 1))) (lv' := [(3, .int (nI (b + 1))), (2, .int (nI b)), (0, .ref mo), (1, .ref q1)]) hx hb dX4_winner_75 hl (k := 3) rfl (nI_1 b) (by decide) rfl (fun ls hl => ?_)
            refine lv_goto (tgt := 46) hx hb dX4_winner_78 (by decide) ?_
            have e9 : (rWin (rRun wf ey nj len nb 60 (G, nu)).1 nb (b + 1)) = (nI b) := by simp only [rWin, if_neg c_9, if_neg c_30, if_pos c_62, if_pos c_70]
            have hl : lv_has ls 4 [(3, .int (nI (b + 1))), (2, .int (rWin (rRun wf ey nj len nb 60 (G, nu)).1 nb (b + 1))), (0, .ref mo), (1, .ref q1)] := by rw [e9]; exact hl
            exact ih46 (b + 1) (by omega) (by omega)   _ _ ls hP hD hS (lv_sub hl [2, 3, 1, 0] rfl)
  exact L46 (nb + 1) 0 (by omega) (by omega)   _ _ ls hP hD hS (lv_sub hl [3, 2, 1, 0] rfl)

theorem rEnters_keep (G : Nat → Nat → Int32) (nb : Nat) : mKeep G (q_upto nb (rEnters G) G) := q_upto_keep (fun b => by unfold rEnters rEnter; simp [upd])
theorem rBegU_0 (nu : Nat → Int32) : rBegU nu 0 = nu 0 := by simp [rBegU, upd]
theorem rBegU_go (nu : Nat → Int32) : rGo (rBegU nu) 0 := Or.inr ⟨0, by omega, by omega, by simp [rBegU, upd]; rfl⟩

set_option maxHeartbeats 1000000 in
set_option maxRecDepth 100000 in
theorem c_X4_winner_ok2 (l : Launch) (D : va_G) (T : Nat → ClassId) (mo mw me mf mn nb nj : Nat) (th len : Int32) (G : Nat → Nat → Int32) (wf ey nu : Nat → Int32) (mk : Nat) (hm : nu 0 = nI mk) (hmk : mk < 2 ^ 30) (hn : nb ≤ 8) (hj : nj ≤ 3) (hz : mHz G nb) (h1 : bOn nu = 0) (h2 : ¬ q_sum (rRdy G) nb = 0) : q_M l D (q_ty T) yX4_winner wsX4_winner rmX4_winner [.ref mo] [q_mc mo th nb nj len mw me mf mn, q_ia T mw 10 wf, q_ia T me 3 ey, q_fa T mf G, q_ia T mn 4 nu] q_gA (q_is (some (.int (rWin (rRun wf ey nj len nb 60 ((q_upto nb (rEnters G) G), rBegU nu)).1 nb nb))) [q_mc mo 0 nb nj len mw me mf mn, q_ia T mw 10 wf, q_ia T me 3 ey, q_fa T mf G, q_ia T mn 4 nu]) := by
  refine q_start (cc := cX4_winner) (maxL := 4) (ret := (some .int)) (by decide) rfl (Nat.le_of_ble_eq_true rfl) ?_
  intro p e s m args below meth c A H locs hx hb hr hts hown hlocks hml hnm hP hK hD hS hA hG ls hl
  have hown : s.vm.findClass RX4 = some m.cls := hown
  have hC : CallFix p m c cX4_winner 4 s args wsX4_winner RX4 := ⟨hx, hb, hml, hown, hts⟩
  have iX4 : ∀ w ∈ wsX40, w ∈ wsX4_winner := by decide +kernel
  have hl : lv_has ls 4 [(0, .ref mo)] := hl
  refine lv_aload_n hx hb dX4_winner_0 rfl (lv_at hl 0 rfl) ?_
  refine lv_iconst (v := 0) hx hb dX4_winner_1 (by decide) ?_
  refine va_put (D := D) (ci := 5) (v := .int 0) (ty := .int) (C := RX4) (T := TX4) (N := 8) hx hb hts iX4 tyX4 tyX4_ok nmX4 hown hK hP hD hS 0 rfl rfl 0 (by decide) (hts (.fieldLink RX4 26 "ToyRegattaModel" "thrown" "I") (by decide +kernel)) (fun _ h9 => h9) rfl (by decide +kernel) rfl rfl (Nat.le_of_ble_eq_true rfl) dX4_winner_2 (fun H locs hP hD hS => ?_)
  have hP : va_P D vwCl [q_mc mo 0 nb nj len mw me mf mn, q_ia T mw 10 wf, q_ia T me 3 ey, q_fa T mf G, q_ia T mn 4 nu] H := hP
  have hD : va_D A [q_mc mo 0 nb nj len mw me mf mn, q_ia T mw 10 wf, q_ia T me 3 ey, q_fa T mf G, q_ia T mn 4 nu] := hD
  refine lv_aload_n hx hb dX4_winner_5 rfl (lv_at hl 0 rfl) ?_
  refine q_callV (As := []) (rs := []) hC (c_X4_isRace l D T mo mw me mf mn nb nj 0 len nu) q_no_st q_no_at (cwV 0 hts gX4_winner_X4_isRace rfl rfl rfl (by decide +kernel) ⟨Nat.le_of_ble_eq_true rfl, Nat.le_of_ble_eq_true rfl⟩) (va_recv hK hP (ci := 5) (q0 := 0) rfl rfl) hK hP hD hS hA (q_mask [true, false, false, false, true] _) rfl hl.1 rfl (Nat.le_of_ble_eq_true rfl) dX4_winner_6 ⟨(Nat.le_of_ble_eq_true rfl), (Nat.le_of_ble_eq_true rfl)⟩ (fun v9 C9 H locs hp hP hD hS => ?_)
  obtain ⟨rfl, rfl⟩ := hp
  have hP : va_P D vwCl [q_mc mo 0 nb nj len mw me mf mn, q_ia T mw 10 wf, q_ia T me 3 ey, q_fa T mf G, q_ia T mn 4 nu] H := q_P_perm (q_mrg_perm [true, false, false, false, true] _ _) hP
  have hD : va_D A [q_mc mo 0 nb nj len mw me mf mn, q_ia T mw 10 wf, q_ia T me 3 ey, q_fa T mf G, q_ia T mn 4 nu] := q_D_perm (q_mrg_perm [true, false, false, false, true] _ _) hD
  refine lv_if_ne (tgt := 21) hx hb dX4_winner_9 (by decide) (fun c_9 => absurd h1 c_9) (fun c_9 => ?_)
  refine lv_aload_n hx hb dX4_winner_12 rfl (lv_at hl 0 rfl) ?_
  refine q_callV (As := []) (rs := []) hC (c_X4_ready l D T mo mw me mf mn nb nj 0 len G hn) q_no_st q_no_at (cwV 0 hts gX4_winner_X4_ready rfl rfl rfl (by decide +kernel) ⟨Nat.le_of_ble_eq_true rfl, Nat.le_of_ble_eq_true rfl⟩) (va_recv hK hP (ci := 5) (q0 := 0) rfl rfl) hK hP hD hS hA (q_mask [true, false, false, true, false] _) rfl hl.1 rfl (Nat.le_of_ble_eq_true rfl) dX4_winner_13 ⟨(Nat.le_of_ble_eq_true rfl), (Nat.le_of_ble_eq_true rfl)⟩ (fun v9 C9 H locs hp hP hD hS => ?_)
  obtain ⟨rfl, rfl⟩ := hp
  have hP : va_P D vwCl [q_mc mo 0 nb nj len mw me mf mn, q_ia T mw 10 wf, q_ia T me 3 ey, q_fa T mf G, q_ia T mn 4 nu] H := q_P_perm (q_mrg_perm [true, false, false, true, false] _ _) hP
  have hD : va_D A [q_mc mo 0 nb nj len mw me mf mn, q_ia T mw 10 wf, q_ia T me 3 ey, q_fa T mf G, q_ia T mn 4 nu] := q_D_perm (q_mrg_perm [true, false, false, true, false] _ _) hD
  refine lv_if_ne (tgt := 21) hx hb dX4_winner_16 (by decide) (fun c_16 => ?_) (fun c_16 => absurd c_16 h2)
  refine lv_aload_n hx hb dX4_winner_21 rfl (lv_at hl 0 rfl) ?_
  refine q_callV (As := []) (rs := []) hC (c_X4_kept l D T mo mw me mf mn nb nj 0 len G nu) q_gA_st (q_gA_at hG) (cwV 0 hts gX4_winner_X4_kept rfl rfl rfl (by decide +kernel) ⟨Nat.le_of_ble_eq_true rfl, Nat.le_of_ble_eq_true rfl⟩) (va_recv hK hP (ci := 5) (q0 := 0) rfl rfl) hK hP hD hS hA (q_mask [true, false, false, true, true] _) rfl hl.1 rfl (Nat.le_of_ble_eq_true rfl) dX4_winner_22 ⟨(Nat.le_of_ble_eq_true rfl), (Nat.le_of_ble_eq_true rfl)⟩ (fun v9 C9 H locs hp hP hD hS => ?_)
  obtain ⟨q1, qa, qb, rfl, rfl⟩ := hp
  have hP : va_P D vwCl [q_mc mo 0 nb nj len mw me mf mn, q_ia T mw 10 wf, q_ia T me 3 ey, q_fa T mf G, q_ia T mn 4 nu, q_kc T q1 qa qb, q_fa T qa G, q_ia T qb 4 nu] H := q_P_perm ((show ([q_mc mo 0 nb nj len mw me mf mn, q_fa T mf G, q_ia T mn 4 nu] ++ ([q_kc T q1 qa qb, q_fa T qa G, q_ia T qb 4 nu] ++ [q_ia T mw 10 wf, q_ia T me 3 ey])).Perm ([q_mc mo 0 nb nj len mw me mf mn, q_fa T mf G, q_ia T mn 4 nu] ++ ([q_ia T mw 10 wf, q_ia T me 3 ey] ++ [q_kc T q1 qa qb, q_fa T qa G, q_ia T qb 4 nu])) from List.perm_append_comm.append_left _).trans (show (([q_mc mo 0 nb nj len mw me mf mn, q_fa T mf G, q_ia T mn 4 nu] ++ [q_ia T mw 10 wf, q_ia T me 3 ey]) ++ [q_kc T q1 qa qb, q_fa T qa G, q_ia T qb 4 nu]).Perm ([q_mc mo 0 nb nj len mw me mf mn, q_ia T mw 10 wf, q_ia T me 3 ey, q_fa T mf G, q_ia T mn 4 nu] ++ [q_kc T q1 qa qb, q_fa T qa G, q_ia T qb 4 nu]) from (q_mrg_perm [true, false, false, true, true] [q_mc mo 0 nb nj len mw me mf mn, q_fa T mf G, q_ia T mn 4 nu] [q_ia T mw 10 wf, q_ia T me 3 ey]).append_right _)) hP
  have hD : va_D A [q_mc mo 0 nb nj len mw me mf mn, q_ia T mw 10 wf, q_ia T me 3 ey, q_fa T mf G, q_ia T mn 4 nu, q_kc T q1 qa qb, q_fa T qa G, q_ia T qb 4 nu] := q_D_perm ((show ([q_mc mo 0 nb nj len mw me mf mn, q_fa T mf G, q_ia T mn 4 nu] ++ ([q_kc T q1 qa qb, q_fa T qa G, q_ia T qb 4 nu] ++ [q_ia T mw 10 wf, q_ia T me 3 ey])).Perm ([q_mc mo 0 nb nj len mw me mf mn, q_fa T mf G, q_ia T mn 4 nu] ++ ([q_ia T mw 10 wf, q_ia T me 3 ey] ++ [q_kc T q1 qa qb, q_fa T qa G, q_ia T qb 4 nu])) from List.perm_append_comm.append_left _).trans (show (([q_mc mo 0 nb nj len mw me mf mn, q_fa T mf G, q_ia T mn 4 nu] ++ [q_ia T mw 10 wf, q_ia T me 3 ey]) ++ [q_kc T q1 qa qb, q_fa T qa G, q_ia T qb 4 nu]).Perm ([q_mc mo 0 nb nj len mw me mf mn, q_ia T mw 10 wf, q_ia T me 3 ey, q_fa T mf G, q_ia T mn 4 nu] ++ [q_kc T q1 qa qb, q_fa T qa G, q_ia T qb 4 nu]) from (q_mrg_perm [true, false, false, true, true] [q_mc mo 0 nb nj len mw me mf mn, q_fa T mf G, q_ia T mn 4 nu] [q_ia T mw 10 wf, q_ia T me 3 ey]).append_right _)) hD
  refine lv_astore_n (lv' := [(1, .ref q1), (0, .ref mo)]) hx hb dX4_winner_25 rfl hl (by decide) rfl (fun ls hl => ?_)
  refine lv_aload_n hx hb dX4_winner_26 rfl (lv_at hl 1 rfl) ?_
  refine q_callV (As := []) (rs := []) hC (c_X4_isRace l D T mo mw me mf mn nb nj 0 len nu) q_no_st q_no_at (cwV 0 hts gX4_winner_X4_isRace rfl rfl rfl (by decide +kernel) ⟨Nat.le_of_ble_eq_true rfl, Nat.le_of_ble_eq_true rfl⟩) (va_recv hK hP (ci := 5) (q0 := 0) rfl rfl) hK hP hD hS hA (q_mask [true, false, false, false, true, false, false, false] _) rfl hl.1 rfl (Nat.le_of_ble_eq_true rfl) dX4_winner_27 ⟨(Nat.le_of_ble_eq_true rfl), (Nat.le_of_ble_eq_true rfl)⟩ (fun v9 C9 H locs hp hP hD hS => ?_)
  obtain ⟨rfl, rfl⟩ := hp
  have hP : va_P D vwCl [q_mc mo 0 nb nj len mw me mf mn, q_ia T mw 10 wf, q_ia T me 3 ey, q_fa T mf G, q_ia T mn 4 nu, q_kc T q1 qa qb, q_fa T qa G, q_ia T qb 4 nu] H := q_P_perm (q_mrg_perm [true, false, false, false, true, false, false, false] _ _) hP
  have hD : va_D A [q_mc mo 0 nb nj len mw me mf mn, q_ia T mw 10 wf, q_ia T me 3 ey, q_fa T mf G, q_ia T mn 4 nu, q_kc T q1 qa qb, q_fa T qa G, q_ia T qb 4 nu] := q_D_perm (q_mrg_perm [true, false, false, false, true, false, false, false] _ _) hD
  refine lv_if_ne (tgt := 38) hx hb dX4_winner_30 (by decide) (fun c_30 => absurd h1 c_30) (fun c_30 => ?_)
  refine lv_aload_n hx hb dX4_winner_33 rfl (lv_at hl 1 rfl) ?_
  refine q_callV (As := []) (rs := []) hC (c_X4_begin l D T mo mw me mf mn nb nj 0 len G nu hn) q_no_st q_no_at (cwV 0 hts gX4_winner_X4_begin rfl rfl rfl (by decide +kernel) ⟨Nat.le_of_ble_eq_true rfl, Nat.le_of_ble_eq_true rfl⟩) (va_recv hK hP (ci := 5) (q0 := 0) rfl rfl) hK hP hD hS hA (q_mask [true, false, false, true, true, false, false, false] _) rfl hl.1 rfl (Nat.le_of_ble_eq_true rfl) dX4_winner_34 ⟨(Nat.le_of_ble_eq_true rfl), (Nat.le_of_ble_eq_true rfl)⟩ (fun v9 C9 H locs hp hP hD hS => ?_)
  obtain ⟨rfl, rfl⟩ := hp
  have hP : va_P D vwCl [q_mc mo 0 nb nj len mw me mf mn, q_ia T mw 10 wf, q_ia T me 3 ey, q_fa T mf (q_upto nb (rEnters G) G), q_ia T mn 4 (rBegU nu), q_kc T q1 qa qb, q_fa T qa G, q_ia T qb 4 nu] H := q_P_perm (q_mrg_perm [true, false, false, true, true, false, false, false] _ _) hP
  have hD : va_D A [q_mc mo 0 nb nj len mw me mf mn, q_ia T mw 10 wf, q_ia T me 3 ey, q_fa T mf (q_upto nb (rEnters G) G), q_ia T mn 4 (rBegU nu), q_kc T q1 qa qb, q_fa T qa G, q_ia T qb 4 nu] := q_D_perm (q_mrg_perm [true, false, false, true, true, false, false, false] _ _) hD
  refine lv_pop hx hb dX4_winner_37 rfl ?_
  refine lv_aload_n hx hb dX4_winner_38 rfl (lv_at hl 1 rfl) ?_
  refine q_callV (As := []) (rs := []) hC (c_X4_sailOut l D T mo mw me mf mn nb nj 0 len (q_upto nb (rEnters G) G) wf ey (rBegU nu) mk ((rBegU_0 nu).trans hm) hmk hn hj (hz.keep (rEnters_keep G nb)) (rBegU_go nu)) q_no_st q_no_at (cwV 0 hts gX4_winner_X4_sailOut rfl rfl rfl (by decide +kernel) ⟨Nat.le_of_ble_eq_true rfl, Nat.le_of_ble_eq_true rfl⟩) (va_recv hK hP (ci := 5) (q0 := 0) rfl rfl) hK hP hD hS hA (q_mask [true, true, true, true, true, false, false, false] _) rfl hl.1 rfl (Nat.le_of_ble_eq_true rfl) dX4_winner_39 ⟨(Nat.le_of_ble_eq_true rfl), (Nat.le_of_ble_eq_true rfl)⟩ (fun v9 C9 H locs hp hP hD hS => ?_)
  obtain ⟨rfl, rfl⟩ := hp
  have hP : va_P D vwCl [q_mc mo 0 nb nj len mw me mf mn, q_ia T mw 10 wf, q_ia T me 3 ey, q_fa T mf ((rRun wf ey nj len nb 60 ((q_upto nb (rEnters G) G), (rBegU nu))).1), q_ia T mn 4 ((rRun wf ey nj len nb 60 ((q_upto nb (rEnters G) G), (rBegU nu))).2), q_kc T q1 qa qb, q_fa T qa G, q_ia T qb 4 nu] H := q_P_perm (q_mrg_perm [true, true, true, true, true, false, false, false] _ _) hP
  have hD : va_D A [q_mc mo 0 nb nj len mw me mf mn, q_ia T mw 10 wf, q_ia T me 3 ey, q_fa T mf ((rRun wf ey nj len nb 60 ((q_upto nb (rEnters G) G), (rBegU nu))).1), q_ia T mn 4 ((rRun wf ey nj len nb 60 ((q_upto nb (rEnters G) G), (rBegU nu))).2), q_kc T q1 qa qb, q_fa T qa G, q_ia T qb 4 nu] := q_D_perm (q_mrg_perm [true, true, true, true, true, false, false, false] _ _) hD
  refine lv_iconst (v := (-1)) hx hb dX4_winner_42 (by decide) ?_
  refine lv_istore_n (lv' := [(2, .int (-1)), (1, .ref q1), (0, .ref mo)]) hx hb dX4_winner_43 rfl hl (by decide) rfl (fun ls hl => ?_)
  refine lv_iconst (v := 0) hx hb dX4_winner_44 (by decide) ?_
  refine lv_istore_n (lv' := [(3, .int 0), (2, .int (-1)), (1, .ref q1), (0, .ref mo)]) hx hb dX4_winner_45 rfl hl (by decide) rfl (fun ls hl => ?_)
  have L46 : ∀ (f9 b : Nat) (h9a : nb < b + f9) (h9b : b ≤ nb) (H : Heap) (locs : List Loc) (ls : Array Slot), va_P D vwCl [q_mc mo 0 nb nj len mw me mf mn, q_ia T mw 10 wf, q_ia T me 3 ey, q_fa T mf ((rRun wf ey nj len nb 60 ((q_upto nb (rEnters G) G), (rBegU nu))).1), q_ia T mn 4 ((rRun wf ey nj len nb 60 ((q_upto nb (rEnters G) G), (rBegU nu))).2), q_kc T q1 qa qb, q_fa T qa G, q_ia T qb 4 nu] H → va_D A [q_mc mo 0 nb nj len mw me mf mn, q_ia T mw 10 wf, q_ia T me 3 ey, q_fa T mf ((rRun wf ey nj len nb 60 ((q_upto nb (rEnters G) G), (rBegU nu))).1), q_ia T mn 4 ((rRun wf ey nj len nb 60 ((q_upto nb (rEnters G) G), (rBegU nu))).2), q_kc T q1 qa qb, q_fa T qa G, q_ia T qb 4 nu] → va_S A s.heap H locs → lv_has ls 4 [(0, .ref mo), (1, .ref q1), (2, .int (rWin (rRun wf ey nj len nb 60 ((q_upto nb (rEnters G) G), rBegU nu)).1 nb b)), (3, .int (nI b))] → W p l e rmX4_winner s m args below meth c H locs ((0 + 3) + 120) ((0 + 86) + 720) (q_E below D (q_ty T) (q_is (some (.int (rWin (rRun wf ey nj len nb 60 ((q_upto nb (rEnters G) G), rBegU nu)).1 nb nb))) [q_mc mo 0 nb nj len mw me mf mn, q_ia T mw 10 wf, q_ia T me 3 ey, q_fa T mf G, q_ia T mn 4 nu]) A args s rmX4_winner) (F0 m 46 ls []) := by
    intro f9
    induction f9 with
    | zero => intro b h9a h9b; exact absurd h9a (by omega)
    | succ f9 ih46 =>
      intro b h9a h9b   H locs ls hP hD hS hl
      refine lv_iload_n hx hb dX4_winner_46 rfl (lv_at hl 3 rfl) ?_
      refine lv_aload_n hx hb dX4_winner_47 rfl (lv_at hl 0 rfl) ?_
      refine va_get (D := D) (ci := 5) (v := .int (nI nb)) (C := RX4) (T := TX4) (N := 8) hx hb hts iX4 hown hK hP 0 rfl rfl 1 (by decide) (hts (.fieldLink RX4 29 "ToyRegattaModel" "boats" "I") (by decide +kernel)) (fun _ h9 => h9) rfl dX4_winner_48 ?_
      refine lv_icmp_ge (tgt := 81) hx hb dX4_winner_51 (by decide) (fun c_51 => ?_) (fun c_51 => ?_)
      · have h9d := (q_exit c_51 h9b (by omega)).symm
        subst h9d
        refine lv_aload_n hx hb dX4_winner_81 rfl (lv_at hl 0 rfl) ?_
        refine lv_aload_n hx hb dX4_winner_82 rfl (lv_at hl 1 rfl) ?_
        refine q_callV (As := [.ref q1]) (rs := []) hC (c_X4_bringBack l D T mo mw me mf mn nb nj 0 len G ((rRun wf ey nj len nb 60 ((q_upto nb (rEnters G) G), (rBegU nu))).1) nu ((rRun wf ey nj len nb 60 ((q_upto nb (rEnters G) G), (rBegU nu))).2) q1 qa qb) q_no_st q_no_at (cwV 1 hts gX4_winner_X4_bringBack rfl rfl rfl (by decide +kernel) ⟨Nat.le_of_ble_eq_true rfl, Nat.le_of_ble_eq_true rfl⟩) (va_recv hK hP (ci := 5) (q0 := 0) rfl rfl) hK hP hD hS hA (q_mask [true, false, false, true, true, true, true, true] _) rfl hl.1 rfl (Nat.le_of_ble_eq_true rfl) dX4_winner_83 ⟨(Nat.le_of_ble_eq_true rfl), (Nat.le_of_ble_eq_true rfl)⟩ (fun v9 C9 H locs hp hP hD hS => ?_)
        obtain ⟨rfl, rfl⟩ := hp
        have hP : va_P D vwCl [q_mc mo 0 nb nj len mw me mf mn, q_ia T mw 10 wf, q_ia T me 3 ey, q_fa T mf G, q_ia T mn 4 nu, q_kc T q1 qa qb, q_fa T qa G, q_ia T qb 4 nu] H := q_P_perm (q_mrg_perm [true, false, false, true, true, true, true, true] _ _) hP
        have hD : va_D A [q_mc mo 0 nb nj len mw me mf mn, q_ia T mw 10 wf, q_ia T me 3 ey, q_fa T mf G, q_ia T mn 4 nu, q_kc T q1 qa qb, q_fa T qa G, q_ia T qb 4 nu] := q_D_perm (q_mrg_perm [true, false, false, true, true, true, true, true] _ _) hD
        have hP : va_P D vwCl [q_mc mo 0 nb nj len mw me mf mn, q_ia T mw 10 wf, q_ia T me 3 ey, q_fa T mf G, q_ia T mn 4 nu] H := hP.sub [0, 1, 2, 3, 4] rfl
        have hD : va_D A [q_mc mo 0 nb nj len mw me mf mn, q_ia T mw 10 wf, q_ia T me 3 ey, q_fa T mf G, q_ia T mn 4 nu] := hD.sub [0, 1, 2, 3, 4] (by decide) rfl
        refine lv_iload_n hx hb dX4_winner_86 rfl (lv_at hl 2 rfl) ?_
        exact q_iret hx hb hr hlocks hP hK hD hS (Nat.le_of_ble_eq_true rfl) (Nat.le_of_ble_eq_true rfl) dX4_winner_87 ⟨rfl, rfl⟩
      · have h9d := q_goon c_51 (by omega)
        refine lv_aload_n hx hb dX4_winner_54 rfl (lv_at hl 0 rfl) ?_
        refine lv_iload_n hx hb dX4_winner_55 rfl (lv_at hl 3 rfl) ?_
        refine lv_bipush (v := 9) hx hb dX4_winner_56 (by decide) ?_
        refine q_callV (As := [.int (nI b), .int 9]) (rs := []) hC (c_X4_bo l D T mo mw me mf mn nb nj 0 len ((rRun wf ey nj len nb 60 ((q_upto nb (rEnters G) G), (rBegU nu))).1) b 9 ((rRun wf ey nj len nb 60 ((q_upto nb (rEnters G) G), (rBegU nu))).1 b) (by omega) (by omega) rfl) q_no_st q_no_at (cwV 2 hts gX4_winner_X4_bo rfl rfl rfl (by decide +kernel) ⟨Nat.le_of_ble_eq_true rfl, Nat.le_of_ble_eq_true rfl⟩) (va_recv hK hP (ci := 5) (q0 := 0) rfl rfl) hK hP hD hS hA (q_mask [true, false, false, true, false, false, false, false] _) rfl hl.1 rfl (Nat.le_of_ble_eq_true rfl) dX4_winner_58 ⟨(Nat.le_of_ble_eq_true rfl), (Nat.le_of_ble_eq_true rfl)⟩ (fun v9 C9 H locs hp hP hD hS => ?_)
        obtain ⟨rfl, rfl⟩ := hp
        have hP : va_P D vwCl [q_mc mo 0 nb nj len mw me mf mn, q_ia T mw 10 wf, q_ia T me 3 ey, q_fa T mf ((rRun wf ey nj len nb 60 ((q_upto nb (rEnters G) G), (rBegU nu))).1), q_ia T mn 4 ((rRun wf ey nj len nb 60 ((q_upto nb (rEnters G) G), (rBegU nu))).2), q_kc T q1 qa qb, q_fa T qa G, q_ia T qb 4 nu] H := q_P_perm (q_mrg_perm [true, false, false, true, false, false, false, false] _ _) hP
        have hD : va_D A [q_mc mo 0 nb nj len mw me mf mn, q_ia T mw 10 wf, q_ia T me 3 ey, q_fa T mf ((rRun wf ey nj len nb 60 ((q_upto nb (rEnters G) G), (rBegU nu))).1), q_ia T mn 4 ((rRun wf ey nj len nb 60 ((q_upto nb (rEnters G) G), (rBegU nu))).2), q_kc T q1 qa qb, q_fa T qa G, q_ia T qb 4 nu] := q_D_perm (q_mrg_perm [true, false, false, true, false, false, false, false] _ _) hD
        refine lv_iconst (v := 2) hx hb dX4_winner_61 (by decide) ?_
        refine lv_icmp_ne (tgt := 75) hx hb dX4_winner_62 (by decide) (fun c_62 => ?_) (fun c_62 => ?_)
        · refine lv_iinc (v := (nI (b + 1))) (lv' := [(3, .int (nI (b + 1))), (0, .ref mo), (1, .ref q1), (2, .int (rWin (rRun wf ey nj len nb 60 ((q_upto nb (rEnters G) G), rBegU nu)).1 nb b))]) hx hb dX4_winner_75 hl (k := 3) rfl (nI_1 b) (by decide) rfl (fun ls hl => ?_)
          refine lv_goto (tgt := 46) hx hb dX4_winner_78 (by decide) ?_
          have e9 : (rWin (rRun wf ey nj len nb 60 ((q_upto nb (rEnters G) G), rBegU nu)).1 nb (b + 1)) = (rWin (rRun wf ey nj len nb 60 ((q_upto nb (rEnters G) G), rBegU nu)).1 nb b) := by simp only [rWin, if_pos c_9, if_neg c_16, if_pos c_30, if_neg c_62]
          have hl : lv_has ls 4 [(3, .int (nI (b + 1))), (0, .ref mo), (1, .ref q1), (2, .int (rWin (rRun wf ey nj len nb 60 ((q_upto nb (rEnters G) G), rBegU nu)).1 nb (b + 1)))] := by rw [e9]; exact hl
          exact ih46 (b + 1) (by omega) (by omega)   _ _ ls hP hD hS (lv_sub hl [1, 2, 3, 0] rfl)
        · refine lv_aload_n hx hb dX4_winner_65 rfl (lv_at hl 0 rfl) ?_
          refine lv_iload_n hx hb dX4_winner_66 rfl (lv_at hl 3 rfl) ?_
          refine q_callV (As := [.int (nI b)]) (rs := []) hC (c_X4_placeOf l D T mo mw me mf mn nb nj 0 len ((rRun wf ey nj len nb 60 ((q_upto nb (rEnters G) G), (rBegU nu))).1) b h9d hn) q_no_st q_no_at (cwV 1 hts gX4_winner_X4_placeOf rfl rfl rfl (by decide +kernel) ⟨Nat.le_of_ble_eq_true rfl, Nat.le_of_ble_eq_true rfl⟩) (va_recv hK hP (ci := 5) (q0 := 0) rfl rfl) hK hP hD hS hA (q_mask [true, false, false, true, false, false, false, false] _) rfl hl.1 rfl (Nat.le_of_ble_eq_true rfl) dX4_winner_67 ⟨(Nat.le_of_ble_eq_true rfl), (Nat.le_of_ble_eq_true rfl)⟩ (fun v9 C9 H locs hp hP hD hS => ?_)
          obtain ⟨rfl, rfl⟩ := hp
          have hP : va_P D vwCl [q_mc mo 0 nb nj len mw me mf mn, q_ia T mw 10 wf, q_ia T me 3 ey, q_fa T mf ((rRun wf ey nj len nb 60 ((q_upto nb (rEnters G) G), (rBegU nu))).1), q_ia T mn 4 ((rRun wf ey nj len nb 60 ((q_upto nb (rEnters G) G), (rBegU nu))).2), q_kc T q1 qa qb, q_fa T qa G, q_ia T qb 4 nu] H := q_P_perm (q_mrg_perm [true, false, false, true, false, false, false, false] _ _) hP
          have hD : va_D A [q_mc mo 0 nb nj len mw me mf mn, q_ia T mw 10 wf, q_ia T me 3 ey, q_fa T mf ((rRun wf ey nj len nb 60 ((q_upto nb (rEnters G) G), (rBegU nu))).1), q_ia T mn 4 ((rRun wf ey nj len nb 60 ((q_upto nb (rEnters G) G), (rBegU nu))).2), q_kc T q1 qa qb, q_fa T qa G, q_ia T qb 4 nu] := q_D_perm (q_mrg_perm [true, false, false, true, false, false, false, false] _ _) hD
          refine lv_if_ne (tgt := 75) hx hb dX4_winner_70 (by decide) (fun c_70 => ?_) (fun c_70 => ?_)
          · refine lv_iinc (v := (nI (b + 1))) (lv' := [(3, .int (nI (b + 1))), (0, .ref mo), (1, .ref q1), (2, .int (rWin (rRun wf ey nj len nb 60 ((q_upto nb (rEnters G) G), rBegU nu)).1 nb b))]) hx hb dX4_winner_75 hl (k := 3) rfl (nI_1 b) (by decide) rfl (fun ls hl => ?_)
            refine lv_goto (tgt := 46) hx hb dX4_winner_78 (by decide) ?_
            have e9 : (rWin (rRun wf ey nj len nb 60 ((q_upto nb (rEnters G) G), rBegU nu)).1 nb (b + 1)) = (rWin (rRun wf ey nj len nb 60 ((q_upto nb (rEnters G) G), rBegU nu)).1 nb b) := by simp only [rWin, if_pos c_9, if_neg c_16, if_pos c_30, if_pos c_62, if_neg c_70]
            have hl : lv_has ls 4 [(3, .int (nI (b + 1))), (0, .ref mo), (1, .ref q1), (2, .int (rWin (rRun wf ey nj len nb 60 ((q_upto nb (rEnters G) G), rBegU nu)).1 nb (b + 1)))] := by rw [e9]; exact hl
            exact ih46 (b + 1) (by omega) (by omega)   _ _ ls hP hD hS (lv_sub hl [1, 2, 3, 0] rfl)
          · refine lv_iload_n hx hb dX4_winner_73 rfl (lv_at hl 3 rfl) ?_
            refine lv_istore_n (lv' := [(2, .int (nI b)), (0, .ref mo), (1, .ref q1), (3, .int (nI b))]) hx hb dX4_winner_74 rfl hl (by decide) rfl (fun ls hl => ?_)
            refine lv_iinc (v := (nI (b + 1))) (lv' := [(3, .int (nI (b + 1))), (2, .int (nI b)), (0, .ref mo), (1, .ref q1)]) hx hb dX4_winner_75 hl (k := 3) rfl (nI_1 b) (by decide) rfl (fun ls hl => ?_)
            refine lv_goto (tgt := 46) hx hb dX4_winner_78 (by decide) ?_
            have e9 : (rWin (rRun wf ey nj len nb 60 ((q_upto nb (rEnters G) G), rBegU nu)).1 nb (b + 1)) = (nI b) := by simp only [rWin, if_pos c_9, if_neg c_16, if_pos c_30, if_pos c_62, if_pos c_70]
            have hl : lv_has ls 4 [(3, .int (nI (b + 1))), (2, .int (rWin (rRun wf ey nj len nb 60 ((q_upto nb (rEnters G) G), rBegU nu)).1 nb (b + 1))), (0, .ref mo), (1, .ref q1)] := by rw [e9]; exact hl
            exact ih46 (b + 1) (by omega) (by omega)   _ _ ls hP hD hS (lv_sub hl [2, 3, 1, 0] rfl)
  exact L46 (nb + 1) 0 (by omega) (by omega)   _ _ ls hP hD hS (lv_sub hl [3, 2, 1, 0] rfl)
set_option maxHeartbeats 1000000 in
set_option maxRecDepth 100000 in
theorem c_X4_winner_no (l : Launch) (D : va_G) (T : Nat → ClassId) (mo mw me mf mn nb nj : Nat) (th len : Int32) (G : Nat → Nat → Int32) (nu : Nat → Int32) (hn : nb ≤ 8) (h1 : bOn nu = 0) (h2 : q_sum (rRdy G) nb = 0) : q_M l D (q_ty T) yX4_winner wsX4_winner rmX4_winner [.ref mo] [q_mc mo th nb nj len mw me mf mn, q_fa T mf G, q_ia T mn 4 nu] q_no (q_is (some (.int (-1))) [q_mc mo 0 nb nj len mw me mf mn, q_fa T mf G, q_ia T mn 4 nu]) := by
  refine q_start (cc := cX4_winner) (maxL := 4) (ret := (some .int)) (by decide) rfl (Nat.le_of_ble_eq_true rfl) ?_
  intro p e s m args below meth c A H locs hx hb hr hts hown hlocks hml hnm hP hK hD hS hA hG ls hl
  have hown : s.vm.findClass RX4 = some m.cls := hown
  have hC : CallFix p m c cX4_winner 4 s args wsX4_winner RX4 := ⟨hx, hb, hml, hown, hts⟩
  have iX4 : ∀ w ∈ wsX40, w ∈ wsX4_winner := by decide +kernel
  have hl : lv_has ls 4 [(0, .ref mo)] := hl
  refine lv_aload_n hx hb dX4_winner_0 rfl (lv_at hl 0 rfl) ?_
  refine lv_iconst (v := 0) hx hb dX4_winner_1 (by decide) ?_
  refine va_put (D := D) (ci := 5) (v := .int 0) (ty := .int) (C := RX4) (T := TX4) (N := 8) hx hb hts iX4 tyX4 tyX4_ok nmX4 hown hK hP hD hS 0 rfl rfl 0 (by decide) (hts (.fieldLink RX4 26 "ToyRegattaModel" "thrown" "I") (by decide +kernel)) (fun _ h9 => h9) rfl (by decide +kernel) rfl rfl (Nat.le_of_ble_eq_true rfl) dX4_winner_2 (fun H locs hP hD hS => ?_)
  have hP : va_P D vwCl [q_mc mo 0 nb nj len mw me mf mn, q_fa T mf G, q_ia T mn 4 nu] H := hP
  have hD : va_D A [q_mc mo 0 nb nj len mw me mf mn, q_fa T mf G, q_ia T mn 4 nu] := hD
  refine lv_aload_n hx hb dX4_winner_5 rfl (lv_at hl 0 rfl) ?_
  refine q_callV (As := []) (rs := []) hC (c_X4_isRace l D T mo mw me mf mn nb nj 0 len nu) q_no_st q_no_at (cwV 0 hts gX4_winner_X4_isRace rfl rfl rfl (by decide +kernel) ⟨Nat.le_of_ble_eq_true rfl, Nat.le_of_ble_eq_true rfl⟩) (va_recv hK hP (ci := 5) (q0 := 0) rfl rfl) hK hP hD hS hA (q_mask [true, false, true] _) rfl hl.1 rfl (Nat.le_of_ble_eq_true rfl) dX4_winner_6 ⟨(Nat.le_of_ble_eq_true rfl), (Nat.le_of_ble_eq_true rfl)⟩ (fun v9 C9 H locs hp hP hD hS => ?_)
  obtain ⟨rfl, rfl⟩ := hp
  have hP : va_P D vwCl [q_mc mo 0 nb nj len mw me mf mn, q_fa T mf G, q_ia T mn 4 nu] H := q_P_perm (q_mrg_perm [true, false, true] _ _) hP
  have hD : va_D A [q_mc mo 0 nb nj len mw me mf mn, q_fa T mf G, q_ia T mn 4 nu] := q_D_perm (q_mrg_perm [true, false, true] _ _) hD
  refine lv_if_ne (tgt := 21) hx hb dX4_winner_9 (by decide) (fun c_9 => absurd h1 c_9) (fun c_9 => ?_)
  refine lv_aload_n hx hb dX4_winner_12 rfl (lv_at hl 0 rfl) ?_
  refine q_callV (As := []) (rs := []) hC (c_X4_ready l D T mo mw me mf mn nb nj 0 len G hn) q_no_st q_no_at (cwV 0 hts gX4_winner_X4_ready rfl rfl rfl (by decide +kernel) ⟨Nat.le_of_ble_eq_true rfl, Nat.le_of_ble_eq_true rfl⟩) (va_recv hK hP (ci := 5) (q0 := 0) rfl rfl) hK hP hD hS hA (q_mask [true, true, false] _) rfl hl.1 rfl (Nat.le_of_ble_eq_true rfl) dX4_winner_13 ⟨(Nat.le_of_ble_eq_true rfl), (Nat.le_of_ble_eq_true rfl)⟩ (fun v9 C9 H locs hp hP hD hS => ?_)
  obtain ⟨rfl, rfl⟩ := hp
  have hP : va_P D vwCl [q_mc mo 0 nb nj len mw me mf mn, q_fa T mf G, q_ia T mn 4 nu] H := q_P_perm (q_mrg_perm [true, true, false] _ _) hP
  have hD : va_D A [q_mc mo 0 nb nj len mw me mf mn, q_fa T mf G, q_ia T mn 4 nu] := q_D_perm (q_mrg_perm [true, true, false] _ _) hD
  refine lv_if_ne (tgt := 21) hx hb dX4_winner_16 (by decide) (fun c_16 => absurd h2 c_16) (fun c_16 => ?_)
  refine lv_iconst (v := (-1)) hx hb dX4_winner_19 (by decide) ?_
  exact q_iret hx hb hr hlocks hP hK hD hS (Nat.le_of_ble_eq_true rfl) (Nat.le_of_ble_eq_true rfl) dX4_winner_20 ⟨rfl, rfl⟩
