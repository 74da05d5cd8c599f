/-! worlds as lists: masks, permutations; one form of contract (q_M); one row a call, an end -/
theorem q_P_iff {D : va_G} {cl : List vw_C} {w : va_W} {H : Heap} : va_P D cl w H ↔ ∀ q ∈ w, va_at D cl q H := by
  constructor
  · intro h q hq
    obtain ⟨i, hi⟩ := List.getElem?_of_mem hq
    exact h i q hi
  · intro h k q hk
    exact h q (List.mem_of_getElem? hk)
theorem q_P_perm {D : va_G} {cl : List vw_C} {w w' : va_W} {H : Heap} (hp : w.Perm w') (h : va_P D cl w H) : va_P D cl w' H :=
  q_P_iff.mpr fun q hq => q_P_iff.mp h q (hp.mem_iff.mpr hq)
theorem q_D_iff {A : Nat → Prop} {w : va_W} : va_D A w ↔ (w.map (fun q => q.1)).Nodup ∧ ∀ q ∈ w, A q.1 := by
  constructor
  · intro h
    refine ⟨?_, fun q hq => ?_⟩
    · rw [List.nodup_iff_pairwise_ne, List.pairwise_iff_getElem]
      intro i j hi hj hij he
      have hi' : i < w.length := by simpa using hi
      have hj' : j < w.length := by simpa using hj
      have := h.1 i j w[i] w[j] (List.getElem?_eq_getElem hi') (List.getElem?_eq_getElem hj') (by simpa using he)
      omega
    · obtain ⟨i, hi⟩ := List.getElem?_of_mem hq
      exact h.2 i q hi
  · intro h
    refine ⟨fun i j p q hi hj he => ?_, fun k q hk => h.2 q (List.mem_of_getElem? hk)⟩
    obtain ⟨hi1, hi2⟩ := List.getElem?_eq_some_iff.mp hi
    obtain ⟨hj1, hj2⟩ := List.getElem?_eq_some_iff.mp hj
    have hn := h.1
    rw [List.nodup_iff_pairwise_ne, List.pairwise_iff_getElem] at hn
    rcases Nat.lt_trichotomy i j with g | g | g
    · exact (hn i j (by simpa using hi1) (by simpa using hj1) g (by simp [hi2, hj2, he])).elim
    · exact g
    · exact (hn j i (by simpa using hj1) (by simpa using hi1) g (by simp [hi2, hj2, he])).elim
theorem q_D_perm {A : Nat → Prop} {w w' : va_W} (hp : w.Perm w') (h : va_D A w) : va_D A w' := by
  rw [q_D_iff] at h ⊢
  exact ⟨(hp.map _).nodup_iff.mp h.1, fun q hq => h.2 q (hp.mem_iff.mpr hq)⟩
theorem q_P_left {D : va_G} {cl : List vw_C} {a b : va_W} {H : Heap} (h : va_P D cl (a ++ b) H) : va_P D cl a H :=
  q_P_iff.mpr fun q hq => q_P_iff.mp h q (List.mem_append_left _ hq)
theorem q_P_right {D : va_G} {cl : List vw_C} {a b : va_W} {H : Heap} (h : va_P D cl (a ++ b) H) : va_P D cl b H :=
  q_P_iff.mpr fun q hq => q_P_iff.mp h q (List.mem_append_right _ hq)
theorem q_D_left {A : Nat → Prop} {a b : va_W} (h : va_D A (a ++ b)) : va_D A a := by
  rw [q_D_iff, List.map_append] at *
  exact ⟨(List.nodup_append.mp h.1).1, fun q hq => h.2 q (List.mem_append_left _ hq)⟩
theorem q_D_right {A : Nat → Prop} {a b : va_W} (h : va_D A (a ++ b)) : va_D A b := by
  rw [q_D_iff, List.map_append] at *
  exact ⟨(List.nodup_append.mp h.1).2.1, fun q hq => h.2 q (List.mem_append_right _ hq)⟩
/-- behind a call: the callee's new cells beside the rest -/
theorem q_join {A : Nat → Prop} {D : va_G} {cl : List vw_C} {C R C1 : va_W} {H H1 : Heap} (hP : va_P D cl (C ++ R) H) (hD : va_D A (C ++ R))
    (hk : ∀ q : Nat, q < H.size → ¬ va_A C H.size q → H1[q]? = H[q]?) (hF : ∀ q, va_A C H.size q → A q) (hP1 : va_P D cl C1 H1) (hD1 : va_D (va_A C H.size) C1) : va_P D cl (C1 ++ R) H1 ∧ va_D A (C1 ++ R) := by
  have hDR := q_D_right hD
  have apart : ∀ q ∈ R, q.1 < H.size ∧ ¬ va_A C H.size q.1 := by
    intro q hq
    have hl := (q_P_iff.mp (q_P_right hP) q hq).lt
    refine ⟨hl, fun h => ?_⟩
    rcases h with ⟨k, e, h⟩ | h
    · have hm := List.mem_of_getElem? h
      rw [q_D_iff, List.map_append, List.nodup_append] at hD
      exact hD.1.2.2 _ (List.mem_map_of_mem (f := fun q : Nat × va_E => q.1) hm) _ (List.mem_map_of_mem (f := fun q : Nat × va_E => q.1) hq) rfl
    · omega
  refine ⟨q_P_iff.mpr fun q hq => ?_, q_D_iff.mpr ⟨?_, fun q hq => ?_⟩⟩
  · rcases List.mem_append.mp hq with h | h
    · exact q_P_iff.mp hP1 q h
    · exact (q_P_iff.mp (q_P_right hP) q h).kept (hk q.1 (apart q h).1 (apart q h).2)
  · rw [List.map_append, List.nodup_append]
    refine ⟨(q_D_iff.mp hD1).1, (q_D_iff.mp hDR).1, fun a ha b hb he => ?_⟩
    obtain ⟨x, hx, rfl⟩ := List.mem_map.mp ha
    obtain ⟨y, hy, rfl⟩ := List.mem_map.mp hb
    have h1 := (q_D_iff.mp hD1).2 x hx
    rw [he] at h1
    exact (apart y hy).2 h1
  · rcases List.mem_append.mp hq with h | h
    · exact hF _ ((q_D_iff.mp hD1).2 q h)
    · exact (q_D_iff.mp hDR).2 q h
def q_sel {α : Type} : List Bool → List α → List α
  | true :: m, x :: w => x :: q_sel m w
  | false :: m, _ :: w => q_sel m w
  | _, _ => []
def q_rst {α : Type} : List Bool → List α → List α
  | true :: m, _ :: w => q_rst m w
  | false :: m, x :: w => x :: q_rst m w
  | _, w => w
def q_mrg {α : Type} : List Bool → List α → List α → List α
  | true :: m, x :: c, r => x :: q_mrg m c r
  | true :: m, [], r => q_mrg m [] r
  | false :: m, c, x :: r => x :: q_mrg m c r
  | false :: m, c, [] => q_mrg m c []
  | [], c, r => c ++ r
theorem q_mask {α : Type} : ∀ (m : List Bool) (w : List α), w.Perm (q_sel m w ++ q_rst m w)
  | [], w => by simp [q_sel, q_rst]
  | true :: m, [] => by simp [q_sel, q_rst]
  | false :: m, [] => by simp [q_sel, q_rst]
  | true :: m, x :: w => by simpa [q_sel, q_rst] using q_mask m w
  | false :: m, x :: w => by
    simp only [q_sel, q_rst]
    exact ((q_mask m w).cons x).trans List.perm_middle.symm
theorem q_mrg_perm {α : Type} : ∀ (m : List Bool) (c r : List α), (c ++ r).Perm (q_mrg m c r)
  | [], c, r => by simp [q_mrg]
  | true :: m, x :: c, r => by simpa [q_mrg] using q_mrg_perm m c r
  | true :: m, [], r => by simpa [q_mrg] using q_mrg_perm m [] r
  | false :: m, c, x :: r => by
    simp only [q_mrg]
    exact List.perm_middle.trans ((q_mrg_perm m c r).cons x)
  | false :: m, c, [] => by simpa [q_mrg] using q_mrg_perm m c []
/-- the contract's end: an answer and a world, both said by 'post' -/
def q_Q (D : va_G) (tys : List (ClassId × FieldType)) (post : Option Value → va_W → Prop) (A : Nat → Prop) : Array Value → State → Outcome → State → Prop := fun _ st oc t =>
  (∃ (v : Option Value) (w : va_W), oc = .returned v ∧ post v w ∧ va_P D vwCl w t.heap ∧ va_K D vwCl tys t ∧ va_D A w) ∧ va_F A st t
/-- the contract's start -/
def q_P0 (D : va_G) (tys : List (ClassId × FieldType)) (av : List Value) (C : va_W) (G : (Nat → Prop) → State → Prop) (sz : Nat) : Array Value → State → Prop :=
  va_Pc av (fun U => U.heap.size = sz ∧ va_P D vwCl C U.heap ∧ va_K D vwCl tys U ∧ va_D (fun _ => True) C ∧ G (va_A C sz) U)
/-- what is asked of the state outside the world: nothing -/
def q_no : (Nat → Prop) → State → Prop := fun _ _ => True
/-- THE CONTRACT: from the cells C (G of the rest) and the arguments av, method y returns, and 'post' says answer and cells -/
def q_M (l : Launch) (D : va_G) (tys : List (ClassId × FieldType)) (y : MethodName) (ws : List Cond) (rm : Room) (av : List Value) (C : va_W) (G : (Nat → Prop) → State → Prop) (post : Option Value → va_W → Prop) : Prop :=
  ∀ sz : Nat, Met l y ws rm (q_P0 D tys av C G sz) (q_Q D tys post (va_A C sz)) rm.cells rm.slots (va_A C sz)
/-- .. one answer, one world -/
abbrev q_is (v : Option Value) (w : va_W) : Option Value → va_W → Prop := fun v' w' => v' = v ∧ w' = w
def q_E (below : List Frame) (D : va_G) (tys : List (ClassId × FieldType)) (post : Option Value → va_W → Prop) (A : Nat → Prop) (args : Array Value) (s : State) (rm : Room) : State → Prop := MQ below (q_Q D tys post A) args s rm.cells rm.slots A
theorem q_start {l : Launch} {D : va_G} {tys : List (ClassId × FieldType)} {y : MethodName} {ws ws' : List Cond} {rm : Room} {av : List Value} {C : va_W} {G : (Nat → Prop) → State → Prop} {post : Option Value → va_W → Prop} {cc : ByteArray} {maxL : Nat} {ret : Option FieldType}
    (hy : plainName y.cls = true) (hw : ws = Cond.code y cc maxL ret :: ws') (hav : (lg_sl av).length ≤ maxL)
    (body : ∀ {p : Program} {e : Env} {s : State} {m : MethodId} {args : Array Value} {below : List Frame} {meth : Method} {c : Code} (A : Nat → Prop) (H : Heap) (locs : List Loc),
      p.tables.exec = Jvm.exec → c.code = cc → meth.sig.returnType = ret → (∀ w ∈ ws, w.before args s = true) → s.vm.findClass y.cls = some m.cls → meth.locks = false → c.maxLocals = maxL → meth.name = y.name →
      va_P D vwCl C H → va_K D vwCl tys s → va_D A C → va_S A s.heap H locs → (∀ q, s.heap.size ≤ q → A q) → G A s → ∀ ls : Array Slot, lv_has ls maxL (lv_args 0 av) →
      W p l e rm s m args below meth c H locs 0 0 (q_E below D tys post A args s rm) (F0 m 0 ls [])) : q_M l D tys y ws rm av C G post := by
  intro sz
  refine Met.ofW (cc := cc) (maxL := maxL) (ret := ret) hy hw ?_
  intro p e s m args below meth c s₁ B hml hv
  obtain ⟨rfl, hsz, hP, hK, hD0, hG⟩ := hv
  subst hsz
  have hl := lv_entry av (n := maxL) hav
  rw [lg_entry_eq]
  generalize (lg_sl av ++ List.replicate (maxL - (lg_sl av).length) Slot.unset).toArray = ls at hl ⊢
  exact body (va_A C s.heap.size) s.heap [] B.exec B.bytes B.returns (atoms_spec (ws := ws) B.pre) (findClass_of_methodNamed B.named) B.notSynchronized hml (name_of_methodNamed B.named B.method).1 hP hK hD0.self va_S.rf (fun q h => Or.inr h) hG ls hl
/-- what is asked of the outside may be asked at any state with this heap and these tables -/
def q_st (G : (Nat → Prop) → State → Prop) : Prop := ∀ (A : Nat → Prop) (U V : State), V.heap = U.heap → U.vm.Alike V.vm → G A U → G A V
theorem q_no_st : q_st q_no := fun _ _ _ _ _ _ => trivial
theorem q_no_at {A : Nat → Prop} {H : Heap} {s : State} : ∀ U : State, U.heap = H → s.WarmedH U.vm → q_no A U := fun _ _ _ => trivial
section QE
variable {p : Program} {l : Launch} {e : Env} {rm : Room} {s : State} {m : MethodId} {args : Array Value} {below : List Frame} {meth : Method} {c : Code} {H : Heap} {locs : List Loc} {cells slots : Nat} {D : va_G} {tys : List (ClassId × FieldType)} {post : Option Value → va_W → Prop} {A : Nat → Prop} {w : va_W} {cc : ByteArray} {pc : Nat} {ls : Array Slot}
theorem q_end (hP : va_P D vwCl w H) (hK : va_K D vwCl tys s) (hD : va_D A w) (hS : va_S A s.heap H locs) {v : Option Value} (hp : post v w) : ∀ t : State, t.heap = H → s.WarmedH t.vm → q_Q D tys post A args s (.returned v) t :=
  fun t ht hW => ⟨⟨v, w, rfl, hp, by rw [ht]; exact hP, va_K.moved hW.alike hK, hD⟩, hS.F ht⟩
theorem q_iret (hx : p.tables.exec = Jvm.exec) (hb : c.code = cc) (hr : meth.sig.returnType = some .int) (hlocks : meth.locks = false) (hP : va_P D vwCl w H) (hK : va_K D vwCl tys s) (hD : va_D A w) (hS : va_S A s.heap H locs) {v : Int32} (hc : cells ≤ rm.cells) (hs : slots ≤ rm.slots) (hdg : decode cc pc = .ok (.ireturn, 1)) (hp : post (some (.int v)) w) : W p l e rm s m args below meth c H locs cells slots (q_E below D tys post A args s rm) (F0 m pc ls [.int v]) :=
  W.widen hc hs (W.iret hx hb hr (q_end hP hK hD hS hp) hS.2.2 hdg hlocks)
theorem q_zret (hx : p.tables.exec = Jvm.exec) (hb : c.code = cc) (hr : meth.sig.returnType = some .boolean) (hlocks : meth.locks = false) (hP : va_P D vwCl w H) (hK : va_K D vwCl tys s) (hD : va_D A w) (hS : va_S A s.heap H locs) {v : Int32} (hn : narrow .boolean (.int v) = .int v) (hc : cells ≤ rm.cells) (hs : slots ≤ rm.slots) (hdg : decode cc pc = .ok (.ireturn, 1)) (hp : post (some (.int v)) w) : W p l e rm s m args below meth c H locs cells slots (q_E below D tys post A args s rm) (F0 m pc ls [.int v]) :=
  W.widen hc hs (W.zret hx hb hr hn (q_end hP hK hD hS hp) hS.2.2 hdg hlocks)
theorem q_vret (hx : p.tables.exec = Jvm.exec) (hb : c.code = cc) (hr : meth.sig.returnType = none) (hlocks : meth.locks = false) (hP : va_P D vwCl w H) (hK : va_K D vwCl tys s) (hD : va_D A w) (hS : va_S A s.heap H locs) (hc : cells ≤ rm.cells) (hs : slots ≤ rm.slots) (hdg : decode cc pc = .ok (.return_, 1)) (hp : post none w) : W p l e rm s m args below meth c H locs cells slots (q_E below D tys post A args s rm) (F0 m pc ls []) :=
  W.widen hc hs (W.vret hx hb hr (q_end hP hK hD hS hp) hS.2.2 hdg hlocks)
theorem q_aret (hx : p.tables.exec = Jvm.exec) (hb : c.code = cc) {rt : FieldType} (hr : meth.sig.returnType = some rt) (hrt : (∃ n, rt = .object n) ∨ ∃ t, rt = .array t) (hlocks : meth.locks = false) (hP : va_P D vwCl w H) (hK : va_K D vwCl tys s) (hD : va_D A w) (hS : va_S A s.heap H locs) {a : Nat} (hc : cells ≤ rm.cells) (hs : slots ≤ rm.slots) (hdg : decode cc pc = .ok (.areturn, 1)) (hp : post (some (.ref a)) w) : W p l e rm s m args below meth c H locs cells slots (q_E below D tys post A args s rm) (F0 m pc ls [.ref a]) :=
  W.widen hc hs (W.aret hx hb hr hrt (Or.inr ⟨a, rfl⟩) (q_end hP hK hD hS hp) hS.2.2 hdg hlocks)
end QE
section QC
variable {p : Program} {l : Launch} {e : Env} {R : Room} {s : State} {m : MethodId} {args : Array Value} {below : List Frame} {meth : Method} {c : Code} {H : Heap} {locs : List Loc} {cells slots : Nat} {Q : State → Prop}
variable {y : MethodName} {bytes cc : ByteArray} {maxL nL n index pc : Nat} {ret : Option FieldType} {wsy Ts : List Cond} {rmy : Room} {own Cy : String} {b : Addr} {As rs st0 : List Value} {ls : Array Slot}
variable {D : va_G} {tys : List (ClassId × FieldType)} {C w R1 : va_W} {G : (Nat → Prop) → State → Prop} {post : Option Value → va_W → Prop} {A : Nat → Prop} {H0 : Heap} {mc ms : Nat} {a : Array Value}
theorem q_P0_blind {av : List Value} {sz : Nat} (hG : q_st G) : FrameBlind (q_P0 D tys av C G sz) := fun a U g mk q => by
  obtain ⟨q0, q1, qP, qK, qD, qG⟩ := q
  exact ⟨q0, q1, qP, va_K.moved (u := U) (U := U.calling g mk a) (Vm.Alike.refl U.vm) qK, qD, hG _ U _ rfl (Vm.Alike.refl U.vm) qG⟩
theorem q_go (hr : va_Run p l e R s m args below meth c H locs cells slots mc ms (F0 m pc ls st0) rs (q_Q D tys post (va_A C H.size) a) (va_A C H.size)) (hP : va_P D vwCl w H) (hD : va_D A w) (hS : va_S A H0 H locs) (hA : ∀ q, H0.size ≤ q → A q) (hperm : w.Perm (C ++ R1))
    (kk : ∀ (v : Option Value) (C' : va_W) (H1 : Heap) (locs1 : List Loc), post v C' → va_P D vwCl (C' ++ R1) H1 → va_D A (C' ++ R1) → va_S A H0 H1 locs1 → W p l e R s m args below meth c H1 locs1 (cells + mc) (slots + ms) Q (F0 m (pc + 3) ls (v.toList ++ rs))) : W p l e R s m args below meth c H locs cells slots Q (F0 m pc ls st0) := by
  have hP' := q_P_perm hperm hP
  have hD' := q_D_perm hperm hD
  have hF : ∀ q, va_A C H.size q → A q := by
    intro q h
    rcases h with ⟨k, e, h⟩ | h
    · exact (q_D_iff.mp (q_D_left hD')).2 _ (List.mem_of_getElem? h)
    · exact hA q (Nat.le_trans hS.1 h)
  intro T hT X
  obtain ⟨v, st₀, t, T', L, h0, X', hL, e1, e2, ⟨⟨v2, C1, hv, hp, hP1, hK1, hD1⟩, hz, hk⟩, st⟩ := hr T hT X
  cases hv
  rw [h0] at hz hk
  rw [← e1] at hz hk hP1
  obtain ⟨hP2, hD2⟩ := q_join hP' hD' hk hF hP1 hD1
  obtain ⟨t2, a1, b1⟩ := kk v C1 T'.heap (locs ++ L) hp hP2 hD2
    ⟨Nat.le_trans hS.1 hz, fun q h1 h2 => by rw [hk q (Nat.lt_of_lt_of_le h1 hS.1) (fun z => h2 (hF q z))]; exact hS.2.1 q h1 h2, fun q hq => by
      rcases List.mem_append.mp hq with h | h
      · exact hS.2.2 q h
      · exact hF _ (hL q h)⟩ T' rfl X'
  exact ⟨t2, st t2 a1, b1⟩
theorem q_callV (S : CallFix p m c cc nL s args Ts own) (hM : q_M l D tys y wsy rmy (.ref b :: As) C G post) (hGb : q_st G) (hGU : ∀ U : State, U.heap = H → s.WarmedH U.vm → G (va_A C H.size) U) (cw : CallW R s args own Cy index y bytes maxL ret wsy rmy rmy.cells rmy.slots n) (hrecv : ∃ cell : Cell, H[b]? = some cell ∧ cell.vm.isStatics = false ∧ s.vm.findClass Cy = some cell.cls)
    (hK : va_K D vwCl tys s) (hP : va_P D vwCl w H) (hD : va_D A w) (hS : va_S A H0 H locs) (hA : ∀ q, H0.size ≤ q → A q) (hperm : w.Perm (C ++ R1)) (hn : As.length = n) (hsize : ls.size = nL) (hst : st0 = As.reverse ++ .ref b :: rs) (hW : (rs.map fun v => v.category).sum ≤ 8) (hdg : decode cc pc = .ok (.invokevirtual index, 3)) (hf : cells + rmy.cells ≤ R.cells ∧ slots + rmy.slots ≤ R.slots)
    (kk : ∀ (v : Option Value) (C' : va_W) (H1 : Heap) (locs1 : List Loc), post v C' → va_P D vwCl (C' ++ R1) H1 → va_D A (C' ++ R1) → va_S A H0 H1 locs1 → W p l e R s m args below meth c H1 locs1 (cells + rmy.cells) (slots + rmy.slots) Q (F0 m (pc + 3) ls (v.toList ++ rs))) : W p l e R s m args below meth c H locs cells slots Q (F0 m pc ls st0) := by
  have hP' := q_P_left (q_P_perm hperm hP)
  have hD' := q_D_left (q_D_perm hperm hD)
  exact q_go (va_runV (As := As) (rest := rs) S (hM H.size) cw ⟨q_P0_blind hGb, hrecv, fun U hU hW => ⟨rfl, by rw [hU], by rw [hU]; exact hP', va_K.moved hW.alike hK, hD'.weaken (fun _ _ _ _ => trivial), hGU U hU hW⟩⟩ rfl hn hsize hst (lv_room hW) hdg hf) hP hD hS hA hperm kk
theorem q_callS (S : CallFix p m c cc nL s args Ts own) (hM : q_M l D tys y wsy rmy As C G post) (hGb : q_st G) (hGU : ∀ U : State, U.heap = H → s.WarmedH U.vm → G (va_A C H.size) U) (cw : CallB R s args own index y bytes maxL ret wsy rmy rmy.cells rmy.slots n ∧ (Cond.static y).before args s = true)
    (hK : va_K D vwCl tys s) (hP : va_P D vwCl w H) (hD : va_D A w) (hS : va_S A H0 H locs) (hA : ∀ q, H0.size ≤ q → A q) (hperm : w.Perm (C ++ R1)) (hn : As.length = n) (hsize : ls.size = nL) (hst : st0 = As.reverse ++ rs) (hW : (rs.map fun v => v.category).sum ≤ 8) (hdg : decode cc pc = .ok (.invokestatic index, 3)) (hf : cells + rmy.cells ≤ R.cells ∧ slots + rmy.slots ≤ R.slots)
    (kk : ∀ (v : Option Value) (C' : va_W) (H1 : Heap) (locs1 : List Loc), post v C' → va_P D vwCl (C' ++ R1) H1 → va_D A (C' ++ R1) → va_S A H0 H1 locs1 → W p l e R s m args below meth c H1 locs1 (cells + rmy.cells) (slots + rmy.slots) Q (F0 m (pc + 3) ls (v.toList ++ rs))) : W p l e R s m args below meth c H locs cells slots Q (F0 m pc ls st0) := by
  have hP' := q_P_left (q_P_perm hperm hP)
  have hD' := q_D_left (q_D_perm hperm hD)
  exact q_go (va_runS (As := As) (rest := rs) S (hM H.size) cw ⟨q_P0_blind hGb, fun U hU hW => ⟨rfl, by rw [hU], by rw [hU]; exact hP', va_K.moved hW.alike hK, hD'.weaken (fun _ _ _ _ => trivial), hGU U hU hW⟩⟩ rfl hn hsize hst (lv_room hW) hdg hf) hP hD hS hA hperm kk
theorem q_callI (S : CallFix p m c cc nL s args Ts own) (hM : q_M l D tys y wsy rmy (.ref b :: As) C G post) (hGb : q_st G) (hGU : ∀ U : State, U.heap = H → s.WarmedH U.vm → G (va_A C H.size) U) (cw : CallB R s args own index y bytes maxL none wsy rmy rmy.cells rmy.slots n ∧ y.name = "<init>" ∧ (Cond.instanceMethod y).before args s = true)
    (hK : va_K D vwCl tys s) (hP : va_P D vwCl w H) (hD : va_D A w) (hS : va_S A H0 H locs) (hA : ∀ q, H0.size ≤ q → A q) (hperm : w.Perm (C ++ R1)) (hn : As.length = n) (hsize : ls.size = nL) (hst : st0 = As.reverse ++ .ref b :: rs) (hW : (rs.map fun v => v.category).sum ≤ 8) (hdg : decode cc pc = .ok (.invokespecial index, 3)) (hf : cells + rmy.cells ≤ R.cells ∧ slots + rmy.slots ≤ R.slots)
    (kk : ∀ (v : Option Value) (C' : va_W) (H1 : Heap) (locs1 : List Loc), post v C' → va_P D vwCl (C' ++ R1) H1 → va_D A (C' ++ R1) → va_S A H0 H1 locs1 → W p l e R s m args below meth c H1 locs1 (cells + rmy.cells) (slots + rmy.slots) Q (F0 m (pc + 3) ls (v.toList ++ rs))) : W p l e R s m args below meth c H locs cells slots Q (F0 m pc ls st0) := by
  have hP' := q_P_left (q_P_perm hperm hP)
  have hD' := q_D_left (q_D_perm hperm hD)
  exact q_go (va_runI (As := As) (rest := rs) S (hM H.size) cw ⟨q_P0_blind hGb, fun U hU hW => ⟨rfl, by rw [hU], by rw [hU]; exact hP', va_K.moved hW.alike hK, hD'.weaken (fun _ _ _ _ => trivial), hGU U hU hW⟩⟩ rfl hn hsize hst (lv_room hW) hdg hf) hP hD hS hA hperm kk
end QC
