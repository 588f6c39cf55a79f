/-! THE J LAYER: a judgement over pictures of the heap, in which the program is walked: no words, no frames, no room are seen above it. -/
/-- locals by their places; the picture: what lies at each address; an end: returned or thrown (the class) -/
abbrev jl_T : Type := List (Option Value)
abbrev jh_T : Type := Nat → va_E
abbrev jr_T : Type := Option Value ⊕ String
/-- a method: its class, its name, its code, how many locals, what it answers, its handlers, the frames and the words of locals that it wants -/
abbrev jm_T : Type := String × String × ByteArray × Nat × Option FieldType × List (Nat × Nat × Nat × Nat) × Nat × Nat
abbrev jm_own (M : jm_T) : String := M.1
abbrev jm_nam (M : jm_T) : String := M.2.1
abbrev jm_cod (M : jm_T) : ByteArray := M.2.2.1
abbrev jm_nL (M : jm_T) : Nat := M.2.2.2.1
abbrev jm_ret (M : jm_T) : Option FieldType := M.2.2.2.2.1
abbrev jm_xt (M : jm_T) : List (Nat × Nat × Nat × Nat) := M.2.2.2.2.2.1
abbrev jm_fr (M : jm_T) : Nat := M.2.2.2.2.2.2.1
abbrev jm_lo (M : jm_T) : Nat := M.2.2.2.2.2.2.2
/-- a world: the launch; the words, the classes, the kinds of array, the String constants, the pairs of classes of which the first can't be cast to the second; their numbers in the machine; where our cells begin; the script -/
abbrev jw_T : Type := Launch × (List Cond × List vw_C × List FieldType × List (String × Nat × String) × List (String × String)) × va_G × (Nat → ClassId) × Nat × (Nat × Nat × (Nat → Int32))
abbrev jw_l (w : jw_T) : Launch := w.1
abbrev jw_Ts (w : jw_T) : List Cond := w.2.1.1
abbrev jw_cl (w : jw_T) : List vw_C := w.2.1.2.1
abbrev jw_ty (w : jw_T) : List FieldType := w.2.1.2.2.1
abbrev jw_sr (w : jw_T) : List (String × Nat × String) := w.2.1.2.2.2.1
abbrev jw_nc (w : jw_T) : List (String × String) := w.2.1.2.2.2.2
abbrev jw_D (w : jw_T) : va_G := w.2.2.1
abbrev jw_tc (w : jw_T) : Nat → ClassId := w.2.2.2.1
abbrev jw_z (w : jw_T) : Nat := w.2.2.2.2.1
abbrev jw_b (w : jw_T) : Nat := w.2.2.2.2.2.1
abbrev jw_L (w : jw_T) : Nat := w.2.2.2.2.2.2.1
abbrev jw_xs (w : jw_T) : Nat → Int32 := w.2.2.2.2.2.2.2
def je (tc : Nat → ClassId) : va_E → va_E
  | .inl a => .inl (tc a.1, a.2)
  | .inr o => .inr o
/-- words that hold wherever they held before -/
def jg (c : Cond) : Bool := goodWord c || (match c with
  | .fieldLinkNest .. => true
  | .methodLinkNest .. => true
  | .castable .. => true
  | .arrayOver (.object _) => true
  | .declares .. => true
  | _ => false)
theorem jg_at {c : Cond} (hc : jg c = true) {a a' : Array Value} {s U : State} (hW : s.WarmedH U.vm) (h : c.before a s = true) : c.before a' U = true := by
  unfold jg at hc
  rw [Bool.or_eq_true] at hc
  rcases hc with hc | hc
  · exact word_at hW (good_of_word hc) h
  · split at hc
    · exact va_Nw.use rfl (va_Nw.warmF hW (va_Nw.of rfl h))
    · exact va_Nw.use rfl (va_Nw.warmM hW (va_Nw.of rfl h))
    · exact va_Nw.use rfl (va_Nw.warmC hW (va_Nw.of rfl h))
    · exact va_AO.use (va_AO.moved hW.alike (va_AO.of h))
    · exact va_Nw.use rfl (va_Nw.warmD hW (va_Nw.of rfl h))
    · cases hc
def jtys (w : jw_T) : List (ClassId × FieldType) := (jw_ty w).zipIdx.map (fun q => (jw_tc w q.2, q.1))
theorem jtys_at {w : jw_T} {t : Nat} {ty : FieldType} (h : (jw_ty w)[t]? = some ty) : (jtys w)[t]? = some (jw_tc w t, ty) := by
  simp [jtys, List.getElem?_map, List.getElem?_zipIdx, h]
/-- a static field of references: where it lies, below z, and that it holds a reference or null -/
def jz (C f d : String) (z : Nat) (U : State) (H : Heap) : Prop := ∃ (c i : Nat) (k : Class) (fd : Field) (a : Nat) (cell : Cell) (v : Value), U.vm.findClass C = some c ∧ U.fieldFound? C f d = some (c, k, i, fd) ∧ fd.isStatic = true ∧ k.statics = some a ∧ H[a]? = some cell ∧ cell.vm.isStatics = true ∧ cell.cls = c ∧ fd.slot < cell.slots.size ∧ k.staticTypes[fd.slot]? = some fd.type ∧ cell.slots[fd.slot]? = some v ∧ v.isRef = true ∧ a < z
theorem jz.moved {C f d : String} {z : Nat} {u U : State} {H H1 : Heap} (hvm : u.vm.Alike U.vm) (hq : ∀ q : Nat, q < z → H1[q]? = H[q]?) (h : jz C f d z u H) : jz C f d z U H1 := by
  obtain ⟨c, i, k, fd, a, cell, v, h1, h2, h3, h4, h5, h6, h7, h8, h9, h10, h11, h12⟩ := h
  obtain ⟨k', hi', he⟩ := State.fieldFound?_setVm hvm h2
  exact ⟨c, i, k', fd, a, cell, v, by rw [hvm.findClass]; exact h1, hi', h3, by rw [he]; exact h4, by rw [hq a h12]; exact h5, h6, h7, h8, by rw [he]; exact h9, h10, h11, h12⟩
theorem jz.lays {C f d : String} {z : Nat} {s : State} {a : Array Value} (h : jz C f d z s s.heap) : (Cond.laysStatic C f d).before a s = true := by
  obtain ⟨c, i, k, fd, q, cell, v, h1, h2, h3, h4, h5, h6, h7, h8, h9, -⟩ := h
  exact Cond.laysStatic_of h1 h2 h3 h4 h5 h6 h7 h8 h9
theorem jz.isRef {C f d : String} {z : Nat} {s : State} {a : Array Value} (h : jz C f d z s s.heap) : (Cond.isRef (.static C f d)).before a s = true := by
  obtain ⟨c, i, k, fd, q, cell, v, h1, h2, h3, h4, h5, h6, h7, h8, h9, h10, h11, -⟩ := h
  have he : (Term.static C f d).eval a s none [] s = some v := by
    simp [Term.eval, State.fieldNamed?, h2, h3, h4, h5, h6, h10]
  simp only [Cond.before, Cond.holds, Cond.value, he]
  cases v <;> simp_all [Value.isRef]
/-- no cell from z on holds a class's statics -/
def jns (z : Nat) (H : Heap) : Prop := ∀ a : Nat, z ≤ a → ∀ cell, H[a]? = some cell → cell.vm.isStatics = false
/-- what throwing wants -/
def jkx (w : jw_T) (U : State) : Prop := (jw_l w).stackTraces = false ∧ jz Bundle.tN "UNASSIGNED_STACK" Bundle.steD (jw_z w) U U.heap ∧ jz Bundle.tN "SUPPRESSED_SENTINEL" Bundle.listD (jw_z w) U U.heap ∧ (∀ q ∈ jw_sr w, ∃ sa, vk_R q.1 q.2.1 q.2.2 sa U) ∧ jns (jw_z w) U.heap ∧ (∀ q ∈ jw_nc w, va_Nc q.1 q.2 U)
/-- what holds of the tables, and of the script, at a state -/
def jk (w : jw_T) (U : State) : Prop := (∀ c ∈ jw_Ts w, jg c = true → ∀ a, c.before a U = true) ∧ va_K (jw_D w) (jw_cl w) (jtys w) U ∧ va_X (jw_b w) (jw_L w) (jw_xs w) U U.heap ∧ jw_b w < jw_z w ∧ jw_z w ≤ U.heap.size ∧ jkx w U
/-- the heap holds the picture of the cells z .. n - 1 -/
def jp (w : jw_T) (h : jh_T) (n : Nat) (H : Heap) : Prop := n ≤ H.size ∧ ∀ a, jw_z w ≤ a → a < n → va_at (jw_D w) (jw_cl w) (a, je (jw_tc w) (h a)) H
def jy (w : jw_T) (s : State) (h : jh_T) (n : Nat) (x : Bool) (H : Heap) (locs : List Loc) : Prop :=
  jp w h n H ∧ (x = true → n = H.size) ∧ s.heap.size ≤ H.size ∧ (∀ q : Nat, q < jw_z w → H[q]? = s.heap[q]?) ∧ (∀ q ∈ locs, jw_z w ≤ q.base) ∧ jw_z w ≤ n ∧ jns (jw_z w) H
def jo (s : State) (o : Outcome) (t : State) : jr_T → Prop
  | .inl v => o = .returned v
  | .inr E => ∃ (q : Addr) (ce : Cell), o = .threw q ∧ t.heap[q]? = some ce ∧ ce.vm = .none ∧ s.vm.findClass E = some ce.cls
def jq (w : jw_T) (below : List Frame) (s : State) (mc ms : Nat) (Q : jr_T → jh_T → Nat → Bool → Prop) : State → Prop := fun t =>
  ∃ (o : Outcome) (r : jr_T) (h : jh_T) (n : Nat) (x : Bool) (L : List Loc), t.status = .running ∧ Ended t below o ∧ s.WarmedH t.vm ∧ s.sameButNew ({ t with vm := s.vm } : State) L mc ms ∧ jo s o t r ∧ jy w s h n x t.heap L ∧ Q r h n x
/-- the locals' array holds the list -/
def jv (arr : Array Slot) (ls : jl_T) : Prop := arr.size = ls.length ∧ lv_wf arr ∧ ∀ (i : Nat) (v : Value), ls[i]? = some (some v) → arr[i]? = some (.val v)
def jxt (c : Code) (xt : List (Nat × Nat × Nat × Nat)) : Prop := c.exceptionTable.toList.map (fun y => (y.startPc, y.endPc, y.handlerPc, y.catchType)) = xt
/-- inside the method -/
def jx (w : jw_T) (M : jm_T) (p : Program) (R : Room) (s : State) (m : MethodId) (meth : Method) (c : Code) : Prop :=
  p.tables.exec = Jvm.exec ∧ c.code = jm_cod M ∧ c.maxLocals = jm_nL M ∧ meth.sig.returnType = jm_ret M ∧ meth.locks = false ∧ jxt c (jm_xt M) ∧ s.vm.findClass (jm_own M) = some m.cls ∧ meth.name = jm_nam M ∧ jm_fr M ≤ R.frames ∧ jm_lo M ≤ R.locals ∧ jk w s
/-- THE JUDGEMENT: from pc, with these locals, this stack, this picture of n cells (x: and no cell more), kc cells and ks slots being left, the method comes to an end with Q -/
def J (w : jw_T) (M : jm_T) (pc : Nat) (ls : jl_T) (st : List Value) (h : jh_T) (n : Nat) (x : Bool) (kc ks : Nat) (Q : jr_T → jh_T → Nat → Bool → Prop) : Prop :=
  ∀ (p : Program) (e : Env) (R : Room) (s : State) (m : MethodId) (args : Array Value) (below : List Frame) (meth : Method) (c : Code) (mc ms : Nat) (H : Heap) (locs : List Loc) (cells slots : Nat) (arr : Array Slot),
    jx w M p R s m meth c → jy w s h n x H locs → jv arr ls → cells + kc ≤ mc ∧ slots + ks ≤ ms ∧ mc ≤ R.cells ∧ ms ≤ R.slots → W p (jw_l w) e R s m args below meth c H locs cells slots (jq w below s mc ms Q) (F0 m pc arr st)
/-- THE CONTRACT of a method at these arguments and this picture -/
def jc (w : jw_T) (M : jm_T) (as : List Value) (h : jh_T) (n : Nat) (x : Bool) (kc ks : Nat) (Q : jr_T → jh_T → Nat → Bool → Prop) : Prop :=
  ∀ (p : Program) (e : Env) (R : Room) (s : State) (m : MethodId) (below : List Frame) (meth : Method) (c : Code) (T : State),
    Stand p (jw_l w) e R s m as.toArray below meth c T [] 0 0 → jx w M p R s m meth c → T.heap = s.heap → jy w s h n x s.heap [] → kc ≤ R.cells ∧ ks ≤ R.slots →
    ∃ t, Steps p.tables e below (T.setTop (entryFrame m as.toArray (jm_nL M))) t ∧ jq w below s kc ks Q t
theorem W.mono {p : Program} {l : Launch} {e : Env} {R : Room} {s : State} {m : MethodId} {args : Array Value} {below : List Frame} {meth : Method} {c : Code} {H : Heap} {locs : List Loc} {cells slots : Nat} {Q Q' : State → Prop} {g : JFrame} (hQ : ∀ t, Q t → Q' t) (k : W p l e R s m args below meth c H locs cells slots Q g) : W p l e R s m args below meth c H locs cells slots Q' g := by
  intro T hT X
  obtain ⟨t, a, b⟩ := k T hT X
  exact ⟨t, a, hQ t b⟩
theorem J.mono {w : jw_T} {M : jm_T} {pc : Nat} {ls : jl_T} {st : List Value} {h : jh_T} {n : Nat} {x : Bool} {kc ks : Nat} {Q Q' : jr_T → jh_T → Nat → Bool → Prop} (hQ : ∀ r h n x, Q r h n x → Q' r h n x) (k : J w M pc ls st h n x kc ks Q) : J w M pc ls st h n x kc ks Q' := by
  intro p e R s m args below meth c mc ms H locs cells slots arr X Y V K
  refine W.mono ?_ (k p e R s m args below meth c mc ms H locs cells slots arr X Y V K)
  intro t ⟨o, r, h', n', x', L, h1, h2, h3, h4, h5, h6, h7⟩
  exact ⟨o, r, h', n', x', L, h1, h2, h3, h4, h5, h6, hQ _ _ _ _ h7⟩
theorem jc.mono {w : jw_T} {M : jm_T} {as : List Value} {h : jh_T} {n : Nat} {x : Bool} {kc ks : Nat} {Q Q' : jr_T → jh_T → Nat → Bool → Prop} (hQ : ∀ r h n x, Q r h n x → Q' r h n x) (k : jc w M as h n x kc ks Q) : jc w M as h n x kc ks Q' := by
  intro p e R s m below meth c T a1 a2 a3 a4 a5
  obtain ⟨t, b1, o, r, h', n', x', L, h1, h2, h3, h4, h5, h6, h7⟩ := k p e R s m below meth c T a1 a2 a3 a4 a5
  exact ⟨t, b1, o, r, h', n', x', L, h1, h2, h3, h4, h5, h6, hQ _ _ _ _ h7⟩
/-- more room does no harm -/
theorem J.more {w : jw_T} {M : jm_T} {pc : Nat} {ls : jl_T} {st : List Value} {h : jh_T} {n : Nat} {x : Bool} {kc ks kc' ks' : Nat} {Q : jr_T → jh_T → Nat → Bool → Prop} (h1 : kc ≤ kc') (h2 : ks ≤ ks') (k : J w M pc ls st h n x kc ks Q) : J w M pc ls st h n x kc' ks' Q := by
  intro p e R s m args below meth c mc ms H locs cells slots arr X Y V K
  exact k p e R s m args below meth c mc ms H locs cells slots arr X Y V ⟨by omega, by omega, K.2.2⟩
/-! ### locals -/
def jst1 (ls : jl_T) (i : Nat) (v : Value) : jl_T := (match i with
  | 0 => ls
  | j + 1 => match ls[j]? with
    | some (some (.long _)) => ls.set j none
    | some (some (.double _)) => ls.set j none
    | _ => ls).set i (some v)
def jst2 (ls : jl_T) (i : Nat) (v : Value) : jl_T := (jst1 ls i v).set (i + 1) none
def jal (ls : jl_T) : List (Nat × Value) := ls.zipIdx.filterMap (fun q => q.1.map (fun v => (q.2, v)))
theorem jal_mem {ls : jl_T} {i : Nat} {v : Value} : (i, v) ∈ jal ls ↔ ls[i]? = some (some v) := by
  unfold jal
  rw [List.mem_filterMap]
  constructor
  · rintro ⟨⟨o, k⟩, hm, he⟩
    cases o with
    | none => cases he
    | some u =>
      have h2 : (k, u) = (i, v) := Option.some.inj he
      cases h2
      simpa using (List.mem_zipIdx_iff_getElem?.mp hm)
  · intro h
    exact ⟨(some v, i), List.mem_zipIdx_iff_getElem?.mpr (by simpa using h), rfl⟩
theorem jv.has {arr : Array Slot} {ls : jl_T} (h : jv arr ls) : lv_has arr ls.length (jal ls) := ⟨h.1, h.2.1, fun q hq => h.2.2 q.1 q.2 (jal_mem.mp hq)⟩
theorem jst1_len (ls : jl_T) (i : Nat) (v : Value) : (jst1 ls i v).length = ls.length := by
  unfold jst1
  rw [List.length_set]
  split
  · rfl
  · split <;> simp
theorem jst1_at {ls : jl_T} {i j : Nat} {v u : Value} (h : (jst1 ls i v)[j]? = some (some u)) : (j = i ∧ u = v) ∨ (j ≠ i ∧ ls[j]? = some (some u) ∧ ¬ (j + 1 = i ∧ u.category = 2)) := by
  unfold jst1 at h
  by_cases hj : j = i
  · subst hj
    left
    obtain ⟨hlt, he⟩ := List.getElem?_eq_some_iff.mp h
    rw [List.getElem_set_self] at he
    exact ⟨rfl, (Option.some.inj he).symm⟩
  · right
    refine ⟨hj, ?_⟩
    rw [List.getElem?_set_ne (Ne.symm hj)] at h
    cases i with
    | zero => exact ⟨h, fun q => by omega⟩
    | succ k =>
      dsimp only at h
      have hset : ∀ o : jl_T, o = ls.set k none → o[j]? = some (some u) → ls[j]? = some (some u) ∧ ¬ (j + 1 = k + 1 ∧ u.category = 2) := by
        intro o ho hh
        subst ho
        by_cases hk : k = j
        · subst hk
          rw [List.getElem?_set] at hh
          simp only [if_true] at hh
          split at hh
          · cases (Option.some.inj hh)
          · cases hh
        · rw [List.getElem?_set_ne hk] at hh
          exact ⟨hh, fun q => hk (by omega)⟩
      split at h
      · exact hset _ rfl h
      · exact hset _ rfl h
      · rename_i h1 h2
        refine ⟨h, fun q => ?_⟩
        have hk : j = k := by omega
        subst hk
        rw [h] at h1 h2
        cases u with
        | long y => exact h1 y rfl
        | double y => exact h2 y rfl
        | int y => exact absurd q.2 (by simp [Value.category])
        | float y => exact absurd q.2 (by simp [Value.category])
        | null => exact absurd q.2 (by simp [Value.category])
        | ref y => exact absurd q.2 (by simp [Value.category])
        | retAddr y => exact absurd q.2 (by simp [Value.category])
theorem jv.st1 {arr' : Array Slot} {ls : jl_T} {i : Nat} {v : Value} (h : lv_has arr' ls.length ((i, v) :: (jal ls).filter (fun q => !(q.1 == i) && !(q.1 + 1 == i && q.2.category == 2)))) : jv arr' (jst1 ls i v) := by
  refine ⟨by rw [jst1_len]; exact h.1, h.2.1, fun j u hj => ?_⟩
  rcases jst1_at hj with ⟨rfl, rfl⟩ | ⟨h1, h2, h3⟩
  · exact h.2.2 _ List.mem_cons_self
  · refine h.2.2 (j, u) (List.mem_cons_of_mem _ (List.mem_filter.mpr ⟨jal_mem.mpr h2, ?_⟩))
    simp only [Bool.and_eq_true, Bool.not_eq_true', beq_eq_false_iff_ne, ne_eq]
    refine ⟨h1, ?_⟩
    cases hq : (j + 1 == i && u.category == 2) with
    | false => rfl
    | true =>
      simp only [Bool.and_eq_true, beq_iff_eq] at hq
      exact absurd hq h3
theorem jv.st2 {arr' : Array Slot} {ls : jl_T} {i : Nat} {v : Value} (h : lv_has arr' ls.length ((i, v) :: (jal ls).filter (fun q => !(q.1 == i) && (!(q.1 == i + 1) && !(q.1 + 1 == i && q.2.category == 2))))) : jv arr' (jst2 ls i v) := by
  refine ⟨by rw [jst2, List.length_set, jst1_len]; exact h.1, h.2.1, fun j u hj => ?_⟩
  unfold jst2 at hj
  by_cases hk : i + 1 = j
  · subst hk
    rw [List.getElem?_set] at hj
    simp only [if_true] at hj
    split at hj
    · cases (Option.some.inj hj)
    · cases hj
  · rw [List.getElem?_set_ne hk] at hj
    rcases jst1_at hj with ⟨rfl, rfl⟩ | ⟨h1, h2, h3⟩
    · exact h.2.2 _ List.mem_cons_self
    · refine h.2.2 (j, u) (List.mem_cons_of_mem _ (List.mem_filter.mpr ⟨jal_mem.mpr h2, ?_⟩))
      simp only [Bool.and_eq_true, Bool.not_eq_true', beq_eq_false_iff_ne, ne_eq]
      refine ⟨h1, fun q => hk q.symm, ?_⟩
      cases hq : (j + 1 == i && u.category == 2) with
      | false => rfl
      | true =>
        simp only [Bool.and_eq_true, beq_iff_eq] at hq
        exact absurd hq h3
