/-! THE J LAYER: exceptions made and thrown by a method, and the handlers of a caller. -/
section JFind
variable {e : Env} {f : JFrame} {a : Addr} {cell : Cell}
/-- a handler that names a class, reached in the search: it takes the object, or the search goes on; the class gets resolved on the way -/
theorem j_row {s : State} {x : ExceptionTableEntry} {t : List ExceptionTableEntry} {c : ClassId} {B : Bool} (hx : (decide (x.startPc ≤ f.pc) && decide (f.pc < x.endPc)) = true) (h0 : x.catchType ≠ 0)
    (hl : s.vm.ClassLinks e.platform f.method.cls x.catchType c) (hcell : s.heap[a]? = some cell) (hobj : ∀ k, cell.vm ≠ .statics k)
    (hk : ∃ k, s.vm.classes[cell.cls]? = some k) (hc : ∃ k, s.vm.classes[c]? = some k) (hB : s.vm.assignable cell.cls c = B) {Q : Handler → Pre} {E : CtlPost} {d : Bool} {acts : List Action} :
    wp (findHandler.go f a (x :: t)) Q E e d acts s ↔ (if B = true then Q (.found x.handlerPc) d acts (s.setVm (s.vm.noted f.method.cls x.catchType (.cls c))) else wp (findHandler.go f a t) Q E e d acts (s.setVm (s.vm.noted f.method.cls x.catchType (.cls c)))) := by
  obtain ⟨ha, ht⟩ := (resolveClass_links e.toSetting hl).op (op := VmOp.resolveClass f.method.cls x.catchType) rfl
  have hal : s.vm.Alike (s.vm.noted f.method.cls x.catchType (.cls c)) := (Vm.Alike.refl s.vm).noted _ _ _
  obtain ⟨k1, hk1⟩ := hk
  obtain ⟨k2, hk2⟩ := hc
  obtain ⟨k1', hk1', -⟩ := hal.2.2 _ _ hk1
  obtain ⟨k2', hk2', -⟩ := hal.2.2 _ _ hk2
  have hB' : (s.vm.noted f.method.cls x.catchType (.cls c)).assignable cell.cls c = B := by rw [hal.assignable]; exact hB
  cases B
  · simp [findHandler.go, hx, h0, ha, ht, hcell, hobj, hk1', hk2', hB', VmOp.dirties, VmOp.acts]
  · simp [findHandler.go, hx, h0, ha, ht, hcell, hobj, hk1', hk2', hB', VmOp.dirties, VmOp.acts]
/-- the search through the rows that don't take the object, up to the one that does -/
theorem j_search {s₀ : State} (hobj : ∀ k, cell.vm ≠ .statics k) (hk0 : ∃ k, s₀.vm.classes[cell.cls]? = some k) (x : ExceptionTableEntry) (rest : List ExceptionTableEntry) (hx : covers x f.pc = true) (h0 : x.catchType ≠ 0)
    (hend : ∃ c, s₀.vm.ClassLinks e.platform f.method.cls x.catchType c ∧ s₀.vm.assignable cell.cls c = true) :
    ∀ (pre : List ExceptionTableEntry) (S : State), s₀.WarmedH S.vm → S.heap[a]? = some cell →
      (∀ y ∈ pre, covers y f.pc = false ∨ (y.catchType ≠ 0 ∧ ∃ c, s₀.vm.ClassLinks e.platform f.method.cls y.catchType c ∧ s₀.vm.assignable cell.cls c = false)) →
      ∃ vm', s₀.WarmedH vm' ∧ ∀ (Q : Handler → Pre) (E : CtlPost) (d : Bool) (acts : List Action), wp (findHandler.go f a (pre ++ x :: rest)) Q E e d acts S ↔ Q (.found x.handlerPc) d acts (S.setVm vm') := by
  obtain ⟨k0, hk0⟩ := hk0
  intro pre
  induction pre with
  | nil =>
    intro S hW hcell _
    obtain ⟨k0', hk0', -⟩ := hW.alike.2.2 _ _ hk0
    obtain ⟨c, hl, hfit⟩ := hend
    obtain ⟨dk, _, _, kt, hd, _, _, _, _, hkt, _, hopen⟩ := hl.here
    obtain ⟨kt', hkt', -⟩ := hW.alike.2.2 _ _ hkt
    refine ⟨_, hW.noted hd hopen (State.rightAt_cls hl), fun Q E d acts => ?_⟩
    rw [List.nil_append, j_row (B := true) hx h0 (hW.classLinks hl) hcell hobj ⟨k0', hk0'⟩ ⟨kt', hkt'⟩ (by rw [hW.alike.assignable]; exact hfit)]
    rw [if_pos rfl]
  | cons y ys ih =>
    intro S hW hcell hpass
    obtain ⟨k0', hk0', -⟩ := hW.alike.2.2 _ _ hk0
    have hrest := fun z hz => hpass z (List.mem_cons_of_mem y hz)
    by_cases hcov : covers y f.pc = true
    · rcases hpass y (List.mem_cons_self ..) with h | ⟨h0', c, hl, hno⟩
      · rw [h] at hcov
        cases hcov
      · obtain ⟨dk, _, _, kt, hd, _, _, _, _, hkt, _, hopen⟩ := hl.here
        obtain ⟨kt', hkt', -⟩ := hW.alike.2.2 _ _ hkt
        obtain ⟨vm', hW', hq⟩ := ih (S.setVm (S.vm.noted f.method.cls y.catchType (.cls c))) (hW.noted hd hopen (State.rightAt_cls hl)) hcell hrest
        refine ⟨vm', hW', fun Q E d acts => ?_⟩
        rw [List.cons_append, j_row (B := false) hcov h0' (hW.classLinks hl) hcell hobj ⟨k0', hk0'⟩ ⟨kt', hkt'⟩ (by rw [hW.alike.assignable]; exact hno)]
        rw [if_neg (by decide)]
        exact hq Q E d acts
    · obtain ⟨vm', hW', hq⟩ := ih S hW hcell hrest
      refine ⟨vm', hW', fun Q E d acts => ?_⟩
      rw [List.cons_append, W.findHandler_go_skip (by simpa using hcov)]
      exact hq Q E d acts
end JFind
/-- the machine, a note of q lying over the frame, goes on at the handler -/
theorem j_caught {p : Program} {l : Launch} {e : Env} {R : Room} {s : State} {m : MethodId} {args : Array Value} {below : List Frame} {meth : Method} {c : Code} {T : State} {locs : List Loc} {cells slots : Nat} (X : Stand p l e R s m args below meth c T locs cells slots) {q : Addr} {cell : Cell} {pc : Nat} {arr : Array Slot} {st : List Value}
    (hcell : T.heap[q]? = some cell) (hobj : ∀ k, cell.vm ≠ .statics k) (hk0 : ∃ k, s.vm.classes[cell.cls]? = some k) (pre : List ExceptionTableEntry) (x : ExceptionTableEntry) (rest : List ExceptionTableEntry) (hsplit : c.exceptionTable.toList = pre ++ x :: rest) (hx : covers x pc = true) (h0 : x.catchType ≠ 0)
    (hend : ∃ c, s.vm.ClassLinks e.platform m.cls x.catchType c ∧ s.vm.assignable cell.cls c = true)
    (hpass : ∀ y ∈ pre, covers y pc = false ∨ (y.catchType ≠ 0 ∧ ∃ c, s.vm.ClassLinks e.platform m.cls y.catchType c ∧ s.vm.assignable cell.cls c = false)) :
    ∃ vm', Stand p l e R s m args below meth c (T.setVm vm') locs cells slots ∧ ∀ target, Steps p.tables e below ((T.setVm vm').setTop (F0 m x.handlerPc arr [.ref q])) target → Steps p.tables e below ((T.setTop (F0 m pc arr st)).pushFrame (.throwing q)) target := by
  obtain ⟨vm', hW', hq⟩ := j_search (e := e) (f := F0 m pc arr st) (a := q) (cell := cell) (s₀ := s) hobj hk0 x rest hx h0 hend pre ((T.setTop (F0 m pc arr st)).pushFrame (.throwing q)) X.warmed hcell hpass
  refine ⟨vm', X.noted hW', fun target hrest => ?_⟩
  obtain ⟨hgo, hw⟩ := (show At T (F0 m pc arr st).method c below from X.here).throwing q
  refine Steps.head hgo hw ?_
  have hst : (stepThrowing e ((T.setTop (F0 m pc arr st)).pushFrame (.throwing q)) q (.java (F0 m pc arr st) :: T.frames.tail)).Is ((((T.setTop (F0 m pc arr st)).pushFrame (.throwing q)).setVm vm').setFrames (.java (F0 m x.handlerPc arr [.ref q]) :: T.frames.tail)) [] := by
    simp only [stepThrowing, searchFrame, vmDo]
    generalize hr : Sem.go _ e false [] ((T.setTop (F0 m pc arr st)).pushFrame (.throwing q)) = res
    obtain ⟨as, rfl, ha⟩ := Sem.eq_ok_of hr (a := Handler.found x.handlerPc) (s' := ((T.setTop (F0 m pc arr st)).pushFrame (.throwing q)).setVm vm') (acts' := [])
      (by
        have hf : ∀ (Q : Handler → Pre) (E : CtlPost) (d : Bool) (acts : List Action), wp (findHandler (F0 m pc arr st) q) Q E e d acts ((T.setTop (F0 m pc arr st)).pushFrame (.throwing q)) ↔ Q (.found x.handlerPc) d acts (((T.setTop (F0 m pc arr st)).pushFrame (.throwing q)).setVm vm') := by
          intro Q E d acts
          rw [W.findHandler_eq (meth := meth) (code := c) X.method' X.code, hsplit]
          exact hq Q E d acts
        simp [hf])
    exact ⟨rfl, ha⟩
  rw [stepThread_throwing (frames_entered X.here.top _), hst.1]
  obtain ⟨g₀, hg⟩ := Option.isSome_iff_exists.mp X.here.top
  obtain ⟨r, hr⟩ := State.topJava?_eq_some.mp hg
  have hr' : (T.setVm vm').frames = .java g₀ :: r := hr
  rw [State.setTop_of_frames _ hr'] at hrest
  rw [hr, List.tail_cons, State.pushFrame, State.setFrames_setVm_setFrames, State.setTop_of_frames _ hr, State.setFrames_setVm_setFrames]
  exact hrest
/-- caught by the i-th handler -/
theorem JT.catch {w : jw_T} {M : jm_T} {pc : Nat} {ls : jl_T} {st : List Value} {h : jh_T} {n : Nat} {x : Bool} {kc ks : Nat} {Q : jr_T → jh_T → Nat → Bool → Prop} {E name : String} {s0 e0 hp ct : Nat} (pre rest : List (Nat × Nat × Nat × Nat)) (hxt : jm_xt M = pre ++ (s0, e0, hp, ct) :: rest) (hcov : s0 ≤ pc ∧ pc < e0) (h0 : ct ≠ 0)
    (hl : Cond.classLink (jm_own M) ct name ∈ jw_Ts w) (hc : Cond.castable E name ∈ jw_Ts w) (hpass : ∀ r ∈ pre, r.2.2.2 ≠ 0 ∧ ∃ nm, Cond.classLink (jm_own M) r.2.2.2 nm ∈ jw_Ts w ∧ (E, nm) ∈ jw_nc w)
    (k : ∀ q, J w M hp ls [.ref q] h n x kc ks Q) : JT w M pc ls st h n x kc ks Q E := by
  intro p e R s m args below meth c mc ms locs cells slots arr T q ce X Y V K S h1 h2 h3
  have hJ := X.2.2.2.2.2.2.2.2.2.2
  have hpl : e.platform.magicAccessors = ({} : Platform).magicAccessors := by rw [S.admits.platform]
  have hx9 := X.2.2.2.2.2.1
  unfold jxt at hx9
  rw [hxt] at hx9
  obtain ⟨pre', post', e1, e2, e3⟩ := List.map_eq_append_iff.mp hx9
  obtain ⟨x0, rest', e4, e5, e6⟩ := List.map_eq_cons_iff.mp e3
  subst e4
  have e7 : x0.startPc = s0 ∧ x0.endPc = e0 ∧ x0.handlerPc = hp ∧ x0.catchType = ct := by
    injection e5 with a1 a2
    injection a2 with a2 a3
    injection a3 with a3 a4
    exact ⟨a1, a2, a3, a4⟩
  obtain ⟨c3, c4, hc3, hc4, hasg⟩ := Cond.castable_spec (hJ.1 _ hc rfl #[])
  cases Option.some.inj (hc3.symm.trans h3)
  obtain ⟨c5, hc5, hcl5⟩ := Cond.classLink_spec X.2.2.2.2.2.2.1 (hJ.1 _ hl rfl #[]) e.platform hpl
  cases Option.some.inj (hc4.symm.trans hc5)
  obtain ⟨vm', S', st9⟩ := j_caught S (pc := pc) (arr := arr) (st := st) h1 (fun z hz => by rw [h2] at hz; cases hz) (by obtain ⟨k9, h9, -⟩ := Vm.findClass_spec h3; exact ⟨k9, h9⟩) pre' x0 rest' e1
    (by simp only [covers, e7.1, e7.2.1, Bool.and_eq_true, decide_eq_true_eq]; exact hcov) (by rw [e7.2.2.2]; exact h0) ⟨c4, by rw [e7.2.2.2]; exact hcl5, hasg⟩
    (fun y hy => by
      have hy2 : (y.startPc, y.endPc, y.handlerPc, y.catchType) ∈ pre := by rw [← e2]; exact List.mem_map.mpr ⟨y, hy, rfl⟩
      obtain ⟨z0, nm, z1, z2⟩ := hpass _ hy2
      obtain ⟨c6, hc6, hcl6⟩ := Cond.classLink_spec X.2.2.2.2.2.2.1 (hJ.1 _ z1 rfl #[]) e.platform hpl
      obtain ⟨a8, b8, g1, g2, g3⟩ := hJ.2.2.2.2.2.2.2.2.2.2 _ z2
      cases Option.some.inj (g1.symm.trans h3)
      cases Option.some.inj (g2.symm.trans hc6)
      exact Or.inr ⟨z0, _, hcl6, g3⟩)
  rw [e7.2.2.1] at st9
  obtain ⟨t, a1, b1⟩ := k q p e R s m args below meth c mc ms T.heap locs cells slots arr X Y V K (T.setVm vm') rfl S'
  exact ⟨t, st9 t a1, b1⟩
