/-! THE J LAYER: exceptions made and thrown by a method, and the handlers of a caller. -/
section JFind
variable {e : Env} {f : JFrame} {a : Addr} {cell : Cell}
/-- a handler that names a class, reached in the search: it takes the object, or the search goes on; the class gets resolved on the way -/
theorem j_row {s : State} {x : ExceptionTableEntry} {t : List ExceptionTableEntry} {c : ClassId} {B : Bool} (hx : (decide (x.startPc ≤ f.pc) && decide (f.pc < x.endPc)) = true) (h0 : x.catchType ≠ 0)
    (hl : s.vm.ClassLinks e.platform f.method.cls x.catchType c) (hcell : s.heap[a]? = some cell) (hobj : ∀ k, cell.vm ≠ .statics k)
    (hk : ∃ k, s.vm.classes[cell.cls]? = some k) (hc : ∃ k, s.vm.classes[c]? = some k) (hB : s.vm.assignable cell.cls c = B) {Q : Handler → Pre} {E : CtlPost} {d : Bool} {acts : List Action} :
    wp (findHandler.go f a (x :: t)) Q E e d acts s ↔ (if B = true then Q (.found x.handlerPc) d acts (s.setVm (s.vm.noted f.method.cls x.catchType (.cls c))) else wp (findHandler.go f a t) Q E e d acts (s.setVm (s.vm.noted f.method.cls x.catchType (.cls c)))) := by
  obtain ⟨ha, ht⟩ := (resolveClass_links e.toSetting hl).op (op := VmOp.resolveClass f.method.cls x.catchType) rfl
  have hal : s.vm.Alike (s.vm.noted f.method.cls x.catchType (.cls c)) := (Vm.Alike.refl s.vm).noted _ _ _
  obtain ⟨k1, hk1⟩ := hk
  obtain ⟨k2, hk2⟩ := hc
  obtain ⟨k1', hk1', -⟩ := hal.2.2 _ _ hk1
  obtain ⟨k2', hk2', -⟩ := hal.2.2 _ _ hk2
  have hB' : (s.vm.noted f.method.cls x.catchType (.cls c)).assignable cell.cls c = B := by rw [hal.assignable]; exact hB
  cases B
  · simp [findHandler.go, hx, h0, ha, ht, hcell, hobj, hk1', hk2', hB', VmOp.dirties, VmOp.acts]
  · simp [findHandler.go, hx, h0, ha, ht, hcell, hobj, hk1', hk2', hB', VmOp.dirties, VmOp.acts]
/-- the search through the rows that don't take the object, up to the one that does -/
theorem j_search {s₀ : State} (hobj : ∀ k, cell.vm ≠ .statics k) (hk0 : ∃ k, s₀.vm.classes[cell.cls]? = some k) (x : ExceptionTableEntry) (rest : List ExceptionTableEntry) (hx : covers x f.pc = true) (h0 : x.catchType ≠ 0)
    (hend : ∃ c, s₀.vm.ClassLinks e.platform f.method.cls x.catchType c ∧ s₀.vm.assignable cell.cls c = true) :
    ∀ (pre : List ExceptionTableEntry) (S : State), s₀.WarmedH S.vm → S.heap[a]? = some cell →
      (∀ y ∈ pre, covers y f.pc = false ∨ (y.catchType ≠ 0 ∧ ∃ c, s₀.vm.ClassLinks e.platform f.method.cls y.catchType c ∧ s₀.vm.assignable cell.cls c = false)) →
      ∃ vm', s₀.WarmedH vm' ∧ ∀ (Q : Handler → Pre) (E : CtlPost) (d : Bool) (acts : List Action), wp (findHandler.go f a (pre ++ x :: rest)) Q E e d acts S ↔ Q (.found x.handlerPc) d acts (S.setVm vm') := by
  obtain ⟨k0, hk0⟩ := hk0
  intro pre
  induction pre with
  | nil =>
    intro S hW hcell _
    obtain ⟨k0', hk0', -⟩ := hW.alike.2.2 _ _ hk0
    obtain ⟨c, hl, hfit⟩ := hend
    obtain ⟨dk, _, _, kt, hd, _, _, _, _, hkt, _, hopen⟩ := hl.here
    obtain ⟨kt', hkt', -⟩ := hW.alike.2.2 _ _ hkt
    refine ⟨_, hW.noted hd hopen (State.rightAt_cls hl), fun Q E d acts => ?_⟩
    rw [List.nil_append, j_row (B := true) hx h0 (hW.classLinks hl) hcell hobj ⟨k0', hk0'⟩ ⟨kt', hkt'⟩ (by rw [hW.alike.assignable]; exact hfit)]
    rw [if_pos rfl]
  | cons y ys ih =>
    intro S hW hcell hpass
    obtain ⟨k0', hk0', -⟩ := hW.alike.2.2 _ _ hk0
    have hrest := fun z hz => hpass z (List.mem_cons_of_mem y hz)
    by_cases hcov : covers y f.pc = true
    · rcases hpass y (List.mem_cons_self ..) with h | ⟨h0', c, hl, hno⟩
      · rw [h] at hcov
        cases hcov
      · obtain ⟨dk, _, _, kt, hd, _, _, _, _, hkt, _, hopen⟩ := hl.here
        obtain ⟨kt', hkt', -⟩ := hW.alike.2.2 _ _ hkt
        obtain ⟨vm', hW', hq⟩ := ih (S.setVm (S.vm.noted f.method.cls y.catchType (.cls c))) (hW.noted hd hopen (State.rightAt_cls hl)) hcell hrest
        refine ⟨vm', hW', fun Q E d acts => ?_⟩
        rw [List.cons_append, j_row (B := false) hcov h0' (hW.classLinks hl) hcell hobj ⟨k0', hk0'⟩ ⟨kt', hkt'⟩ (by rw [hW.alike.assignable]; exact hno)]
        rw [if_neg (by decide)]
        exact hq Q E d acts
    · obtain ⟨vm', hW', hq⟩ := ih S hW hcell hrest
      refine ⟨vm', hW', fun Q E d acts => ?_⟩
      rw [List.cons_append, W.findHandler_go_skip (by simpa using hcov)]
      exact hq Q E d acts
end JFind
/-- the machine, a note of q lying over the frame, goes on at the handler -/
theorem j_caught {p : Program} {l : Launch} {e : Env} {R : Room} {s : State} {m : MethodId} {args : Array Value} {below : List Frame} {meth : Method} {c : Code} {T : State} {locs : List Loc} {cells slots : Nat} (X : Stand p l e R s m args below meth c T locs cells slots) {q : Addr} {cell : Cell} {pc : Nat} {arr : Array Slot} {st : List Value}
    (hcell : T.heap[q]? = some cell) (hobj : ∀ k, cell.vm ≠ .statics k) (hk0 : ∃ k, s.vm.classes[cell.cls]? = some k) (pre : List ExceptionTableEntry) (x : ExceptionTableEntry) (rest : List ExceptionTableEntry) (hsplit : c.exceptionTable.toList = pre ++ x :: rest) (hx : covers x pc = true) (h0 : x.catchType ≠ 0)
    (hend : ∃ c, s.vm.ClassLinks e.platform m.cls x.catchType c ∧ s.vm.assignable cell.cls c = true)
    (hpass : ∀ y ∈ pre, covers y pc = false ∨ (y.catchType ≠ 0 ∧ ∃ c, s.vm.ClassLinks e.platform m.cls y.catchType c ∧ s.vm.assignable cell.cls c = false)) :
    ∃ vm', Stand p l e R s m args below meth c (T.setVm vm') locs cells slots ∧ ∀ target, Steps p.tables e below ((T.setVm vm').setTop (F0 m x.handlerPc arr [.ref q])) target → Steps p.tables e below ((T.setTop (F0 m pc arr st)).pushFrame (.throwing q)) target := by
  obtain ⟨vm', hW', hq⟩ := j_search (e := e) (f := F0 m pc arr st) (a := q) (cell := cell) (s₀ := s) hobj hk0 x rest hx h0 hend pre ((T.setTop (F0 m pc arr st)).pushFrame (.throwing q)) X.warmed hcell hpass
  refine ⟨vm', X.noted hW', fun target hrest => ?_⟩
  obtain ⟨hgo, hw⟩ := (show At T (F0 m pc arr st).method c below from X.here).throwing q
  refine Steps.head hgo hw ?_
  have hst : (stepThrowing e ((T.setTop (F0 m pc arr st)).pushFrame (.throwing q)) q (.java (F0 m pc arr st) :: T.frames.tail)).Is ((((T.setTop (F0 m pc arr st)).pushFrame (.throwing q)).setVm vm').setFrames (.java (F0 m x.handlerPc arr [.ref q]) :: T.frames.tail)) [] := by
    simp only [stepThrowing, searchFrame, vmDo]
    generalize hr : Sem.go _ e false [] ((T.setTop (F0 m pc arr st)).pushFrame (.throwing q)) = res
    obtain ⟨as, rfl, ha⟩ := Sem.eq_ok_of hr (a := Handler.found x.handlerPc) (s' := ((T.setTop (F0 m pc arr st)).pushFrame (.throwing q)).setVm vm') (acts' := [])
      (by
        have hf : ∀ (Q : Handler → Pre) (E : CtlPost) (d : Bool) (acts : List Action), wp (findHandler (F0 m pc arr st) q) Q E e d acts ((T.setTop (F0 m pc arr st)).pushFrame (.throwing q)) ↔ Q (.found x.handlerPc) d acts (((T.setTop (F0 m pc arr st)).pushFrame (.throwing q)).setVm vm') := by
          intro Q E d acts
          rw [W.findHandler_eq (meth := meth) (code := c) X.method' X.code, hsplit]
          exact hq Q E d acts
        simp [hf])
    exact ⟨rfl, ha⟩
  rw [stepThread_throwing (frames_entered X.here.top _), hst.1]
  obtain ⟨g₀, hg⟩ := Option.isSome_iff_exists.mp X.here.top
  obtain ⟨r, hr⟩ := State.topJava?_eq_some.mp hg
  have hr' : (T.setVm vm').frames = .java g₀ :: r := hr
  rw [State.setTop_of_frames _ hr'] at hrest
  rw [hr, List.tail_cons, State.pushFrame, State.setFrames_setVm_setFrames, State.setTop_of_frames _ hr, State.setFrames_setVm_setFrames]
  exact hrest
/-- caught by the i-th handler -/
theorem JT.catch {w : jw_T} {M : jm_T} {pc : Nat} {ls : jl_T} {st : List Value} {h : jh_T} {n : Nat} {x : Bool} {kc ks : Nat} {Q : jr_T → jh_T → Nat → Bool → Prop} {E name : String} {s0 e0 hp ct : Nat} (pre rest : List (Nat × Nat × Nat × Nat)) (hxt : jm_xt M = pre ++ (s0, e0, hp, ct) :: rest) (hcov : s0 ≤ pc ∧ pc < e0) (h0 : ct ≠ 0)
    (hl : Cond.classLink (jm_own M) ct name ∈ jw_Ts w) (hc : Cond.castable E name ∈ jw_Ts w) (hpass : ∀ r ∈ pre, r.2.2.2 ≠ 0 ∧ ∃ nm, Cond.classLink (jm_own M) r.2.2.2 nm ∈ jw_Ts w ∧ (E, nm) ∈ jw_nc w)
    (k : ∀ q, J w M hp ls [.ref q] h n x kc ks Q) : JT w M pc ls st h n x kc ks Q E := by
  intro p e R s m args below meth c mc ms locs cells slots arr T q ce X Y V K S h1 h2 h3
  have hJ := X.2.2.2.2.2.2.2.2.2.2
  have hpl : e.platform.magicAccessors = ({} : Platform).magicAccessors := by rw [S.admits.platform]
  have hx9 := X.2.2.2.2.2.1
  unfold jxt at hx9
  rw [hxt] at hx9
  obtain ⟨pre', post', e1, e2, e3⟩ := List.map_eq_append_iff.mp hx9
  obtain ⟨x0, rest', e4, e5, e6⟩ := List.map_eq_cons_iff.mp e3
  subst e4
  have e7 : x0.startPc = s0 ∧ x0.endPc = e0 ∧ x0.handlerPc = hp ∧ x0.catchType = ct := by
    injection e5 with a1 a2
    injection a2 with a2 a3
    injection a3 with a3 a4
    exact ⟨a1, a2, a3, a4⟩
  obtain ⟨c3, c4, hc3, hc4, hasg⟩ := Cond.castable_spec (hJ.1 _ hc rfl #[])
  cases Option.some.inj (hc3.symm.trans h3)
  obtain ⟨c5, hc5, hcl5⟩ := Cond.classLink_spec X.2.2.2.2.2.2.1 (hJ.1 _ hl rfl #[]) e.platform hpl
  cases Option.some.inj (hc4.symm.trans hc5)
  obtain ⟨vm', S', st9⟩ := j_caught S (pc := pc) (arr := arr) (st := st) h1 (fun z hz => by rw [h2] at hz; cases hz) (by obtain ⟨k9, h9, -⟩ := Vm.findClass_spec h3; exact ⟨k9, h9⟩) pre' x0 rest' e1
    (by simp only [covers, e7.1, e7.2.1, Bool.and_eq_true, decide_eq_true_eq]; exact hcov) (by rw [e7.2.2.2]; exact h0) ⟨c4, by rw [e7.2.2.2]; exact hcl5, hasg⟩
    (fun y hy => by
      have hy2 : (y.startPc, y.endPc, y.handlerPc, y.catchType) ∈ pre := by rw [← e2]; exact List.mem_map.mpr ⟨y, hy, rfl⟩
      obtain ⟨z0, nm, z1, z2⟩ := hpass _ hy2
      obtain ⟨c6, hc6, hcl6⟩ := Cond.classLink_spec X.2.2.2.2.2.2.1 (hJ.1 _ z1 rfl #[]) e.platform hpl
      obtain ⟨a8, b8, g1, g2, g3⟩ := hJ.2.2.2.2.2.2.2.2.2.2 _ z2
      cases Option.some.inj (g1.symm.trans h3)
      cases Option.some.inj (g2.symm.trans hc6)
      exact Or.inr ⟨z0, _, hcl6, g3⟩)
  rw [e7.2.2.1] at st9
  obtain ⟨t, a1, b1⟩ := k q p e R s m args below meth c mc ms T.heap locs cells slots arr X Y V K (T.setVm vm') rfl S'
  exact ⟨t, st9 t a1, b1⟩
/-- the frame as it stands, taken as a start of its own: what is new is counted from here on -/
theorem j_anew {p : Program} {l : Launch} {e : Env} {R : Room} {s : State} {m : MethodId} {args : Array Value} {below : List Frame} {meth : Method} {c : Code} {T : State} {locs : List Loc} {cells slots : Nat} (X : Stand p l e R s m args below meth c T locs cells slots) {kc ks : Nat} (hkc : cells + kc ≤ R.cells) (hks : slots + ks ≤ R.slots) :
    Stand p l e { frames := R.frames, cells := kc, slots := ks, locals := R.locals } ((T.setVm s.vm).setFrames (.invoking m args :: below)) m args below meth c T [] 0 0 := by
  have hcur : (T.setVm s.vm).cur < (T.setVm s.vm).threads.size := State.cur_lt_of_top (s := T.setVm s.vm) X.here.top
  have hfr : ((T.setVm s.vm).setFrames (.invoking m args :: below)).frames = .invoking m args :: below := State.frames_setFrames _ hcur
  obtain ⟨g₀, hg₀⟩ := X.frames_eq
  obtain ⟨th, hth, -⟩ := State.frames_cons (s := T.setVm s.vm) hg₀
  refine ⟨X.admits, X.cas, X.clock, hfr, ?_, X.hears, X.method, X.code, X.here, X.tail, X.warmed, ?_, ?_, ?_⟩
  · have h := X.room
    have hu : ((T.setVm s.vm).setFrames (.invoking m args :: below)).localsInUse = s.localsInUse := by
      rw [State.localsInUse_invoking hfr (meth := meth) (c := c) X.method X.code, State.localsInUse_invoking X.frames X.method X.code]
    have hl1 : e.platform.stackLimits (T.setVm s.vm).me = e.platform.stackLimits s.me := X.limits
    have hl2 : (T.setVm s.vm).me.stackBytes = s.me.stackBytes := X.bytes
    have z1 := X.heapSize
    have z2 := X.used
    simp only [State.hasRoom, Bool.and_eq_true, decide_eq_true_eq] at h ⊢
    obtain ⟨⟨⟨⟨b1, b2, b3, b4, b5, b6⟩, b7⟩, b8⟩, b9⟩ := h
    rw [X.frames, List.length_cons] at b2 b3
    simp only [hfr, hu, List.length_cons, State.stackLimits_setFrames, State.stackBytes_setFrames, hl1, hl2]
    refine ⟨⟨⟨⟨b1, b2, b3, b4, b5, b6⟩, ?_⟩, ?_⟩, X.book⟩
    · show T.heap.size + kc ≤ e.platform.maxCells
      omega
    · show T.slotsUsed + ks ≤ e.platform.maxSlots
      omega
  · rw [State.stackLimits_setFrames]
    rfl
  · rw [State.stackBytes_setFrames]
    rfl
  · have hd : T.heap.toList.drop T.heap.size = [] := List.drop_eq_nil_of_le (Nat.le_of_eq Array.length_toList)
    refine ⟨?_, Nat.le_refl _, Nat.le_refl _, ?_, ?_, fun a c9 h9 => ⟨c9, h9, rfl, rfl, fun _ _ => rfl⟩⟩
    · show T.setVm s.vm = { ((T.setVm s.vm).setFrames (.invoking m args :: below)).setFrames (T.setVm s.vm).frames with heap := T.heap, slotsUsed := T.slotsUsed }
      rw [State.setFrames_setFrames, State.setFrames_self hth]
      rfl
    · show T.slotsUsed = T.slotsUsed + ((T.heap.toList.drop T.heap.size).map (·.slots.size)).sum
      rw [hd]
      rfl
    · show ((T.heap.toList.drop T.heap.size).map (·.slots.size)).sum ≤ 0
      rw [hd]
      exact Nat.le_refl _
/-- a cell that nobody has written since: the same -/
theorem j_same {s U : State} {k n : Nat} (h : s.sameButNew ({ U with vm := s.vm } : State) [] k n) : ∀ q : Nat, q < s.heap.size → U.heap[q]? = s.heap[q]? := by
  intro q hq
  obtain ⟨c9, e1, e2, -, e4⟩ := h.2.2.2.2.2 q _ (Array.getElem?_eq_getElem hq)
  have hs : c9.slots = (s.heap[q]).slots := Array.ext_getElem? fun i => e4 i (List.not_mem_nil)
  have h9 : c9 = s.heap[q] := by
    rw [hs] at e2
    exact e2
  have e5 : U.heap[q]? = some c9 := e1
  rw [e5, h9, Array.getElem?_eq_getElem hq]
/-- throw new E("text"): new; dup; ldc; invokespecial; athrow, in a method without handlers -/
theorem J_throwS {w : jw_T} {M : jm_T} {pc : Nat} {ls : jl_T} {st : List Value} {h : jh_T} {n : Nat} {xx : Bool} {kc ks : Nat} {Q : jr_T → jh_T → Nat → Bool → Prop} {cls text : String} {names : List String} {ik is ic : Nat}
    (hcls : Bundle.fit cls = true) (hnames : ∀ q ∈ names, Bundle.fit q = true) (hk : Cond.classLink (jm_own M) ik cls ∈ jw_Ts w) (hini : Cond.initialized cls ∈ jw_Ts w) (hsr : (jm_own M, is, text) ∈ jw_sr w)
    (hat : ∀ q ∈ Bundle.ownAtoms (jm_own M) ic cls names, (q ∈ jw_Ts w ∧ jg q = true) ∨ q = .laysStatic Bundle.tN "UNASSIGNED_STACK" Bundle.steD ∨ q = .laysStatic Bundle.tN "SUPPRESSED_SENTINEL" Bundle.listD ∨ q = .isRef (.static Bundle.tN "UNASSIGNED_STACK" Bundle.steD) ∨ q = .isRef (.static Bundle.tN "SUPPRESSED_SENTINEL" Bundle.listD))
    (d0 : decode (jm_cod M) pc = .ok (.new ik, 3)) (d3 : decode (jm_cod M) (pc + 3) = .ok (.dup, 1)) (d4 : decode (jm_cod M) (pc + 4) = .ok (.ldc is, 2)) (d6 : decode (jm_cod M) (pc + 6) = .ok (.invokespecial ic, 3)) (d9 : decode (jm_cod M) (pc + 9) = .ok (.athrow, 1))
    (hx : jm_xt M = []) (hlL : ls.length = jm_nL M) (hfr : names.length + 4 ≤ jm_fr M) (hlo : (st.map fun v => v.category).sum + (13 * (names.length + 1) + 43) ≤ jm_lo M) (hq : Q (.inr cls) h n false) : J w M pc ls st h n xx (kc + 1) (ks + 6) Q := by
  intro p e R s m args below meth c mc ms H locs cells slots arr X Y V K T hT S
  subst hT
  have hJ := X.2.2.2.2.2.2.2.2.2.2
  have htr : e.platform.stackTraces = false := (show e.platform.stackTraces = (jw_l w).stackTraces by rw [S.admits.platform]).trans hJ.2.2.2.2.2.1
  have S1 := j_anew S (kc := 1) (ks := 6) (by omega) (by omega)
  generalize hs' : (T.setVm s.vm).setFrames (.invoking m args :: below) = s' at S1
  have hvm : s'.vm = s.vm := by rw [← hs']; rfl
  have hhp : s'.heap = T.heap := by rw [← hs']; rfl
  have hW0 : s.WarmedH s'.vm := by rw [hvm]; exact State.WarmedH.refl s
  have hJ' : jk w s' := hJ.moved hW0 (by rw [hhp]; exact jy.script hJ Y) (by rw [hhp]; exact Nat.le_trans Y.2.2.2.2.2.1 Y.1.1) (by rw [hhp]; exact Y.2.2.2.1) (by rw [hhp]; exact Y.2.2.2.2.2.2)
  have hown' : s'.vm.findClass (jm_own M) = some m.cls := by rw [hvm]; exact X.2.2.2.2.2.2.1
  have hall : ∀ q ∈ Bundle.ownAtoms (jm_own M) ic cls names, q.before args s' = true := by
    intro q hq9
    rcases hat q hq9 with ⟨z1, z2⟩ | z | z | z | z
    · exact hJ'.1 q z1 z2 _
    · rw [z]; exact hJ'.2.2.2.2.2.2.1.lays
    · rw [z]; exact hJ'.2.2.2.2.2.2.2.1.lays
    · rw [z]; exact hJ'.2.2.2.2.2.2.1.isRef
    · rw [z]; exact hJ'.2.2.2.2.2.2.2.1.isRef
  obtain ⟨sa, hstr⟩ := hJ'.2.2.2.2.2.2.2.2.1 _ hsr
  have hxt : c.exceptionTable.toList = [] := by
    have h9 := X.2.2.2.2.2.1
    unfold jxt at h9
    rw [hx] at h9
    exact List.map_eq_nil_iff.mp h9
  have hsz : arr.size = c.maxLocals := by rw [V.1, hlL]; exact X.2.2.1.symm
  have hb := X.2.1
  obtain ⟨vm₁, cX, kX, hfX, hkX, -, -, S2, st1⟩ := S1.newCold X.1 (own := jm_own M) (C := cls) (index := ik) (n := 6) hown' (hJ'.1 _ hk rfl _) (hall _ (by simp [Bundle.ownAtoms])) (hJ'.1 _ hini rfl _) (g := F0 m pc arr st) rfl (by rw [hb]; exact d0) (Nat.le_refl _) (Nat.le_refl _)
  generalize hT1 : (T.setVm vm₁).pushCell { cls := cX, slots := kX.instanceTypes.map defaultValue, vm := .none } = T1 at S2 st1
  have hcat : (Value.ref T.heap.size).category = 1 := rfl
  have hcellA : T1.heap[T.heap.size]? = some (freshCell cX kX) := by rw [← hT1]; exact State.heap_pushCell_size _ _
  have f1 := X.2.2.2.2.2.2.2.2.1
  have f2 := X.2.2.2.2.2.2.2.2.2.1
  obtain ⟨U, hsteps, hrun, hend, hW, hsame, ce, hce, hO⟩ := S2.ctorThrowS X.1 htr (own := jm_own M) (cls := cls) (names := names) (ic := ic) hown' hcls hnames hall (fun q hq9 => by cases hq9) hfX hkX hcellA (by rw [hhp]; exact Nat.le_refl _) (msg := .ref sa) rfl
    (g := F0 m (pc + 6) arr (.ref sa :: .ref T.heap.size :: .ref T.heap.size :: st)) rfl hsz rfl rfl (rest := st) rfl (by rw [hb]; exact d6) (by rw [hb]; exact d9) (fun z hz => by rw [hxt] at hz; cases hz) (show names.length + 3 < R.frames by omega) (by show 2 * 0 + ((Value.ref T.heap.size :: st).map fun v => v.category).sum + (13 * (names.length + 1) + 42) ≤ R.locals; simp only [List.map_cons, List.sum_cons, hcat]; omega) X.2.2.2.2.1
  have hsam := j_same hsame
  rw [hhp] at hsam
  have hge : T.heap.size < U.heap.size := (Array.getElem?_eq_some_iff.mp hce).1
  have hle : U.heap.size ≤ T.heap.size + 1 := by have := hsame.2.2.1; rw [hhp] at this; exact this
  have hWs : s.WarmedH U.vm := State.WarmedH.trans hW0 hW
  refine ⟨U, ?_, .threw T.heap.size, .inr cls, h, n, false, locs, hrun, hend, hWs, ?_, ⟨T.heap.size, ce, rfl, hce, hO.vm, by have := hO.cls; rw [hvm] at this; exact this⟩, ⟨⟨by have := Y.1.1; omega, fun a h1 h2 => (Y.1.2 a h1 h2).kept (hsam a (by have := Y.1.1; show a < _; omega))⟩, fun q9 => (by cases q9), by have := Y.2.2.1; omega, fun q9 h9 => (hsam q9 (by have := Y.2.2.2.2.2.1; have := Y.1.1; omega)).trans (Y.2.2.2.1 q9 h9), Y.2.2.2.2.1, Y.2.2.2.2.2.1, ?_⟩, hq⟩
  · refine st1 _ ?_
    show Steps p.tables e below (T1.setTop (F0 m (pc + 3) arr (.ref T.heap.size :: st))) _
    have d3' : decode c.code (pc + 3) = .ok (.dup, 1) := by rw [hb]; exact d3
    jvm_step S2.here [S2.here.top, X.1, d3', Value.category]
    exact S2.ldcString X.1 (own := jm_own M) (text := text) (index := is) (a := sa) hown' hstr.1 hstr.2 (g := F0 m (pc + 4) arr (.ref T.heap.size :: .ref T.heap.size :: st)) rfl (by rw [hb]; exact d4) _ hsteps
  · subst hs'
    obtain ⟨e1, e2⟩ := hsame
    rw [State.setFrames_setFrames] at e1
    have h2 : (T.setVm s.vm).sameButNew ({ U with vm := s.vm } : State) [] (0 + 1) (0 + 6) := ⟨e1, e2⟩
    have h3 := S.same.trans h2
    rw [List.append_nil] at h3
    exact h3.mono (by omega) (by omega)
  · intro a h1 cell h2
    by_cases ha : a < T.heap.size
    · rw [hsam a ha] at h2
      exact Y.2.2.2.2.2.2 a h1 cell h2
    · have hl : a < U.heap.size := (Array.getElem?_eq_some_iff.mp h2).1
      have ha2 : a = T.heap.size := by omega
      rw [ha2] at h2
      cases h2.symm.trans hce
      rw [hO.vm]
      rfl
