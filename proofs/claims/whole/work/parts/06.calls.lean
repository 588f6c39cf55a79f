/-! THE J LAYER: calls, by contract; exceptions that go on to the caller, or are caught. -/
def jent : List Value → jl_T
  | [] => []
  | v :: vs => if v.category = 2 then some v :: none :: jent vs else some v :: jent vs
def jents (as : List Value) (nL : Nat) : jl_T := jent as ++ List.replicate (nL - (jent as).length) none
theorem jent_len (as : List Value) : (jent as).length = (lg_sl as).length := by
  induction as with
  | nil => rfl
  | cons v vs ih =>
    unfold jent lg_sl
    rw [List.flatMap_cons]
    by_cases h : v.category = 2
    · rw [if_pos h, if_pos h]
      simp only [List.length_cons, List.length_append, List.length_nil]
      unfold lg_sl at ih
      omega
    · rw [if_neg h, if_neg h]
      simp only [List.length_cons, List.length_append, List.length_nil]
      unfold lg_sl at ih
      omega
theorem jent_at (as : List Value) : ∀ (o i : Nat) (v : Value), (jent as)[i]? = some (some v) → (o + i, v) ∈ lv_args o as := by
  induction as with
  | nil => intro o i v h; simp [jent] at h
  | cons u vs ih =>
    intro o i v h
    unfold jent at h
    unfold lv_args
    by_cases hc : u.category = 2
    · rw [if_pos hc] at h
      rw [if_pos hc]
      match i with
      | 0 =>
        have h2 : u = v := Option.some.inj (Option.some.inj h)
        rw [h2]
        exact List.mem_cons_self
      | 1 => exact absurd (Option.some.inj (show some (none : Option Value) = some (some v) from h)) (by simp)
      | j + 2 =>
        have h2 : (jent vs)[j]? = some (some v) := h
        have h3 := ih (o + 2) j v h2
        rw [show o + (j + 2) = o + 2 + j by omega]
        exact List.mem_cons_of_mem _ h3
    · rw [if_neg hc] at h
      rw [if_neg hc]
      match i with
      | 0 =>
        have h2 : u = v := Option.some.inj (Option.some.inj h)
        rw [h2]
        exact List.mem_cons_self
      | j + 1 =>
        have h2 : (jent vs)[j]? = some (some v) := h
        have h3 := ih (o + 1) j v h2
        rw [show o + (j + 1) = o + 1 + j by omega]
        exact List.mem_cons_of_mem _ h3
theorem jents_v (as : List Value) {nL : Nat} (hl : (jent as).length ≤ nL) : jv ((lg_sl as ++ List.replicate (nL - (lg_sl as).length) Slot.unset).toArray) (jents as nL) := by
  have hv := lv_entry as (n := nL) (by rw [← jent_len]; exact hl)
  refine ⟨by rw [hv.1]; unfold jents; rw [List.length_append, List.length_replicate]; omega, hv.2.1, fun i v h => ?_⟩
  unfold jents at h
  by_cases hi : i < (jent as).length
  · rw [List.getElem?_append_left hi] at h
    have h3 := jent_at as 0 i v h
    rw [Nat.zero_add] at h3
    exact hv.2.2 (i, v) h3
  · rw [List.getElem?_append_right (by omega), List.getElem?_replicate] at h
    split at h
    · cases (Option.some.inj h)
    · cases h
/-- a contract out of a walk of the body -/
theorem jc.of {w : jw_T} {M : jm_T} {as : List Value} {h : jh_T} {n : Nat} {x : Bool} {kc ks : Nat} {Q : jr_T → jh_T → Nat → Bool → Prop} (hl : (jent as).length ≤ jm_nL M) (k : J w M 0 (jents as (jm_nL M)) [] h n x kc ks Q) : jc w M as h n x kc ks Q := by
  intro p e R s m below meth c T X hX hT Y hk
  rw [lg_entry_eq]
  exact k p e R s m as.toArray below meth c kc ks s.heap [] 0 0 _ hX Y (jents_v as hl) ⟨by omega, by omega, hk.1, hk.2⟩ T hT X
/-- a method by its name: its code is among the words -/
def jmf (w : jw_T) (M : jm_T) (y : MethodName) : Prop :=
  y.cls = jm_own M ∧ y.name = jm_nam M ∧ (Cond.codeWith y (jm_cod M) (jm_nL M) (jm_ret M) (jm_xt M) ∈ jw_Ts w ∨ (jm_xt M = [] ∧ Cond.code y (jm_cod M) (jm_nL M) (jm_ret M) ∈ jw_Ts w)) ∧ Cond.initialized y.cls ∈ jw_Ts w ∧ plainFor y = true ∧ (y.cls ≠ "java/lang/invoke/MethodHandle" ∧ y.cls ≠ "java/lang/invoke/VarHandle")
theorem jmf.spec {w : jw_T} {M : jm_T} {y : MethodName} {s : State} (h : jmf w M y) (hJ : jk w s) : ∃ (mk : MethodId) (methM : Method) (cM : Code), s.methodNamed? y = some mk ∧ s.vm.method? mk = some methM ∧ methM.code = some cM ∧ cM.code = jm_cod M ∧ cM.maxLocals = jm_nL M ∧ jxt cM (jm_xt M) ∧ methM.sig.returnType = jm_ret M ∧ methM.locks = false ∧ parseMethodDescriptor y.desc = some methM.sig := by
  rcases h.2.2.1 with hw | ⟨hx, hw⟩
  · obtain ⟨m, meth, c, h1, h2, h3, h4, h5, h6, h7, h8, h9⟩ := Cond.codeWith_spec (hJ.1 _ hw rfl #[])
    exact ⟨m, meth, c, h1, h2, h3, h4, h5, h6, h7, h8, h9⟩
  · have hw2 := hJ.1 _ hw rfl #[]
    obtain ⟨m, hn⟩ := Cond.code_named hw2
    obtain ⟨meth, c, h2, h3, h4, h5, h6, h7, h8, h9⟩ := Cond.code_spec hn hw2
    refine ⟨m, meth, c, hn, h2, h3, h4, h5, ?_, h6, h7, h9⟩
    unfold jxt
    rw [hx]
    have h10 : c.exceptionTable = #[] := by
      first | exact Array.isEmpty_iff.mp h8 | simpa using h8
    rw [h10]
    rfl
theorem jk.moved {w : jw_T} {s U : State} (h : jk w s) (hW : s.WarmedH U.vm) (hX : va_X (jw_b w) (jw_L w) (jw_xs w) s U.heap) (hz : jw_z w ≤ U.heap.size) (hq : ∀ q : Nat, q < jw_z w → U.heap[q]? = s.heap[q]?) (hns : jns (jw_z w) U.heap) : jk w U :=
  ⟨fun c hc hg a => jg_at hg hW (h.1 c hc hg #[]), va_K.moved hW.alike h.2.1, va_X.moved hW.alike hX, h.2.2.2.1, hz, h.2.2.2.2.2.1, jz.moved hW.alike hq h.2.2.2.2.2.2.1, jz.moved hW.alike hq h.2.2.2.2.2.2.2.1, fun q hm => (h.2.2.2.2.2.2.2.2.1 q hm).imp (fun sa hs => vk_R.warm hW hs), hns, fun q hm => (h.2.2.2.2.2.2.2.2.2.2 q hm).moved hW.alike⟩
section JCalls
variable {w : jw_T} {M M' : jm_T} {p : Program} {e : Env} {R : Room} {s : State} {m : MethodId} {args : Array Value} {below : List Frame} {meth : Method} {c : Code} {T : State} {locs : List Loc} {cells slots : Nat}
/-- from 'the machine enters the callee' to its end -/
theorem j_into {h : jh_T} {n : Nat} {x : Bool} {kc ks : Nat} {Q : jr_T → jh_T → Nat → Bool → Prop} {as : List Value} {y : MethodName} {mk : MethodId} {pc : Nat} {arr : Array Slot} {st : List Value} {ig : Instr}
    (X : Stand p (jw_l w) e R s m args below meth c T locs cells slots) (hX : jx w M p R s m meth c) (Y : jy w s h n x T.heap locs) (ha : arr.size = c.maxLocals) (hdg : decode c.code pc = .ok (ig, 3)) (hmf : jmf w M' y) (hn : s.methodNamed? y = some mk)
    (hfr : jm_fr M' + 1 ≤ jm_fr M) (hlo : (st.map fun v => v.category).sum + (jm_nL M' + 11) + jm_lo M' ≤ jm_lo M) (hc : jc w M' as h n x kc ks Q) (hkc : cells + kc ≤ R.cells) (hks : slots + ks ≤ R.slots) :
    (∃ (v : Option Value) (h' : jh_T) (n' : Nat) (x' : Bool) (T' : State) (L : List Loc), Q (.inl v) h' n' x' ∧ Stand p (jw_l w) e R s m args below meth c T' (locs ++ L) (cells + kc) (slots + ks) ∧ jy w s h' n' x' T'.heap (locs ++ L) ∧
      Steps p.tables e below (doInvoke e (T.setTop (F0 m pc arr st)) [] mk as.toArray).1 (T'.setTop (F0 m (pc + 3) arr (v.toList ++ st)))) ∨
    (∃ (E : String) (h' : jh_T) (n' : Nat) (x' : Bool) (T' : State) (L : List Loc) (q : Addr) (ce : Cell), Q (.inr E) h' n' x' ∧ Stand p (jw_l w) e R s m args below meth c T' (locs ++ L) (cells + kc) (slots + ks) ∧ jy w s h' n' x' T'.heap (locs ++ L) ∧ T'.heap[q]? = some ce ∧ ce.vm = .none ∧ s.vm.findClass E = some ce.cls ∧
      Steps p.tables e below (doInvoke e (T.setTop (F0 m pc arr st)) [] mk as.toArray).1 ((T'.setTop (F0 m pc arr st)).pushFrame (.throwing q))) := by
  have hJ := hX.2.2.2.2.2.2.2.2.2.2
  obtain ⟨mk', methk, ck, g1, g2, g3, g4, g5, g6, g7, g8, g9⟩ := hmf.spec hJ
  cases hn.symm.trans g1
  obtain ⟨kP, hkP, hnP⟩ := className_of_methodNamed g1
  have hmk : T.vm.method? mk = some methk := by rw [X.warmed.alike.method?]; exact g2
  have hpk : T.plainMethod mk := State.plainMethod.of_named hmf.2.2.2.2.1 (X.named g1) hmk
  obtain ⟨Z, hin⟩ := X.into (g := F0 m pc arr st) rfl ha hdg as.toArray (R' := { frames := jm_fr M', cells := kc, slots := ks, locals := jm_lo M' }) hmk g3 g8 hpk
    (by have := hX.2.2.2.2.2.2.2.2.1; show jm_fr M' + 1 ≤ R.frames; omega) (by have := hX.2.2.2.2.2.2.2.2.2.1; show 2 * 0 + (st.map fun v => v.category).sum + (ck.maxLocals + 11) + jm_lo M' ≤ R.locals; rw [g5]; omega) hkc hks
  have hJ2 : jk w (T.calling (F0 m pc arr st) mk as.toArray) := hJ.moved (U := T.calling (F0 m pc arr st) mk as.toArray) X.warmed (jy.script hJ Y) (Nat.le_trans Y.2.2.2.2.2.1 Y.1.1) Y.2.2.2.1 Y.2.2.2.2.2.2
  have hnm := name_of_methodNamed g1 g2
  have hfc : s.vm.findClass (jm_own M') = some mk.cls := by rw [← hmf.1]; exact findClass_of_methodNamed g1
  obtain ⟨t, hst, o, r, h', n', x', L, t1, t2, t3, t4, t5, t6, t7⟩ := hc p e _ _ mk (.java (F0 m pc arr st) :: below) methk ck _ Z
    ⟨hX.1, g4, g5, g7, g8, g6, by show T.vm.findClass _ = _; rw [X.warmed.alike.findClass]; exact hfc, hnm.1.trans hmf.2.1, Nat.le_refl _, Nat.le_refl _, hJ2⟩ rfl
    ⟨Y.1, Y.2.1, Nat.le_refl _, fun _ _ => rfl, fun q hq => (by cases hq), Y.2.2.2.2.2⟩ ⟨Nat.le_refl _, Nat.le_refl _⟩
  have hst2 : Steps p.tables e below (doInvoke e (T.setTop (F0 m pc arr st)) [] mk as.toArray).1 t := by
    rw [hin []]
    rw [← g5] at hst
    obtain ⟨k9, hk9, w9⟩ := hst
    exact ⟨k9, hk9, fun k hk => (w9 k hk).weaken (mid := [.java (F0 m pc arr st)])⟩
  have hys : ∀ T' : State, T'.heap = t.heap → jy w s h' n' x' T'.heap (locs ++ L) := by
    intro T' hT'
    rw [hT']
    refine ⟨t6.1, t6.2.1, Nat.le_trans Y.2.2.1 t6.2.2.1, fun q hq => (t6.2.2.2.1 q hq).trans (Y.2.2.2.1 q hq), fun q hq => ?_, t6.2.2.2.2.2⟩
    rcases List.mem_append.mp hq with h1 | h1
    · exact Y.2.2.2.2.1 q h1
    · exact t6.2.2.2.2.1 q h1
  cases r with
  | inl v =>
    have ho : o = .returned v := t5
    subst ho
    obtain ⟨T', X', -, -, ht⟩ := X.outOf (g := F0 m pc arr st) rfl hdg t2 t3 t4
    refine Or.inl ⟨v, h', n', x', T', L, t7, X', hys T' (by rw [ht]; rfl), ?_⟩
    rw [ht] at hst2
    exact hst2
  | inr E =>
    obtain ⟨q, ce, ho, h1, h2, h3⟩ := t5
    subst ho
    obtain ⟨T', X', -, -, ht⟩ := X.outOfThrown (g := F0 m pc arr st) rfl t2 t3 t4
    have hT' : T'.heap = t.heap := by rw [ht]; rfl
    refine Or.inr ⟨E, h', n', x', T', L, q, ce, t7, X', hys T' hT', by rw [hT']; exact h1, h2, ?_, ?_⟩
    · have h4 : T.vm.findClass E = some ce.cls := h3
      rw [X.warmed.alike.findClass] at h4
      exact h4
    · rw [ht] at hst2
      exact hst2
end JCalls
/-- an exception of class E has come to the frame at pc -/
def JT (w : jw_T) (M : jm_T) (pc : Nat) (ls : jl_T) (st : List Value) (h : jh_T) (n : Nat) (x : Bool) (kc ks : Nat) (Q : jr_T → jh_T → Nat → Bool → Prop) (E : String) : Prop :=
  ∀ (p : Program) (e : Env) (R : Room) (s : State) (m : MethodId) (args : Array Value) (below : List Frame) (meth : Method) (c : Code) (mc ms : Nat) (locs : List Loc) (cells slots : Nat) (arr : Array Slot) (T : State) (q : Addr) (ce : Cell),
    jx w M p R s m meth c → jy w s h n x T.heap locs → jv arr ls → cells + kc ≤ mc ∧ slots + ks ≤ ms ∧ mc ≤ R.cells ∧ ms ≤ R.slots → Stand p (jw_l w) e R s m args below meth c T locs cells slots → T.heap[q]? = some ce → ce.vm = .none → s.vm.findClass E = some ce.cls →
    ∃ t, Steps p.tables e below ((T.setTop (F0 m pc arr st)).pushFrame (.throwing q)) t ∧ jq w below s mc ms Q t
theorem JT.out {w : jw_T} {M : jm_T} {pc : Nat} {ls : jl_T} {st : List Value} {h : jh_T} {n : Nat} {x : Bool} {kc ks : Nat} {Q : jr_T → jh_T → Nat → Bool → Prop} {E : String} (hx : jm_xt M = []) (hq : Q (.inr E) h n x) : JT w M pc ls st h n x kc ks Q E := by
  intro p e R s m args below meth c mc ms locs cells slots arr T q ce X Y V K S h1 h2 h3
  have hxt : c.exceptionTable.toList = [] := by
    have h9 := X.2.2.2.2.2.1
    unfold jxt at h9
    rw [hx] at h9
    exact List.map_eq_nil_iff.mp h9
  obtain ⟨st1, hrun, hend, hW, hsm⟩ := S.leaveThrown q (g := F0 m pc arr st) rfl rfl rfl (fun z hz => by rw [hxt] at hz; cases hz) X.2.2.2.2.1
  exact ⟨_, st1, .threw q, .inr E, h, n, x, locs, hrun, hend, hW, hsm.mono (by omega) (by omega), ⟨q, ce, rfl, h1, h2, h3⟩, Y, hq⟩
/-- how the pool's entry names the callee: static, of a nest mate or not -/
def jms (w : jw_T) (own : String) (idx : Nat) (y : MethodName) : Prop := Cond.static y ∈ jw_Ts w ∧ (Cond.methodLink own idx y ∈ jw_Ts w ∨ ∃ host, Cond.methodLinkNest own idx y host ∈ jw_Ts w)
def jmv (w : jw_T) (own : String) (idx : Nat) (y : MethodName) : Prop := Cond.instanceMethod y ∈ jw_Ts w ∧ Cond.selects y.cls y y ∈ jw_Ts w ∧ (Cond.methodLink own idx y ∈ jw_Ts w ∨ ∃ host, Cond.methodLinkNest own idx y host ∈ jw_Ts w)
def jmi (w : jw_T) (own : String) (idx : Nat) (y : MethodName) : Prop := Cond.instanceMethod y ∈ jw_Ts w ∧ (Cond.methodLink own idx y ∈ jw_Ts w ∨ ∃ host, Cond.methodLinkNest own idx y host ∈ jw_Ts w)
theorem J_callS {w : jw_T} {M : jm_T} {pc : Nat} {ls : jl_T} {st : List Value} {h : jh_T} {n : Nat} {xx : Bool} {kc ks : Nat} {Q : jr_T → jh_T → Nat → Bool → Prop} {M' : jm_T} {y : MethodName} {idx : Nat} {as : List Value} {kc' ks' : Nat} {Q' : jr_T → jh_T → Nat → Bool → Prop}
    (hmf : jmf w M' y) (hms : jms w (jm_own M) idx y) (d : decode (jm_cod M) pc = .ok (.invokestatic idx, 3)) (hlen : (parseMethodDescriptor y.desc).map (fun q => q.parameters.length) = some as.length)
    (hfr : jm_fr M' + 1 ≤ jm_fr M) (hlo : (st.map fun v => v.category).sum + (jm_nL M' + 11) + jm_lo M' ≤ jm_lo M) (hlL : ls.length = jm_nL M) (hc : jc w M' as h n xx kc' ks' Q')
    (kr : ∀ v h' n' x', Q' (.inl v) h' n' x' → J w M (pc + 3) ls (v.toList ++ st) h' n' x' kc ks Q) (kt : ∀ E h' n' x', Q' (.inr E) h' n' x' → JT w M pc ls st h' n' x' kc ks Q E) : J w M pc ls (as.reverse ++ st) h n xx (kc' + kc) (ks' + ks) Q := by
  intro p e R s m args below meth c mc ms H locs cells slots arr X Y V K T hT S
  subst hT
  have hJ := X.2.2.2.2.2.2.2.2.2.2
  obtain ⟨mk, methk, ck, g1, g2, g3, g4, g5, g6, g7, g8, g9⟩ := hmf.spec hJ
  have hstatic : methk.isStatic = true := Cond.static_spec g1 g2 (hJ.1 _ hms.1 rfl #[])
  obtain ⟨kP, hkP, -⟩ := className_of_methodNamed g1
  have hinitP : kP.init = .initialized := Cond.initialized_spec (findClass_of_methodNamed g1) hkP (hJ.1 _ hmf.2.2.2.1 rfl #[])
  have hl2 : as.length = methk.sig.parameters.length := by rw [g9] at hlen; exact (Option.some.inj hlen).symm
  have hd2 : decode c.code pc = .ok (.invokestatic idx, 3) := by rw [X.2.1]; exact d
  have hreach : ∃ vm', Stand p (jw_l w) e R s m args below meth c (T.setVm vm') locs cells slots ∧ ∀ target, (∀ acts, Steps p.tables e below (doInvoke e ((T.setVm vm').setTop (F0 m pc arr st)) acts mk as.toArray).1 target) → Steps p.tables e below (T.setTop (F0 m pc arr (as.reverse ++ st))) target := by
    rcases hms.2 with hl | ⟨host, hl⟩
    · exact S.invokestatic X.1 X.2.2.2.2.2.2.1 (hJ.1 _ hl rfl _) g1 g2 hstatic hkP hinitP hmf.2.2.2.2.2 (g := F0 m pc arr (as.reverse ++ st)) rfl (argsL := as) (rest := st) hl2 rfl hd2
    · exact S.invokestaticNest X.1 X.2.2.2.2.2.2.1 (hJ.1 _ hl rfl _) g1 g2 hstatic hkP hinitP hmf.2.2.2.2.2 (g := F0 m pc arr (as.reverse ++ st)) rfl (argsL := as) (rest := st) hl2 rfl hd2
  obtain ⟨vm', S', hstep⟩ := hreach
  have hsz : arr.size = c.maxLocals := by rw [V.1, hlL]; exact X.2.2.1.symm
  rcases j_into (pc := pc) (arr := arr) (st := st) S' X (show jy w s h n xx (T.setVm vm').heap locs from Y) hsz hd2 hmf g1 hfr hlo hc (by omega) (by omega) with ⟨v, h', n', x', T', L, q1, q2, q3, q4⟩ | ⟨E, h', n', x', T', L, q, ce, q1, q2, q3, q5, q6, q7, q4⟩
  · obtain ⟨t, a1, b1⟩ := kr v h' n' x' q1 p e R s m args below meth c mc ms T'.heap (locs ++ L) (cells + kc') (slots + ks') arr X q3 V ⟨by omega, by omega, K.2.2⟩ T' rfl q2
    exact ⟨t, hstep _ (fun acts => by rw [doInvoke_state]; exact q4.trans a1), b1⟩
  · obtain ⟨t, a1, b1⟩ := kt E h' n' x' q1 p e R s m args below meth c mc ms (locs ++ L) (cells + kc') (slots + ks') arr T' q ce X q3 V ⟨by omega, by omega, K.2.2⟩ q2 q5 q6 q7
    exact ⟨t, hstep _ (fun acts => by rw [doInvoke_state]; exact q4.trans a1), b1⟩
theorem J_callV {w : jw_T} {M : jm_T} {pc : Nat} {ls : jl_T} {st : List Value} {h : jh_T} {n : Nat} {xx : Bool} {kc ks : Nat} {Q : jr_T → jh_T → Nat → Bool → Prop} {M' : jm_T} {y : MethodName} {idx a ci : Nat} {fs : List Value} {C : String} {TT : u_T} {NN : Nat} {as : List Value} {kc' ks' : Nat} {Q' : jr_T → jh_T → Nat → Bool → Prop}
    (hmf : jmf w M' y) (hms : jmv w (jm_own M) idx y) (d : decode (jm_cod M) pc = .ok (.invokevirtual idx, 3)) (hlen : (parseMethodDescriptor y.desc).map (fun q => q.parameters.length) = some as.length)
    (hfr : jm_fr M' + 1 ≤ jm_fr M) (hlo : (st.map fun v => v.category).sum + (jm_nL M' + 11) + jm_lo M' ≤ jm_lo M) (hlL : ls.length = jm_nL M) (hz : jw_z w ≤ a) (ha : a < n) (hh : h a = .inr (ci, fs)) (hcl : (jw_cl w)[ci]? = some (C, TT, NN)) (hC : y.cls = C) (hc : jc w M' (.ref a :: as) h n xx kc' ks' Q')
    (kr : ∀ v h' n' x', Q' (.inl v) h' n' x' → J w M (pc + 3) ls (v.toList ++ st) h' n' x' kc ks Q) (kt : ∀ E h' n' x', Q' (.inr E) h' n' x' → JT w M pc ls st h' n' x' kc ks Q E) : J w M pc ls (as.reverse ++ .ref a :: st) h n xx (kc' + kc) (ks' + ks) Q := by
  intro p e R s m args below meth c mc ms H locs cells slots arr X Y V K T hT S
  subst hT
  have hJ := X.2.2.2.2.2.2.2.2.2.2
  obtain ⟨mk0, methM, hnamed, hmethM, hstM, habM⟩ := Cond.instanceMethod_spec (hJ.1 _ hms.1 rfl #[])
  obtain ⟨mk, methk, ck, g1, g2, g3, g4, g5, g6, g7, g8, g9⟩ := hmf.spec hJ
  cases hnamed.symm.trans g1
  cases hmethM.symm.trans g2
  have q0 := Y.1.2 a hz ha
  rw [hh] at q0
  obtain ⟨r, hr1, cellB, c1, c2, c3, -⟩ := q0
  have hr : r = (C, TT, NN) := Option.some.inj (hr1.symm.trans hcl)
  subst hr
  have hclsB : s.vm.findClass y.cls = some cellB.cls := by rw [hC, c2]; exact (hJ.2.1.1 ci _ hcl).2.1
  obtain ⟨c9, r9, m9, k1, k2, k3, k4, kP, hkP, hkPi⟩ := Cond.selects_spec (hJ.1 _ hms.2.1 rfl #[])
  cases hclsB.symm.trans k1
  cases (State.methodFound?_of_named hnamed hmf.2.2.2.2.2).symm.trans k2
  cases hnamed.symm.trans k3
  have hselP : selectMethod e.platform s.vm cellB.cls mk0 = .method mk0 := by rw [Launch.admits_selectMethod S.admits]; exact k4
  have hl2 : as.length = methM.sig.parameters.length := by rw [g9] at hlen; exact (Option.some.inj hlen).symm
  have hd2 : decode c.code pc = .ok (.invokevirtual idx, 3) := by rw [X.2.1]; exact d
  have hob : ∀ z, cellB.vm ≠ .statics z := fun z q => by rw [c3] at q; cases q
  have hreach : ∃ vm', Stand p (jw_l w) e R s m args below meth c (T.setVm vm') locs cells slots ∧ ∀ target, (∀ acts, Steps p.tables e below (doInvoke e ((T.setVm vm').setTop (F0 m pc arr st)) acts mk0 (Value.ref a :: as).toArray).1 target) → Steps p.tables e below (T.setTop (F0 m pc arr (as.reverse ++ .ref a :: st))) target := by
    rcases hms.2.2 with hl | ⟨host, hl⟩
    · exact S.invokevirtual X.1 X.2.2.2.2.2.2.1 (hJ.1 _ hl rfl _) hnamed hmethM hstM hkP hkPi hmf.2.2.2.2.2 (a := a) (cell := cellB) c1 hob hselP hmethM habM hkP hkPi (g := F0 m pc arr (as.reverse ++ .ref a :: st)) rfl (argsL := as) (rest := st) hl2 rfl hd2
    · exact S.invokevirtualNest X.1 X.2.2.2.2.2.2.1 (hJ.1 _ hl rfl _) hnamed hmethM hstM hkP hkPi hmf.2.2.2.2.2 (a := a) (cell := cellB) c1 hob hselP hmethM habM hkP hkPi (g := F0 m pc arr (as.reverse ++ .ref a :: st)) rfl (argsL := as) (rest := st) hl2 rfl hd2
  obtain ⟨vm', S', hstep⟩ := hreach
  have hsz : arr.size = c.maxLocals := by rw [V.1, hlL]; exact X.2.2.1.symm
  rcases j_into (pc := pc) (arr := arr) (st := st) S' X (show jy w s h n xx (T.setVm vm').heap locs from Y) hsz hd2 hmf g1 hfr hlo hc (by omega) (by omega) with ⟨v, h', n', x', T', L, q1, q2, q3, q4⟩ | ⟨E, h', n', x', T', L, q, ce, q1, q2, q3, q5, q6, q7, q4⟩
  · obtain ⟨t, a1, b1⟩ := kr v h' n' x' q1 p e R s m args below meth c mc ms T'.heap (locs ++ L) (cells + kc') (slots + ks') arr X q3 V ⟨by omega, by omega, K.2.2⟩ T' rfl q2
    exact ⟨t, hstep _ (fun acts => by rw [doInvoke_state]; exact q4.trans a1), b1⟩
  · obtain ⟨t, a1, b1⟩ := kt E h' n' x' q1 p e R s m args below meth c mc ms (locs ++ L) (cells + kc') (slots + ks') arr T' q ce X q3 V ⟨by omega, by omega, K.2.2⟩ q2 q5 q6 q7
    exact ⟨t, hstep _ (fun acts => by rw [doInvoke_state]; exact q4.trans a1), b1⟩
theorem J_callI {w : jw_T} {M : jm_T} {pc : Nat} {ls : jl_T} {st : List Value} {h : jh_T} {n : Nat} {xx : Bool} {kc ks : Nat} {Q : jr_T → jh_T → Nat → Bool → Prop} {M' : jm_T} {y : MethodName} {idx a : Nat} {as : List Value} {kc' ks' : Nat} {Q' : jr_T → jh_T → Nat → Bool → Prop}
    (hmf : jmf w M' y) (hx0 : jm_xt M' = []) (hr0 : jm_ret M' = none) (hms : jmi w (jm_own M) idx y) (hnm : y.name = "<init>") (hcw : Cond.code y (jm_cod M') (jm_nL M') none ∈ jw_Ts w) (d : decode (jm_cod M) pc = .ok (.invokespecial idx, 3)) (hlen : (parseMethodDescriptor y.desc).map (fun q => q.parameters.length) = some as.length)
    (hfr : jm_fr M' + 1 ≤ jm_fr M) (hlo : (st.map fun v => v.category).sum + (jm_nL M' + 11) + jm_lo M' ≤ jm_lo M) (hlL : ls.length = jm_nL M) (hc : jc w M' (.ref a :: as) h n xx kc' ks' Q')
    (kr : ∀ v h' n' x', Q' (.inl v) h' n' x' → J w M (pc + 3) ls (v.toList ++ st) h' n' x' kc ks Q) (kt : ∀ E h' n' x', Q' (.inr E) h' n' x' → JT w M pc ls st h' n' x' kc ks Q E) : J w M pc ls (as.reverse ++ .ref a :: st) h n xx (kc' + kc) (ks' + ks) Q := by
  intro p e R s m args below meth c mc ms H locs cells slots arr X Y V K T hT S
  subst hT
  have hJ := X.2.2.2.2.2.2.2.2.2.2
  have hd2 : decode c.code pc = .ok (.invokespecial idx, 3) := by rw [X.2.1]; exact d
  have hpl : e.platform.magicAccessors = ({} : Platform).magicAccessors := by rw [S.admits.platform]
  have hl2 : ∀ sig, parseMethodDescriptor y.desc = some sig → as.length = sig.parameters.length := fun sig q => by rw [q] at hlen; exact (Option.some.inj hlen).symm
  have hreach : ∃ (mk : MethodId) (vm' : Vm), s.methodNamed? y = some mk ∧ s.WarmedH vm' ∧ ∀ target, (∀ acts, Steps p.tables e below (doInvoke e ((T.setVm vm').setTop (F0 m pc arr st)) acts mk (Value.ref a :: as).toArray).1 target) → Steps p.tables e below (T.setTop (F0 m pc arr (as.reverse ++ .ref a :: st))) target := by
    rcases hms.2 with hl | ⟨host, hl⟩
    · obtain ⟨mk, methM, cM, kP, vm₁, hnamed, -, -, -, -, -, -, -, hW₁, hstep₁⟩ := Steps.initColdArgs (e := e) S.here X.1 S.warmed hpl X.2.2.2.2.2.2.1 hnm hmf.2.2.2.2.2 (hJ.1 _ hl rfl args) (hJ.1 _ hms.1 rfl args) (hJ.1 _ hcw rfl args) (f := F0 m pc arr (as.reverse ++ .ref a :: st)) rfl (argsL := as) (rest := st) (a := a) hl2 rfl hd2
      exact ⟨mk, vm₁, hnamed, hW₁, hstep₁⟩
    · obtain ⟨mk, methM, cM, kP, vm₁, hnamed, -, -, -, -, -, -, -, hW₁, hstep₁⟩ := Steps.initColdArgsNest (e := e) S.here X.1 S.warmed hpl X.2.2.2.2.2.2.1 hnm hmf.2.2.2.2.2 (hJ.1 _ hl rfl args) (hJ.1 _ hms.1 rfl args) (hJ.1 _ hcw rfl args) (f := F0 m pc arr (as.reverse ++ .ref a :: st)) rfl (argsL := as) (rest := st) (a := a) hl2 rfl hd2
      exact ⟨mk, vm₁, hnamed, hW₁, hstep₁⟩
  obtain ⟨mk, vm', g1, hW₁, hstep⟩ := hreach
  have S' := S.noted hW₁
  have hsz : arr.size = c.maxLocals := by rw [V.1, hlL]; exact X.2.2.1.symm
  rcases j_into (pc := pc) (arr := arr) (st := st) S' X (show jy w s h n xx (T.setVm vm').heap locs from Y) hsz hd2 hmf g1 hfr hlo hc (by omega) (by omega) with ⟨v, h', n', x', T', L, q1, q2, q3, q4⟩ | ⟨E, h', n', x', T', L, q, ce, q1, q2, q3, q5, q6, q7, q4⟩
  · obtain ⟨t, a1, b1⟩ := kr v h' n' x' q1 p e R s m args below meth c mc ms T'.heap (locs ++ L) (cells + kc') (slots + ks') arr X q3 V ⟨by omega, by omega, K.2.2⟩ T' rfl q2
    exact ⟨t, hstep _ (fun acts => by rw [doInvoke_state]; exact q4.trans a1), b1⟩
  · obtain ⟨t, a1, b1⟩ := kt E h' n' x' q1 p e R s m args below meth c mc ms (locs ++ L) (cells + kc') (slots + ks') arr T' q ce X q3 V ⟨by omega, by omega, K.2.2⟩ q2 q5 q6 q7
    exact ⟨t, hstep _ (fun acts => by rw [doInvoke_state]; exact q4.trans a1), b1⟩
/-- Object.<init> -/
theorem J_objInit {w : jw_T} {M : jm_T} {pc : Nat} {ls : jl_T} {st : List Value} {h : jh_T} {n : Nat} {xx : Bool} {kc ks : Nat} {Q : jr_T → jh_T → Nat → Bool → Prop} {idx a : Nat}
    (hl : Cond.methodLink (jm_own M) idx objectInit ∈ jw_Ts w) (hi : Cond.instanceMethod objectInit ∈ jw_Ts w) (hc : Cond.code objectInit ⟨#[0xb1]⟩ 1 none ∈ jw_Ts w) (d : decode (jm_cod M) pc = .ok (.invokespecial idx, 3)) (hlL : ls.length = jm_nL M) (hfr : 1 ≤ jm_fr M) (hlo : (st.map fun v => v.category).sum + 12 ≤ jm_lo M)
    (k : J w M (pc + 3) ls st h n xx kc ks Q) : J w M pc ls (.ref a :: st) h n xx kc ks Q := by
  intro p e R s m args below meth c mc ms H locs cells slots arr X Y V K
  have hJ := X.2.2.2.2.2.2.2.2.2.2
  have hsz : arr.size = c.maxLocals := by rw [V.1, hlL]; exact X.2.2.1.symm
  exact W.objInit X.1 X.2.1 X.2.2.2.2.2.2.1 (hJ.1 _ hl rfl _) (hJ.1 _ hi rfl _) (hJ.1 _ hc rfl _) rfl hsz rfl d (by have := X.2.2.2.2.2.2.2.2.1; omega) (by have := X.2.2.2.2.2.2.2.2.2.1; show 2 * 0 + (st.map fun v => v.category).sum + 12 ≤ R.locals; omega) (k p e R s m args below meth c mc ms H locs cells slots arr X Y V K)
