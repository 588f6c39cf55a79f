/-! METHODS THAT THROW, in the words of flat heaps. -/
def kt {α : Type} : α ⊕ String → Nat
  | .inl _ => 0
  | .inr _ => 1
def rsV : Unit ⊕ String → jr_T
  | .inl _ => .inl none
  | .inr E => .inr E
def rsI : Int32 ⊕ String → jr_T
  | .inl v => .inl (some (.int v))
  | .inr E => .inr E
def rsL : Int64 ⊕ String → jr_T
  | .inl v => .inl (some (.long v))
  | .inr E => .inr E
def rsO : Option Nat ⊕ String → jr_T
  | .inl v => .inl (some (va_rf v))
  | .inr E => .inr E
/-- go on where it returned, hand on what it threw -/
def bT {α β : Type} (x : Option ((α ⊕ String) × ph_T)) (k : α → ph_T → Option ((β ⊕ String) × ph_T)) : Option ((β ⊕ String) × ph_T) := match x with
  | none => none
  | some (.inl v, φ) => k v φ
  | some (.inr E, φ) => some (.inr E, φ)
/-- go on where it returned, or where it threw -/
def bC {α β : Type} (x : Option ((α ⊕ String) × ph_T)) (c : String → ph_T → Option β) (k : α → ph_T → Option β) : Option β := match x with
  | none => none
  | some (.inl v, φ) => k v φ
  | some (.inr E, φ) => c E φ
theorem bT_some {α β : Type} {x : Option ((α ⊕ String) × ph_T)} {k : α → ph_T → Option ((β ⊕ String) × ph_T)} {q : (β ⊕ String) × ph_T} (H : bT x k = some q) : (∃ E φ, x = some (.inr E, φ) ∧ q = (.inr E, φ)) ∨ ∃ v φ, x = some (.inl v, φ) ∧ k v φ = some q := by
  match x, H with
  | none, H => cases H
  | some (.inl v, φ), H => exact Or.inr ⟨v, φ, rfl, H⟩
  | some (.inr E, φ), H => exact Or.inl ⟨E, φ, rfl, (Option.some.inj H).symm⟩
theorem bC_some {α β : Type} {x : Option ((α ⊕ String) × ph_T)} {c : String → ph_T → Option β} {k : α → ph_T → Option β} {q : β} (H : bC x c k = some q) : (∃ E φ, x = some (.inr E, φ) ∧ c E φ = some q) ∨ ∃ v φ, x = some (.inl v, φ) ∧ k v φ = some q := by
  match x, H with
  | none, H => cases H
  | some (.inl v, φ), H => exact Or.inr ⟨v, φ, rfl, H⟩
  | some (.inr E, φ), H => exact Or.inl ⟨E, φ, rfl, H⟩
theorem J.kk {w : jw_T} {M : jm_T} {pc : Nat} {ls : jl_T} {st : List Value} {h : jh_T} {n : Nat} {x : Bool} {kc ks kc' ks' : Nat} {Q : jr_T → jh_T → Nat → Bool → Prop} (e1 : kc' = kc) (e2 : ks' = ks) (k : J w M pc ls st h n x kc' ks' Q) : J w M pc ls st h n x kc ks Q := e1 ▸ e2 ▸ k
theorem fq_nt {Γ : gm_T} {n : Nat} {v : Option Value} {φ : ph_T} {E : String} {h : jh_T} {n' : Nat} {x : Bool} {P : Prop} (e : fq Γ n (.inl v) φ (.inr E) h n' x) : P := by cases e.1
theorem fq_nr {Γ : gm_T} {n : Nat} {v : Option Value} {φ : ph_T} {E : String} {h : jh_T} {n' : Nat} {x : Bool} {P : Prop} (e : fq Γ n (.inr E) φ (.inl v) h n' x) : P := by cases e.1
theorem jsr_mem {w : jw_T} (hw : jok w) {C : String} {i : Nat} {text : String} (h : (C, i, text) ∈ jsr) : (C, i, text) ∈ jw_sr w := by
  show _ ∈ w.2.1.2.2.2.1
  rw [show w.2.1 = jprog from hw]
  exact h
theorem jnc_mem {w : jw_T} (hw : jok w) {A B : String} (h : (A, B) ∈ jnc) : (A, B) ∈ jw_nc w := by
  show _ ∈ w.2.1.2.2.2.2
  rw [show w.2.1 = jprog from hw]
  exact h
abbrev jxn : List String := ["java/lang/RuntimeException", "java/lang/Exception"]
theorem jxn_fit : ∀ q ∈ jxn, Bundle.fit q = true := by decide +kernel
theorem xat {w : jw_T} (hw : jok w) (L : List Cond) (ps : List Nat) (h : L.all (fun q => ((ps.filterMap (fun i => lw_tbl[i]?)).any (fun c => decide (c = q)) && jg q) || (decide (q = .laysStatic Bundle.tN "UNASSIGNED_STACK" Bundle.steD) || (decide (q = .laysStatic Bundle.tN "SUPPRESSED_SENTINEL" Bundle.listD) || (decide (q = .isRef (.static Bundle.tN "UNASSIGNED_STACK" Bundle.steD)) || decide (q = .isRef (.static Bundle.tN "SUPPRESSED_SENTINEL" Bundle.listD)))))) = true) :
    ∀ q ∈ L, (q ∈ jw_Ts w ∧ jg q = true) ∨ q = .laysStatic Bundle.tN "UNASSIGNED_STACK" Bundle.steD ∨ q = .laysStatic Bundle.tN "SUPPRESSED_SENTINEL" Bundle.listD ∨ q = .isRef (.static Bundle.tN "UNASSIGNED_STACK" Bundle.steD) ∨ q = .isRef (.static Bundle.tN "SUPPRESSED_SENTINEL" Bundle.listD) := by
  intro q hq
  have h1 := List.all_eq_true.mp h q hq
  simp only [Bool.or_eq_true, Bool.and_eq_true, decide_eq_true_eq, List.any_eq_true] at h1
  rcases h1 with ⟨⟨c, hc, e⟩, hg⟩ | h1
  · subst e
    obtain ⟨i, -, hi⟩ := List.mem_filterMap.mp hc
    exact Or.inl ⟨jmem hw hi, hg⟩
  · exact Or.inr h1
/-- the wide form of a String constant -/
theorem j_ldcW {p : Program} {l : Launch} {e : Env} {R : Room} {s : State} {m : MethodId} {args : Array Value} {below : List Frame} {meth : Method} {c : Code} {T : State} {locs : List Loc} {cells slots : Nat}
    (X : Stand p l e R s m args below meth c T locs cells slots) (hx : p.tables.exec = Jvm.exec) {own text : String} {index : Nat} {a : Addr} (ho : s.vm.findClass own = some m.cls)
    (h1 : (Cond.stringRef own index text).before args s = true) (h2 : (Term.string own index).eval args s none [] s = some (.ref a)) {g : JFrame} (hg : g.method = m) (hd : decode c.code g.pc = .ok (.ldc_w index, 3)) :
    ∀ t, Steps p.tables e below (T.setTop { g with pc := g.pc + 3, stack := .ref a :: g.stack }) t → Steps p.tables e below (T.setTop g) t := by
  obtain ⟨k, cf, i, a9, e1, e2, e3, -, e4, e5⟩ := Cond.stringRef_spec ho h1
  cases h2.symm.trans e5
  obtain ⟨k9, e6, e7⟩ := X.warmed.alike.2.2 _ _ e1
  have e8 : k9.resolved[index]? = some (some (.string a)) := by
    rcases X.warmed.entry e1 e6 index with h | ⟨h, -⟩
    · rw [h, e4]
    · rw [e4] at h
      cases h
  subst hg
  intro t ht
  jvm_step X.here [hx, hd, ldc_w.wp_string (e := e) (s := T) (f := g) X.here.top e6 (by rw [e7]; exact e2) e3 e8]
  exact ht
/-- throw new E("text"): new; dup; ldc; invokespecial; athrow, in a method without handlers -/
theorem J_throwW {w : jw_T} {M : jm_T} {pc : Nat} {ls : jl_T} {st : List Value} {h : jh_T} {n : Nat} {xx : Bool} {kc ks : Nat} {Q : jr_T → jh_T → Nat → Bool → Prop} {cls text : String} {names : List String} {ik is ic : Nat}
    (hcls : Bundle.fit cls = true) (hnames : ∀ q ∈ names, Bundle.fit q = true) (hk : Cond.classLink (jm_own M) ik cls ∈ jw_Ts w) (hini : Cond.initialized cls ∈ jw_Ts w) (hsr : (jm_own M, is, text) ∈ jw_sr w)
    (hat : ∀ q ∈ Bundle.ownAtoms (jm_own M) ic cls names, (q ∈ jw_Ts w ∧ jg q = true) ∨ q = .laysStatic Bundle.tN "UNASSIGNED_STACK" Bundle.steD ∨ q = .laysStatic Bundle.tN "SUPPRESSED_SENTINEL" Bundle.listD ∨ q = .isRef (.static Bundle.tN "UNASSIGNED_STACK" Bundle.steD) ∨ q = .isRef (.static Bundle.tN "SUPPRESSED_SENTINEL" Bundle.listD))
    (d0 : decode (jm_cod M) pc = .ok (.new ik, 3)) (d3 : decode (jm_cod M) (pc + 3) = .ok (.dup, 1)) (d4 : decode (jm_cod M) (pc + 4) = .ok (.ldc_w is, 3)) (d7 : decode (jm_cod M) (pc + 7) = .ok (.invokespecial ic, 3)) (d9 : decode (jm_cod M) (pc + 10) = .ok (.athrow, 1))
    (hx : jm_xt M = []) (hlL : ls.length = jm_nL M) (hfr : names.length + 4 ≤ jm_fr M) (hlo : (st.map fun v => v.category).sum + (13 * (names.length + 1) + 43) ≤ jm_lo M) (hq : Q (.inr cls) h n false) : J w M pc ls st h n xx (kc + 1) (ks + 6) Q := by
  intro p e R s m args below meth c mc ms H locs cells slots arr X Y V K T hT S
  subst hT
  have hJ := X.2.2.2.2.2.2.2.2.2.2
  have htr : e.platform.stackTraces = false := (show e.platform.stackTraces = (jw_l w).stackTraces by rw [S.admits.platform]).trans hJ.2.2.2.2.2.1
  have S1 := j_anew S (kc := 1) (ks := 6) (by omega) (by omega)
  generalize hs' : (T.setVm s.vm).setFrames (.invoking m args :: below) = s' at S1
  have hvm : s'.vm = s.vm := by rw [← hs']; rfl
  have hhp : s'.heap = T.heap := by rw [← hs']; rfl
  have hW0 : s.WarmedH s'.vm := by rw [hvm]; exact State.WarmedH.refl s
  have hJ' : jk w s' := hJ.moved hW0 (by rw [hhp]; exact jy.script hJ Y) (by rw [hhp]; exact Nat.le_trans Y.2.2.2.2.2.1 Y.1.1) (by rw [hhp]; exact Y.2.2.2.1) (by rw [hhp]; exact Y.2.2.2.2.2.2)
  have hown' : s'.vm.findClass (jm_own M) = some m.cls := by rw [hvm]; exact X.2.2.2.2.2.2.1
  have hall : ∀ q ∈ Bundle.ownAtoms (jm_own M) ic cls names, q.before args s' = true := by
    intro q hq9
    rcases hat q hq9 with ⟨z1, z2⟩ | z | z | z | z
    · exact hJ'.1 q z1 z2 _
    · rw [z]; exact hJ'.2.2.2.2.2.2.1.lays
    · rw [z]; exact hJ'.2.2.2.2.2.2.2.1.lays
    · rw [z]; exact hJ'.2.2.2.2.2.2.1.isRef
    · rw [z]; exact hJ'.2.2.2.2.2.2.2.1.isRef
  obtain ⟨sa, hstr⟩ := hJ'.2.2.2.2.2.2.2.2.1 _ hsr
  have hxt : c.exceptionTable.toList = [] := by
    have h9 := X.2.2.2.2.2.1
    unfold jxt at h9
    rw [hx] at h9
    exact List.map_eq_nil_iff.mp h9
  have hsz : arr.size = c.maxLocals := by rw [V.1, hlL]; exact X.2.2.1.symm
  have hb := X.2.1
  obtain ⟨vm₁, cX, kX, hfX, hkX, -, -, S2, st1⟩ := S1.newCold X.1 (own := jm_own M) (C := cls) (index := ik) (n := 6) hown' (hJ'.1 _ hk rfl _) (hall _ (by simp [Bundle.ownAtoms])) (hJ'.1 _ hini rfl _) (g := F0 m pc arr st) rfl (by rw [hb]; exact d0) (Nat.le_refl _) (Nat.le_refl _)
  generalize hT1 : (T.setVm vm₁).pushCell { cls := cX, slots := kX.instanceTypes.map defaultValue, vm := .none } = T1 at S2 st1
  have hcat : (Value.ref T.heap.size).category = 1 := rfl
  have hcellA : T1.heap[T.heap.size]? = some (freshCell cX kX) := by rw [← hT1]; exact State.heap_pushCell_size _ _
  have f1 := X.2.2.2.2.2.2.2.2.1
  have f2 := X.2.2.2.2.2.2.2.2.2.1
  obtain ⟨U, hsteps, hrun, hend, hW, hsame, ce, hce, hO⟩ := S2.ctorThrowS X.1 htr (own := jm_own M) (cls := cls) (names := names) (ic := ic) hown' hcls hnames hall (fun q hq9 => by cases hq9) hfX hkX hcellA (by rw [hhp]; exact Nat.le_refl _) (msg := .ref sa) rfl
    (g := F0 m (pc + 7) arr (.ref sa :: .ref T.heap.size :: .ref T.heap.size :: st)) rfl hsz rfl rfl (rest := st) rfl (by rw [hb]; exact d7) (by rw [hb]; exact d9) (fun z hz => by rw [hxt] at hz; cases hz) (show names.length + 3 < R.frames by omega) (by show 2 * 0 + ((Value.ref T.heap.size :: st).map fun v => v.category).sum + (13 * (names.length + 1) + 42) ≤ R.locals; simp only [List.map_cons, List.sum_cons, hcat]; omega) X.2.2.2.2.1
  have hsam := j_same hsame
  rw [hhp] at hsam
  have hge : T.heap.size < U.heap.size := (Array.getElem?_eq_some_iff.mp hce).1
  have hle : U.heap.size ≤ T.heap.size + 1 := by have := hsame.2.2.1; rw [hhp] at this; exact this
  have hWs : s.WarmedH U.vm := State.WarmedH.trans hW0 hW
  refine ⟨U, ?_, .threw T.heap.size, .inr cls, h, n, false, locs, hrun, hend, hWs, ?_, ⟨T.heap.size, ce, rfl, hce, hO.vm, by have := hO.cls; rw [hvm] at this; exact this⟩, ⟨⟨by have := Y.1.1; omega, fun a h1 h2 => (Y.1.2 a h1 h2).kept (hsam a (by have := Y.1.1; show a < _; omega))⟩, fun q9 => (by cases q9), by have := Y.2.2.1; omega, fun q9 h9 => (hsam q9 (by have := Y.2.2.2.2.2.1; have := Y.1.1; omega)).trans (Y.2.2.2.1 q9 h9), Y.2.2.2.2.1, Y.2.2.2.2.2.1, ?_⟩, hq⟩
  · refine st1 _ ?_
    show Steps p.tables e below (T1.setTop (F0 m (pc + 3) arr (.ref T.heap.size :: st))) _
    have d3' : decode c.code (pc + 3) = .ok (.dup, 1) := by rw [hb]; exact d3
    jvm_step S2.here [S2.here.top, X.1, d3', Value.category]
    exact j_ldcW S2 X.1 (own := jm_own M) (text := text) (index := is) (a := sa) hown' hstr.1 hstr.2 (g := F0 m (pc + 4) arr (.ref T.heap.size :: .ref T.heap.size :: st)) rfl (by rw [hb]; exact d4) _ hsteps
  · subst hs'
    obtain ⟨e1, e2⟩ := hsame
    rw [State.setFrames_setFrames] at e1
    have h2 : (T.setVm s.vm).sameButNew ({ U with vm := s.vm } : State) [] (0 + 1) (0 + 6) := ⟨e1, e2⟩
    have h3 := S.same.trans h2
    rw [List.append_nil] at h3
    exact h3.mono (by omega) (by omega)
  · intro a h1 cell h2
    by_cases ha : a < T.heap.size
    · rw [hsam a ha] at h2
      exact Y.2.2.2.2.2.2 a h1 cell h2
    · have hl : a < U.heap.size := (Array.getElem?_eq_some_iff.mp h2).1
      have ha2 : a = T.heap.size := by omega
      rw [ha2] at h2
      cases h2.symm.trans hce
      rw [hO.vm]
      rfl
theorem xf_IndexOutOfBoundsException : Bundle.fit "java/lang/IndexOutOfBoundsException" = true := by decide +kernel
theorem xa_IndexOutOfBoundsException {w : jw_T} (hw : jok w) : ∀ q ∈ Bundle.ownAtoms "BusCrossbar" 348 "java/lang/IndexOutOfBoundsException" jxn, (q ∈ jw_Ts w ∧ jg q = true) ∨ q = .laysStatic Bundle.tN "UNASSIGNED_STACK" Bundle.steD ∨ q = .laysStatic Bundle.tN "SUPPRESSED_SENTINEL" Bundle.listD ∨ q = .isRef (.static Bundle.tN "UNASSIGNED_STACK" Bundle.steD) ∨ q = .isRef (.static Bundle.tN "SUPPRESSED_SENTINEL" Bundle.listD) := xat hw _ [133, 134, 135, 136, 137, 138, 141, 147, 148, 149, 164, 178, 188, 210, 303, 346, 352, 358, 365, 505, 555, 676, 677, 685, 686, 687, 688, 689, 690, 691, 692, 693, 694, 695, 696, 697, 698, 699, 700, 701, 702, 703, 704, 705, 706, 707, 708, 709, 710, 711, 712, 713, 714, 715, 716, 717, 718, 719, 720, 721, 722, 723, 724, 725, 726, 728, 729, 730, 731, 732, 733, 734, 735, 736, 737, 738, 739, 741, 742, 743, 744, 745, 746, 747, 748, 749, 750, 751, 752, 754, 755, 756, 757, 758, 759, 760, 761, 762, 764, 765, 766, 767, 768, 769, 773, 781, 782, 783, 784, 785, 786, 787, 788, 789, 791, 792, 793, 794, 795, 796, 884, 932, 933, 934, 935, 936, 937, 938, 939, 940, 942, 943, 944, 945, 946, 947, 1539, 2300] (by decide +kernel)
theorem xf_IllegalStateException : Bundle.fit "java/lang/IllegalStateException" = true := by decide +kernel
theorem xa_IllegalStateException {w : jw_T} (hw : jok w) : ∀ q ∈ Bundle.ownAtoms "BusCrossbar" 77 "java/lang/IllegalStateException" jxn, (q ∈ jw_Ts w ∧ jg q = true) ∨ q = .laysStatic Bundle.tN "UNASSIGNED_STACK" Bundle.steD ∨ q = .laysStatic Bundle.tN "SUPPRESSED_SENTINEL" Bundle.listD ∨ q = .isRef (.static Bundle.tN "UNASSIGNED_STACK" Bundle.steD) ∨ q = .isRef (.static Bundle.tN "SUPPRESSED_SENTINEL" Bundle.listD) := xat hw _ [133, 134, 135, 136, 137, 138, 141, 147, 148, 149, 164, 178, 188, 210, 303, 346, 352, 358, 365, 505, 555, 676, 677, 685, 686, 687, 688, 689, 690, 691, 692, 693, 694, 695, 696, 697, 698, 699, 700, 701, 702, 703, 704, 705, 706, 707, 708, 709, 710, 711, 712, 713, 714, 715, 716, 717, 718, 719, 720, 721, 722, 723, 724, 725, 726, 728, 729, 730, 731, 732, 733, 734, 735, 736, 737, 738, 739, 741, 742, 743, 744, 745, 746, 747, 748, 749, 750, 751, 752, 754, 755, 756, 757, 758, 759, 760, 761, 762, 764, 765, 766, 767, 768, 769, 773, 781, 782, 783, 784, 785, 786, 787, 788, 789, 791, 792, 793, 794, 795, 796, 884, 932, 933, 934, 935, 936, 937, 938, 939, 940, 942, 943, 944, 945, 946, 947, 1539, 2300] (by decide +kernel)
theorem xf_IllegalArgumentException : Bundle.fit "java/lang/IllegalArgumentException" = true := by decide +kernel
theorem xa_IllegalArgumentException {w : jw_T} (hw : jok w) : ∀ q ∈ Bundle.ownAtoms "BusCrossbar" 117 "java/lang/IllegalArgumentException" jxn, (q ∈ jw_Ts w ∧ jg q = true) ∨ q = .laysStatic Bundle.tN "UNASSIGNED_STACK" Bundle.steD ∨ q = .laysStatic Bundle.tN "SUPPRESSED_SENTINEL" Bundle.listD ∨ q = .isRef (.static Bundle.tN "UNASSIGNED_STACK" Bundle.steD) ∨ q = .isRef (.static Bundle.tN "SUPPRESSED_SENTINEL" Bundle.listD) := xat hw _ [133, 134, 135, 136, 137, 138, 141, 147, 148, 149, 164, 178, 188, 210, 303, 346, 352, 358, 365, 505, 555, 676, 677, 685, 686, 687, 688, 689, 690, 691, 692, 693, 694, 695, 696, 697, 698, 699, 700, 701, 702, 703, 704, 705, 706, 707, 708, 709, 710, 711, 712, 713, 714, 715, 716, 717, 718, 719, 720, 721, 722, 723, 724, 725, 726, 728, 729, 730, 731, 732, 733, 734, 735, 736, 737, 738, 739, 741, 742, 743, 744, 745, 746, 747, 748, 749, 750, 751, 752, 754, 755, 756, 757, 758, 759, 760, 761, 762, 764, 765, 766, 767, 768, 769, 773, 781, 782, 783, 784, 785, 786, 787, 788, 789, 791, 792, 793, 794, 795, 796, 884, 932, 933, 934, 935, 936, 937, 938, 939, 940, 942, 943, 944, 945, 946, 947, 1539, 2300] (by decide +kernel)
theorem xf_UnsupportedOperationException : Bundle.fit "java/lang/UnsupportedOperationException" = true := by decide +kernel
theorem xa_UnsupportedOperationException {w : jw_T} (hw : jok w) : ∀ q ∈ Bundle.ownAtoms "BusCrossbar" 158 "java/lang/UnsupportedOperationException" jxn, (q ∈ jw_Ts w ∧ jg q = true) ∨ q = .laysStatic Bundle.tN "UNASSIGNED_STACK" Bundle.steD ∨ q = .laysStatic Bundle.tN "SUPPRESSED_SENTINEL" Bundle.listD ∨ q = .isRef (.static Bundle.tN "UNASSIGNED_STACK" Bundle.steD) ∨ q = .isRef (.static Bundle.tN "SUPPRESSED_SENTINEL" Bundle.listD) := xat hw _ [133, 134, 135, 136, 137, 138, 141, 147, 148, 149, 164, 178, 188, 210, 303, 346, 352, 358, 365, 505, 555, 676, 677, 685, 686, 687, 688, 689, 690, 691, 692, 693, 694, 695, 696, 697, 698, 699, 700, 701, 702, 703, 704, 705, 706, 707, 708, 709, 710, 711, 712, 713, 714, 715, 716, 717, 718, 719, 720, 721, 722, 723, 724, 725, 726, 728, 729, 730, 731, 732, 733, 734, 735, 736, 737, 738, 739, 741, 742, 743, 744, 745, 746, 747, 748, 749, 750, 751, 752, 754, 755, 756, 757, 758, 759, 760, 761, 762, 764, 765, 766, 767, 768, 769, 773, 781, 782, 783, 784, 785, 786, 787, 788, 789, 791, 792, 793, 794, 795, 796, 884, 932, 933, 934, 935, 936, 937, 938, 939, 940, 942, 943, 944, 945, 946, 947, 1539, 2300] (by decide +kernel)
