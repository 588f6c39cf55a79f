/-- a class of the list: its words are among the world's; its fields' types; its names are apart -/
def jcf (w : jw_T) (ci : Nat) (C : String) (T : u_T) (N : Nat) (ty : Nat → FieldType) : Prop :=
  (jw_cl w)[ci]? = some (C, T, N) ∧ (∀ c ∈ u_ws C T N, c ∈ jw_Ts w ∧ jg c = true) ∧ (∀ k, k < N → parseFieldDescriptor (T k).2.2.1 = some (ty k)) ∧ (∀ a, a < N → ∀ b, b < N → a ≠ b → (T a).2.1 ≠ (T b).2.1)
/-- the entry idx of the class own's pool names the field k of T -/
def jfl (w : jw_T) (own : String) (idx : Nat) (T : u_T) (k : Nat) : Prop :=
  Cond.fieldLink own idx (T k).1 (T k).2.1 (T k).2.2.1 ∈ jw_Ts w ∨ ∃ host, Cond.fieldLinkNest own idx (T k).1 (T k).2.1 (T k).2.2.1 host ∈ jw_Ts w
theorem va_P.one {D : va_G} {cl : List vw_C} {q : Nat × va_E} {H : Heap} (h : va_at D cl q H) : va_P D cl [q] H := by
  intro k x hx
  have hz : k < 1 := (List.getElem?_eq_some_iff.mp hx).1
  rw [show k = 0 by omega] at hx
  cases hx
  exact h
theorem va_at.plain {D : va_G} {cl : List vw_C} {q : Nat × va_E} {H : Heap} (h : va_at D cl q H) : ∃ cell, H[q.1]? = some cell ∧ cell.vm = .none := by
  obtain ⟨a, e⟩ := q
  cases e with
  | inl y =>
    obtain ⟨cA, N, f | f | f | f | f⟩ := y
    · exact ⟨_, h, rfl⟩
    · exact ⟨_, h, rfl⟩
    · exact ⟨_, h, rfl⟩
    · exact ⟨_, h, rfl⟩
    · exact ⟨_, h, rfl⟩
  | inr o =>
    obtain ⟨r, -, cell, h1, -, h3, -⟩ := h
    exact ⟨cell, h1, h3⟩
theorem jns.set {z a : Nat} {H H1 : Heap} (h : jns z H) (ho : ∀ q : Nat, q ≠ a → H1[q]? = H[q]?) (hc : ∃ cell, H1[a]? = some cell ∧ cell.vm = .none) : jns z H1 := by
  intro q hq cell hcell
  by_cases e : q = a
  · subst e
    obtain ⟨c2, h1, h2⟩ := hc
    cases hcell.symm.trans h1
    rw [h2]
    rfl
  · rw [ho q e] at hcell
    exact h q hq cell hcell
theorem jp.set {w : jw_T} {h : jh_T} {n a : Nat} {H H1 : Heap} {e : va_E} (hp : jp w h n H) (hz : H1.size = H.size) (ho : ∀ q : Nat, q ≠ a → H1[q]? = H[q]?) (hc : va_at (jw_D w) (jw_cl w) (a, je (jw_tc w) e) H1) : jp w (va_up h a e) n H1 := by
  refine ⟨by rw [hz]; exact hp.1, fun q h1 h2 => ?_⟩
  by_cases hq : q = a
  · subst hq
    rw [va_up_self]
    exact hc
  · rw [va_up_ne _ _ hq]
    exact (hp.2 q h1 h2).kept (ho q hq)
theorem jy.set {w : jw_T} {s : State} {h : jh_T} {n a i : Nat} {x : Bool} {H H1 : Heap} {locs : List Loc} {e : va_E} (Y : jy w s h n x H locs) (ha : jw_z w ≤ a) (hz : H1.size = H.size) (ho : ∀ q : Nat, q ≠ a → H1[q]? = H[q]?) (hc : va_at (jw_D w) (jw_cl w) (a, je (jw_tc w) e) H1) : jy w s (va_up h a e) n x H1 (locs ++ [⟨a, i⟩]) := by
  refine ⟨Y.1.set hz ho hc, fun q => by rw [hz]; exact Y.2.1 q, by rw [hz]; exact Y.2.2.1, fun q hq => (ho q (by omega)).trans (Y.2.2.2.1 q hq), fun q hq => ?_, Y.2.2.2.2.2.1, Y.2.2.2.2.2.2.set ho hc.plain⟩
  rcases List.mem_append.mp hq with h1 | h1
  · exact Y.2.2.2.2.1 q h1
  · rw [List.mem_singleton] at h1
    subst h1
    exact ha
theorem jy.push {w : jw_T} {s : State} {h : jh_T} {n : Nat} {H H1 : Heap} {locs : List Loc} {e : va_E} (Y : jy w s h n true H locs) (hz : H1.size = n + 1) (ho : ∀ q : Nat, q < n → H1[q]? = H[q]?) (hc : va_at (jw_D w) (jw_cl w) (n, je (jw_tc w) e) H1) : jy w s (va_up h n e) (n + 1) true H1 locs := by
  have hn := Y.2.1 rfl
  refine ⟨⟨by omega, fun q h1 h2 => ?_⟩, fun _ => hz.symm, by rw [hz]; have := Y.2.2.1; omega, fun q hq => (ho q (by have := Y.2.2.2.2.2.1; omega)).trans (Y.2.2.2.1 q hq), Y.2.2.2.2.1, by have := Y.2.2.2.2.2.1; omega, fun q h1 cell h2 => ?_⟩
  by_cases hq : q = n
  · subst hq
    rw [va_up_self]
    exact hc
  · rw [va_up_ne _ _ hq]
    have hl : q < n := by omega
    exact (Y.1.2 q h1 hl).kept (ho q hl)
  · by_cases hq : q = n
    · subst hq
      obtain ⟨c2, h3, h4⟩ := hc.plain
      cases h2.symm.trans h3
      rw [h4]
      rfl
    · have hl : q < H1.size := (Array.getElem?_eq_some_iff.mp h2).1
      rw [ho q (by omega)] at h2
      exact Y.2.2.2.2.2.2 q h1 cell h2
theorem J_getf {w : jw_T} {M : jm_T} {pc : Nat} {ls : jl_T} {st : List Value} {h : jh_T} {n : Nat} {xx : Bool} {kc ks : Nat} {Q : jr_T → jh_T → Nat → Bool → Prop} {idx ci k a N : Nat} {C : String} {T : u_T} {ty : Nat → FieldType} {fs : List Value} {v : Value} (hc : jcf w ci C T N ty) (hf : jfl w (jm_own M) idx T k) (hk : k < N) (d : decode (jm_cod M) pc = .ok (.getfield idx, 3)) (hz : jw_z w ≤ a) (ha : a < n) (hh : h a = .inr (ci, fs)) (hv : fs[k]? = some v)
    (kk : J w M (pc + 3) ls (v :: st) h n xx kc ks Q) : J w M pc ls (.ref a :: st) h n xx kc ks Q := by
  intro p e R s m args below meth c mc ms H locs cells slots arr X Y V K
  have hJ := X.2.2.2.2.2.2.2.2.2.2
  have hP : va_P (jw_D w) (jw_cl w) [(a, .inr (ci, fs))] H := va_P.one (by have q := Y.1.2 a hz ha; rw [hh] at q; exact q)
  have hts : ∀ q ∈ u_ws C T N, q.before args s = true := fun q hq => hJ.1 q (hc.2.1 q hq).1 (hc.2.1 q hq).2 _
  rcases hf with hf | ⟨host, hf⟩
  · exact va_get X.1 X.2.1 hts (fun _ q => q) X.2.2.2.2.2.2.1 hJ.2.1 hP 0 rfl hc.1 k hk (hJ.1 _ hf rfl _) (fun _ q => q) hv d (kk p e R s m args below meth c mc ms H locs cells slots arr X Y V K)
  · exact va_getN X.1 X.2.1 hts (fun _ q => q) X.2.2.2.2.2.2.1 hJ.2.1 hP 0 rfl hc.1 k hk (hJ.1 _ hf rfl _) (fun _ q => q) hv d (kk p e R s m args below meth c mc ms H locs cells slots arr X Y V K)
theorem J_putf {w : jw_T} {M : jm_T} {pc : Nat} {ls : jl_T} {st : List Value} {h : jh_T} {n : Nat} {xx : Bool} {kc ks : Nat} {Q : jr_T → jh_T → Nat → Bool → Prop} {idx ci k a N : Nat} {C : String} {T : u_T} {ty : Nat → FieldType} {fs : List Value} {v : Value} (hc : jcf w ci C T N ty) (hf : jfl w (jm_own M) idx T k) (hk : k < N) (d : decode (jm_cod M) pc = .ok (.putfield idx, 3)) (hfin : (T k).2.2.2 = false) (hn : narrow (ty k) v = v) (hfit : fits (ty k) v = true) (hz : jw_z w ≤ a) (ha : a < n) (hh : h a = .inr (ci, fs)) (hl : k < fs.length)
    (kk : J w M (pc + 3) ls st (va_up h a (.inr (ci, fs.set k v))) n xx kc ks Q) : J w M pc ls (v :: .ref a :: st) h n xx kc ks Q := by
  intro p e R s m args below meth c mc ms H locs cells slots arr X Y V K
  have hJ := X.2.2.2.2.2.2.2.2.2.2
  have hts : ∀ q ∈ u_ws C T N, q.before args s = true := fun q hq => hJ.1 q (hc.2.1 q hq).1 (hc.2.1 q hq).2 _
  have hap := va_apart (own := jm_own M) hts (fun _ q => q) ty hc.2.2.1 hc.2.2.2 hJ.2.1 hc.1
  have q0 := Y.1.2 a hz ha
  rw [hh] at q0
  obtain ⟨r, h1, cell, q1, q2, q3, q4⟩ := q0
  have hr : r = (C, T, N) := Option.some.inj (h1.symm.trans hc.1)
  subst hr
  obtain ⟨hS, hfc, kC, hkC, hkind⟩ := hJ.2.1.1 ci _ hc.1
  obtain ⟨cf, kf, fi, f, hi, hsl⟩ := hS k hk
  have hlay := hts _ (u_in_lay hk)
  unfold u_lay at hlay
  rw [if_neg (by rw [hfin]; decide)] at hlay
  have hst := (u_facts hfc hkC (u_lays hts (fun _ q => q) hk) hi).1
  have h6 := u_store hfc hkC hkind hlay hi (hc.2.2.1 k hk) hn hfit
  have fin : ∀ H' : Heap, H'[a]? = some (cell.setSlot f.slot v) → H'.size = H.size → (∀ q, q ≠ a → H'[q]? = H[q]?) → W p (jw_l w) e R s m args below meth c H' (locs ++ [⟨a, f.slot⟩]) cells slots (jq w below s mc ms Q) (F0 m (pc + 3) arr st) := by
    intro H' e1 e2 e3
    rw [hsl] at e1
    exact kk p e R s m args below meth c mc ms H' _ cells slots arr X (Y.set hz e2 e3 ⟨_, hc.1, t_OB.to (V := updV (vp_V fs) k v) ⟨_, e1, q2, q3, t_set q4 hap hk v⟩ (fun j _ => vp_updV_set hl v j)⟩) V K
  rcases hf with hf | ⟨host, hf⟩
  · exact W.putK X.1 X.2.1 (f := f) ⟨X.2.2.2.2.2.2.1, hJ.1 _ hf rfl _, ⟨_, _, _, hi⟩, hst⟩ (by rw [q2]; exact h6) q1 q3 (by rw [hsl]; exact k2_hasslot (q4 k hk)) rfl rfl d fin
  · exact va_WputK X.1 X.2.1 (f := f) X.2.2.2.2.2.2.1 (hJ.1 _ hf rfl _) hi hst (by rw [q2]; exact h6) q1 q3 (by rw [hsl]; exact k2_hasslot (q4 k hk)) rfl rfl d fin
theorem J_putfF {w : jw_T} {M : jm_T} {pc : Nat} {ls : jl_T} {st : List Value} {h : jh_T} {n : Nat} {xx : Bool} {kc ks : Nat} {Q : jr_T → jh_T → Nat → Bool → Prop} {idx ci k a N : Nat} {C : String} {T : u_T} {ty : Nat → FieldType} {fs : List Value} {v : Value} (hc : jcf w ci C T N ty) (hf : Cond.fieldLink (jm_own M) idx (T k).1 (T k).2.1 (T k).2.2.1 ∈ jw_Ts w) (hk : k < N) (d : decode (jm_cod M) pc = .ok (.putfield idx, 3)) (hfin : (T k).2.2.2 = true) (hin2 : jm_nam M = "<init>") (hdecl : (T k).1 = jm_own M) (hn : narrow (ty k) v = v) (hfit : fits (ty k) v = true) (hz : jw_z w ≤ a) (ha : a < n) (hh : h a = .inr (ci, fs)) (hl : k < fs.length)
    (kk : J w M (pc + 3) ls st (va_up h a (.inr (ci, fs.set k v))) n xx kc ks Q) : J w M pc ls (v :: .ref a :: st) h n xx kc ks Q := by
  intro p e R s m args below meth c mc ms H locs cells slots arr X Y V K
  have hJ := X.2.2.2.2.2.2.2.2.2.2
  have hts : ∀ q ∈ u_ws C T N, q.before args s = true := fun q hq => hJ.1 q (hc.2.1 q hq).1 (hc.2.1 q hq).2 _
  have hap := va_apart (own := jm_own M) hts (fun _ q => q) ty hc.2.2.1 hc.2.2.2 hJ.2.1 hc.1
  have q0 := Y.1.2 a hz ha
  rw [hh] at q0
  obtain ⟨r, h1, cell, q1, q2, q3, q4⟩ := q0
  have hr : r = (C, T, N) := Option.some.inj (h1.symm.trans hc.1)
  subst hr
  obtain ⟨hS, hfc, kC, hkC, hkind⟩ := hJ.2.1.1 ci _ hc.1
  obtain ⟨cf, kf, fi, f, hi, hsl⟩ := hS k hk
  have hlay := hts _ (u_in_lay hk)
  unfold u_lay at hlay
  rw [if_pos hfin] at hlay
  have hst := (u_facts hfc hkC (u_lays hts (fun _ q => q) hk) hi).1
  have hcf : m.cls = cf := by
    obtain ⟨_, _, c', _, _, _, -, -, hf', -, -, -, hown2, -⟩ := Cond.laysFinal_spec hlay
    have e1 : c' = cf := by have := hi.symm.trans hf'; simp at this; exact this.1.symm
    rw [hdecl] at hown2
    rw [← e1]; exact Option.some.inj (X.2.2.2.2.2.2.1.symm.trans hown2)
  have h6 := u_fits hfc hkC hkind (Or.inr hlay) hi (hc.2.2.1 k hk) hn hfit
  refine W.putFinK X.1 X.2.1 X.2.2.2.2.2.2.1 (hJ.1 _ hf rfl _) hi hst hcf (X.2.2.2.2.2.2.2.1.trans hin2) (by rw [q2]; exact h6) q1 q3 (by rw [hsl]; exact k2_hasslot (q4 k hk)) rfl rfl d ?_
  intro H' e1 e2 e3
  rw [hsl] at e1
  exact kk p e R s m args below meth c mc ms H' _ cells slots arr X (Y.set hz e2 e3 ⟨_, hc.1, t_OB.to (V := updV (vp_V fs) k v) ⟨_, e1, q2, q3, t_set q4 hap hk v⟩ (fun j _ => vp_updV_set hl v j)⟩) V K
theorem J_iald {w : jw_T} {M : jm_T} {pc : Nat} {ls : jl_T} {st : List Value} {h : jh_T} {n : Nat} {xx : Bool} {kc ks : Nat} {Q : jr_T → jh_T → Nat → Bool → Prop} {t a N : Nat} {f : Nat → Int32} {i : Int32} (k : Nat) (d : decode (jm_cod M) pc = .ok (.iaload, 1)) (ht : (jw_ty w)[t]? = some .int) (hz : jw_z w ≤ a) (ha : a < n) (hh : h a = .inl (t, N, .inl f)) (hin : vp_in i N) (hi : i.toNatClampNeg = k)
    (kk : J w M (pc + 1) ls (.int (f k) :: st) h n xx kc ks Q) : J w M pc ls (.int i :: .ref a :: st) h n xx kc ks Q := by
  intro p e R s m args below meth c mc ms H locs cells slots arr X Y V K
  have hJ := X.2.2.2.2.2.2.2.2.2.2
  have hP : va_P (jw_D w) (jw_cl w) [(a, .inl (jw_tc w t, N, .inl f))] H := va_P.one (by have q := Y.1.2 a hz ha; rw [hh] at q; exact q)
  subst hi
  exact va_iald X.1 X.2.1 hJ.2.1 hP 0 t rfl (jtys_at ht) hin d (kk p e R s m args below meth c mc ms H locs cells slots arr X Y V K)
theorem J_zald {w : jw_T} {M : jm_T} {pc : Nat} {ls : jl_T} {st : List Value} {h : jh_T} {n : Nat} {xx : Bool} {kc ks : Nat} {Q : jr_T → jh_T → Nat → Bool → Prop} {t a N : Nat} {f : Nat → Int32} {i : Int32} (k : Nat) (d : decode (jm_cod M) pc = .ok (.baload, 1)) (ht : (jw_ty w)[t]? = some .boolean) (hz : jw_z w ≤ a) (ha : a < n) (hh : h a = .inl (t, N, .inl f)) (hin : vp_in i N) (hi : i.toNatClampNeg = k)
    (kk : J w M (pc + 1) ls (.int (f k) :: st) h n xx kc ks Q) : J w M pc ls (.int i :: .ref a :: st) h n xx kc ks Q := by
  intro p e R s m args below meth c mc ms H locs cells slots arr X Y V K
  have hJ := X.2.2.2.2.2.2.2.2.2.2
  have hP : va_P (jw_D w) (jw_cl w) [(a, .inl (jw_tc w t, N, .inl f))] H := va_P.one (by have q := Y.1.2 a hz ha; rw [hh] at q; exact q)
  subst hi
  exact va_zald X.1 X.2.1 hJ.2.1 hP 0 t rfl (jtys_at ht) hin d (kk p e R s m args below meth c mc ms H locs cells slots arr X Y V K)
theorem J_lald {w : jw_T} {M : jm_T} {pc : Nat} {ls : jl_T} {st : List Value} {h : jh_T} {n : Nat} {xx : Bool} {kc ks : Nat} {Q : jr_T → jh_T → Nat → Bool → Prop} {t a N : Nat} {f : Nat → Int64} {i : Int32} (k : Nat) (d : decode (jm_cod M) pc = .ok (.laload, 1)) (ht : (jw_ty w)[t]? = some .long) (hz : jw_z w ≤ a) (ha : a < n) (hh : h a = .inl (t, N, .inr (.inl f))) (hin : vp_in i N) (hi : i.toNatClampNeg = k)
    (kk : J w M (pc + 1) ls (.long (f k) :: st) h n xx kc ks Q) : J w M pc ls (.int i :: .ref a :: st) h n xx kc ks Q := by
  intro p e R s m args below meth c mc ms H locs cells slots arr X Y V K
  have hJ := X.2.2.2.2.2.2.2.2.2.2
  have hP : va_P (jw_D w) (jw_cl w) [(a, .inl (jw_tc w t, N, .inr (.inl f)))] H := va_P.one (by have q := Y.1.2 a hz ha; rw [hh] at q; exact q)
  subst hi
  exact va_lald X.1 X.2.1 hJ.2.1 hP 0 t rfl (jtys_at ht) hin d (kk p e R s m args below meth c mc ms H locs cells slots arr X Y V K)
theorem J_aald {w : jw_T} {M : jm_T} {pc : Nat} {ls : jl_T} {st : List Value} {h : jh_T} {n : Nat} {xx : Bool} {kc ks : Nat} {Q : jr_T → jh_T → Nat → Bool → Prop} {t a N : Nat} {C : String} {f : Nat → Option Nat} {i : Int32} (k : Nat) (d : decode (jm_cod M) pc = .ok (.aaload, 1)) (ht : (jw_ty w)[t]? = some (.object C)) (hz : jw_z w ≤ a) (ha : a < n) (hh : h a = .inl (t, N, .inr (.inr (.inr (.inr f))))) (hin : vp_in i N) (hi : i.toNatClampNeg = k)
    (kk : J w M (pc + 1) ls (va_rf (f k) :: st) h n xx kc ks Q) : J w M pc ls (.int i :: .ref a :: st) h n xx kc ks Q := by
  intro p e R s m args below meth c mc ms H locs cells slots arr X Y V K
  have hJ := X.2.2.2.2.2.2.2.2.2.2
  have hP : va_P (jw_D w) (jw_cl w) [(a, .inl (jw_tc w t, N, .inr (.inr (.inr (.inr f)))))] H := va_P.one (by have q := Y.1.2 a hz ha; rw [hh] at q; exact q)
  subst hi
  exact va_aldq X.1 X.2.1 hJ.2.1 hP 0 t rfl (jtys_at ht) hin d (kk p e R s m args below meth c mc ms H locs cells slots arr X Y V K)
theorem J_alen {w : jw_T} {M : jm_T} {pc : Nat} {ls : jl_T} {st : List Value} {h : jh_T} {n : Nat} {xx : Bool} {kc ks : Nat} {Q : jr_T → jh_T → Nat → Bool → Prop} {t a : Nat} {ty : FieldType} {y : vp_A} {v : Int32} (d : decode (jm_cod M) pc = .ok (.arraylength, 1)) (ht : (jw_ty w)[t]? = some ty) (hz : jw_z w ≤ a) (ha : a < n) (hh : h a = .inl (t, y)) (hv : Int32.ofNat y.1 = v)
    (kk : J w M (pc + 1) ls (.int v :: st) h n xx kc ks Q) : J w M pc ls (.ref a :: st) h n xx kc ks Q := by
  intro p e R s m args below meth c mc ms H locs cells slots arr X Y V K
  have hJ := X.2.2.2.2.2.2.2.2.2.2
  have hP : va_P (jw_D w) (jw_cl w) [(a, .inl (jw_tc w t, y))] H := va_P.one (by have q := Y.1.2 a hz ha; rw [hh] at q; exact q)
  exact va_alen X.1 X.2.1 hJ.2.1 hP 0 t rfl (jtys_at ht) hv d (kk p e R s m args below meth c mc ms H locs cells slots arr X Y V K)
theorem J_iast {w : jw_T} {M : jm_T} {pc : Nat} {ls : jl_T} {st : List Value} {h : jh_T} {n : Nat} {xx : Bool} {kc ks : Nat} {Q : jr_T → jh_T → Nat → Bool → Prop} {t a N : Nat} {f : Nat → Int32} {i : Int32} {y : Int32} (k : Nat) (d : decode (jm_cod M) pc = .ok (.iastore, 1)) (ht : (jw_ty w)[t]? = some .int) (hz : jw_z w ≤ a) (ha : a < n) (hh : h a = .inl (t, N, .inl f)) (hin : vp_in i N) (hi : i.toNatClampNeg = k)
    (kk : J w M (pc + 1) ls st (va_up h a (.inl (t, N, .inl (va_up f k y)))) n xx kc ks Q) : J w M pc ls (.int y :: .int i :: .ref a :: st) h n xx kc ks Q := by
  intro p e R s m args below meth c mc ms H locs cells slots arr X Y V K
  have hJ := X.2.2.2.2.2.2.2.2.2.2
  have q0 : H[a]? = some (vp_cell (jw_tc w t) (N, .inl f)) := by have q := Y.1.2 a hz ha; rw [hh] at q; exact q
  subst hi
  refine W.iast X.1 X.2.1 q0 ((hJ.2.1.2 t _ (jtys_at ht)).1 N (fun j => .int (f j))) (fun q => by cases q) (by show ¬ (i < 0 ∨ (arrV _ _ _).slots.size ≤ _); rw [arrV_size]; exact hin) rfl rfl d fun H1 e1 z1 oq => ?_
  refine kk p e R s m args below meth c mc ms H1 _ cells slots arr X (Y.set hz z1 oq ?_) V K
  show H1[a]? = some (vp_cell _ _)
  rw [e1]
  rw [vp_cell_i, vp_cell_i, arrV_store]
  congr 2
  funext q
  by_cases hq : q = i.toNatClampNeg
  · subst hq
    simp [updV, va_up]
  · simp [updV, va_up, hq]
theorem J_last {w : jw_T} {M : jm_T} {pc : Nat} {ls : jl_T} {st : List Value} {h : jh_T} {n : Nat} {xx : Bool} {kc ks : Nat} {Q : jr_T → jh_T → Nat → Bool → Prop} {t a N : Nat} {f : Nat → Int64} {i : Int32} {y : Int64} (k : Nat) (d : decode (jm_cod M) pc = .ok (.lastore, 1)) (ht : (jw_ty w)[t]? = some .long) (hz : jw_z w ≤ a) (ha : a < n) (hh : h a = .inl (t, N, .inr (.inl f))) (hin : vp_in i N) (hi : i.toNatClampNeg = k)
    (kk : J w M (pc + 1) ls st (va_up h a (.inl (t, N, .inr (.inl (va_up f k y))))) n xx kc ks Q) : J w M pc ls (.long y :: .int i :: .ref a :: st) h n xx kc ks Q := by
  intro p e R s m args below meth c mc ms H locs cells slots arr X Y V K
  have hJ := X.2.2.2.2.2.2.2.2.2.2
  have q0 : H[a]? = some (vp_cell (jw_tc w t) (N, .inr (.inl f))) := by have q := Y.1.2 a hz ha; rw [hh] at q; exact q
  subst hi
  refine W.last X.1 X.2.1 q0 ((hJ.2.1.2 t _ (jtys_at ht)).1 N (fun j => .long (f j))) (fun q => by cases q) (by show ¬ (i < 0 ∨ (arrV _ _ _).slots.size ≤ _); rw [arrV_size]; exact hin) rfl rfl d fun H1 e1 z1 oq => ?_
  refine kk p e R s m args below meth c mc ms H1 _ cells slots arr X (Y.set hz z1 oq ?_) V K
  show H1[a]? = some (vp_cell _ _)
  rw [e1]
  rw [vp_cell_l, vp_cell_l, arrV_store]
  congr 2
  funext q
  by_cases hq : q = i.toNatClampNeg
  · subst hq
    simp [updV, va_up]
  · simp [updV, va_up, hq]
theorem J_zast {w : jw_T} {M : jm_T} {pc : Nat} {ls : jl_T} {st : List Value} {h : jh_T} {n : Nat} {xx : Bool} {kc ks : Nat} {Q : jr_T → jh_T → Nat → Bool → Prop} {t a N : Nat} {f : Nat → Int32} {i : Int32} {y : Int32} (k : Nat) (d : decode (jm_cod M) pc = .ok (.bastore, 1)) (ht : (jw_ty w)[t]? = some .boolean) (hz : jw_z w ≤ a) (ha : a < n) (hh : h a = .inl (t, N, .inl f)) (hin : vp_in i N) (hi : i.toNatClampNeg = k)
    (kk : J w M (pc + 1) ls st (va_up h a (.inl (t, N, .inl (va_up f k (vp_nar .boolean y))))) n xx kc ks Q) : J w M pc ls (.int y :: .int i :: .ref a :: st) h n xx kc ks Q := by
  intro p e R s m args below meth c mc ms H locs cells slots arr X Y V K
  have hJ := X.2.2.2.2.2.2.2.2.2.2
  have q0 : H[a]? = some (vp_cell (jw_tc w t) (N, .inl f)) := by have q := Y.1.2 a hz ha; rw [hh] at q; exact q
  subst hi
  refine W.zast X.1 X.2.1 q0 ((hJ.2.1.2 t _ (jtys_at ht)).1 N (fun j => .int (f j))) (fun q => by cases q) (by show ¬ (i < 0 ∨ (arrV _ _ _).slots.size ≤ _); rw [arrV_size]; exact hin) rfl rfl d fun H1 e1 z1 oq => ?_
  refine kk p e R s m args below meth c mc ms H1 _ cells slots arr X (Y.set hz z1 oq ?_) V K
  show H1[a]? = some (vp_cell _ _)
  rw [e1]
  rw [vp_cell_i, vp_cell_i, arrV_store]
  congr 2
  funext q
  by_cases hq : q = i.toNatClampNeg
  · subst hq
    simp [updV, va_up, vp_nar, narrow]
  · simp [updV, va_up, hq]
theorem J_aast {w : jw_T} {M : jm_T} {pc : Nat} {ls : jl_T} {st : List Value} {h : jh_T} {n : Nat} {xx : Bool} {kc ks : Nat} {Q : jr_T → jh_T → Nat → Bool → Prop} {t a N v ci : Nat} {r : vw_C} {vs : List Value} {f : Nat → Option Nat} {i : Int32} (k : Nat) (d : decode (jm_cod M) pc = .ok (.aastore, 1)) (ht : (jw_ty w)[t]? = some (.object r.1)) (hc : (jw_cl w)[ci]? = some r) (hz : jw_z w ≤ a) (ha : a < n) (hh : h a = .inl (t, N, .inr (.inr (.inr (.inr f))))) (hzv : jw_z w ≤ v) (hav : v < n) (hv : h v = .inr (ci, vs)) (hin : vp_in i N) (hi : i.toNatClampNeg = k)
    (kk : J w M (pc + 1) ls st (va_up h a (.inl (t, N, .inr (.inr (.inr (.inr (va_up f k (some v)))))))) n xx kc ks Q) : J w M pc ls (.ref v :: .int i :: .ref a :: st) h n xx kc ks Q := by
  intro p e R s m args below meth c mc ms H locs cells slots arr X Y V K
  have hJ := X.2.2.2.2.2.2.2.2.2.2
  have q0 : H[a]? = some (vp_cell (jw_tc w t) (N, .inr (.inr (.inr (.inr f))))) := by have q := Y.1.2 a hz ha; rw [hh] at q; exact q
  have q1 := Y.1.2 v hzv hav
  rw [hv] at q1
  obtain ⟨r', hr', cellV, g1, g2, g3, -⟩ := q1
  subst hi
  have hlt : i.toNatClampNeg < N := Nat.not_le.mp fun q => hin (Or.inr q)
  have h0 : ¬ i < 0 := fun q => hin (Or.inl q)
  have hcls := (hJ.2.1.1 ci r hc).2
  obtain ⟨kA, comp, k1, k2, k3, -⟩ := (hJ.2.1.2 t _ (jtys_at ht)).2
  have hcomp : comp = (jw_D w).1 ci := Option.some.inj (k3.symm.trans hcls.1)
  subst hcomp
  obtain ⟨kC, hkC, -⟩ := hcls.2
  refine W.aast X.1 X.2.1 q0 (fun q h => by cases h) (fun h => by cases h) k1 k2 rfl hkC ⟨h0, by show _ < (arrV _ _ _).slots.size; rw [arrV_size]; exact hlt⟩ g1 (fun q h => by rw [g3] at h; cases h) (by rw [g2]; exact hkC) (by rw [g2]; exact va_assign hcls) rfl rfl d fun H1 e1 z1 oq => ?_
  refine kk p e R s m args below meth c mc ms H1 _ cells slots arr X (Y.set hz z1 oq ?_) V K
  show H1[a]? = some (vp_cell _ _)
  rw [e1]
  rw [vp_cell_q, vp_cell_q, arrV_store]
  congr 2
  funext q
  by_cases hq : q = i.toNatClampNeg
  · subst hq
    simp [updV, va_up, va_rf]
  · simp [updV, va_up, hq]
theorem jy.script {w : jw_T} {s : State} {h : jh_T} {n : Nat} {x : Bool} {H : Heap} {locs : List Loc} (hJ : jk w s) (Y : jy w s h n x H locs) : va_X (jw_b w) (jw_L w) (jw_xs w) s H := hJ.2.2.1.kept (Y.2.2.2.1 _ hJ.2.2.2.1)
theorem J_slen {w : jw_T} {M : jm_T} {pc : Nat} {ls : jl_T} {st : List Value} {h : jh_T} {n : Nat} {xx : Bool} {kc ks : Nat} {Q : jr_T → jh_T → Nat → Bool → Prop} {v : Int32} (d : decode (jm_cod M) pc = .ok (.arraylength, 1)) (hv : nI (jw_L w) = v)
    (kk : J w M (pc + 1) ls (.int v :: st) h n xx kc ks Q) : J w M pc ls (.ref (jw_b w) :: st) h n xx kc ks Q := by
  intro p e R s m args below meth c mc ms H locs cells slots arr X Y V K
  have hJ := X.2.2.2.2.2.2.2.2.2.2
  subst hv
  refine va_slen (A := fun q => jw_z w ≤ q) (H0 := s.heap) X.1 X.2.1 hJ.2.2.1 (by have := hJ.2.2.2.1; have := hJ.2.2.2.2.1; omega) (by have := hJ.2.2.2.1; show ¬ jw_z w ≤ jw_b w; omega) ⟨Y.2.2.1, fun q _ h2 => Y.2.2.2.1 q (by omega), Y.2.2.2.2.1⟩ d (kk p e R s m args below meth c mc ms H locs cells slots arr X Y V K)
theorem J_sld {w : jw_T} {M : jm_T} {pc : Nat} {ls : jl_T} {st : List Value} {h : jh_T} {n : Nat} {xx : Bool} {kc ks : Nat} {Q : jr_T → jh_T → Nat → Bool → Prop} {i : Int32} (k : Nat) (d : decode (jm_cod M) pc = .ok (.iaload, 1)) (hin : vp_in i (jw_L w)) (hi : i.toNatClampNeg = k)
    (kk : J w M (pc + 1) ls (.int (jw_xs w k) :: st) h n xx kc ks Q) : J w M pc ls (.int i :: .ref (jw_b w) :: st) h n xx kc ks Q := by
  intro p e R s m args below meth c mc ms H locs cells slots arr X Y V K
  have hJ := X.2.2.2.2.2.2.2.2.2.2
  subst hi
  refine va_sld (A := fun q => jw_z w ≤ q) (H0 := s.heap) X.1 X.2.1 hJ.2.2.1 (by have := hJ.2.2.2.1; have := hJ.2.2.2.2.1; omega) (by have := hJ.2.2.2.1; show ¬ jw_z w ≤ jw_b w; omega) ⟨Y.2.2.1, fun q _ h2 => Y.2.2.2.1 q (by omega), Y.2.2.2.2.1⟩ hin d (kk p e R s m args below meth c mc ms H locs cells slots arr X Y V K)
theorem J_new {w : jw_T} {M : jm_T} {pc : Nat} {ls : jl_T} {st : List Value} {h : jh_T} {n : Nat} {xx : Bool} {kc ks : Nat} {Q : jr_T → jh_T → Nat → Bool → Prop} {idx ci N : Nat} {C : String} {T : u_T} {ty : Nat → FieldType} {fs : List Value} (hc : jcf w ci C T N ty) (hcl : Cond.classLink (jm_own M) idx C ∈ jw_Ts w) (hins : Cond.instantiable C N ∈ jw_Ts w) (hini : Cond.initialized C ∈ jw_Ts w) (d : decode (jm_cod M) pc = .ok (.new idx, 3)) (hfs : ∀ j, j < N → defaultValue (ty j) = vp_V fs j)
    (kk : J w M (pc + 3) ls (.ref n :: st) (va_up h n (.inr (ci, fs))) (n + 1) true kc ks Q) : J w M pc ls st h n true (kc + 1) (ks + N) Q := by
  intro p e R s m args below meth c mc ms H locs cells slots arr X Y V K
  have hJ := X.2.2.2.2.2.2.2.2.2.2
  have hts : ∀ q ∈ u_ws C T N, q.before args s = true := fun q hq => hJ.1 q (hc.2.1 q hq).1 (hc.2.1 q hq).2 _
  have hKn := hJ.2.1.1 ci _ hc.1
  refine W.newcK X.1 X.2.1 X.2.2.2.2.2.2.1 (hJ.1 _ hcl rfl _) (hJ.1 _ hins rfl _) (hJ.1 _ hini rfl _) rfl d (by omega) (by omega) hKn.2.1 (Y.2.1 rfl).symm fun H1 kC hkC e1 z1 o1 => ?_
  exact kk p e R s m args below meth c mc ms H1 locs (cells + 1) (slots + N) arr X (Y.push z1 o1 ⟨_, hc.1, (u_born ty hts (fun _ q => q) hKn hkC e1 hc.2.2.1).to hfs⟩) V ⟨by omega, by omega, K.2.2⟩
theorem J_newa {w : jw_T} {M : jm_T} {pc : Nat} {ls : jl_T} {st : List Value} {h : jh_T} {n : Nat} {xx : Bool} {kc ks : Nat} {Q : jr_T → jh_T → Nat → Bool → Prop} {t N : Nat} {atype : ArrayType} {ty : FieldType} {i : Int32} {y : vp_A} (ht : (jw_ty w)[t]? = some ty) (hty : newarray.typeOf atype = ty) (hno : ∀ C, ty ≠ .object C) (ha : Cond.arrayClass ty ∈ jw_Ts w) (d : decode (jm_cod M) pc = .ok (.newarray atype, 2)) (hy : ∀ cA : ClassId, vp_cell cA y = arrV cA N (fun _ => defaultValue ty)) (hn : ¬ i < 0) (hN : i.toNatClampNeg = N) (hb : N * componentBytes ty ≤ 536870912)
    (kk : J w M (pc + 2) ls (.ref n :: st) (va_up h n (.inl (t, y))) (n + 1) true kc ks Q) : J w M pc ls (.int i :: st) h n true (kc + 1) (ks + N) Q := by
  intro p e R s m args below meth c mc ms H locs cells slots arr X Y V K
  have hJ := X.2.2.2.2.2.2.2.2.2.2
  subst hty
  refine va_newaK X.1 X.2.1 (hJ.1 _ ha rfl _) rfl d rfl hn hN hb (by omega) (by omega) (Y.2.1 rfl).symm fun H1 cA e1 z1 o1 hAr hNm => ?_
  have hcA : jw_tc w t = cA := by
    have h9 := (hJ.2.1.2 t _ (jtys_at ht)).2
    have h8 : s.vm.findClass ("[" ++ (newarray.typeOf atype).toString) = some (jw_tc w t) := by cases atype <;> exact h9
    exact Option.some.inj (h8.symm.trans hNm)
  exact kk p e R s m args below meth c mc ms H1 locs (cells + 1) (slots + N) arr X (Y.push z1 o1 (by show H1[n]? = some (vp_cell (jw_tc w t) y); rw [hy, hcA]; exact e1)) V ⟨by omega, by omega, K.2.2⟩
theorem J_anew {w : jw_T} {M : jm_T} {pc : Nat} {ls : jl_T} {st : List Value} {h : jh_T} {n : Nat} {xx : Bool} {kc ks : Nat} {Q : jr_T → jh_T → Nat → Bool → Prop} {idx t N : Nat} {C : String} {i : Int32} (ht : (jw_ty w)[t]? = some (.object C)) (hcl : Cond.classLink (jm_own M) idx C ∈ jw_Ts w) (ho : Cond.arrayOver (.object C) ∈ jw_Ts w) (d : decode (jm_cod M) pc = .ok (.anewarray idx, 3)) (hn : ¬ i < 0) (hN : i.toNatClampNeg = N) (hb : N * 4 ≤ 536870912)
    (kk : J w M (pc + 3) ls (.ref n :: st) (va_up h n (.inl (t, N, .inr (.inr (.inr (.inr (fun _ => none))))))) (n + 1) true kc ks Q) : J w M pc ls (.int i :: st) h n true (kc + 1) (ks + N) Q := by
  intro p e R s m args below meth c mc ms H locs cells slots arr X Y V K
  have hJ := X.2.2.2.2.2.2.2.2.2.2
  subst hN
  have hs := Y.2.1 rfl
  refine W.anew X.1 X.2.1 X.2.2.2.2.2.2.1 (hJ.1 _ hcl rfl _) (hJ.1 _ ho (by rfl) _) rfl d rfl hn hb (by omega) (by omega) fun cA kA comp f1 f2 f3 f4 => ?_
  have hcA : jw_tc w t = cA := by
    obtain ⟨kA', comp', -, -, -, h8⟩ := (hJ.2.1.2 t _ (jtys_at ht)).2
    exact Option.some.inj (h8.symm.trans f1)
  generalize hH1 : H.push ({ cls := cA, slots := Array.replicate i.toNatClampNeg .null, vm := .none } : Cell) = H1
  have z1 : H1.size = n + 1 := by rw [← hH1, Array.size_push, hs]
  have o1 : ∀ q : Nat, q < n → H1[q]? = H[q]? := fun q hq => by rw [← hH1, Array.getElem?_push, if_neg (by omega)]
  have e1 : H1[n]? = some (vp_cell (jw_tc w t) (i.toNatClampNeg, .inr (.inr (.inr (.inr (fun _ => none)))))) := by
    rw [← hH1, Array.getElem?_push, if_pos (by omega), hcA, vp_cell_q]
    congr 1
    simp only [arrV, va_rf]
    congr 1
    apply Array.ext
    · simp
    · intro q h1 h2
      simp
  rw [← hs]
  exact kk p e R s m args below meth c mc ms H1 locs (cells + 1) (slots + i.toNatClampNeg) arr X (Y.push z1 o1 e1) V ⟨by omega, by omega, K.2.2⟩
