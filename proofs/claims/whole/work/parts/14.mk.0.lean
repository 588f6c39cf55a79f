/-! MAKING: constructors as functions of what lies there (Γ, φ, n cells); the costs come with the answer. -/
abbrev mq_T (α : Type) : Type := α × (gm_T × ph_T × Nat) × (Nat × Nat)
def gz (w : jw_T) (Γ : gm_T) (n : Nat) : Prop := gd w Γ n ∧ jw_z w ≤ n
def mqQ (w : jw_T) (r : jr_T) (s : gm_T × ph_T × Nat) : jr_T → jh_T → Nat → Bool → Prop := fun r' h' n' x' => r' = r ∧ h' = pic s.1 s.2.1 ∧ n' = s.2.2 ∧ x' = true ∧ gz w s.1 s.2.2
def mA {α : Type} (c s : Nat) (x : Option (mq_T α)) : Option (mq_T α) := match x with
  | none => none
  | some q => some (q.1, q.2.1, (c + q.2.2.1, s + q.2.2.2))
theorem mA_some {α : Type} {c s : Nat} {x : Option (mq_T α)} {q : mq_T α} (h : mA c s x = some q) : ∃ q0, x = some q0 ∧ q = (q0.1, q0.2.1, (c + q0.2.2.1, s + q0.2.2.2)) := by
  match x, h with
  | none, h => cases h
  | some q0, h => exact ⟨q0, rfl, (Option.some.inj h).symm⟩
def m0 (φ : ph_T) (n : Nat) : ph_T := (va_up φ.1 n (fun _ => 0), va_up φ.2.1 n (fun _ => 0), va_up φ.2.2 n (fun _ => none))
/-- a new object -/
def mN {α : Type} (Γ : gm_T) (φ : ph_T) (n ci : Nat) (k : gm_T → ph_T → Nat → Option (mq_T α)) : Option (mq_T α) := mA 1 (fN ci) (k (va_up Γ n (.inr ci)) (m0 φ n) (n + 1))
/-- a new array -/
def mR {α : Type} (Γ : gm_T) (φ : ph_T) (n t : Nat) (i : Int32) (k : gm_T → ph_T → Nat → Option (mq_T α)) : Option (mq_T α) :=
  if i < 0 ∨ 67108864 < i.toNatClampNeg then none else mA 1 i.toNatClampNeg (k (va_up Γ n (.inl (t, i.toNatClampNeg))) (m0 φ n) (n + 1))
def mB {α β : Type} (x : Option (mq_T α)) (k : α → gm_T → ph_T → Nat → Option (mq_T β)) : Option (mq_T β) := match x with
  | none => none
  | some q => mA q.2.2.1 q.2.2.2 (k q.1 q.2.1.1 q.2.1.2.1 q.2.1.2.2)
theorem mB_some {α β : Type} {x : Option (mq_T α)} {k : α → gm_T → ph_T → Nat → Option (mq_T β)} {q : mq_T β} (h : mB x k = some q) : ∃ v Γ1 φ1 n1 c s q1, x = some (v, (Γ1, φ1, n1), (c, s)) ∧ k v Γ1 φ1 n1 = some q1 ∧ q = (q1.1, q1.2.1, (c + q1.2.2.1, s + q1.2.2.2)) := by
  match x, h with
  | none, h => cases h
  | some (v, (Γ1, φ1, n1), (c, s)), h =>
    obtain ⟨q0, h1, h2⟩ := mA_some h
    exact ⟨v, Γ1, φ1, n1, c, s, q0, rfl, h1, h2⟩
theorem m0_ne {φ : ph_T} {n : Nat} : ∀ b, b ≠ n → (m0 φ n).1 b = φ.1 b ∧ (m0 φ n).2.1 b = φ.2.1 b ∧ (m0 φ n).2.2 b = φ.2.2 b := fun b hb => ⟨va_up_ne _ _ hb, va_up_ne _ _ hb, va_up_ne _ _ hb⟩
theorem pic_new {Γ : gm_T} {φ : ph_T} {n : Nat} {g : (Nat × Nat) ⊕ Nat} {e : va_E} (he : e = pcell g (m0 φ n) n) : va_up (pic Γ φ) n e = pic (va_up Γ n g) (m0 φ n) := by
  funext b
  by_cases hb : b = n
  · subst hb
    rw [va_up_self, he]
    unfold pic
    rw [va_up_self]
  · rw [va_up_ne _ _ hb]
    unfold pic
    rw [va_up_ne _ _ hb]
    exact (pcell_ne (m0_ne b hb)).symm
theorem gz.obj {w : jw_T} {Γ : gm_T} {n ci : Nat} (h : gz w Γ n) : gz w (va_up Γ n (.inr ci)) (n + 1) := by
  refine ⟨fun a => ⟨fun c hc h13 => ?_, fun t N hc => ?_⟩, by have := h.2; omega⟩
  · by_cases ha : a = n
    · have := h.2
      omega
    · rw [va_up_ne _ _ ha] at hc
      have := (h.1 a).1 c hc h13
      omega
  · by_cases ha : a = n
    · subst ha
      rw [va_up_self] at hc
      cases hc
    · rw [va_up_ne _ _ ha] at hc
      have := (h.1 a).2 t N hc
      omega
theorem gz.arr {w : jw_T} {Γ : gm_T} {n t N : Nat} (h : gz w Γ n) (hN : N < 2 ^ 31) : gz w (va_up Γ n (.inl (t, N))) (n + 1) := by
  refine ⟨fun a => ⟨fun c hc h13 => ?_, fun t' N' hc => ?_⟩, by have := h.2; omega⟩
  · by_cases ha : a = n
    · subst ha
      rw [va_up_self] at hc
      cases hc
    · rw [va_up_ne _ _ ha] at hc
      have := (h.1 a).1 c hc h13
      omega
  · by_cases ha : a = n
    · subst ha
      rw [va_up_self] at hc
      cases hc
      have := h.2
      omega
    · rw [va_up_ne _ _ ha] at hc
      have := (h.1 a).2 t' N' hc
      omega
def okty : FieldType → Bool
  | .int => true
  | .long => true
  | .boolean => true
  | .object _ => true
  | .array _ => true
  | _ => false
theorem dv_ok {φ : ph_T} {n ci : Nat} (h : (List.range (fN ci)).all (fun j => okty (fty ci j)) = true) : ∀ j, j < fN ci → defaultValue (fty ci j) = pf (m0 φ n) n ci j := by
  intro j hj
  have h1 := List.all_eq_true.mp h j (List.mem_range.mpr hj)
  unfold pf m0
  simp only [va_up_self]
  generalize fty ci j = ty at h1
  cases ty <;> first | rfl | cases h1
theorem F_new {w : jw_T} {M : jm_T} {pc : Nat} {ls : jl_T} {st : List Value} {Γ : gm_T} {φ : ph_T} {n : Nat} {α : Type} {r : α → jr_T} {q : mq_T α} {k : gm_T → ph_T → Nat → Option (mq_T α)} {idx ci : Nat} {C : String} {T : u_T} (hG : gz w Γ n) (hci : ci < 13) (hc : jcf w ci C T (fN ci) (fty ci)) (hcl : Cond.classLink (jm_own M) idx C ∈ jw_Ts w) (hins : Cond.instantiable C (fN ci) ∈ jw_Ts w) (hini : Cond.initialized C ∈ jw_Ts w) (d : decode (jm_cod M) pc = .ok (.new idx, 3)) (hdv : (List.range (fN ci)).all (fun j => okty (fty ci j)) = true) (H : mN Γ φ n ci k = some q)
    (kk : ∀ (Γ1 : gm_T) (φ1 : ph_T) (n1 : Nat) (q1 : mq_T α), gz w Γ1 n1 → k Γ1 φ1 n1 = some q1 → J w M (pc + 3) ls (.ref n :: st) (pic Γ1 φ1) n1 true q1.2.2.1 q1.2.2.2 (mqQ w (r q1.1) q1.2.1)) : J w M pc ls st (pic Γ φ) n true q.2.2.1 q.2.2.2 (mqQ w (r q.1) q.2.1) := by
  unfold mN at H
  obtain ⟨q1, h1, e⟩ := mA_some H
  subst e
  have h2 := kk _ _ _ q1 hG.obj h1
  refine J.kk (Nat.add_comm _ _) (Nat.add_comm _ _) ?_
  refine J_new (xx := true) (fs := (List.range (fN ci)).map (pf (m0 φ n) n ci)) hc hcl hins hini d (fun j hj => ?_) ?_
  · rw [dv_ok hdv j hj]
    unfold vp_V
    rw [List.getD_eq_getElem?_getD, flds_at hj]
    rfl
  · rw [pic_new (φ := φ) (g := .inr ci) (e := .inr (ci, (List.range (fN ci)).map (pf (m0 φ n) n ci))) rfl]
    exact h2
theorem F_newa0 {w : jw_T} {M : jm_T} {pc : Nat} {ls : jl_T} {st : List Value} {Γ : gm_T} {φ : ph_T} {n : Nat} {α : Type} {r : α → jr_T} {q : mq_T α} {k : gm_T → ph_T → Nat → Option (mq_T α)} {i : Int32} (hw : jok w) (hG : gz w Γ n) (ha : Cond.arrayClass .int ∈ jw_Ts w) (d : decode (jm_cod M) pc = .ok (.newarray .int, 2)) (H : mR Γ φ n 0 i k = some q)
    (kk : ∀ (Γ1 : gm_T) (φ1 : ph_T) (n1 : Nat) (q1 : mq_T α), gz w Γ1 n1 → k Γ1 φ1 n1 = some q1 → J w M (pc + 2) ls (.ref n :: st) (pic Γ1 φ1) n1 true q1.2.2.1 q1.2.2.2 (mqQ w (r q1.1) q1.2.1)) : J w M pc ls (.int i :: st) (pic Γ φ) n true q.2.2.1 q.2.2.2 (mqQ w (r q.1) q.2.1) := by
  unfold mR at H
  have hi : ¬ (i < 0 ∨ 67108864 < i.toNatClampNeg) := by
    intro h9
    rw [if_pos h9] at H
    cases H
  rw [if_neg hi] at H
  obtain ⟨q1, h1, e⟩ := mA_some H
  subst e
  have h2 := kk _ _ _ q1 (hG.arr (by omega)) h1
  refine J.kk (Nat.add_comm _ _) (Nat.add_comm _ _) ?_
  refine J_newa (xx := true) (t := 0) (N := i.toNatClampNeg) (ty := .int) (y := (i.toNatClampNeg, .inl (fun _ => 0))) (jty_at hw rfl) rfl (fun C h9 => by cases h9) ha d (fun cA => rfl) (fun h9 => hi (Or.inl h9)) rfl (by show i.toNatClampNeg * 4 ≤ 536870912; omega) ?_
  rw [pic_new (g := .inl (0, i.toNatClampNeg)) (by simp [pcell, pa, m0, va_up_self])]
  exact h2
theorem F_newa1 {w : jw_T} {M : jm_T} {pc : Nat} {ls : jl_T} {st : List Value} {Γ : gm_T} {φ : ph_T} {n : Nat} {α : Type} {r : α → jr_T} {q : mq_T α} {k : gm_T → ph_T → Nat → Option (mq_T α)} {i : Int32} (hw : jok w) (hG : gz w Γ n) (ha : Cond.arrayClass .long ∈ jw_Ts w) (d : decode (jm_cod M) pc = .ok (.newarray .long, 2)) (H : mR Γ φ n 1 i k = some q)
    (kk : ∀ (Γ1 : gm_T) (φ1 : ph_T) (n1 : Nat) (q1 : mq_T α), gz w Γ1 n1 → k Γ1 φ1 n1 = some q1 → J w M (pc + 2) ls (.ref n :: st) (pic Γ1 φ1) n1 true q1.2.2.1 q1.2.2.2 (mqQ w (r q1.1) q1.2.1)) : J w M pc ls (.int i :: st) (pic Γ φ) n true q.2.2.1 q.2.2.2 (mqQ w (r q.1) q.2.1) := by
  unfold mR at H
  have hi : ¬ (i < 0 ∨ 67108864 < i.toNatClampNeg) := by
    intro h9
    rw [if_pos h9] at H
    cases H
  rw [if_neg hi] at H
  obtain ⟨q1, h1, e⟩ := mA_some H
  subst e
  have h2 := kk _ _ _ q1 (hG.arr (by omega)) h1
  refine J.kk (Nat.add_comm _ _) (Nat.add_comm _ _) ?_
  refine J_newa (xx := true) (t := 1) (N := i.toNatClampNeg) (ty := .long) (y := (i.toNatClampNeg, .inr (.inl (fun _ => 0)))) (jty_at hw rfl) rfl (fun C h9 => by cases h9) ha d (fun cA => rfl) (fun h9 => hi (Or.inl h9)) rfl (by show i.toNatClampNeg * 8 ≤ 536870912; omega) ?_
  rw [pic_new (g := .inl (1, i.toNatClampNeg)) (by simp [pcell, pa, m0, va_up_self])]
  exact h2
theorem F_newa2 {w : jw_T} {M : jm_T} {pc : Nat} {ls : jl_T} {st : List Value} {Γ : gm_T} {φ : ph_T} {n : Nat} {α : Type} {r : α → jr_T} {q : mq_T α} {k : gm_T → ph_T → Nat → Option (mq_T α)} {i : Int32} (hw : jok w) (hG : gz w Γ n) (ha : Cond.arrayClass .boolean ∈ jw_Ts w) (d : decode (jm_cod M) pc = .ok (.newarray .boolean, 2)) (H : mR Γ φ n 2 i k = some q)
    (kk : ∀ (Γ1 : gm_T) (φ1 : ph_T) (n1 : Nat) (q1 : mq_T α), gz w Γ1 n1 → k Γ1 φ1 n1 = some q1 → J w M (pc + 2) ls (.ref n :: st) (pic Γ1 φ1) n1 true q1.2.2.1 q1.2.2.2 (mqQ w (r q1.1) q1.2.1)) : J w M pc ls (.int i :: st) (pic Γ φ) n true q.2.2.1 q.2.2.2 (mqQ w (r q.1) q.2.1) := by
  unfold mR at H
  have hi : ¬ (i < 0 ∨ 67108864 < i.toNatClampNeg) := by
    intro h9
    rw [if_pos h9] at H
    cases H
  rw [if_neg hi] at H
  obtain ⟨q1, h1, e⟩ := mA_some H
  subst e
  have h2 := kk _ _ _ q1 (hG.arr (by omega)) h1
  refine J.kk (Nat.add_comm _ _) (Nat.add_comm _ _) ?_
  refine J_newa (xx := true) (t := 2) (N := i.toNatClampNeg) (ty := .boolean) (y := (i.toNatClampNeg, .inl (fun _ => 0))) (jty_at hw rfl) rfl (fun C h9 => by cases h9) ha d (fun cA => rfl) (fun h9 => hi (Or.inl h9)) rfl (by show i.toNatClampNeg * 1 ≤ 536870912; omega) ?_
  rw [pic_new (g := .inl (2, i.toNatClampNeg)) (by simp [pcell, pa, m0, va_up_self])]
  exact h2
theorem F_anew {w : jw_T} {M : jm_T} {pc : Nat} {ls : jl_T} {st : List Value} {Γ : gm_T} {φ : ph_T} {n : Nat} {α : Type} {r : α → jr_T} {q : mq_T α} {k : gm_T → ph_T → Nat → Option (mq_T α)} {i : Int32} {idx t : Nat} {C : String} (hG : gz w Γ n) (ht : (jw_ty w)[t]? = some (.object C)) (h3 : 3 ≤ t) (hcl : Cond.classLink (jm_own M) idx C ∈ jw_Ts w) (ho : Cond.arrayOver (.object C) ∈ jw_Ts w) (d : decode (jm_cod M) pc = .ok (.anewarray idx, 3)) (H : mR Γ φ n t i k = some q)
    (kk : ∀ (Γ1 : gm_T) (φ1 : ph_T) (n1 : Nat) (q1 : mq_T α), gz w Γ1 n1 → k Γ1 φ1 n1 = some q1 → J w M (pc + 3) ls (.ref n :: st) (pic Γ1 φ1) n1 true q1.2.2.1 q1.2.2.2 (mqQ w (r q1.1) q1.2.1)) : J w M pc ls (.int i :: st) (pic Γ φ) n true q.2.2.1 q.2.2.2 (mqQ w (r q.1) q.2.1) := by
  unfold mR at H
  have hi : ¬ (i < 0 ∨ 67108864 < i.toNatClampNeg) := by
    intro h9
    rw [if_pos h9] at H
    cases H
  rw [if_neg hi] at H
  obtain ⟨q1, h1, e⟩ := mA_some H
  subst e
  have h2 := kk _ _ _ q1 (hG.arr (by omega)) h1
  refine J.kk (Nat.add_comm _ _) (Nat.add_comm _ _) ?_
  refine J_anew (xx := true) (t := t) (N := i.toNatClampNeg) ht hcl ho d (fun h9 => hi (Or.inl h9)) rfl (by omega) ?_
  rw [pic_new (g := .inl (t, i.toNatClampNeg)) (by
    have h5 : ¬ t = 1 := by omega
    have h6 : ¬ t < 3 := by omega
    simp [pcell, pa, m0, va_up_self, h5, h6])]
  exact h2
theorem jc.exact {w : jw_T} {M : jm_T} {as : List Value} {h : jh_T} {n : Nat} {Γ : gm_T} {φ' : ph_T} {r : jr_T} (hc : jc w M as h n true 0 0 (fq Γ n r φ')) : jc w M as h n true 0 0 (fun r' h' n' x' => r' = r ∧ h' = pic Γ φ' ∧ n' = n ∧ x' = true) := by
  intro p e R s m below meth c T a1 a2 a3 a4 a5
  obtain ⟨t, b1, o, r1, h1, n1, x1, L, t1, t2, t3, t4, t5, t6, t7⟩ := hc p e R s m below meth c T a1 a2 a3 a4 a5
  obtain ⟨c1, c2, c3⟩ := t7
  refine ⟨t, b1, o, r1, h1, n1, true, L, t1, t2, t3, t4, t5, ⟨t6.1, fun _ => ?_, t6.2.2⟩, c1, c2, c3, rfl⟩
  have e1 : n = s.heap.size := a4.2.1 rfl
  have e2 : t.heap.size ≤ s.heap.size + 0 := t4.2.2.1
  have e3 := t6.2.2.1
  omega
theorem F_putIF {w : jw_T} {M : jm_T} {pc : Nat} {ls : jl_T} {st : List Value} {Γ : gm_T} {φ : ph_T} {n : Nat} {xx : Bool} {kc ks : Nat} {Q : jr_T → jh_T → Nat → Bool → Prop} {idx ci k a : Nat} {C : String} {T : u_T} {v : Int32} (hG : gd w Γ n) (hc : jcf w ci C T (fN ci) (fty ci)) (hf : Cond.fieldLink (jm_own M) idx (T k).1 (T k).2.1 (T k).2.2.1 ∈ jw_Ts w) (hk : k < fN ci) (hci : ci < 13) (h0 : fk (fty ci k) = 0) (d : decode (jm_cod M) pc = .ok (.putfield idx, 3)) (hfin : (T k).2.2.2 = true) (hin2 : jm_nam M = "<init>") (hdecl : (T k).1 = jm_own M) (hn : narrow (fty ci k) (.int v) = .int v) (hfit : fits (fty ci k) (.int v) = true) (hg : Γ a = .inr ci)
    (kk : J w M (pc + 3) ls st (pic Γ (uI φ a k v)) n xx kc ks Q) : J w M pc ls (.int v :: .ref a :: st) (pic Γ φ) n xx kc ks Q := by
  have hz := (hG a).1 ci hg hci
  refine J_putfF (fs := (List.range (fN ci)).map (pf φ a ci)) hc hf hk d hfin hin2 hdecl hn hfit hz.1 hz.2 (by unfold pic; rw [hg]; rfl) (by simpa using hk) ?_
  rw [pic_putI hg hk h0]
  exact kk
theorem F_putLF {w : jw_T} {M : jm_T} {pc : Nat} {ls : jl_T} {st : List Value} {Γ : gm_T} {φ : ph_T} {n : Nat} {xx : Bool} {kc ks : Nat} {Q : jr_T → jh_T → Nat → Bool → Prop} {idx ci k a : Nat} {C : String} {T : u_T} {v : Int64} (hG : gd w Γ n) (hc : jcf w ci C T (fN ci) (fty ci)) (hf : Cond.fieldLink (jm_own M) idx (T k).1 (T k).2.1 (T k).2.2.1 ∈ jw_Ts w) (hk : k < fN ci) (hci : ci < 13) (h0 : fk (fty ci k) = 1) (d : decode (jm_cod M) pc = .ok (.putfield idx, 3)) (hfin : (T k).2.2.2 = true) (hin2 : jm_nam M = "<init>") (hdecl : (T k).1 = jm_own M) (hn : narrow (fty ci k) (.long v) = .long v) (hfit : fits (fty ci k) (.long v) = true) (hg : Γ a = .inr ci)
    (kk : J w M (pc + 3) ls st (pic Γ (uL φ a k v)) n xx kc ks Q) : J w M pc ls (.long v :: .ref a :: st) (pic Γ φ) n xx kc ks Q := by
  have hz := (hG a).1 ci hg hci
  refine J_putfF (fs := (List.range (fN ci)).map (pf φ a ci)) hc hf hk d hfin hin2 hdecl hn hfit hz.1 hz.2 (by unfold pic; rw [hg]; rfl) (by simpa using hk) ?_
  rw [pic_putL hg hk h0]
  exact kk
theorem F_putRF {w : jw_T} {M : jm_T} {pc : Nat} {ls : jl_T} {st : List Value} {Γ : gm_T} {φ : ph_T} {n : Nat} {xx : Bool} {kc ks : Nat} {Q : jr_T → jh_T → Nat → Bool → Prop} {idx ci k a : Nat} {C : String} {T : u_T} {v : Option Nat} (hG : gd w Γ n) (hc : jcf w ci C T (fN ci) (fty ci)) (hf : Cond.fieldLink (jm_own M) idx (T k).1 (T k).2.1 (T k).2.2.1 ∈ jw_Ts w) (hk : k < fN ci) (hci : ci < 13) (h0 : fk (fty ci k) = 2) (d : decode (jm_cod M) pc = .ok (.putfield idx, 3)) (hfin : (T k).2.2.2 = true) (hin2 : jm_nam M = "<init>") (hdecl : (T k).1 = jm_own M) (hn : narrow (fty ci k) (va_rf v) = va_rf v) (hfit : fits (fty ci k) (va_rf v) = true) (hg : Γ a = .inr ci)
    (kk : J w M (pc + 3) ls st (pic Γ (uR φ a k v)) n xx kc ks Q) : J w M pc ls (va_rf v :: .ref a :: st) (pic Γ φ) n xx kc ks Q := by
  have hz := (hG a).1 ci hg hci
  refine J_putfF (fs := (List.range (fN ci)).map (pf φ a ci)) hc hf hk d hfin hin2 hdecl hn hfit hz.1 hz.2 (by unfold pic; rw [hg]; rfl) (by simpa using hk) ?_
  rw [pic_putR hg hk h0]
  exact kk
theorem dv_Burst : (List.range (fN 0)).all (fun j => okty (fty 0 j)) = true := by decide +kernel
theorem dv_Line : (List.range (fN 1)).all (fun j => okty (fty 1 j)) = true := by decide +kernel
theorem dv_Memory : (List.range (fN 2)).all (fun j => okty (fty 2 j)) = true := by decide +kernel
theorem dv_Row : (List.range (fN 3)).all (fun j => okty (fty 3 j)) = true := by decide +kernel
theorem dv_Monitor : (List.range (fN 4)).all (fun j => okty (fty 4 j)) = true := by decide +kernel
theorem dv_Port : (List.range (fN 5)).all (fun j => okty (fty 5 j)) = true := by decide +kernel
theorem dv_Request : (List.range (fN 6)).all (fun j => okty (fty 6 j)) = true := by decide +kernel
theorem dv_Master : (List.range (fN 7)).all (fun j => okty (fty 7 j)) = true := by decide +kernel
theorem dv_Slave : (List.range (fN 8)).all (fun j => okty (fty 8 j)) = true := by decide +kernel
theorem dv_UnderWay : (List.range (fN 9)).all (fun j => okty (fty 9 j)) = true := by decide +kernel
theorem dv_Switch : (List.range (fN 10)).all (fun j => okty (fty 10 j)) = true := by decide +kernel
theorem dv_Bus : (List.range (fN 11)).all (fun j => okty (fty 11 j)) = true := by decide +kernel
theorem dv_Ref : (List.range (fN 12)).all (fun j => okty (fty 12 j)) = true := by decide +kernel
theorem objInit_code {w : jw_T} (hw : jok w) : Cond.code objectInit ⟨#[0xb1]⟩ 1 none ∈ jw_Ts w := tb1 hw (i := 32) rfl
