/-! FLAT HEAPS: what the cells are never changes (Γ); what they hold are three maps of numbers and references (φ). The J rows in these words. -/
abbrev ph_T : Type := (Nat → Nat → Int32) × (Nat → Nat → Int64) × (Nat → Nat → Option Nat)
abbrev gm_T : Type := Nat → (Nat × Nat) ⊕ Nat
/-- a field's kind: 0 an int, 1 a long, 2 a reference -/
def fk (ty : FieldType) : Nat := match ty with
  | .long => 1
  | .object _ => 2
  | .array _ => 2
  | _ => 0
def fty (ci k : Nat) : FieldType := match ci with
  | 0 => t_Burst k
  | 1 => t_Line k
  | 2 => t_Memory k
  | 3 => t_Row k
  | 4 => t_Monitor k
  | 5 => t_Port k
  | 6 => t_Request k
  | 7 => t_Master k
  | 8 => t_Slave k
  | 9 => t_UnderWay k
  | 10 => t_Switch k
  | 11 => t_Bus k
  | 12 => t_Ref k
  | _ => .int
def fN (ci : Nat) : Nat := match ci with
  | 0 => 8
  | 1 => 2
  | 2 => 2
  | 3 => 4
  | 4 => 9
  | 5 => 7
  | 6 => 6
  | 7 => 10
  | 8 => 11
  | 9 => 5
  | 10 => 17
  | 11 => 10
  | 12 => 102
  | _ => 0
def pf (φ : ph_T) (a ci k : Nat) : Value := if fk (fty ci k) = 0 then .int (φ.1 a k) else if fk (fty ci k) = 1 then .long (φ.2.1 a k) else va_rf (φ.2.2 a k)
def pa (φ : ph_T) (a t : Nat) : (Nat → Int32) ⊕ (Nat → Int64) ⊕ (Nat → UInt32) ⊕ (Nat → UInt64) ⊕ (Nat → Option Nat) := if t = 1 then .inr (.inl (φ.2.1 a)) else if t < 3 then .inl (φ.1 a) else .inr (.inr (.inr (.inr (φ.2.2 a))))
def pcell (g : (Nat × Nat) ⊕ Nat) (φ : ph_T) (a : Nat) : va_E := match g with
  | .inl q => .inl (q.1, q.2, pa φ a q.1)
  | .inr ci => .inr (ci, (List.range (fN ci)).map (pf φ a ci))
def pic (Γ : gm_T) (φ : ph_T) : jh_T := fun a => pcell (Γ a) φ a
/-- the cells that Γ names are ours -/
def gd (w : jw_T) (Γ : gm_T) (n : Nat) : Prop := ∀ a, (∀ ci, Γ a = .inr ci → ci < 13 → jw_z w ≤ a ∧ a < n) ∧ (∀ t N, Γ a = .inl (t, N) → jw_z w ≤ a ∧ a < n ∧ N < 2 ^ 31)
def uI (φ : ph_T) (a k : Nat) (v : Int32) : ph_T := (va_up φ.1 a (va_up (φ.1 a) k v), φ.2.1, φ.2.2)
def uL (φ : ph_T) (a k : Nat) (v : Int64) : ph_T := (φ.1, va_up φ.2.1 a (va_up (φ.2.1 a) k v), φ.2.2)
def uR (φ : ph_T) (a k : Nat) (v : Option Nat) : ph_T := (φ.1, φ.2.1, va_up φ.2.2 a (va_up (φ.2.2 a) k v))
theorem pf_ne {φ φ' : ph_T} {a ci : Nat} (h : φ'.1 a = φ.1 a ∧ φ'.2.1 a = φ.2.1 a ∧ φ'.2.2 a = φ.2.2 a) (k : Nat) : pf φ' a ci k = pf φ a ci k := by
  unfold pf
  rw [h.1, h.2.1, h.2.2]
theorem pcell_ne {g : (Nat × Nat) ⊕ Nat} {φ φ' : ph_T} {a : Nat} (h : φ'.1 a = φ.1 a ∧ φ'.2.1 a = φ.2.1 a ∧ φ'.2.2 a = φ.2.2 a) : pcell g φ' a = pcell g φ a := by
  unfold pcell
  cases g with
  | inl q => simp only [pa, h.1, h.2.1, h.2.2]
  | inr ci => simp only [pf_ne h, funext (pf_ne h)]
theorem pic_put {Γ : gm_T} {φ φ' : ph_T} {a : Nat} {e : va_E} (hne : ∀ b, b ≠ a → φ'.1 b = φ.1 b ∧ φ'.2.1 b = φ.2.1 b ∧ φ'.2.2 b = φ.2.2 b) (he : e = pcell (Γ a) φ' a) : va_up (pic Γ φ) a e = pic Γ φ' := by
  funext b
  by_cases hb : b = a
  · subst hb
    rw [va_up_self, he]
    rfl
  · rw [va_up_ne _ _ hb]
    exact (pcell_ne (hne b hb)).symm
theorem flds_set {φ φ' : ph_T} {a ci k : Nat} {v : Value} (hk : k < fN ci) (hv : pf φ' a ci k = v) (ho : ∀ j, j ≠ k → pf φ' a ci j = pf φ a ci j) : ((List.range (fN ci)).map (pf φ a ci)).set k v = (List.range (fN ci)).map (pf φ' a ci) := by
  apply List.ext_getElem?
  intro j
  by_cases hj : j = k
  · subst hj
    rw [List.getElem?_set_self (by simpa using hk), List.getElem?_map, List.getElem?_range hk]
    simp [hv]
  · rw [List.getElem?_set_ne (Ne.symm hj), List.getElem?_map, List.getElem?_map]
    by_cases hl : j < fN ci
    · rw [List.getElem?_range hl]
      simp [ho j hj]
    · rw [List.getElem?_eq_none (by simpa using hl)]
      rfl
theorem flds_at {φ : ph_T} {a ci k : Nat} (hk : k < fN ci) : ((List.range (fN ci)).map (pf φ a ci))[k]? = some (pf φ a ci k) := by
  rw [List.getElem?_map, List.getElem?_range hk]
  rfl
theorem uI_ne {φ : ph_T} {a k : Nat} {v : Int32} : ∀ b, b ≠ a → (uI φ a k v).1 b = φ.1 b ∧ (uI φ a k v).2.1 b = φ.2.1 b ∧ (uI φ a k v).2.2 b = φ.2.2 b := fun b hb => ⟨va_up_ne _ _ hb, rfl, rfl⟩
theorem uL_ne {φ : ph_T} {a k : Nat} {v : Int64} : ∀ b, b ≠ a → (uL φ a k v).1 b = φ.1 b ∧ (uL φ a k v).2.1 b = φ.2.1 b ∧ (uL φ a k v).2.2 b = φ.2.2 b := fun b hb => ⟨rfl, va_up_ne _ _ hb, rfl⟩
theorem uR_ne {φ : ph_T} {a k : Nat} {v : Option Nat} : ∀ b, b ≠ a → (uR φ a k v).1 b = φ.1 b ∧ (uR φ a k v).2.1 b = φ.2.1 b ∧ (uR φ a k v).2.2 b = φ.2.2 b := fun b hb => ⟨rfl, rfl, va_up_ne _ _ hb⟩
theorem pic_putI {Γ : gm_T} {φ : ph_T} {a ci k : Nat} {v : Int32} (hg : Γ a = .inr ci) (hk : k < fN ci) (h0 : fk (fty ci k) = 0) : va_up (pic Γ φ) a (.inr (ci, ((List.range (fN ci)).map (pf φ a ci)).set k (.int v))) = pic Γ (uI φ a k v) := by
  refine pic_put uI_ne ?_
  rw [hg]
  show _ = Sum.inr (ci, (List.range (fN ci)).map (pf (uI φ a k v) a ci))
  rw [flds_set hk (φ' := uI φ a k v)]
  · simp [pf, h0, uI, va_up]
  · intro j hj
    simp only [pf, uI, va_up, if_true, if_neg hj]
theorem pic_putL {Γ : gm_T} {φ : ph_T} {a ci k : Nat} {v : Int64} (hg : Γ a = .inr ci) (hk : k < fN ci) (h0 : fk (fty ci k) = 1) : va_up (pic Γ φ) a (.inr (ci, ((List.range (fN ci)).map (pf φ a ci)).set k (.long v))) = pic Γ (uL φ a k v) := by
  refine pic_put uL_ne ?_
  rw [hg]
  show _ = Sum.inr (ci, (List.range (fN ci)).map (pf (uL φ a k v) a ci))
  rw [flds_set hk (φ' := uL φ a k v)]
  · simp [pf, h0, uL, va_up]
  · intro j hj
    simp only [pf, uL, va_up, if_true, if_neg hj]
theorem pic_putR {Γ : gm_T} {φ : ph_T} {a ci k : Nat} {v : Option Nat} (hg : Γ a = .inr ci) (hk : k < fN ci) (h0 : fk (fty ci k) = 2) : va_up (pic Γ φ) a (.inr (ci, ((List.range (fN ci)).map (pf φ a ci)).set k (va_rf v))) = pic Γ (uR φ a k v) := by
  refine pic_put uR_ne ?_
  rw [hg]
  show _ = Sum.inr (ci, (List.range (fN ci)).map (pf (uR φ a k v) a ci))
  rw [flds_set hk (φ' := uR φ a k v)]
  · simp [pf, h0, uR, va_up]
  · intro j hj
    simp only [pf, uR, va_up, if_true, if_neg hj]
theorem F_getI {w : jw_T} {M : jm_T} {pc : Nat} {ls : jl_T} {st : List Value} {Γ : gm_T} {φ : ph_T} {n : Nat} {xx : Bool} {kc ks : Nat} {Q : jr_T → jh_T → Nat → Bool → Prop} {idx ci k a : Nat} {C : String} {T : u_T} {ty : Nat → FieldType} (hG : gd w Γ n) (hc : jcf w ci C T (fN ci) ty) (hf : jfl w (jm_own M) idx T k) (hk : k < fN ci) (hci : ci < 13) (h0 : fk (fty ci k) = 0) (d : decode (jm_cod M) pc = .ok (.getfield idx, 3)) (hg : Γ a = .inr ci)
    (kk : J w M (pc + 3) ls (.int (φ.1 a k) :: st) (pic Γ φ) n xx kc ks Q) : J w M pc ls (.ref a :: st) (pic Γ φ) n xx kc ks Q := by
  have hz := (hG a).1 ci hg hci
  refine J_getf (fs := (List.range (fN ci)).map (pf φ a ci)) hc hf hk d hz.1 hz.2 (by unfold pic; rw [hg]; rfl) (flds_at hk) ?_
  have hv : pf φ a ci k = .int (φ.1 a k) := by simp [pf, h0]
  rw [hv]
  exact kk
theorem F_getL {w : jw_T} {M : jm_T} {pc : Nat} {ls : jl_T} {st : List Value} {Γ : gm_T} {φ : ph_T} {n : Nat} {xx : Bool} {kc ks : Nat} {Q : jr_T → jh_T → Nat → Bool → Prop} {idx ci k a : Nat} {C : String} {T : u_T} {ty : Nat → FieldType} (hG : gd w Γ n) (hc : jcf w ci C T (fN ci) ty) (hf : jfl w (jm_own M) idx T k) (hk : k < fN ci) (hci : ci < 13) (h0 : fk (fty ci k) = 1) (d : decode (jm_cod M) pc = .ok (.getfield idx, 3)) (hg : Γ a = .inr ci)
    (kk : J w M (pc + 3) ls (.long (φ.2.1 a k) :: st) (pic Γ φ) n xx kc ks Q) : J w M pc ls (.ref a :: st) (pic Γ φ) n xx kc ks Q := by
  have hz := (hG a).1 ci hg hci
  refine J_getf (fs := (List.range (fN ci)).map (pf φ a ci)) hc hf hk d hz.1 hz.2 (by unfold pic; rw [hg]; rfl) (flds_at hk) ?_
  have hv : pf φ a ci k = .long (φ.2.1 a k) := by simp [pf, h0]
  rw [hv]
  exact kk
theorem F_getR {w : jw_T} {M : jm_T} {pc : Nat} {ls : jl_T} {st : List Value} {Γ : gm_T} {φ : ph_T} {n : Nat} {xx : Bool} {kc ks : Nat} {Q : jr_T → jh_T → Nat → Bool → Prop} {idx ci k a : Nat} {C : String} {T : u_T} {ty : Nat → FieldType} (hG : gd w Γ n) (hc : jcf w ci C T (fN ci) ty) (hf : jfl w (jm_own M) idx T k) (hk : k < fN ci) (hci : ci < 13) (h0 : fk (fty ci k) = 2) (d : decode (jm_cod M) pc = .ok (.getfield idx, 3)) (hg : Γ a = .inr ci)
    (kk : J w M (pc + 3) ls (va_rf (φ.2.2 a k) :: st) (pic Γ φ) n xx kc ks Q) : J w M pc ls (.ref a :: st) (pic Γ φ) n xx kc ks Q := by
  have hz := (hG a).1 ci hg hci
  refine J_getf (fs := (List.range (fN ci)).map (pf φ a ci)) hc hf hk d hz.1 hz.2 (by unfold pic; rw [hg]; rfl) (flds_at hk) ?_
  have hv : pf φ a ci k = va_rf (φ.2.2 a k) := by simp [pf, h0]
  rw [hv]
  exact kk
theorem F_putI {w : jw_T} {M : jm_T} {pc : Nat} {ls : jl_T} {st : List Value} {Γ : gm_T} {φ : ph_T} {n : Nat} {xx : Bool} {kc ks : Nat} {Q : jr_T → jh_T → Nat → Bool → Prop} {idx ci k a : Nat} {C : String} {T : u_T} {v : Int32} (hG : gd w Γ n) (hc : jcf w ci C T (fN ci) (fty ci)) (hf : jfl w (jm_own M) idx T k) (hk : k < fN ci) (hci : ci < 13) (h0 : fk (fty ci k) = 0) (d : decode (jm_cod M) pc = .ok (.putfield idx, 3)) (hfin : (T k).2.2.2 = false) (hn : narrow (fty ci k) (.int v) = .int v) (hfit : fits (fty ci k) (.int v) = true) (hg : Γ a = .inr ci)
    (kk : J w M (pc + 3) ls st (pic Γ (uI φ a k v)) n xx kc ks Q) : J w M pc ls (.int v :: .ref a :: st) (pic Γ φ) n xx kc ks Q := by
  have hz := (hG a).1 ci hg hci
  refine J_putf (fs := (List.range (fN ci)).map (pf φ a ci)) hc hf hk d hfin hn hfit hz.1 hz.2 (by unfold pic; rw [hg]; rfl) (by simpa using hk) ?_
  rw [pic_putI hg hk h0]
  exact kk
theorem F_putL {w : jw_T} {M : jm_T} {pc : Nat} {ls : jl_T} {st : List Value} {Γ : gm_T} {φ : ph_T} {n : Nat} {xx : Bool} {kc ks : Nat} {Q : jr_T → jh_T → Nat → Bool → Prop} {idx ci k a : Nat} {C : String} {T : u_T} {v : Int64} (hG : gd w Γ n) (hc : jcf w ci C T (fN ci) (fty ci)) (hf : jfl w (jm_own M) idx T k) (hk : k < fN ci) (hci : ci < 13) (h0 : fk (fty ci k) = 1) (d : decode (jm_cod M) pc = .ok (.putfield idx, 3)) (hfin : (T k).2.2.2 = false) (hn : narrow (fty ci k) (.long v) = .long v) (hfit : fits (fty ci k) (.long v) = true) (hg : Γ a = .inr ci)
    (kk : J w M (pc + 3) ls st (pic Γ (uL φ a k v)) n xx kc ks Q) : J w M pc ls (.long v :: .ref a :: st) (pic Γ φ) n xx kc ks Q := by
  have hz := (hG a).1 ci hg hci
  refine J_putf (fs := (List.range (fN ci)).map (pf φ a ci)) hc hf hk d hfin hn hfit hz.1 hz.2 (by unfold pic; rw [hg]; rfl) (by simpa using hk) ?_
  rw [pic_putL hg hk h0]
  exact kk
theorem F_putR {w : jw_T} {M : jm_T} {pc : Nat} {ls : jl_T} {st : List Value} {Γ : gm_T} {φ : ph_T} {n : Nat} {xx : Bool} {kc ks : Nat} {Q : jr_T → jh_T → Nat → Bool → Prop} {idx ci k a : Nat} {C : String} {T : u_T} {v : Option Nat} (hG : gd w Γ n) (hc : jcf w ci C T (fN ci) (fty ci)) (hf : jfl w (jm_own M) idx T k) (hk : k < fN ci) (hci : ci < 13) (h0 : fk (fty ci k) = 2) (d : decode (jm_cod M) pc = .ok (.putfield idx, 3)) (hfin : (T k).2.2.2 = false) (hn : narrow (fty ci k) (va_rf v) = va_rf v) (hfit : fits (fty ci k) (va_rf v) = true) (hg : Γ a = .inr ci)
    (kk : J w M (pc + 3) ls st (pic Γ (uR φ a k v)) n xx kc ks Q) : J w M pc ls (va_rf v :: .ref a :: st) (pic Γ φ) n xx kc ks Q := by
  have hz := (hG a).1 ci hg hci
  refine J_putf (fs := (List.range (fN ci)).map (pf φ a ci)) hc hf hk d hfin hn hfit hz.1 hz.2 (by unfold pic; rw [hg]; rfl) (by simpa using hk) ?_
  rw [pic_putR hg hk h0]
  exact kk
theorem F_iald {w : jw_T} {M : jm_T} {pc : Nat} {ls : jl_T} {st : List Value} {Γ : gm_T} {φ : ph_T} {n : Nat} {xx : Bool} {kc ks : Nat} {Q : jr_T → jh_T → Nat → Bool → Prop} {a N : Nat} {i : Int32} (k : Nat) (hw : jok w) (hG : gd w Γ n) (d : decode (jm_cod M) pc = .ok (.iaload, 1)) (hg : Γ a = .inl (0, N)) (hi : vp_in i N ∧ i.toNatClampNeg = k)
    (kk : J w M (pc + 1) ls (.int (φ.1 a k) :: st) (pic Γ φ) n xx kc ks Q) : J w M pc ls (.int i :: .ref a :: st) (pic Γ φ) n xx kc ks Q := by
  have hz := (hG a).2 _ _ hg
  exact J_iald k d (jty_at hw (i := 0) rfl) hz.1 hz.2.1 (by unfold pic; rw [hg]; rfl) hi.1 hi.2 kk
theorem F_zald {w : jw_T} {M : jm_T} {pc : Nat} {ls : jl_T} {st : List Value} {Γ : gm_T} {φ : ph_T} {n : Nat} {xx : Bool} {kc ks : Nat} {Q : jr_T → jh_T → Nat → Bool → Prop} {a N : Nat} {i : Int32} (k : Nat) (hw : jok w) (hG : gd w Γ n) (d : decode (jm_cod M) pc = .ok (.baload, 1)) (hg : Γ a = .inl (2, N)) (hi : vp_in i N ∧ i.toNatClampNeg = k)
    (kk : J w M (pc + 1) ls (.int (φ.1 a k) :: st) (pic Γ φ) n xx kc ks Q) : J w M pc ls (.int i :: .ref a :: st) (pic Γ φ) n xx kc ks Q := by
  have hz := (hG a).2 _ _ hg
  exact J_zald k d (jty_at hw (i := 2) rfl) hz.1 hz.2.1 (by unfold pic; rw [hg]; rfl) hi.1 hi.2 kk
theorem F_lald {w : jw_T} {M : jm_T} {pc : Nat} {ls : jl_T} {st : List Value} {Γ : gm_T} {φ : ph_T} {n : Nat} {xx : Bool} {kc ks : Nat} {Q : jr_T → jh_T → Nat → Bool → Prop} {a N : Nat} {i : Int32} (k : Nat) (hw : jok w) (hG : gd w Γ n) (d : decode (jm_cod M) pc = .ok (.laload, 1)) (hg : Γ a = .inl (1, N)) (hi : vp_in i N ∧ i.toNatClampNeg = k)
    (kk : J w M (pc + 1) ls (.long (φ.2.1 a k) :: st) (pic Γ φ) n xx kc ks Q) : J w M pc ls (.int i :: .ref a :: st) (pic Γ φ) n xx kc ks Q := by
  have hz := (hG a).2 _ _ hg
  exact J_lald k d (jty_at hw (i := 1) rfl) hz.1 hz.2.1 (by unfold pic; rw [hg]; rfl) hi.1 hi.2 kk
theorem F_aald {w : jw_T} {M : jm_T} {pc : Nat} {ls : jl_T} {st : List Value} {Γ : gm_T} {φ : ph_T} {n : Nat} {xx : Bool} {kc ks : Nat} {Q : jr_T → jh_T → Nat → Bool → Prop} {a N t : Nat} {i : Int32} {C : String} (k : Nat) (hw : jok w) (hG : gd w Γ n) (ht : jty[t]? = some (.object C)) (ht3 : 3 ≤ t) (d : decode (jm_cod M) pc = .ok (.aaload, 1)) (hg : Γ a = .inl (t, N)) (hi : vp_in i N ∧ i.toNatClampNeg = k)
    (kk : J w M (pc + 1) ls (va_rf (φ.2.2 a k) :: st) (pic Γ φ) n xx kc ks Q) : J w M pc ls (.int i :: .ref a :: st) (pic Γ φ) n xx kc ks Q := by
  have hz := (hG a).2 _ _ hg
  exact J_aald k d (jty_at hw ht) hz.1 hz.2.1 (by unfold pic; rw [hg]; show Sum.inl (t, N, pa φ a t) = _; unfold pa; rw [if_neg (by omega), if_neg (by omega)]) hi.1 hi.2 kk
theorem F_alen {w : jw_T} {M : jm_T} {pc : Nat} {ls : jl_T} {st : List Value} {Γ : gm_T} {φ : ph_T} {n : Nat} {xx : Bool} {kc ks : Nat} {Q : jr_T → jh_T → Nat → Bool → Prop} {a N t : Nat} {ty : FieldType} (hw : jok w) (hG : gd w Γ n) (ht : jty[t]? = some ty) (d : decode (jm_cod M) pc = .ok (.arraylength, 1)) (hg : Γ a = .inl (t, N))
    (kk : J w M (pc + 1) ls (.int (nI N) :: st) (pic Γ φ) n xx kc ks Q) : J w M pc ls (.ref a :: st) (pic Γ φ) n xx kc ks Q := by
  have hz := (hG a).2 _ _ hg
  exact J_alen (y := (N, pa φ a t)) d (jty_at hw ht) hz.1 hz.2.1 (by unfold pic; rw [hg]; rfl) rfl kk
theorem F_iast {w : jw_T} {M : jm_T} {pc : Nat} {ls : jl_T} {st : List Value} {Γ : gm_T} {φ : ph_T} {n : Nat} {xx : Bool} {kc ks : Nat} {Q : jr_T → jh_T → Nat → Bool → Prop} {a N : Nat} {i : Int32} {y : Int32} (k : Nat) (hw : jok w) (hG : gd w Γ n) (d : decode (jm_cod M) pc = .ok (.iastore, 1)) (hg : Γ a = .inl (0, N)) (hi : vp_in i N ∧ i.toNatClampNeg = k) 
    (kk : J w M (pc + 1) ls st (pic Γ (uI φ a k y)) n xx kc ks Q) : J w M pc ls (.int y :: .int i :: .ref a :: st) (pic Γ φ) n xx kc ks Q := by
  have hz := (hG a).2 _ _ hg
  refine J_iast k d (jty_at hw (i := 0) rfl) hz.1 hz.2.1 (by unfold pic; rw [hg]; rfl) hi.1 hi.2 ?_
  rw [show va_up (pic Γ φ) a (.inl (0, N, .inl (va_up (φ.1 a) k y))) = pic Γ (uI φ a k y) from pic_put uI_ne (by rw [hg]; simp [pcell, pa, uI, va_up])]
  exact kk
theorem F_last {w : jw_T} {M : jm_T} {pc : Nat} {ls : jl_T} {st : List Value} {Γ : gm_T} {φ : ph_T} {n : Nat} {xx : Bool} {kc ks : Nat} {Q : jr_T → jh_T → Nat → Bool → Prop} {a N : Nat} {i : Int32} {y : Int64} (k : Nat) (hw : jok w) (hG : gd w Γ n) (d : decode (jm_cod M) pc = .ok (.lastore, 1)) (hg : Γ a = .inl (1, N)) (hi : vp_in i N ∧ i.toNatClampNeg = k) 
    (kk : J w M (pc + 1) ls st (pic Γ (uL φ a k y)) n xx kc ks Q) : J w M pc ls (.long y :: .int i :: .ref a :: st) (pic Γ φ) n xx kc ks Q := by
  have hz := (hG a).2 _ _ hg
  refine J_last k d (jty_at hw (i := 1) rfl) hz.1 hz.2.1 (by unfold pic; rw [hg]; rfl) hi.1 hi.2 ?_
  rw [show va_up (pic Γ φ) a (.inl (1, N, .inr (.inl (va_up (φ.2.1 a) k y)))) = pic Γ (uL φ a k y) from pic_put uL_ne (by rw [hg]; simp [pcell, pa, uL, va_up])]
  exact kk
theorem F_zast {w : jw_T} {M : jm_T} {pc : Nat} {ls : jl_T} {st : List Value} {Γ : gm_T} {φ : ph_T} {n : Nat} {xx : Bool} {kc ks : Nat} {Q : jr_T → jh_T → Nat → Bool → Prop} {a N : Nat} {i : Int32} {y : Int32} (k : Nat) (hw : jok w) (hG : gd w Γ n) (d : decode (jm_cod M) pc = .ok (.bastore, 1)) (hg : Γ a = .inl (2, N)) (hi : vp_in i N ∧ i.toNatClampNeg = k) (hy : y = 0 ∨ y = 1) 
    (kk : J w M (pc + 1) ls st (pic Γ (uI φ a k y)) n xx kc ks Q) : J w M pc ls (.int y :: .int i :: .ref a :: st) (pic Γ φ) n xx kc ks Q := by
  have hz := (hG a).2 _ _ hg
  have hy2 : vp_nar .boolean y = y := by rcases hy with rfl | rfl <;> rfl
  refine J_zast k d (jty_at hw (i := 2) rfl) hz.1 hz.2.1 (by unfold pic; rw [hg]; rfl) hi.1 hi.2 ?_
  rw [hy2]
  rw [show va_up (pic Γ φ) a (.inl (2, N, .inl (va_up (φ.1 a) k y))) = pic Γ (uI φ a k y) from pic_put uI_ne (by rw [hg]; simp [pcell, pa, uI, va_up])]
  exact kk
theorem F_aast {w : jw_T} {M : jm_T} {pc : Nat} {ls : jl_T} {st : List Value} {Γ : gm_T} {φ : ph_T} {n : Nat} {xx : Bool} {kc ks : Nat} {Q : jr_T → jh_T → Nat → Bool → Prop} {a N t ci v : Nat} {r : vw_C} {i : Int32} (k : Nat) (hw : jok w) (hG : gd w Γ n) (ht : jty[t]? = some (.object r.1)) (ht3 : 3 ≤ t) (hc : jcl[ci]? = some r) (hci : ci < 13) (d : decode (jm_cod M) pc = .ok (.aastore, 1)) (hg : Γ a = .inl (t, N)) (hv : Γ v = .inr ci) (hi : vp_in i N ∧ i.toNatClampNeg = k)
    (kk : J w M (pc + 1) ls st (pic Γ (uR φ a k (some v))) n xx kc ks Q) : J w M pc ls (.ref v :: .int i :: .ref a :: st) (pic Γ φ) n xx kc ks Q := by
  have hz := (hG a).2 _ _ hg
  have hzv := (hG v).1 ci hv hci
  have hpa : pic Γ φ a = .inl (t, N, .inr (.inr (.inr (.inr (φ.2.2 a))))) := by unfold pic; rw [hg]; show Sum.inl (t, N, pa φ a t) = _; unfold pa; rw [if_neg (by omega), if_neg (by omega)]
  refine J_aast (vs := (List.range (fN ci)).map (pf φ v ci)) k d (jty_at hw ht) (jcl_at hw hc) hz.1 hz.2.1 hpa hzv.1 hzv.2 (by unfold pic; rw [hv]; rfl) hi.1 hi.2 ?_
  rw [show va_up (pic Γ φ) a (.inl (t, N, .inr (.inr (.inr (.inr (va_up (φ.2.2 a) k (some v))))))) = pic Γ (uR φ a k (some v)) from pic_put uR_ne (by
    rw [hg]
    show _ = Sum.inl (t, N, pa (uR φ a k (some v)) a t)
    unfold pa
    rw [if_neg (by omega), if_neg (by omega)]
    simp [uR, va_up])]
  exact kk
/-! references that may be null -/
theorem J_aload_nO {w : jw_T} {M : jm_T} {pc : Nat} {ls : jl_T} {st : List Value} {h : jh_T} {n : Nat} {xx : Bool} {kc ks : Nat} {Q : jr_T → jh_T → Nat → Bool → Prop} {i : Fin 4} {r : Option Nat} (d : decode (jm_cod M) pc = .ok (.aload_n i, 1)) (hl : ls[(i : Nat)]? = some (some (va_rf r))) (k : J w M (pc + 1) ls (va_rf r :: st) h n xx kc ks Q) : J w M pc ls st h n xx kc ks Q := by
  cases r with
  | none => exact J_aload_nN d hl k
  | some a => exact J_aload_n d hl k
theorem J_aloadO {w : jw_T} {M : jm_T} {pc : Nat} {ls : jl_T} {st : List Value} {h : jh_T} {n : Nat} {xx : Bool} {kc ks : Nat} {Q : jr_T → jh_T → Nat → Bool → Prop} {i : Nat} {r : Option Nat} (d : decode (jm_cod M) pc = .ok (.aload i, 2)) (hl : ls[i]? = some (some (va_rf r))) (k : J w M (pc + 2) ls (va_rf r :: st) h n xx kc ks Q) : J w M pc ls st h n xx kc ks Q := by
  cases r with
  | none => exact J_aloadN d hl k
  | some a => exact J_aload d hl k
theorem J_astore_nO {w : jw_T} {M : jm_T} {pc : Nat} {ls : jl_T} {st : List Value} {h : jh_T} {n : Nat} {xx : Bool} {kc ks : Nat} {Q : jr_T → jh_T → Nat → Bool → Prop} {i : Fin 4} {r : Option Nat} (d : decode (jm_cod M) pc = .ok (.astore_n i, 1)) (hn : (i : Nat) < ls.length) (k : J w M (pc + 1) (jst1 ls (i : Nat) (va_rf r)) st h n xx kc ks Q) : J w M pc ls (va_rf r :: st) h n xx kc ks Q := by
  cases r with
  | none => exact J_astore_nN d hn k
  | some a => exact J_astore_n d hn k
theorem J_astoreO {w : jw_T} {M : jm_T} {pc : Nat} {ls : jl_T} {st : List Value} {h : jh_T} {n : Nat} {xx : Bool} {kc ks : Nat} {Q : jr_T → jh_T → Nat → Bool → Prop} {i : Nat} {r : Option Nat} (d : decode (jm_cod M) pc = .ok (.astore i, 2)) (hn : i < ls.length) (k : J w M (pc + 2) (jst1 ls i (va_rf r)) st h n xx kc ks Q) : J w M pc ls (va_rf r :: st) h n xx kc ks Q := by
  cases r with
  | none => exact J_astoreN d hn k
  | some a => exact J_astore d hn k
theorem J_ifnullO {w : jw_T} {M : jm_T} {pc : Nat} {ls : jl_T} {st : List Value} {h : jh_T} {n : Nat} {xx : Bool} {kc ks : Nat} {Q : jr_T → jh_T → Nat → Bool → Prop} {off : Int} {tgt : Nat} {r : Option Nat} (d : decode (jm_cod M) pc = .ok (.ifnull off, 3)) (ht : (pc : Int) + off = (tgt : Int)) (kt : r = none → J w M tgt ls st h n xx kc ks Q) (kf : ¬ r = none → J w M (pc + 3) ls st h n xx kc ks Q) : J w M pc ls (va_rf r :: st) h n xx kc ks Q := by
  cases r with
  | none => exact J_ifnullN d ht (kt rfl)
  | some a => exact J_ifnull d (kf (by simp))
theorem J_ifnonnullO {w : jw_T} {M : jm_T} {pc : Nat} {ls : jl_T} {st : List Value} {h : jh_T} {n : Nat} {xx : Bool} {kc ks : Nat} {Q : jr_T → jh_T → Nat → Bool → Prop} {off : Int} {tgt : Nat} {r : Option Nat} (d : decode (jm_cod M) pc = .ok (.ifnonnull off, 3)) (ht : (pc : Int) + off = (tgt : Int)) (kt : ¬ r = none → J w M tgt ls st h n xx kc ks Q) (kf : r = none → J w M (pc + 3) ls st h n xx kc ks Q) : J w M pc ls (va_rf r :: st) h n xx kc ks Q := by
  cases r with
  | none => exact J_ifnonnullN d (kf rfl)
  | some a => exact J_ifnonnull d ht (kt (by simp))
/-- a contract's end in flat words: what came, and what the heap holds then -/
def fq (Γ : gm_T) (n : Nat) (r : jr_T) (φ : ph_T) : jr_T → jh_T → Nat → Bool → Prop := fun r' h' n' _ => r' = r ∧ h' = pic Γ φ ∧ n' = n
/-- an index into an array of N places -/
def ix (i : Int32) (N : Nat) : Option Nat := if i < 0 ∨ N ≤ i.toNatClampNeg then none else some i.toNatClampNeg
theorem ix_some {i : Int32} {N k : Nat} (h : ix i N = some k) : vp_in i N ∧ i.toNatClampNeg = k := by
  unfold ix at h
  split at h
  · cases h
  · rename_i hi
    exact ⟨hi, Option.some.inj h⟩
/-- the length of an array of kind t at a -/
def gA (Γ : gm_T) (a t : Nat) : Option Nat := match Γ a with
  | .inl q => if q.1 = t then some q.2 else none
  | .inr _ => none
theorem gA_some {Γ : gm_T} {a t N : Nat} (h : gA Γ a t = some N) : Γ a = .inl (t, N) := by
  unfold gA at h
  split at h
  · rename_i q hq
    split at h
    · rename_i hq2
      rw [hq, ← hq2, ← Option.some.inj h]
    · cases h
  · cases h
theorem narrow_z {v : Int32} (h : v = 0 ∨ v = 1) : narrow .boolean (.int v) = .int v ∧ fits .boolean (.int v) = true := by
  rcases h with rfl | rfl <;> exact ⟨rfl, rfl⟩
/-- how long a loop may go on -/
def jF : Nat := 100000
theorem va_rf_cat (r : Option Nat) : (va_rf r).category = 1 := by cases r <;> rfl
def jpick (ls : jl_T) (b : List Bool) : jl_T := List.zipWith (fun o k => if k = true then o else none) ls b
/-- locals that nobody reads any more may be forgotten -/
theorem J.drop {w : jw_T} {M : jm_T} {pc : Nat} {ls : jl_T} {st : List Value} {h : jh_T} {n : Nat} {x : Bool} {kc ks : Nat} {Q : jr_T → jh_T → Nat → Bool → Prop} (b : List Bool) (hb : b.length = ls.length) (k : J w M pc (jpick ls b) st h n x kc ks Q) : J w M pc ls st h n x kc ks Q := by
  intro p e R s m args below meth c mc ms H locs cells slots arr X Y V K
  refine k p e R s m args below meth c mc ms H locs cells slots arr X Y ⟨by rw [V.1]; simp [jpick, hb], V.2.1, fun i v hv => V.2.2 i v ?_⟩ K
  unfold jpick at hv
  rw [List.getElem?_zipWith] at hv
  cases h1 : ls[i]? with
  | none => rw [h1] at hv; cases hv
  | some o =>
    rw [h1] at hv
    cases h2 : b[i]? with
    | none => rw [h2] at hv; cases hv
    | some k2 =>
      rw [h2] at hv
      have h3 : (if k2 = true then o else none) = some v := Option.some.inj hv
      by_cases hk : k2 = true
      · rw [if_pos hk] at h3
        rw [h3]
      · rw [if_neg hk] at h3
        cases h3
theorem J.ls {w : jw_T} {M : jm_T} {pc : Nat} {ls ls' : jl_T} {st : List Value} {h : jh_T} {n : Nat} {x : Bool} {kc ks : Nat} {Q : jr_T → jh_T → Nat → Bool → Prop} (e : ls = ls') (k : J w M pc ls' st h n x kc ks Q) : J w M pc ls st h n x kc ks Q := e ▸ k
theorem jst1_o {ls : jl_T} {i : Nat} {v : Value} {r : Option Nat} (h : ls[i]? = some (some (va_rf r))) : jst1 ls (i + 1) v = ls.set (i + 1) (some v) := by
  unfold jst1
  dsimp only
  rw [h]
  cases r <;> rfl
theorem jst2_o {ls : jl_T} {i : Nat} {v : Value} {r : Option Nat} (h : ls[i]? = some (some (va_rf r))) : jst2 ls (i + 1) v = (ls.set (i + 1) (some v)).set (i + 1 + 1) none := by
  unfold jst2
  rw [jst1_o h]
theorem j_rf {r : Option Nat} {a : Nat} (h : r = some a) : va_rf r = .ref a := by rw [h]; rfl
theorem j_inj {x y : Int32} (h : x.toInt = y.toInt) : x = y := Int32.toInt_inj.mp h
theorem jent_0 : jent [] = [] := rfl
theorem jent_i (x : Int32) (vs : List Value) : jent (.int x :: vs) = some (.int x) :: jent vs := rfl
theorem jent_l (x : Int64) (vs : List Value) : jent (.long x :: vs) = some (.long x) :: none :: jent vs := rfl
theorem jent_a (x : Nat) (vs : List Value) : jent (.ref x :: vs) = some (.ref x) :: jent vs := rfl
theorem jent_r (x : Option Nat) (vs : List Value) : jent (va_rf x :: vs) = some (va_rf x) :: jent vs := by cases x <;> rfl
