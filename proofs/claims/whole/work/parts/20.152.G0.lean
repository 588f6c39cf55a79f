/-! THE CONSTRUCTORS: what is new is clean -/
def Zr (n : Nat) (φ : ph_T) : Prop := ∀ b, n ≤ b → φ.1 b = (fun _ => 0) ∧ φ.2.1 b = (fun _ => 0) ∧ φ.2.2 b = (fun _ => none)
theorem Zr.mono {n m : Nat} {φ : ph_T} (h : Zr n φ) (hm : n ≤ m) : Zr m φ := fun b hb => h b (by omega)
theorem m0_z {n : Nat} {φ : ph_T} (h : Zr n φ) : m0 φ n = φ := by
  obtain ⟨h1, h2, h3⟩ := h n (Nat.le_refl _)
  unfold m0
  rw [← h1, ← h2, ← h3, vz_self, vz_self, vz_self]
def Ag (lo hi : Nat) (Γ : gm_T) (φ : ph_T) (Γ' : gm_T) (φ' : ph_T) : Prop := ∀ b, lo ≤ b → b < hi → Γ' b = Γ b ∧ φ'.1 b = φ.1 b ∧ φ'.2.1 b = φ.2.1 b ∧ φ'.2.2 b = φ.2.2 b
theorem Ag.refl (lo hi : Nat) (Γ : gm_T) (φ : ph_T) : Ag lo hi Γ φ Γ φ := fun _ _ _ => ⟨rfl, rfl, rfl, rfl⟩
theorem Ag.mono {lo hi lo' hi' : Nat} {Γ Γ' : gm_T} {φ φ' : ph_T} (h : Ag lo hi Γ φ Γ' φ') (h1 : lo ≤ lo') (h2 : hi' ≤ hi) : Ag lo' hi' Γ φ Γ' φ' := fun b hb hc => h b (by omega) (by omega)
theorem Ag.trans {lo hi : Nat} {Γ Γ' Γ'' : gm_T} {φ φ' φ'' : ph_T} (h : Ag lo hi Γ φ Γ' φ') (g : Ag lo hi Γ' φ' Γ'' φ'') : Ag lo hi Γ φ Γ'' φ'' := fun b hb hc => by
  obtain ⟨a1, a2, a3, a4⟩ := h b hb hc
  obtain ⟨b1, b2, b3, b4⟩ := g b hb hc
  exact ⟨b1.trans a1, b2.trans a2, b3.trans a3, b4.trans a4⟩
theorem Ag.g {lo hi : Nat} {Γ Γ' : gm_T} {φ φ' : ph_T} (h : Ag lo hi Γ φ Γ' φ') {b : Nat} (h1 : lo ≤ b) (h2 : b < hi) : Γ' b = Γ b := (h b h1 h2).1
theorem Ag.i {lo hi : Nat} {Γ Γ' : gm_T} {φ φ' : ph_T} (h : Ag lo hi Γ φ Γ' φ') {b : Nat} (h1 : lo ≤ b) (h2 : b < hi) : φ'.1 b = φ.1 b := (h b h1 h2).2.1
theorem Ag.l {lo hi : Nat} {Γ Γ' : gm_T} {φ φ' : ph_T} (h : Ag lo hi Γ φ Γ' φ') {b : Nat} (h1 : lo ≤ b) (h2 : b < hi) : φ'.2.1 b = φ.2.1 b := (h b h1 h2).2.2.1
theorem Ag.r {lo hi : Nat} {Γ Γ' : gm_T} {φ φ' : ph_T} (h : Ag lo hi Γ φ Γ' φ') {b : Nat} (h1 : lo ≤ b) (h2 : b < hi) : φ'.2.2 b = φ.2.2 b := (h b h1 h2).2.2.2
/-- only types at n and beyond, only cells in some other place -/
theorem ag_vz {lo hi n : Nat} {Γ Γ' : gm_T} {φ φ' : ph_T} (h : Ag lo hi Γ φ Γ' φ') (hn : n < lo ∨ hi ≤ n) (t : (Nat × Nat) ⊕ Nat) : Ag lo hi Γ φ (va_up Γ' n t) φ' := fun b hb hc => ⟨by rw [vz_ne _ (by omega)]; exact (h b hb hc).1, (h b hb hc).2⟩
theorem uR_s (φ : ph_T) (a k : Nat) (v : Option Nat) : (uR φ a k v).2.2 a = va_up (φ.2.2 a) k v := by rw [uR_3, if_pos rfl]
theorem ag_uR {lo hi a : Nat} {Γ Γ' : gm_T} {φ φ' : ph_T} (h : Ag lo hi Γ φ Γ' φ') (hn : a < lo ∨ hi ≤ a) (k : Nat) (v : Option Nat) : Ag lo hi Γ φ Γ' (uR φ' a k v) := fun b hb hc => by
  obtain ⟨h1, h2, h3, h4⟩ := h b hb hc
  exact ⟨h1, h2, h3, by rw [uR_3, if_neg (by omega)]; exact h4⟩
theorem ag_uI {lo hi a : Nat} {Γ Γ' : gm_T} {φ φ' : ph_T} (h : Ag lo hi Γ φ Γ' φ') (hn : a < lo ∨ hi ≤ a) (k : Nat) (v : Int32) : Ag lo hi Γ φ Γ' (uI φ' a k v) := fun b hb hc => by
  obtain ⟨h1, h2, h3, h4⟩ := h b hb hc
  exact ⟨h1, by rw [uI_1, if_neg (by omega)]; exact h2, h3, h4⟩
theorem ag_fr {lo hi l2 h2 : Nat} {Γ Γ' : gm_T} {φ φ' φ'' : ph_T} (h : Ag lo hi Γ φ Γ' φ') (f : Fr l2 h2 φ' φ'') (hn : h2 ≤ lo ∨ hi ≤ l2) : Ag lo hi Γ φ Γ' φ'' := fun b hb hc => by
  obtain ⟨g1, g2, g3, g4⟩ := h b hb hc
  exact ⟨g1, by rw [f.i (by omega)]; exact g2, by rw [f.l (by omega)]; exact g3, by rw [f.r (by omega)]; exact g4⟩
theorem zr_uR {n a : Nat} {φ : ph_T} (h : Zr n φ) (ha : a < n) (k : Nat) (v : Option Nat) : Zr n (uR φ a k v) := fun b hb => by
  obtain ⟨h1, h2, h3⟩ := h b hb
  exact ⟨h1, h2, by rw [uR_3, if_neg (by omega)]; exact h3⟩
theorem zr_uI {n a : Nat} {φ : ph_T} (h : Zr n φ) (ha : a < n) (k : Nat) (v : Int32) : Zr n (uI φ a k v) := fun b hb => by
  obtain ⟨h1, h2, h3⟩ := h b hb
  exact ⟨by rw [uI_1, if_neg (by omega)]; exact h1, h2, h3⟩
theorem zr_fr {n lo hi : Nat} {φ φ' : ph_T} (h : Zr n φ) (f : Fr lo hi φ φ') (ha : hi ≤ n) : Zr n φ' := fun b hb => by
  obtain ⟨h1, h2, h3⟩ := h b hb
  exact ⟨by rw [f.i (by omega)]; exact h1, by rw [f.l (by omega)]; exact h2, by rw [f.r (by omega)]; exact h3⟩
theorem mN_ok {α : Type} {Γ : gm_T} {φ : ph_T} {n : Nat} (z : Zr n φ) (ci : Nat) (k : gm_T → ph_T → Nat → Option (mq_T α)) : mN Γ φ n ci k = mA 1 (fN ci) (k (va_up Γ n (.inr ci)) φ (n + 1)) := by
  unfold mN; rw [m0_z z]
theorem mR_ok {α : Type} {Γ : gm_T} {φ : ph_T} {n : Nat} (z : Zr n φ) (t N : Nat) (hN : N ≤ 67108864) (k : gm_T → ph_T → Nat → Option (mq_T α)) : mR Γ φ n t (nI N) k = mA 1 N (k (va_up Γ n (.inl (t, N))) φ (n + 1)) := by
  unfold mR
  rw [zI_clamp (by omega), if_neg (by
    intro h
    rcases h with h | h
    · exact zI_nneg (by omega) h
    · omega), m0_z z]
theorem mA_ok {α : Type} (c s : Nat) (v : α) (st : gm_T × ph_T × Nat) (c' s' : Nat) : mA c s (some (v, st, (c', s'))) = some (v, st, (c + c', s + s')) := rfl
theorem mB_ok {α β : Type} (v : α) (Γ : gm_T) (φ : ph_T) (n c s : Nat) (k : α → gm_T → ph_T → Nat → Option (mq_T β)) : mB (some (v, (Γ, φ, n), (c, s))) k = mA c s (k v Γ φ n) := rfl
theorem gA_vz {Γ : gm_T} {n t N : Nat} (h : Γ n = .inl (t, N)) : gA Γ n t = some N := gA_of h
/-- a burst -/
theorem k_Burst {Γ : gm_T} {φ : ph_T} {a : Nat} (h : Γ a = .inr 0) (z : Zr a φ) : ∃ Γ' φ', f_Burst_init Γ φ (a + 1) a = some ((), (Γ', φ', a + 3), (2, 32)) ∧ Ag 0 a Γ φ Γ' φ' ∧ Γ' a = .inr 0 ∧ Zr (a + 3) φ' ∧ ∀ Γs φs, Ag a (a + 3) Γ' φ' Γs φs → CBl Γs φs a := by
  have z1 : Zr (a + 1) φ := z.mono (by omega)
  have z2 : Zr (a + 2) (uR φ a 6 (some (a + 1))) := zr_uR (z.mono (by omega)) (by omega) _ _
  refine ⟨va_up (va_up Γ (a + 1) (.inl (1, 16))) (a + 2) (.inl (0, 16)), uR (uR φ a 6 (some (a + 1))) a 7 (some (a + 2)), ?_, ?_, ?_, zr_uR (z2.mono (by omega)) (by omega) _ _, ?_⟩
  · unfold f_Burst_init
    rw [show (16 : Int32) = nI 16 from rfl, mR_ok z1 1 16 (by omega), if_pos (by rw [vz_ne _ (by omega)]; exact h), mR_ok z2 0 16 (by omega), if_pos (by rw [vz_ne _ (by omega), vz_ne _ (by omega)]; exact h)]
    rfl
  · exact ag_uR (ag_uR (ag_vz (ag_vz (Ag.refl _ _ _ _) (by omega) _) (by omega) _) (by omega) _ _) (by omega) _ _
  · rw [vz_ne _ (by omega), vz_ne _ (by omega)]; exact h
  · intro Γs φs s
    refine ⟨?_, ?_, ?_, gA_of ?_, gA_of ?_⟩
    · rw [s.g (by omega) (by omega), vz_ne _ (by omega), vz_ne _ (by omega)]; exact h
    · rw [s.r (by omega) (by omega), uR_s, vz_ne _ (by decide), uR_s, vz_same]
    · rw [s.r (by omega) (by omega), uR_s, vz_same]
    · rw [s.g (by omega) (by omega), vz_ne _ (by omega), vz_same]
    · rw [s.g (by omega) (by omega), vz_same]
/-- a line of bursts -/
def LnI (a room i : Nat) (Γ : gm_T) (φ : ph_T) : Prop := (Γ a = .inr 1) ∧ (φ.2.2 a 0 = some (a + 1)) ∧ (Γ (a + 1) = .inl (5, room)) ∧ (φ.1 a 1 = nI 0) ∧ (∀ j, j < i → φ.2.2 (a + 1) j = some (a + 2 + 3 * j)) ∧ (∀ j, j < i → ∀ Γs φs, Ag (a + 2 + 3 * j) (a + 5 + 3 * j) Γ φ Γs φs → CBl Γs φs (a + 2 + 3 * j))
theorem LnI.o {a room i : Nat} {Γ : gm_T} {φ : ph_T} (h : LnI a room i Γ φ) : Γ a = .inr 1 := h.1
theorem LnI.f {a room i : Nat} {Γ : gm_T} {φ : ph_T} (h : LnI a room i Γ φ) : φ.2.2 a 0 = some (a + 1) := h.2.1
theorem LnI.g {a room i : Nat} {Γ : gm_T} {φ : ph_T} (h : LnI a room i Γ φ) : Γ (a + 1) = .inl (5, room) := h.2.2.1
theorem LnI.n {a room i : Nat} {Γ : gm_T} {φ : ph_T} (h : LnI a room i Γ φ) : φ.1 a 1 = nI 0 := h.2.2.2.1
theorem LnI.at_ {a room i : Nat} {Γ : gm_T} {φ : ph_T} (h : LnI a room i Γ φ) : ∀ j, j < i → φ.2.2 (a + 1) j = some (a + 2 + 3 * j) := h.2.2.2.2.1
theorem LnI.b {a room i : Nat} {Γ : gm_T} {φ : ph_T} (h : LnI a room i Γ φ) : ∀ j, j < i → ∀ Γs φs, Ag (a + 2 + 3 * j) (a + 5 + 3 * j) Γ φ Γs φs → CBl Γs φs (a + 2 + 3 * j) := h.2.2.2.2.2
theorem k_Line_L {a room : Nat} (hr : room ≤ 16) : ∀ (d i fu : Nat) (Γ : gm_T) (φ : ph_T), i + d = room → d < fu → LnI a room i Γ φ → Zr (a + 2 + 3 * i) φ →
    ∃ Γ' φ' kc ks, f_Line_init_L14 fu Γ φ (a + 2 + 3 * i) a (nI room) (nI i) = some ((), (Γ', φ', a + 2 + 3 * room), (kc, ks)) ∧ kc = 3 * d ∧ ks = 40 * d ∧ Ag 0 (a + 1) Γ φ Γ' φ' ∧ LnI a room room Γ' φ' ∧ Zr (a + 2 + 3 * room) φ' := by
  intro d
  induction d with
  | zero =>
    intro i fu Γ φ hd hfu h z
    match fu, hfu with
    | fu + 1, _ =>
      have hi : i = room := by omega
      subst hi
      refine ⟨Γ, φ, 0, 0, ?_, rfl, rfl, Ag.refl _ _ _ _, h, z⟩
      rw [f_Line_init_L14, if_pos (by rw [zI_le (by omega) (by omega)]; omega)]
  | succ d ih =>
    intro i fu Γ φ hd hfu h z
    match fu, hfu with
    | fu + 1, hfu =>
      obtain ⟨Γ1, φ1, a1, a2, a3, a4, a5⟩ := k_Burst (Γ := va_up Γ (a + 2 + 3 * i) (.inr 0)) (φ := φ) (a := a + 2 + 3 * i) (vz_same _ _ _) z
      have s1 : Ag 0 (a + 2 + 3 * i) Γ φ Γ1 φ1 := (ag_vz (Ag.refl _ _ _ _) (by omega) _).trans a2
      have s2 : Ag 0 (a + 1) Γ φ Γ1 (uR φ1 (a + 1) i (some (a + 2 + 3 * i))) := ag_uR (s1.mono (by omega) (by omega)) (by omega) _ _
      have hI1 : LnI a room (i + 1) Γ1 (uR φ1 (a + 1) i (some (a + 2 + 3 * i))) := by
        refine ⟨?_, ?_, ?_, ?_, ?_, ?_⟩
        · rw [s1.g (by omega) (by omega)]; exact h.o
        · rw [uR_3, if_neg (by omega), s1.r (by omega) (by omega)]; exact h.f
        · rw [s1.g (by omega) (by omega)]; exact h.g
        · show φ1.1 a 1 = nI 0
          rw [s1.i (by omega) (by omega)]; exact h.n
        · intro j hj
          rw [uR_s, vz_at]
          by_cases e : j = i
          · rw [if_pos e, e]
          · rw [if_neg e, s1.r (by omega) (by omega)]; exact h.at_ j (by omega)
        · intro j hj Γs φs s
          by_cases e : j = i
          · subst e
            refine a5 Γs φs ?_
            refine Ag.trans ?_ (s.mono (Nat.le_refl _) (by omega))
            exact ag_uR (Ag.refl _ _ _ _) (by omega) _ _
          · refine h.b j (by omega) Γs φs ?_
            refine Ag.trans (ag_uR (s1.mono (by omega) (by omega)) (by omega) _ _) s
      obtain ⟨Γ', φ', kc, ks, b1, b2, b3, b4, b5, b6⟩ := ih (i + 1) fu Γ1 (uR φ1 (a + 1) i (some (a + 2 + 3 * i))) (by omega) (by omega) hI1 (zr_uR (a4.mono (by omega)) (by omega) _ _)
      refine ⟨Γ', φ', 1 + (2 + kc), 8 + (32 + ks), ?_, by omega, by omega, s2.trans b4, b5, b6⟩
      rw [f_Line_init_L14, if_neg (by rw [zI_le (by omega) (by omega)]; omega), if_pos h.o, mN_ok z, if_pos (vz_same _ _ _), a1, mB_ok, h.f, Option.bind_some, gA_of (show Γ1 (a + 1) = .inl (5, room) by rw [s1.g (by omega) (by omega)]; exact h.g), Option.bind_some, zix (by omega), Option.bind_some, if_pos a3, show nI i + (1 : Int32) = nI (i + 1) from by rw [zI_1, zI_add], show a + 2 + 3 * i + 3 = a + 2 + 3 * (i + 1) by omega, b1]
      rfl
theorem k_Line {Γ : gm_T} {φ : ph_T} {a room : Nat} (hr : room ≤ 16) (h : Γ a = .inr 1) (z : Zr a φ) : ∃ Γ' φ' kc ks, f_Line_init Γ φ (a + 1) a (nI room) = some ((), (Γ', φ', a + 2 + 3 * room), (kc, ks)) ∧ kc ≤ 49 ∧ ks ≤ 656 ∧ Ag 0 a Γ φ Γ' φ' ∧ Γ' a = .inr 1 ∧ Zr (a + 2 + 3 * room) φ' ∧ ∀ {α : Type} (E : ph_T → Nat → α → Prop), Loc E → ∀ Γs φs, Ag a (a + 2 + 3 * room) Γ' φ' Γs φs → ∃ l, CL Γs φs a room E l [] := by
  have z1 : Zr (a + 1) φ := z.mono (by omega)
  obtain ⟨q1, q2, q3⟩ := z a (Nat.le_refl _)
  have hI : LnI a room 0 (va_up Γ (a + 1) (.inl (5, room))) (uR φ a 0 (some (a + 1))) := by
    refine ⟨by rw [vz_ne _ (by omega)]; exact h, by rw [uR_s, vz_same], vz_same _ _ _, ?_, fun j hj => by omega, fun j hj => by omega⟩
    show φ.1 a 1 = nI 0
    rw [q1]; rfl
  obtain ⟨Γ', φ', kc, ks, b1, b2, b3, b4, b5, b6⟩ := k_Line_L (a := a) hr room 0 jF _ _ (by omega) (by unfold jF; omega) hI (zr_uR (z.mono (by omega)) (by omega) _ _)
  refine ⟨Γ', φ', 1 + kc, room + ks, ?_, by omega, by omega, ?_, b5.o, b6, ?_⟩
  · unfold f_Line_init
    rw [mR_ok z1 5 room (by omega), if_pos (by rw [vz_ne _ (by omega)]; exact h), zI_0]
    show mA 1 room (f_Line_init_L14 jF _ _ (a + 2 + 3 * 0) a (nI room) (nI 0)) = _
    rw [b1]
    rfl
  · exact (ag_uR (ag_vz (Ag.refl _ _ _ _) (by omega) _) (by omega) _ _).trans (b4.mono (by omega) (by omega))
  · intro α E hE Γs φs s
    refine ⟨(List.range room).map (fun i => a + 2 + 3 * i), ⟨⟨?_, ?_, gA_of ?_, hr, ?_, Nat.zero_le _, by rw [List.length_map, List.length_range], ?_, ?_, ?_, ?_⟩, (fun k e x hk => by cases hk), hE⟩⟩
    · rw [s.g (by omega) (by omega)]; exact b5.o
    · rw [s.r (by omega) (by omega)]; exact b5.f
    · rw [s.g (by omega) (by omega)]; exact b5.g
    · rw [s.i (by omega) (by omega)]; exact b5.n
    · refine List.pairwise_map.mpr (List.Pairwise.imp ?_ List.nodup_range)
      intro x y hne hxy
      exact hne (by omega)
    · intro x hx
      obtain ⟨i, hi, e⟩ := List.mem_map.mp hx
      exact ⟨i, List.mem_range.mp hi, e.symm⟩
    · intro k x hk
      have hlt : k < room := by
        have := (List.getElem?_eq_some_iff.mp hk).1
        rw [List.length_map, List.length_range] at this
        exact this
      rw [List.getElem?_map, List.getElem?_range hlt] at hk
      have := Option.some.inj hk
      rw [s.r (by omega) (by omega), b5.at_ k hlt, ← this]
    · intro x hx
      obtain ⟨i, hi, e⟩ := List.mem_map.mp hx
      have hi := List.mem_range.mp hi
      subst e
      exact b5.b i hi Γs φs (s.mono (by omega) (by omega))
