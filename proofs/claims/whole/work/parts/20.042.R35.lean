/-! THE REFERENCE: all moves of a tick -/
theorem movA_k (S : XS) (c t : Nat) : (S.movA c t).ns = S.ns ∧ (S.movA c t).nm = S.nm := by
  unfold XS.movA
  split
  · exact ⟨rfl, rfl⟩
  · split
    · exact ⟨rfl, rfl⟩
    · split
      · exact ⟨rfl, rfl⟩
      · split <;> exact ⟨rfl, rfl⟩
theorem movD_k (S : XS) (m : Nat) : (S.movD m).ns = S.ns ∧ (S.movD m).nm = S.nm := by
  unfold XS.movD
  split
  · split
    · exact ⟨rfl, rfl⟩
    · split <;> exact ⟨rfl, rfl⟩
  · exact ⟨rfl, rfl⟩
theorem refW_k (S : XS) : S.refW.ns = S.ns ∧ S.refW.nm = S.nm := by
  unfold XS.refW
  split
  · exact ⟨rfl, rfl⟩
  · split
    · split
      · split <;> exact ⟨rfl, rfl⟩
      · exact ⟨rfl, rfl⟩
    · exact ⟨rfl, rfl⟩
theorem refR_k (S : XS) : S.refR.ns = S.ns ∧ S.refR.nm = S.nm := by
  unfold XS.refR
  split
  · exact ⟨rfl, rfl⟩
  · split
    · split <;> exact ⟨rfl, rfl⟩
    · exact ⟨rfl, rfl⟩
theorem movB_k (S : XS) (m : Nat) : (S.movB m).ns = S.ns ∧ (S.movB m).nm = S.nm := by
  unfold XS.movB
  split
  · exact ⟨rfl, rfl⟩
  · split
    · exact ⟨rfl, rfl⟩
    · split <;> exact ⟨rfl, rfl⟩
theorem movR_k (S : XS) (m : Nat) : (S.movR m).ns = S.ns ∧ (S.movR m).nm = S.nm := by
  unfold XS.movR
  split
  · exact ⟨rfl, rfl⟩
  · split
    · exact ⟨rfl, rfl⟩
    · split <;> exact ⟨rfl, rfl⟩
/-- what the moves need of a state, and keep -/
def MvI (I : XS → Prop) : Prop := ∀ S, I S → Bd S ∧
  (∀ c t, (c = 0 ∨ c = 3) → t < S.ns + 1 → (∀ m, m < S.nm → S.may c m t = true → (if c = 0 then S.uw else S.ur).length < 32) ∧ I (S.movA c t)) ∧
  (∀ m, m < S.nm → I (S.movD m)) ∧
  ((∀ d l, S.row (5 * (4 + S.ns) + 1) = d :: l → rLa d.r = true → S.row (5 * (4 + S.ns)) ≠ []) ∧ I S.refW) ∧ I S.refR ∧
  (∀ m, m < S.nm → (∀ t e l, S.giv m 2 (S.lb m) = some t → S.row (5 * (4 + t) + 2) = e :: l → ∃ j, S.uw.findIdx? (pMid m (rId e.r % 16)) = some j) ∧ I (S.movB m)) ∧
  (∀ m, m < S.nm → (S.inb m = true → ∃ l, S.lg m = some l) ∧ (∀ t e l, S.givR m = some t → S.row (5 * (4 + t) + 4) = e :: l → rLa e.r = true → ∃ j, S.ur.findIdx? (pMid m (rId e.r % 16)) = some j) ∧ I (S.movR m))
def kMv : List Nat := [0, 32, 33, 34, 35, 36, 37, 38, 39, 40, 41, 42, 43, 44, 45, 46, 47]
theorem r_mv2 {Γ : gm_T} {r : Nat} {I : XS → Prop} (hI : MvI I) {ns : Nat} : ∀ (d k fu : Nat) (φ : ph_T) (S : XS), k + d = ns + 1 → d < fu → RV Γ φ r S → I S → S.ns = ns →
    ∃ φ', f_Ref_move_L2 Γ fu φ r (nI k) = f_Ref_move_L24 Γ jF φ' r (nI 0) ∧ RV Γ φ' r (iterN (fun S t => S.movA 0 t) d k S) ∧ I (iterN (fun S t => S.movA 0 t) d k S) ∧ (iterN (fun S t => S.movA 0 t) d k S).ns = S.ns ∧ (iterN (fun S t => S.movA 0 t) d k S).nm = S.nm ∧ RFr r kMv φ φ' := by
  intro d
  induction d with
  | zero =>
    intro k fu φ S hd hf h hS hn
    match fu, hf with
    | fu + 1, _ =>
      have hb := (hI S hS).1.ns
      unfold f_Ref_move_L2 iterN
      rw [if_pos h.rl.o, h.sc.ns, if_pos ((zI_lt (by omega) (by omega)).mpr (by omega)), zI_0]
      exact ⟨φ, rfl, h, hS, rfl, rfl, RFr.refl _ _ _⟩
  | succ d ih =>
    intro k fu φ S hd hf h hS hn
    match fu, hf with
    | fu + 1, hf =>
      have hb := (hI S hS).1.ns
      obtain ⟨q1, q2⟩ := (hI S hS).2.1 0 k (Or.inl rfl) (by omega)
      obtain ⟨φ1, a1, a2, a3⟩ := r_movA h (hI S hS).1 (t := k) (c := 0) (by omega) (Or.inl rfl) q1
      have hk := movA_k S 0 k
      obtain ⟨φ', b1, b2, b3, b4, b5, b6⟩ := ih (k + 1) fu φ1 (S.movA 0 k) (by omega) (by omega) a2 q2 (by rw [hk.1]; exact hn)
      refine ⟨φ', ?_, b2, b3, by rw [← hk.1]; exact b4, by rw [← hk.2]; exact b5, (a3.mono (by decide)).trans b6⟩
      rw [← b1]
      conv => lhs; unfold f_Ref_move_L2
      have a1' : f_Ref_moveAddress Γ φ r (nI k) 0 = some ((), φ1) := a1
      rw [if_pos h.rl.o, h.sc.ns, if_neg (fun hc => by have := (zI_lt (by omega) (by omega)).mp hc; omega), a1', Option.bind_some, zI_1, zI_add]
theorem r_mv24 {Γ : gm_T} {r : Nat} {I : XS → Prop} (hI : MvI I) {ns : Nat} : ∀ (d k fu : Nat) (φ : ph_T) (S : XS), k + d = ns + 1 → d < fu → RV Γ φ r S → I S → S.ns = ns →
    ∃ φ', f_Ref_move_L24 Γ fu φ r (nI k) = f_Ref_move_L46 Γ jF φ' r (nI 0) ∧ RV Γ φ' r (iterN (fun S t => S.movA 3 t) d k S) ∧ I (iterN (fun S t => S.movA 3 t) d k S) ∧ (iterN (fun S t => S.movA 3 t) d k S).ns = S.ns ∧ (iterN (fun S t => S.movA 3 t) d k S).nm = S.nm ∧ RFr r kMv φ φ' := by
  intro d
  induction d with
  | zero =>
    intro k fu φ S hd hf h hS hn
    match fu, hf with
    | fu + 1, _ =>
      have hb := (hI S hS).1.ns
      unfold f_Ref_move_L24 iterN
      rw [if_pos h.rl.o, h.sc.ns, if_pos ((zI_lt (by omega) (by omega)).mpr (by omega)), zI_0]
      exact ⟨φ, rfl, h, hS, rfl, rfl, RFr.refl _ _ _⟩
  | succ d ih =>
    intro k fu φ S hd hf h hS hn
    match fu, hf with
    | fu + 1, hf =>
      have hb := (hI S hS).1.ns
      obtain ⟨q1, q2⟩ := (hI S hS).2.1 3 k (Or.inr rfl) (by omega)
      obtain ⟨φ1, a1, a2, a3⟩ := r_movA h (hI S hS).1 (t := k) (c := 3) (by omega) (Or.inr rfl) q1
      have hk := movA_k S 3 k
      obtain ⟨φ', b1, b2, b3, b4, b5, b6⟩ := ih (k + 1) fu φ1 (S.movA 3 k) (by omega) (by omega) a2 q2 (by rw [hk.1]; exact hn)
      refine ⟨φ', ?_, b2, b3, by rw [← hk.1]; exact b4, by rw [← hk.2]; exact b5, (a3.mono (by decide)).trans b6⟩
      rw [← b1]
      conv => lhs; unfold f_Ref_move_L24
      have a1' : f_Ref_moveAddress Γ φ r (nI k) 3 = some ((), φ1) := a1
      rw [if_pos h.rl.o, h.sc.ns, if_neg (fun hc => by have := (zI_lt (by omega) (by omega)).mp hc; omega), a1', Option.bind_some, zI_1, zI_add]
theorem r_mv46 {Γ : gm_T} {r : Nat} {I : XS → Prop} (hI : MvI I) {nm : Nat} : ∀ (d k fu : Nat) (φ : ph_T) (S : XS), k + d = nm → d < fu → RV Γ φ r S → I S → S.nm = nm →
    ∃ φ', f_Ref_move_L46 Γ fu φ r (nI k) = Option.bind (f_Ref_workDefault Γ φ' r) (fun q8 => f_Ref_move_L71 Γ jF q8.2 r (nI 0)) ∧ RV Γ φ' r (iterN XS.movD d k S) ∧ I (iterN XS.movD d k S) ∧ (iterN XS.movD d k S).ns = S.ns ∧ (iterN XS.movD d k S).nm = S.nm ∧ RFr r kMv φ φ' := by
  intro d
  induction d with
  | zero =>
    intro k fu φ S hd hf h hS hn
    match fu, hf with
    | fu + 1, _ =>
      have hb := (hI S hS).1.nm
      unfold f_Ref_move_L46 iterN
      rw [if_pos h.rl.o, h.sc.nm, if_pos ((zI_le (by omega) (by omega)).mpr (by omega)), zI_0]
      exact ⟨φ, rfl, h, hS, rfl, rfl, RFr.refl _ _ _⟩
  | succ d ih =>
    intro k fu φ S hd hf h hS hn
    match fu, hf with
    | fu + 1, hf =>
      have hb := (hI S hS).1.nm
      have q2 := (hI S hS).2.2.1 k (by omega)
      obtain ⟨φ1, a1, a2, a3⟩ := r_movD h (hI S hS).1 (m := k) (by omega)
      have hk := movD_k S k
      obtain ⟨φ', b1, b2, b3, b4, b5, b6⟩ := ih (k + 1) fu φ1 (S.movD k) (by omega) (by omega) a2 q2 (by rw [hk.2]; exact hn)
      refine ⟨φ', ?_, b2, b3, by rw [← hk.1]; exact b4, by rw [← hk.2]; exact b5, (a3.mono (by decide)).trans b6⟩
      rw [← b1]
      conv => lhs; unfold f_Ref_move_L46
      rw [if_pos h.rl.o, h.sc.nm, if_neg (fun hc => by have := (zI_le (by omega) (by omega)).mp hc; omega), a1, Option.bind_some, zI_1, zI_add]
theorem r_mv71 {Γ : gm_T} {r : Nat} {I : XS → Prop} (hI : MvI I) {nm : Nat} : ∀ (d k fu : Nat) (φ : ph_T) (S : XS), k + d = nm → d < fu → RV Γ φ r S → I S → S.nm = nm →
    ∃ φ', f_Ref_move_L71 Γ fu φ r (nI k) = f_Ref_move_L92 Γ jF φ' r (nI 0) ∧ RV Γ φ' r (iterN XS.movB d k S) ∧ I (iterN XS.movB d k S) ∧ (iterN XS.movB d k S).ns = S.ns ∧ (iterN XS.movB d k S).nm = S.nm ∧ RFr r kMv φ φ' := by
  intro d
  induction d with
  | zero =>
    intro k fu φ S hd hf h hS hn
    match fu, hf with
    | fu + 1, _ =>
      have hb := (hI S hS).1.nm
      unfold f_Ref_move_L71 iterN
      rw [if_pos h.rl.o, h.sc.nm, if_pos ((zI_le (by omega) (by omega)).mpr (by omega)), zI_0]
      exact ⟨φ, rfl, h, hS, rfl, rfl, RFr.refl _ _ _⟩
  | succ d ih =>
    intro k fu φ S hd hf h hS hn
    match fu, hf with
    | fu + 1, hf =>
      have hb := (hI S hS).1.nm
      obtain ⟨q1, q2⟩ := (hI S hS).2.2.2.2.2.1 k (by omega)
      obtain ⟨φ1, a1, a2, a3⟩ := r_movB h (hI S hS).1 (m := k) (by omega) q1
      have hk := movB_k S k
      obtain ⟨φ', b1, b2, b3, b4, b5, b6⟩ := ih (k + 1) fu φ1 (S.movB k) (by omega) (by omega) a2 q2 (by rw [hk.2]; exact hn)
      refine ⟨φ', ?_, b2, b3, by rw [← hk.1]; exact b4, by rw [← hk.2]; exact b5, (a3.mono (by decide)).trans b6⟩
      rw [← b1]
      conv => lhs; unfold f_Ref_move_L71
      rw [if_pos h.rl.o, h.sc.nm, if_neg (fun hc => by have := (zI_le (by omega) (by omega)).mp hc; omega), a1, Option.bind_some, zI_1, zI_add]
theorem r_mv92 {Γ : gm_T} {r : Nat} {I : XS → Prop} (hI : MvI I) {nm : Nat} : ∀ (d k fu : Nat) (φ : ph_T) (S : XS), k + d = nm → d < fu → RV Γ φ r S → I S → S.nm = nm →
    ∃ φ', f_Ref_move_L92 Γ fu φ r (nI k) = some ((), φ') ∧ RV Γ φ' r (iterN XS.movR d k S) ∧ I (iterN XS.movR d k S) ∧ RFr r kMv φ φ' := by
  intro d
  induction d with
  | zero =>
    intro k fu φ S hd hf h hS hn
    match fu, hf with
    | fu + 1, _ =>
      have hb := (hI S hS).1.nm
      unfold f_Ref_move_L92 iterN
      rw [if_pos h.rl.o, h.sc.nm, if_pos ((zI_le (by omega) (by omega)).mpr (by omega))]
      exact ⟨φ, rfl, h, hS, RFr.refl _ _ _⟩
  | succ d ih =>
    intro k fu φ S hd hf h hS hn
    match fu, hf with
    | fu + 1, hf =>
      have hb := (hI S hS).1.nm
      obtain ⟨q0, q1, q2⟩ := (hI S hS).2.2.2.2.2.2 k (by omega)
      obtain ⟨φ1, a1, a2, a3⟩ := r_movR h (hI S hS).1 (m := k) (by omega) q0 q1
      have hk := movR_k S k
      obtain ⟨φ', b1, b2, b3, b6⟩ := ih (k + 1) fu φ1 (S.movR k) (by omega) (by omega) a2 q2 (by rw [hk.2]; exact hn)
      refine ⟨φ', ?_, b2, b3, (a3.mono (by decide)).trans b6⟩
      rw [← b1]
      conv => lhs; unfold f_Ref_move_L92
      rw [if_pos h.rl.o, h.sc.nm, if_neg (fun hc => by have := (zI_le (by omega) (by omega)).mp hc; omega), a1, Option.bind_some, zI_1, zI_add]
theorem r_move {Γ : gm_T} {φ : ph_T} {r : Nat} {S : XS} {I : XS → Prop} (hI : MvI I) (h : RV Γ φ r S) (hS : I S) :
    ∃ φ', f_Ref_move Γ φ r = some ((), φ') ∧ RV Γ φ' r S.move ∧ I S.move ∧ RFr r kMv φ φ' := by
  have hb := (hI S hS).1
  have hns := hb.ns
  have hnm := hb.nm
  obtain ⟨φ1, a1, a2, a3, a4, a5, a6⟩ := r_mv2 (Γ := Γ) (r := r) hI (S.ns + 1) 0 jF φ S (by omega) (by unfold jF; omega) h hS rfl
  obtain ⟨φ2, b1, b2, b3, b4, b5, b6⟩ := r_mv24 (Γ := Γ) (r := r) hI (S.ns + 1) 0 jF φ1 _ (Nat.zero_add _) (by unfold jF; omega) a2 a3 a4
  rw [a4] at b4
  rw [a5] at b5
  obtain ⟨φ3, c1, c2, c3, c4, c5, c6⟩ := r_mv46 (Γ := Γ) (r := r) hI S.nm 0 jF φ2 _ (Nat.zero_add _) (by unfold jF; omega) b2 b3 b5
  rw [b4] at c4
  rw [b5] at c5
  obtain ⟨q1, q2⟩ := (hI _ c3).2.2.2.1
  obtain ⟨φ4, d1, d2, d3⟩ := r_refW c2 (hI _ c3).1 q1
  obtain ⟨φ5, e1, e2, e3⟩ := r_refR d2 (hI _ q2).1
  have q3 := (hI _ q2).2.2.2.2.1
  have kW := refW_k (iterN XS.movD S.nm 0 (iterN (fun S t => S.movA 3 t) (S.ns + 1) 0 (iterN (fun S t => S.movA 0 t) (S.ns + 1) 0 S)))
  have kR := refR_k (iterN XS.movD S.nm 0 (iterN (fun S t => S.movA 3 t) (S.ns + 1) 0 (iterN (fun S t => S.movA 0 t) (S.ns + 1) 0 S))).refW
  obtain ⟨φ6, f1, f2, f3, f4, f5, f6⟩ := r_mv71 (Γ := Γ) (r := r) hI S.nm 0 jF φ5 _ (Nat.zero_add _) (by unfold jF; omega) e2 q3 (by rw [kR.2, kW.2]; exact c5)
  rw [kR.2, kW.2, c5] at f5
  obtain ⟨φ7, g1, g2, g3, g4⟩ := r_mv92 (Γ := Γ) (r := r) hI S.nm 0 jF φ6 _ (Nat.zero_add _) (by unfold jF; omega) f2 f3 f5
  refine ⟨φ7, ?_, g2, g3, (((a6.trans b6).trans c6).trans ((d3.mono (by decide)).trans (e3.mono (by decide)))).trans (f6.trans g4)⟩
  unfold f_Ref_move
  rw [zI_0, a1, b1, c1, d1, e1, Option.bind_some, f1, g1]
