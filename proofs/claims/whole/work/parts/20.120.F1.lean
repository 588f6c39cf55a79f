/-! THE FACE: what a call of both answers -/
def rsX {α : Type} (cd : Nat) (an : α) (E1 E2 E3 : String) : α ⊕ String := if cd = 0 then .inl an else if cd = 1 then .inr E1 else if cd = 2 then .inr E2 else .inr E3
def nE (E1 E2 E3 : String) : Nat := if E2 = E1 then 2 else if E3 = E2 then 3 else 4
theorem nE_pos (E1 E2 E3 : String) : 0 < nE E1 E2 E3 := by
  unfold nE
  repeat' split
  all_goals omega
def Face {α : Type} (Γ : gm_T) (φ : ph_T) (b : Nat) (S : XS) (k : Nat) (fB : Option ((α ⊕ String) × ph_T)) (fR : ph_T → Nat → Option (α × ph_T)) (E1 E2 E3 : String) : Prop :=
  ∃ (cd : Nat) (an : α) (φ' : ph_T) (S' : XS), cd < nE E1 E2 E3 ∧ fB = some (rsX cd an E1 E2 E3, φ') ∧ CV Γ φ' b S' ∧ Fr b (tAd b S.nm S.ns + 256) φ φ' ∧ JI k S' ∧ S'.nm = S.nm ∧ S'.ns = S.ns ∧
    ∀ φ1 r, RV Γ φ1 r S → He φ1 r S → ∃ v φ2, fR φ1 r = some (v, φ2) ∧ (cd = 0 → v = an) ∧ RV Γ φ2 r (S'.w_err cd) ∧ He φ2 r S' ∧ Fr r (r + 92) φ1 φ2
theorem Face.get {α : Type} {Γ : gm_T} {φ : ph_T} {b : Nat} {S : XS} {k : Nat} {fB : Option ((α ⊕ String) × ph_T)} {fR : ph_T → Nat → Option (α × ph_T)} {E1 E2 E3 : String} (h : CV Γ φ b S) (hJ : JI k S) (cd : Nat) (an : α) (hc : cd < nE E1 E2 E3) (h1 : fB = some (rsX cd an E1 E2 E3, φ)) (h2 : ∀ φ1 r, RV Γ φ1 r S → ∃ v, fR φ1 r = some (v, uI φ1 r 0 (nI cd)) ∧ (cd = 0 → v = an)) : Face Γ φ b S k fB fR E1 E2 E3 := by
  refine ⟨cd, an, φ, S, hc, h1, h, Fr.refl _ _ _, hJ, rfl, rfl, ?_⟩
  intro φ1 r hr hh
  obtain ⟨v, a1, a2⟩ := h2 φ1 r hr
  obtain ⟨b1, b2⟩ := r_errUp hr cd
  exact ⟨v, _, a1, a2, b1, fun j hj => by rw [b2.i 30 (by decide)]; exact hh j hj, b2.fr (by decide)⟩
theorem zL_0 : (0 : Int64) = nL 0 := rfl
theorem bI_or (b : Bool) : bI b = 0 ∨ bI b = 1 := by cases b <;> decide
theorem bt_ne (φ : ph_T) : ¬ ((bI true, φ) : Int32 × ph_T).1 = 0 := by show ¬ nI 1 = 0; decide
theorem bf_eq (φ : ph_T) : ((bI false, φ) : Int32 × ph_T).1 = 0 := rfl
theorem erz_at (φ : ph_T) (r : Nat) (v : Int32) : (uI φ r 0 v).1 r 0 = v := by rw [uI_1, if_pos rfl, vz_same]
theorem er_0 (φ : ph_T) (r : Nat) : (uI φ r 0 (0 : Int32)).1 r 0 ≤ 0 := by rw [erz_at]; decide
theorem er_1 (φ : ph_T) (r : Nat) : ¬ (uI φ r 0 (1 : Int32)).1 r 0 ≤ 0 := by rw [erz_at]; decide
theorem er_2 (φ : ph_T) (r : Nat) : ¬ (uI φ r 0 (2 : Int32)).1 r 0 ≤ 0 := by rw [erz_at]; decide
theorem er_3 (φ : ph_T) (r : Nat) : ¬ (uI φ r 0 (3 : Int32)).1 r 0 ≤ 0 := by rw [erz_at]; decide
theorem q_peek {Γ : gm_T} {φ : ph_T} {b : Nat} {S : XS} {k : Nat} (h : CV Γ φ b S) (hJ : JI k S) (p : Int32) : Face Γ φ b S k (f_Bus_peek Γ φ b p) (fun φ1 r => f_Ref_peek Γ φ1 r p) IOB IOB IOB := by
  have hn : f_Bus_needIndex Γ φ p (65536 : Int32) = _ := nIdx Γ φ p (n := 65536) (by decide) (by decide)
  cases hp : inN p 0 65535 with
  | false =>
    refine Face.get h hJ 1 0 (by decide) ?_ (fun φ1 r hr => ⟨0, ?_, fun e => by cases e⟩)
    · unfold f_Bus_peek
      rw [hn, hp]; rfl
    · obtain ⟨h1, _⟩ := r_errUp hr 1
      unfold f_Ref_peek f_Ref_peek_L18 f_Ref_peek_L38
      rw [show f_Ref_in Γ φ1 p.toInt64 (0 : Int64) (65535 : Int64) = _ from e_inN Γ φ1 p 0 65535, hp, Option.bind_some, if_pos (bf_eq _), if_pos hr.rl.o, if_pos hr.rl.o]
      rw [if_neg (er_1 _ _)]
      rfl
  | true =>
    obtain ⟨n, _, hn2, rfl, hn3⟩ := inN_t (by decide) (by decide) hp
    refine Face.get h hJ 0 (nI (S.mem n)) (by decide) ?_ (fun φ1 r hr => ⟨nI (S.mem n), ?_, fun _ => rfl⟩)
    · unfold f_Bus_peek
      rw [hn, hp]
      show (if Γ b = .inr 11 then _ else none) = _
      rw [if_pos h.lay.o, h.lay.f0, Option.bind_some, if_pos h.mem.o, c_byteAt h.mem (by omega)]
      rfl
    · obtain ⟨h1, _⟩ := r_errUp hr 0
      unfold f_Ref_peek f_Ref_peek_L18 f_Ref_peek_L38
      rw [show f_Ref_in Γ φ1 (nI n).toInt64 (0 : Int64) (65535 : Int64) = _ from e_inN Γ φ1 (nI n) 0 65535, hp, Option.bind_some, if_neg (bt_ne _), if_pos hr.rl.o, if_pos hr.rl.o]
      rw [if_pos (er_0 _ _), rf_13 hr.rl, Option.bind_some, rg_13 hr.rl, Option.bind_some, zix (by omega), Option.bind_some]
      rw [zI_0, (h1.me n (by omega)).1]
      rfl
theorem q_right {Γ : gm_T} {φ : ph_T} {b : Nat} {S : XS} {k : Nat} (h : CV Γ φ b S) (hJ : JI k S) (p q : Int32) : Face Γ φ b S k (f_Bus_right Γ φ b p q) (fun φ1 r => f_Ref_right Γ φ1 r p q) IOB IAE IAE := by
  have n4 := h.lay.nm4
  have s4 := h.lay.ns4
  have hn := nIdx Γ φ p (n := S.ns) (by omega) (by omega)
  have hm : f_Bus_needNumber Γ φ q (0 : Int32) (63 : Int32) = _ := nNum Γ φ q (lo := 0) (hi := 63) (by decide) (by decide)
  have hri : ∀ φ1 r, RV Γ φ1 r S → f_Ref_in Γ φ1 p.toInt64 (0 : Int64) ((φ1.1 r 2).toInt64 - (1 : Int64)) = some (bI (inN p 0 (S.ns - 1)), φ1) := by
    intro φ1 r hr
    rw [hr.sc.ns, nI_64m1 (by omega) (by omega)]
    exact e_inN Γ φ1 p 0 (S.ns - 1)
  have hb : f_Bus_right Γ φ b p q = bT (f_Bus_needIndex Γ φ p (nI S.ns)) fun v5 φ6 => bT (f_Bus_needNumber Γ φ6 q (0 : Int32) (63 : Int32)) fun v9 φ10 =>
      Option.bind (φ10.2.2 b 3) fun a12 => Option.bind (gA Γ a12 9) fun N13 => Option.bind (ix p N13) fun k14 => Option.bind (φ10.2.2 a12 k14) fun a15 =>
      @ite _ (Γ a15 = .inr 8) _ (Option.bind (φ10.2.2 a15 4) fun a17 => Option.bind (gA Γ a17 0) fun N18 => Option.bind (ix q N18) fun k19 => some (.inl ((φ10.1 a17 k19)), φ10)) none := by
    unfold f_Bus_right
    rw [if_pos h.lay.o, h.lay.f3, Option.bind_some, h.lay.g3, Option.bind_some]
  cases hp : inN p 0 (S.ns - 1) with
  | false =>
    refine Face.get h hJ 1 0 (by decide) ?_ (fun φ1 r hr => ⟨0, ?_, fun e => by cases e⟩)
    · rw [hb, hn, hp]; rfl
    · obtain ⟨h1, _⟩ := r_errUp hr 1
      show f_Ref_right Γ φ1 r p q = _
      unfold f_Ref_right f_Ref_right_L38 f_Ref_right_L63
      rw [if_pos hr.rl.o, hri φ1 r hr, hp, Option.bind_some, if_pos (bf_eq _), if_pos hr.rl.o, if_pos hr.rl.o]
      rw [if_neg (er_1 _ _)]
      rfl
  | true =>
    obtain ⟨n, _, hn2, rfl, hn3⟩ := inN_t (by omega) (by omega) hp
    cases hq : inN q 0 63 with
    | false =>
      refine Face.get h hJ 2 0 (by decide) ?_ (fun φ1 r hr => ⟨0, ?_, fun e => by cases e⟩)
      · rw [hb, hn, hp, if_pos rfl, bT_l, hm, hq]; rfl
      · obtain ⟨h1, _⟩ := r_errUp hr 2
        show f_Ref_right Γ φ1 r _ q = _
        unfold f_Ref_right f_Ref_right_L38 f_Ref_right_L63
        rw [if_pos hr.rl.o, hri φ1 r hr, hp, Option.bind_some, if_neg (bt_ne _)]
        rw [show f_Ref_in Γ φ1 q.toInt64 (0 : Int64) (63 : Int64) = _ from e_inN Γ φ1 q 0 63, hq, Option.bind_some, if_pos (bf_eq _), if_pos hr.rl.o, if_pos hr.rl.o]
        rw [if_neg (er_2 _ _)]
        rfl
    | true =>
      obtain ⟨i, _, hi2, rfl, hi3⟩ := inN_t (by omega) (by omega) hq
      refine Face.get h hJ 0 (oI ((S.rgt n i).map Prod.fst) m1) (by decide) ?_ (fun φ1 r hr => ⟨oI ((S.rgt n i).map Prod.fst) m1, ?_, fun _ => rfl⟩)
      · have hs := h.sl n (by omega)
        rw [hb, hn, hp, if_pos rfl, bT_l, hm, hq, if_pos rfl, bT_l, h.lay.f3, Option.bind_some, h.lay.g3, Option.bind_some, zix (by omega), Option.bind_some, h.lay.sl n (by omega), Option.bind_some, if_pos hs.o, hs.f4, Option.bind_some, hs.g4, Option.bind_some, zix (by omega), Option.bind_some, (hs.rg i (by omega)).1]
        rfl
      · obtain ⟨h1, _⟩ := r_errUp hr 0
        show f_Ref_right Γ φ1 r _ _ = _
        unfold f_Ref_right f_Ref_right_L38 f_Ref_right_L63
        rw [if_pos hr.rl.o, hri φ1 r hr, hp, Option.bind_some, if_neg (bt_ne _)]
        rw [show f_Ref_in Γ φ1 (nI i).toInt64 (0 : Int64) (63 : Int64) = _ from e_inN Γ φ1 (nI i) 0 63, hq, Option.bind_some, if_neg (bt_ne _), if_pos hr.rl.o, if_pos hr.rl.o]
        rw [if_pos (er_0 _ _), rf_80 hr.rl, Option.bind_some, rg_80 hr.rl, Option.bind_some]
        rw [show (64 : Int32) * nI n + nI i = nI (64 * n + i) from by rw [show (64 : Int32) = nI 64 from rfl, zI_mul, zI_add], zix (by omega), Option.bind_some, zI_0, (h1.rg n i (by omega) (by omega)).1]
        rfl
