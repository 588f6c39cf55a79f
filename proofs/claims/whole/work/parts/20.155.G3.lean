/-! THE CONSTRUCTORS: the reference, whole -/
theorem RV.gm {Γ Γs : gm_T} {φ : ph_T} {r : Nat} {S : XS} (h : RV Γ φ r S) (hl : RL Γs φ r) : RV Γs φ r S := ⟨hl, h.sc, h.pg, h.mp, h.sp, h.ea, h.de, h.wa, h.me, h.tk, h.wi, h.tr, h.row, h.uw, h.ur, h.la, h.sw, h.sr, h.ch, h.rg, h.mo, h.wt⟩
theorem RLt_at : ∀ j : Fin 91, ∃ q, RLt[j.1]? = some q ∧ q.2.1 = j.1 + 1 := by
  intro j
  have h : ∀ j : Fin 91, ((RLt[j.1]?).map (fun q => q.2.1)) = some (j.1 + 1) := by decide
  have := h j
  cases hq : RLt[j.1]? with
  | none => rw [hq] at this; cases this
  | some q => rw [hq] at this; exact ⟨q, rfl, Option.some.inj this⟩
theorem RLt_len : RLt.length = 91 := by decide
theorem k_Ref {Γ : gm_T} {φ : ph_T} {a : Nat} (p0 p1 p2 : Int32) (h : Γ a = .inr 12) (z : Zr a φ) : ∃ Γ' φ' W, f_Ref_init Γ φ (a + 1) a p0 p1 p2 = some ((), (Γ', φ', a + 92), (91, W)) ∧ W ≤ 200000 ∧ Ag 0 a Γ φ Γ' φ' ∧ Zr (a + 92) φ' ∧ RV Γ' φ' a (XSi (clN p0 4) (clN p1 4) (clN p2 8)).clr ∧ He φ' a (XSi (clN p0 4) (clN p1 4) (clN p2 8)).clr ∧ Γ' a = .inr 12 ∧ ∀ Γs φs, Ag a (a + 92) Γ' φ' Γs φs → RL Γs φs a := by
  obtain ⟨S, hS⟩ : ∃ S, S = XSi (clN p0 4) (clN p1 4) (clN p2 8) := ⟨_, rfl⟩
  rw [← hS]
  obtain ⟨Γ', φ1, a1, a2, a3, a4, a5, a6, a7, a8, a9⟩ := mkA_at (k := kRef a p0 p1 p2) RLa h z (by decide) (by decide)
  have hq : ∀ q ∈ RLt, φ1.2.2 a q.1 = some (a + q.2.1) ∧ Γ' (a + q.2.1) = .inl (q.2.2.1, q.2.2.2) := by
    intro q hq
    obtain ⟨j, hj⟩ := List.mem_iff_getElem?.mp hq
    have hlt : j < 91 := by
      have := (List.getElem?_eq_some_iff.mp hj).1
      rw [RLt_len] at this
      exact this
    obtain ⟨q', hq', e⟩ := RLt_at ⟨j, hlt⟩
    have hq'' : RLt[j]? = some q' := hq'
    rw [hj] at hq''
    have := Option.some.inj hq''
    subst this
    have e' : q.2.1 = j + 1 := e
    have h9 := a9 j (q.1, q.2.2.1, q.2.2.2) (by unfold RLa; rw [List.getElem?_map, hj]; rfl)
    rw [e', show a + (j + 1) = a + 1 + j by omega]
    exact h9
  obtain ⟨φ2, hφ2⟩ : ∃ φ2, φ2 = uI (uI (uI φ1 a 1 (nI S.nm)) a 2 (nI S.ns)) a 3 (nI S.lim) := ⟨_, rfl⟩
  have f2 : Fr a (a + 1) φ1 φ2 := by subst hφ2; exact fr_uI (fr_uI (fr_uI (Fr.refl _ _ _) (by omega) _ _) (by omega) _ _) (by omega) _ _
  have e22 : φ2.2.2 = φ1.2.2 := by subst hφ2; rfl
  have hl : RL Γ' φ2 a := ⟨a3, fun q hq2 => by rw [e22]; exact hq q hq2⟩
  have n4 : 1 ≤ S.nm ∧ S.nm ≤ 4 := by subst hS; exact cl_bd p0 (by decide) (by decide)
  have n5 : 1 ≤ S.ns ∧ S.ns ≤ 4 := by subst hS; exact cl_bd p1 (by decide) (by decide)
  have zi : ∀ c, 0 < c → φ2.1 (a + c) = fun _ => 0 := fun c hc => by rw [f2.i (by omega), a4]; exact (z (a + c) (by omega)).1
  have zl : ∀ c, 0 < c → φ2.2.1 (a + c) = fun _ => 0 := fun c hc => by rw [f2.l (by omega), a5]; exact (z (a + c) (by omega)).2.1
  have s1 : φ2.1 a 1 = nI S.nm := by subst hφ2; rw [uI_s, uI_s, uI_s, vz_ne _ (by decide), vz_ne _ (by decide), vz_same]
  have s2 : φ2.1 a 2 = nI S.ns := by subst hφ2; rw [uI_s, vz_ne _ (by decide), uI_s, vz_same]
  have s3 : φ2.1 a 3 = nI S.lim := by subst hφ2; rw [uI_s, vz_same]
  have hmo : VMo (maOf φ2 a) S.mon := by
    have em : S.mon = fun _ => MOz := by subst hS; rfl
    rw [em]
    intro p hp
    unfold maOf
    rw [zi 72 (by omega), zl 73 (by omega), zi 74 (by omega), zi 75 (by omega), zi 76 (by omega), zi 77 (by omega), zi 78 (by omega), zi 79 (by omega), zi 80 (by omega), zi 81 (by omega), zl 82 (by omega), zi 83 (by omega), zi 84 (by omega), zi 85 (by omega), zl 86 (by omega), zi 87 (by omega)]
    refine ⟨Nat.zero_le _, Nat.zero_le _, fun c hc => ⟨rfl, rfl, rfl⟩, rfl, rfl, (show 0 < 13 by decide), rfl, rfl, rfl, rfl, ?_, ?_, ?_, ?_⟩
    · intro k e he; cases he
    · intro k e he; cases he
    · intro k e he; cases he
    · intro _ he; cases he
  have hwt : VWi (φ2.1 (a + 88)) (φ2.1 (a + 89)) (φ2.2.1 (a + 90)) (φ2.1 (a + 91)) 2 (fun p => S.wi (8 + p)) := by
    have em : S.wi = fun _ => WI0 := by subst hS; rfl
    rw [em, zi 88 (by omega), zi 89 (by omega), zl 90 (by omega), zi 91 (by omega)]
    intro p k hp hk
    exact ⟨rfl, rfl, rfl, rfl⟩
  obtain ⟨φ3, b1, b2, b3, b4⟩ := r_clear hl n4 n5 s1 s2 s3 hmo hwt
  have f3 := b4.fr (by decide)
  have hlen : RLa.length = 91 := by decide
  refine ⟨Γ', φ3, (RLa.map (fun q => q.2.2)).sum + 0, ?_, by decide, ?_, ?_, b2, b3, a3, ?_⟩
  · rw [ref_mk, a1, hlen]
    unfold kRef
    rw [show (4 : Int32) = nI 4 from rfl, show (8 : Int32) = nI 8 from rfl, e_near, Option.bind_some, e_near, Option.bind_some, e_near, Option.bind_some]
    have e : uI (uI (uI φ1 a 1 (nI (clN p0 4))) a 2 (nI (clN p1 4))) a 3 (nI (clN p2 8)) = φ2 := by subst hφ2; subst hS; rfl
    show mA 91 _ (Option.bind (f_Ref_clear Γ' (uI (uI (uI φ1 a 1 (nI (clN p0 4))) a 2 (nI (clN p1 4))) a 3 (nI (clN p2 8))) a) _) = _
    rw [e, b1]
    rfl
  · exact ag_fr (ag_fr a2 f2 (by omega)) f3 (by omega)
  · exact zr_fr (zr_fr (a6.mono (show a + 1 ≤ a + 92 by omega)) f2 (by omega)) f3 (by omega)
  · intro Γs φs s
    refine ⟨by rw [s.g (by omega) (by omega)]; exact a3, fun q hq2 => ?_⟩
    have hlt : q.2.1 < 92 := (show ∀ q ∈ RLt, q.2.1 < 92 by decide) q hq2
    rw [s.r (by omega) (by omega), s.g (by omega) (by omega), b4.1]
    exact hl.f q hq2
