/-! THE CLASS: the crossbar moves beats of reads; all moves -/
theorem c_readGiver {Γ : gm_T} {φ : ph_T} {w m : Nat} {S : XS} (h : CSw Γ φ w S) (hB : Bd S) (hm : m < S.nm) : f_Switch_readGiverFor Γ φ w (nI m) = some (oI (S.givR m) m1, φ) := by
  have h4 := h.lay.nm4
  have h5 := h.lay.ns4
  have hgv : f_Switch_giverFor Γ φ w (nI m) (4 : Int32) (oI (S.lg m) m1) = some (oI (S.giv m 4 (S.lg m)) m1, φ) := c_giver (c := 4) h hm (by omega) (fun o ho => hB.lg m o ho)
  have hL44 : f_Switch_readGiverFor_L44 Γ φ w (nI m) (oI (S.lg m) m1) = some (oI (S.giv m 4 (S.lg m)) m1, φ) := by
    unfold f_Switch_readGiverFor_L44
    rw [if_pos h.lay.o, hgv, Option.bind_some]
  unfold f_Switch_readGiverFor f_Switch_readGiverFor_L43
  rw [if_pos h.lay.o, h.lay.f11, Option.bind_some, h.lay.g11, Option.bind_some, zix (by omega), Option.bind_some, h.ob.whole, h.lg m hm, hL44]
  simp only [bI_eqz]
  cases hw : S.whole with
  | false =>
    rw [if_pos rfl, givR_f (Or.inl hw)]
  | true =>
    rw [if_neg (by decide), h.lay.f12, Option.bind_some, h.lay.g12, Option.bind_some, zix (by omega), Option.bind_some, h.inb m hm]
    simp only [bI_eqz]
    cases hi : S.inb m with
    | false => rw [if_pos rfl, givR_f (Or.inr hi)]
    | true =>
      rw [if_neg (by decide)]
      cases hl : S.lg m with
      | none =>
        rw [if_pos (by rfl)]
        unfold XS.givR
        rw [hw, hi, hl]
        rfl
      | some o =>
        have hol := hB.lg m o hl
        rw [if_neg (show ¬ oI (some o) m1 = (-1 : Int32) from zI_ne_m1 (by omega)), givR_t hw hi hl]
        have hg : f_Switch_gives Γ φ w (oI (some o) m1) (nI m) (4 : Int32) = some (bI (S.gives m 4 o), φ) := c_gives (c := 4) h (by omega) hm (by omega)
        rw [hg, Option.bind_some]
        simp only [bI_eqz]
        cases S.gives m 4 o with
        | false => rw [if_pos rfl, if_neg (by decide)]; rfl
        | true => rw [if_neg (by decide), if_pos rfl]
theorem givR_some {S : XS} {m t : Nat} (hB : Bd S) (h : S.givR m = some t) : S.gives m 4 t = true ∧ t < S.ns + 1 := by
  unfold XS.givR at h
  split at h
  · rename_i l e1 e2
    split at h
    · rename_i hg
      cases h
      exact ⟨hg, by have := hB.lg m t e2; omega⟩
    · cases h
  · exact giv_some h
theorem c_movR {Γ : gm_T} {φ : ph_T} {w m : Nat} {S : XS} (h : CSw Γ φ w S) (hB : Bd S) (hm : m < S.nm) :
    ∃ φ', f_Switch_moveReadBeat Γ φ w (nI m) = some ((), φ') ∧ CSw Γ φ' w (S.movR m) ∧ Fr w (w + swZ S.nm S.ns) φ φ' := by
  have h4 := h.lay.nm4
  have h5 := h.lay.ns4
  have eA : swA w S.nm S.ns = w + 24 + 20 * S.nm + 20 * S.ns := rfl
  have eB : swB w S.nm S.ns = w + 26 + 30 * S.nm + 20 * S.ns := rfl
  have eZ : swZ S.nm S.ns = 31 + 30 * S.nm + 20 * S.ns := rfl
  have okM : okR S.nm S.ns (5 * m + 4) := Or.inl (by omega)
  have rM := h.row _ okM
  have hroom : f_Row_hasRoom Γ φ (rA w S.nm (5 * m + 4)) = some (bI (S.hasRm (5 * m + 4)), φ) := c_hasRoom rM
  have qM : f_Switch_ofMaster Γ φ w (nI m) (4 : Int32) = some (some (rA w S.nm (5 * m + 4)), φ) := c_ofMaster (c := 4) h hm (by omega)
  unfold f_Switch_moveReadBeat
  rw [if_pos h.lay.o, qM, Option.bind_some, Option.bind_some, if_pos rM.o]
  dsimp only
  rw [hroom, Option.bind_some]
  simp only [bI_eqz]
  unfold XS.movR
  cases hrm : S.hasRm (5 * m + 4) with
  | false =>
    rw [if_pos rfl, if_pos rfl]
    exact ⟨φ, rfl, h, Fr.refl _ _ _⟩
  | true =>
    rw [if_neg (by decide), if_neg (by decide), c_readGiver h hB hm, Option.bind_some]
    dsimp only
    cases hg : S.givR m with
    | none => exact ⟨φ, rfl, h, Fr.refl _ _ _⟩
    | some t =>
      obtain ⟨g1, ht⟩ := givR_some hB hg
      obtain ⟨e, l, hr⟩ := gives_row g1
      have hid := gives_id g1 hr
      obtain ⟨φ1, a1, a2, a3⟩ := c_moveBack (c := 4) h hm ht (Or.inr rfl) hr hrm hid
      have qT : f_Switch_ofTarget Γ φ w (nI t) (4 : Int32) = some (some (rA w S.nm (5 * (4 + t) + 4)), φ) := c_ofTarget (c := 4) h ht (by omega)
      obtain ⟨b1, b2⟩ := a2.lgU m t
      have b1' : CSw Γ (uI φ1 (swB w S.nm S.ns + 3) m (nI t)) w (((S.drop (5 * (4 + t) + 4)).put (5 * m + 4) ⟨e.c, e.r - nI (16 * m), S.time⟩).w_lg (va_up S.lg m (some t))) := b1
      obtain ⟨d1, d2⟩ := b1'.inU m (!rLa e.r)
      have d1' : CSw Γ (uI (uI φ1 (swB w S.nm S.ns + 3) m (nI t)) (swB w S.nm S.ns + 4) m (bI (!rLa e.r))) w ((((S.drop (5 * (4 + t) + 4)).put (5 * m + 4) ⟨e.c, e.r - nI (16 * m), S.time⟩).w_lg (va_up S.lg m (some t))).w_inb (va_up S.inb m (!rLa e.r))) := d1
      have hrid : rId (e.r - nI (16 * m)) = rId e.r % 16 := by rw [← hid]; exact rId_m49 e.r
      have hrla : rLa (e.r - nI (16 * m)) = rLa e.r := rLa_sub hid
      have f11' : φ1.2.2 w 11 = some (swB w S.nm S.ns + 3) := by rw [a3.r (by omega)]; exact h.lay.f11
      have f12' : φ1.2.2 w 12 = some (swB w S.nm S.ns + 4) := by rw [a3.r (by omega)]; exact h.lay.f12
      have f7' : φ1.2.2 w 7 = some (swA w S.nm S.ns + 1) := by rw [a3.r (by omega)]; exact h.lay.f7
      have fu' : φ1.2.2 (swA w S.nm S.ns + 1) m = some (swA w S.nm S.ns + 7 + 10 * m) := by rw [a3.r (by omega)]; exact h.lay.ur m hm
      have f13 : Fr w (w + swZ S.nm S.ns) φ (uI (uI φ1 (swB w S.nm S.ns + 3) m (nI t)) (swB w S.nm S.ns + 4) m (bI (!rLa e.r))) := (a3.mono (by omega) (by omega)).trans ((b2.mono (by show w ≤ swB w S.nm S.ns + 3; omega) (by show swB w S.nm S.ns + 4 ≤ _; omega)).trans (d2.mono (by show w ≤ swB w S.nm S.ns + 4; omega) (by show swB w S.nm S.ns + 5 ≤ _; omega)))
      have hpre : f_Switch_moveReadBeat_L23 Γ φ w (nI m) (some (rA w S.nm (5 * m + 4))) (oI (some t) m1) = f_Switch_moveReadBeat_L67 Γ (uI φ1 (swB w S.nm S.ns + 3) m (nI t)) w (nI m) (e.r - nI (16 * m)) (bI (!rLa e.r)) (nI m) (some (swB w S.nm S.ns + 4)) := by
        unfold f_Switch_moveReadBeat_L23
        rw [if_neg (show ¬ oI (some t) m1 = (-1 : Int32) from zI_ne_m1 (by omega)), if_pos h.lay.o]
        show (f_Switch_ofTarget Γ φ w (nI t) (4 : Int32)).bind _ = _
        rw [qT, Option.bind_some]
        dsimp only
        rw [a1, Option.bind_some]
        dsimp only
        rw [f11', Option.bind_some, h.lay.g11, Option.bind_some, zix (by omega), Option.bind_some, e_restLast, Option.bind_some, hrla, f12']
        simp only [bI_eqz]
        cases rLa e.r with
        | false => rw [if_pos rfl]; rfl
        | true => rw [if_neg (by decide)]; rfl
      rw [hpre]
      have hbo : (bI (!rLa e.r) = 0 ∨ bI (!rLa e.r) = 1) := (bI_ok _).mpr trivial
      unfold f_Switch_moveReadBeat_L67 f_Switch_moveReadBeat_L90
      rw [Option.bind_some, h.lay.g12, Option.bind_some, zix (by omega), Option.bind_some, if_pos hbo, e_restLast, Option.bind_some, hrla]
      simp only [bI_eqz]
      rw [hr]
      dsimp only
      by_cases hla : rLa e.r = true
      · have hu : CUw Γ (uI (uI φ1 (swB w S.nm S.ns + 3) m (nI t)) (swB w S.nm S.ns + 4) m (bI (!rLa e.r))) (swA w S.nm S.ns + 7 + 10 * m) (S.ur.filter (isM m)) := d1'.ur m hm
        obtain ⟨φ3, c1, c2, c3⟩ := c_removeFirst hu (id := rId e.r % 16) (by omega)
        have h3 := d1'.urU (l := S.ur.eraseP (fun u => decide (u.m = m) && decide (u.id = rId e.r % 16))) hm (c3.mono (by show swA w S.nm S.ns + 7 + 10 * m ≤ _; omega) (by show _ ≤ swA w S.nm S.ns + 12 + 10 * m; omega)) (by rw [er_filter]; exact c2) (fun m' hne => er_filter_ne hne)
        refine ⟨φ3, ?_, ?_, f13.trans (c3.mono (by omega) (by omega))⟩
        · rw [if_neg (by rw [hla]; decide), if_pos h.lay.o]
          show Option.bind (φ1.2.2 w 7) _ = _
          rw [f7', Option.bind_some, h.lay.g7, Option.bind_some, zix (by omega), Option.bind_some, e_restId, Option.bind_some]
          show Option.bind (φ1.2.2 (swA w S.nm S.ns + 1) m) _ = _
          rw [fu', Option.bind_some, if_pos hu.o, hrid]
          show (f_UnderWay_removeFirst Γ (uI (uI φ1 (swB w S.nm S.ns + 3) m (nI t)) (swB w S.nm S.ns + 4) m (bI (!rLa e.r))) (swA w S.nm S.ns + 7 + 10 * m) (nI (rId e.r % 16))).bind _ = _
          rw [c1, Option.bind_some]
        · refine h3.cg rfl rfl rfl rfl rfl rfl rfl rfl rfl rfl ?_ rfl rfl rfl rfl rfl
          show (if rLa e.r = true then _ else _) = _
          rw [if_pos hla]
          rfl
      · have hlf : rLa e.r = false := by simpa using hla
        refine ⟨_, ?_, ?_, f13⟩
        · rw [if_pos hlf]
        · refine d1'.cg rfl rfl rfl rfl rfl rfl rfl rfl rfl rfl ?_ rfl rfl rfl rfl rfl
          show (if rLa e.r = true then _ else _) = _
          rw [if_neg hla]
          rfl
/-- what the moves need of a state for the class, and keep -/
def MvC (I : XS → Prop) : Prop := ∀ S, I S → Bd S ∧
  (∀ c t, (c = 0 ∨ c = 3) → t < S.ns + 1 → I (S.movA c t)) ∧
  (∀ m, m < S.nm → S.uw.Pairwise (fun a b => a.num < b.num) ∧ (∀ u ∈ S.uw, u.m < S.nm ∧ u.tg < S.ns + 1) ∧ I (S.movD m)) ∧
  ((∀ d l, S.row (5 * (4 + S.ns) + 1) = d :: l → rLa d.r = true → S.row (5 * (4 + S.ns)) ≠ []) ∧ I S.refW) ∧
  ((∀ a l, S.row (5 * (4 + S.ns) + 3) = a :: l → S.dbeat < leN a.c) ∧ I S.refR) ∧
  (∀ m, m < S.nm → (∀ t, ∀ e ∈ S.row (5 * (4 + t) + 2), e.c = 0) ∧ I (S.movB m)) ∧
  (∀ m, m < S.nm → I (S.movR m))
