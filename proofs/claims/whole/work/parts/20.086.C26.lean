/-! THE CLASS: the crossbar moves addresses and data -/
theorem CSw.cg {Γ : gm_T} {φ : ph_T} {w : Nat} {S T : XS} (h : CSw Γ φ w S) (e1 : T.nm = S.nm) (e2 : T.ns = S.ns) (e3 : T.lim = S.lim) (e4 : T.pol = S.pol) (e5 : T.whole = S.whole) (e6 : T.dbeat = S.dbeat) (e7 : T.moved = S.moved) (e8 : T.pages = S.pages) (e9 : T.row = S.row) (e10 : T.uw = S.uw) (e11 : T.ur = S.ur) (e12 : T.la = S.la) (e13 : T.lr = S.lr) (e14 : T.lb = S.lb) (e15 : T.lg = S.lg) (e16 : T.inb = S.inb) : CSw Γ φ w T := by
  refine ⟨?_, ⟨?_, ?_, ?_, ?_, ?_, ?_, ?_⟩, ?_, ?_, ?_, ?_, ?_, ?_, ?_, ?_, ?_⟩
  · rw [e1, e2]; exact h.lay
  · rw [e1]; exact h.ob.nm
  · rw [e2]; exact h.ob.ns
  · rw [e3]; exact h.ob.lim
  · rw [e4]; exact h.ob.pol
  · rw [e5]; exact h.ob.whole
  · rw [e6]; exact h.ob.db
  · rw [e7]; exact h.ob.mv
  · rw [e8]; exact h.pg
  · rw [e1, e2, e9]; exact h.row
  · rw [e1, e2, e10]; exact h.uw
  · rw [e1, e2, e11]; exact h.ur
  · rw [e1, e2, e12]; exact h.la
  · rw [e1, e2, e13]; exact h.lr
  · rw [e1, e2, e14]; exact h.lb
  · rw [e1, e2, e15]; exact h.lg
  · rw [e1, e2, e16]; exact h.inb
theorem row_comm (f : Nat → List RE) {i j : Nat} (h : i ≠ j) (a b : List RE) : va_up (va_up f i a) j b = va_up (va_up f j b) i a := by
  funext k
  simp only [vz_at]
  by_cases e1 : k = i
  · by_cases e2 : k = j
    · exact absurd (e1.symm.trans e2) h
    · simp [e1, e2, h]
  · simp [e1]
/-- a move between two rows -/
theorem c_mvRow {Γ : gm_T} {φ : ph_T} {w i j : Nat} {S : XS} {e : RE} {l : List RE} {x : RE} (h : CSw Γ φ w S) (hi : okR S.nm S.ns i) (hj : okR S.nm S.ns j) (hne : i ≠ j) (hr : S.row i = e :: l) (hrm : S.hasRm j = true) (tv : Int32) (ht : tmF j = true → tv = nI x.t) :
    ∃ φ1 φ2, f_Row_put Γ φ (rA w S.nm j) x.c x.r tv = some ((), φ1) ∧ f_Row_drop Γ φ1 (rA w S.nm i) = some ((), φ2) ∧ CSw Γ φ2 w ((S.drop i).put j x) ∧ Fr (w + 3) (swA w S.nm S.ns) φ φ2 ∧ φ1.2.2 w = φ.2.2 w := by
  have h4 := h.lay.nm4
  have in1 := rA_in (w := w) h4.2 hi
  have in2 := rA_in (w := w) h4.2 hj
  have eA : swA w S.nm S.ns = w + 24 + 20 * S.nm + 20 * S.ns := rfl
  obtain ⟨φ1, a1, a2, a3⟩ := c_put (h.row j hj) (by unfold XS.hasRm at hrm; simpa using hrm) x tv ht
  have h1 := h.rowU hj a3 a2
  have hr1 : (S.setRow j (S.row j ++ [x])).row i = S.row i := by
    show va_up S.row j _ i = S.row i
    rw [vz_ne _ hne]
  have hrow1 : CRow Γ φ1 (rA w S.nm i) (roomN (i % 5)) (tmF i) (S.row i) := by
    have := h1.row i hi
    rw [hr1] at this
    exact this
  obtain ⟨φ2, b1, b2, b3⟩ := c_drop hrow1 (by rw [hr]; simp)
  have h2 := h1.rowU (i := i) hi b3 b2
  refine ⟨φ1, φ2, a1, b1, ?_, (a3.mono (by omega) (by omega)).trans (b3.mono (by omega) (by omega)), a3.r (by omega)⟩
  refine h2.cg rfl rfl rfl rfl rfl rfl rfl rfl ?_ rfl rfl rfl rfl rfl rfl rfl
  show va_up (va_up S.row i (S.row i).tail) j (va_up S.row i (S.row i).tail j ++ [x]) = va_up (va_up S.row j (S.row j ++ [x])) i (S.row i).tail
  rw [vz_ne _ (fun hh => hne hh.symm), row_comm _ hne]
theorem c_movA {Γ : gm_T} {φ : ph_T} {w t c : Nat} {S : XS} (h : CSw Γ φ w S) (hB : Bd S) (ht : t < S.ns + 1) (hc : c = 0 ∨ c = 3) :
    ∃ φ', f_Switch_moveAddress Γ φ w (nI t) (nI c) (some (swB w S.nm S.ns + (if c = 0 then 0 else 1))) = some ((), φ') ∧ CSw Γ φ' w (S.movA c t) ∧ Fr w (w + swZ S.nm S.ns) φ φ' := by
  have h4 := h.lay.nm4
  have h5 := h.lay.ns4
  have hc5 : c < 5 := by omega
  have eA : swA w S.nm S.ns = w + 24 + 20 * S.nm + 20 * S.ns := rfl
  have eB : swB w S.nm S.ns = w + 26 + 30 * S.nm + 20 * S.ns := rfl
  have eZ : swZ S.nm S.ns = 31 + 30 * S.nm + 20 * S.ns := rfl
  have hokT : okR S.nm S.ns (5 * (4 + t) + c) := Or.inr (by omega)
  have hrT := h.row (5 * (4 + t) + c) hokT
  have hroom : f_Row_hasRoom Γ φ (rA w S.nm (5 * (4 + t) + c)) = some (bI (S.hasRm (5 * (4 + t) + c)), φ) := c_hasRoom hrT
  have hlast : φ.1 (swB w S.nm S.ns + (if c = 0 then 0 else 1)) t = oI (if c = 0 then S.la t else S.lr t) m1 := by
    rcases hc with rfl | rfl
    · exact h.la t ht
    · exact h.lr t ht
  have hg : gA Γ (swB w S.nm S.ns + (if c = 0 then 0 else 1)) 0 = some (S.ns + 1) := by
    rcases hc with rfl | rfl
    · exact h.lay.g8
    · exact h.lay.g9
  unfold f_Switch_moveAddress
  rw [if_pos h.lay.o, c_ofTarget h ht hc5, Option.bind_some]
  simp (disch := first | assumption | omega) only [Option.bind_some, hrT.o, if_true, hroom, bI_eqz, hg, zix, hlast, c_arb h hB ht hc]
  unfold XS.movA
  cases hrm : S.hasRm (5 * (4 + t) + c) with
  | false =>
    simp only [if_true]
    exact ⟨φ, rfl, h, Fr.refl _ _ _⟩
  | true =>
    simp only [Bool.true_eq_false, if_false]
    cases ha : S.arb c t with
    | none => exact ⟨φ, rfl, h, Fr.refl _ _ _⟩
    | some m =>
      obtain ⟨hmay, hm⟩ := arb_some hB hrm ha
      have hokM : okR S.nm S.ns (5 * m + c) := Or.inl (by omega)
      unfold XS.may at hmay
      cases hr : S.row (5 * m + c) with
      | nil => rw [hr] at hmay; cases hmay
      | cons e l =>
        rw [hr] at hmay
        simp only [Bool.and_eq_true, decide_eq_true_eq] at hmay
        have hmg := hmay.2
        rw [mayG_eq] at hmg
        simp only [Bool.and_eq_true, decide_eq_true_eq] at hmg
        have hlen := hmg.1
        have hlim := hB.lim
        have hmv := hB.moved
        have htm := hB.time
        have hrM := h.row (5 * m + c) hokM
        rw [hr] at hrM
        have hne : 5 * m + c ≠ 5 * (4 + t) + c := by omega
        have hid := idN_lt e.c
        have hle := leN_le e.c
        -- under way
        obtain ⟨u, hu⟩ : ∃ u : UE, u = ⟨m, idN e.c, t, if c = 0 then leN e.c else 0, S.moved⟩ := ⟨_, rfl⟩
        have hum : u.m = m := by rw [hu]
        have hu1 : u.id = idN e.c := by rw [hu]
        have hu2 : u.tg = t := by rw [hu]
        have hu3 : u.left = if c = 0 then leN e.c else 0 := by rw [hu]
        have hu4 : u.num = S.moved := by rw [hu]
        have huL : u.left ≤ 16 := by rw [hu3]; split <;> omega
        have hU := h.uv (c := c) hm
        obtain ⟨φ1, a1, a2, a3⟩ := c_addU hU (by omega) u (by rw [hu1, hu2, hu4]; exact ⟨hid, by omega, huL, by omega⟩)
        have hfl : ∀ L : List UE, (L ++ [u]).filter (isM m) = L.filter (isM m) ++ [u] := fun L => by rw [filt_app, if_pos hum]
        have hfo : ∀ (L : List UE) m', m' ≠ m → (L ++ [u]).filter (isM m') = L.filter (isM m') := fun L m' hne => by rw [filt_app, if_neg (by rw [hum]; exact fun hh => hne hh.symm), List.append_nil]
        have h1 : CSw Γ φ1 w (if c = 0 then S.w_uw (S.uw ++ [u]) else S.w_ur (S.ur ++ [u])) := by
          rcases hc with rfl | rfl
          · simp only [if_true] at a2 a3 ⊢
            exact h.uwU hm (a3.mono (by omega) (by omega)) (by rw [hfl]; exact a2) (hfo S.uw)
          · simp only [show ¬ ((3 : Nat) = 0) by decide, if_false] at a2 a3 ⊢
            exact h.urU hm (a3.mono (by omega) (by omega)) (by rw [hfl]; exact a2) (hfo S.ur)
        have hnm1 : (if c = 0 then S.w_uw (S.uw ++ [u]) else S.w_ur (S.ur ++ [u])).nm = S.nm := by split <;> rfl
        have hns1 : (if c = 0 then S.w_uw (S.uw ++ [u]) else S.w_ur (S.ur ++ [u])).ns = S.ns := by split <;> rfl
        have hrow1 : (if c = 0 then S.w_uw (S.uw ++ [u]) else S.w_ur (S.ur ++ [u])).row = S.row := by split <;> rfl
        generalize hS1 : (if c = 0 then S.w_uw (S.uw ++ [u]) else S.w_ur (S.ur ++ [u])) = S1 at h1 hnm1 hns1 hrow1
        have hmv1 : φ1.1 w 16 = nI S.moved := by
          have := h1.ob.mv
          rw [this, ← hS1]
          split <;> rfl
        obtain ⟨h2, f2⟩ := h1.mvU (S.moved + 1)
        -- rows
        obtain ⟨φ3, φ4, b1, b2, b3, b4, b5⟩ := c_mvRow (i := 5 * m + c) (j := 5 * (4 + t) + c) (e := e) (l := l) (x := ⟨e.c + nL (16 * m), 0, S.time⟩) h2 (by show okR S1.nm S1.ns _; rw [hnm1, hns1]; exact hokM) (by show okR S1.nm S1.ns _; rw [hnm1, hns1]; exact hokT) hne (by show S1.row _ = _; rw [hrow1]; exact hr) (by unfold XS.hasRm at hrm ⊢; show decide ((S1.row _).length < _) = true; rw [hrow1]; exact hrm) (nI 0) (fun hh => by
          have : tmF (5 * (4 + t) + c) = false := by unfold tmF; rw [decide_eq_false (show ¬ 5 * (4 + t) + c < 20 by omega)]; rfl
          rw [this] at hh; cases hh)
        have eA1 : swA w (S1.w_moved (S.moved + 1)).nm (S1.w_moved (S.moved + 1)).ns = swA w S.nm S.ns := by show swA w S1.nm S1.ns = _; rw [hnm1, hns1]
        rw [eA1] at b4
        have b1' : f_Row_put Γ (uI φ1 w 16 (nI (S.moved + 1))) (rA w S.nm (5 * (4 + t) + c)) (e.c + nL (16 * m)) (0 : Int32) (0 : Int32) = some ((), φ3) := by
          have := b1
          rw [show (S1.w_moved (S.moved + 1)).nm = S.nm from hnm1] at this
          exact this
        have b2' : f_Row_drop Γ φ3 (rA w S.nm (5 * m + c)) = some ((), φ4) := by
          have := b2
          rw [show (S1.w_moved (S.moved + 1)).nm = S.nm from hnm1] at this
          exact this
        have f14 : Fr w (w + swZ S.nm S.ns) φ φ4 := by
          refine Fr.trans (Fr.trans (a3.mono (by rcases hc with rfl | rfl <;> simp <;> omega) (by rcases hc with rfl | rfl <;> simp <;> omega)) (f2.mono (by omega) (by omega))) (b4.mono (by omega) (by omega))
        have hS2 : ((S1.w_moved (S.moved + 1)).drop (5 * m + c)).put (5 * (4 + t) + c) ⟨e.c + nL (16 * m), 0, S.time⟩ = ((S1.w_moved (S.moved + 1)).drop (5 * m + c)).put (5 * (4 + t) + c) ⟨e.c + nL (16 * m), 0, S.time⟩ := rfl
        -- what the code does
        have hcode : ∀ y : Nat, y = (if c = 0 then leN e.c else 0) → f_Switch_moveAddress_L67 Γ φ w (nI t) (nI c) (some (swB w S.nm S.ns + (if c = 0 then 0 else 1))) (some (rA w S.nm (5 * (4 + t) + c))) (nI m) (some (rA w S.nm (5 * m + c))) e.c (nI y) = some ((), uI φ4 (swB w S.nm S.ns + (if c = 0 then 0 else 1)) t (nI m)) := by
          intro y hy
          have a1' : f_UnderWay_add Γ φ (swA w S.nm S.ns + (if c = 0 then 2 else 7) + 10 * m) (nI (idN e.c)) (nI t) (nI y) (nI S.moved) = some ((), φ1) := by
            rw [hy, ← hu1, ← hu2, ← hu3, ← hu4]; exact a1
          unfold f_Switch_moveAddress_L67
          rw [if_pos h.lay.o, c_underWay h hm hc, Option.bind_some]
          have hmul : e.c + ((16 : Int64) * (nI m).toInt64) = e.c + nL (16 * m) := by rw [nI_L (by omega), show (16 : Int64) = nL 16 from rfl, nL_mul]
          have hadd : nI S.moved + (1 : Int32) = nI (S.moved + 1) := by rw [zI_1, zI_add]
          simp (disch := first | assumption | omega) only [e_Burst_idOf, Option.bind_some, hU.o, if_true, h.ob.mv, a1', hmv1, hadd, hrT.o, hmul, b1', hrM.o, b2', hg, zix]
        have hL29 : f_Switch_moveAddress_L29 Γ φ w (nI t) (nI c) (some (swB w S.nm S.ns + (if c = 0 then 0 else 1))) (some (rA w S.nm (5 * (4 + t) + c))) (oI (some m) m1) = some ((), uI φ4 (swB w S.nm S.ns + (if c = 0 then 0 else 1)) t (nI m)) := by
          unfold f_Switch_moveAddress_L29
          rw [if_neg (show ¬ oI (some m) m1 = (-1 : Int32) from zI_ne_m1 (by omega)), if_pos h.lay.o]
          show (f_Switch_ofMaster Γ φ w (nI m) (nI c)).bind _ = _
          rw [c_ofMaster h hm hc5, Option.bind_some]
          simp only [Option.bind_some, hrM.o, if_true, c_firstContent hrM, e_Burst_lengthOf]
          rcases hc with rfl | rfl
          · rw [if_pos (by decide)]; exact hcode (leN e.c) rfl
          · rw [if_neg (by decide)]; exact hcode 0 rfl
        rw [hL29]
        have b3' : CSw Γ φ4 w (((S1.w_moved (S.moved + 1)).drop (5 * m + c)).put (5 * (4 + t) + c) ⟨e.c + nL (16 * m), 0, S.time⟩) := b3
        rcases hc with rfl | rfl
        · obtain ⟨c1, c2⟩ := b3'.laU t m
          have eB1 : swB w (((S1.w_moved (S.moved + 1)).drop (5 * m + 0)).put (5 * (4 + t) + 0) ⟨e.c + nL (16 * m), 0, S.time⟩).nm (((S1.w_moved (S.moved + 1)).drop (5 * m + 0)).put (5 * (4 + t) + 0) ⟨e.c + nL (16 * m), 0, S.time⟩).ns = swB w S.nm S.ns := by show swB w S1.nm S1.ns = _; rw [hnm1, hns1]
          rw [eB1] at c1 c2
          refine ⟨_, rfl, ?_, f14.trans (c2.mono (by omega) (by omega))⟩
          simp only [if_true] at hS1 ⊢
          rw [hr]
          refine c1.cg ?_ ?_ ?_ ?_ ?_ ?_ rfl ?_ ?_ ?_ ?_ ?_ ?_ ?_ ?_ ?_
          all_goals (rw [← hS1]; first | rfl | (rw [hu]; rfl))
        · obtain ⟨c1, c2⟩ := b3'.lrU t m
          have eB1 : swB w (((S1.w_moved (S.moved + 1)).drop (5 * m + 3)).put (5 * (4 + t) + 3) ⟨e.c + nL (16 * m), 0, S.time⟩).nm (((S1.w_moved (S.moved + 1)).drop (5 * m + 3)).put (5 * (4 + t) + 3) ⟨e.c + nL (16 * m), 0, S.time⟩).ns = swB w S.nm S.ns := by show swB w S1.nm S1.ns = _; rw [hnm1, hns1]
          rw [eB1] at c1 c2
          refine ⟨_, rfl, ?_, f14.trans (c2.mono (by omega) (by omega))⟩
          simp only [show ¬ ((3 : Nat) = 0) by decide, if_false] at hS1 ⊢
          rw [hr]
          refine c1.cg ?_ ?_ ?_ ?_ ?_ ?_ rfl ?_ ?_ ?_ ?_ ?_ ?_ ?_ ?_ ?_
          all_goals (rw [← hS1]; first | rfl | (rw [hu]; rfl))
