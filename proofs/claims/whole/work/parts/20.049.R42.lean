/-! THE REFERENCE's slaves: a write is done, on -/
theorem VRg.none {at_ sz : aI} {g : Nat → Nat → Option (Nat × Nat)} (h : VRg at_ sz g) {s j : Nat} (hj : j < 64) : VRg (va_up at_ (64 * s + j) m1) sz (va_up g s (va_up (g s) j none)) := by
  intro q k hq hk
  have h1 := h q k hq hk
  by_cases hqs : q = s
  · subst hqs
    rw [vz_same]
    by_cases hkj : k = j
    · subst hkj
      rw [vz_same, vz_same]
      exact ⟨rfl, fun z hz => by cases hz⟩
    · rw [vz_ne _ hkj, vz_ne _ (by omega)]
      exact h1
  · rw [vz_ne _ hqs, vz_ne _ (by omega)]
    exact h1
/-- the answer is noted, and the bytes written where they are to be -/
def XS.wRs (S : XS) (s i : Nat) (e : WE) (v : Nat) : XS := S.w_sw (va_up S.sw s ((S.sw s).set i (e.w_resp (v))))
theorem r_res {Γ : gm_T} {φ : ph_T} {r : Nat} {S : XS} (h : RV Γ φ r S) {s i : Nat} {e : WE} (hs : s < 4) (he : (S.sw s)[i]? = some e) (v : Nat) :
    RV Γ (uI φ (r + 54) e.place (nI v)) r (S.wRs s i e v) ∧ RFr r [54] φ (uI φ (r + 54) e.place (nI v)) := by
  have f : RFr r [54] φ (uI φ (r + 54) e.place (nI v)) := by repeat (first | exact RFr.refl _ _ _ | refine RFr.uI ?_ (by decide) _ _ | refine RFr.uL ?_ (by decide) _ _ | refine rfr_uO ?_ (by decide) _ _)
  refine ⟨?_, f⟩
  have h1 := h.sw.hent s i e hs he
  have hv : VSw (φ.1 (r + 48)) (φ.1 (r + 49)) (φ.1 (r + 50)) (φ.2.1 (r + 51)) (φ.1 (r + 52)) (φ.1 (r + 53)) (va_up (φ.1 (r + 54)) e.place (nI v)) (φ.2.1 (r + 55)) (φ.1 (r + 56)) (va_up S.sw s ((S.sw s).set i (e.w_resp (v)))) :=
    VSw.upd h.sw hs he rfl rfl (fun p hp => ⟨rfl, rfl, vz_ne _ hp⟩) h1.2.1 h1.2.2.1 (fun _ => vz_same _ _ _) (fun p k hp hk => ⟨rfl, rfl⟩) (h.sw.hdat s i e hs he)
  refine ⟨(RL.up h.rl (congrFun f.1 r)), (by rw [f.o (by decide)]; exact ⟨h.sc.nm, h.sc.ns, h.sc.lim, h.sc.pol, h.sc.whole, h.sc.time, h.sc.tk, h.sc.wm, h.sc.rm, h.sc.db, h.sc.er⟩), (by rw [f.i 1 (by decide)]; exact h.pg), (by rw [f.i 2 (by decide)]; exact h.mp), (by rw [f.i 3 (by decide)]; exact h.sp), (by rw [f.i 4 (by decide)]; exact h.ea), (by rw [f.i 5 (by decide)]; exact h.de), (by rw [f.i 6 (by decide)]; exact h.wa), (by rw [f.i 7 (by decide), f.i 8 (by decide)]; exact h.me), (by rw [f.i 9 (by decide), f.i 10 (by decide), f.i 11 (by decide), f.i 12 (by decide), f.i 13 (by decide), f.i 14 (by decide), f.i 15 (by decide), f.i 16 (by decide), f.i 17 (by decide), f.i 18 (by decide), f.i 20 (by decide), f.i 21 (by decide), f.i 22 (by decide), f.i 23 (by decide), f.i 24 (by decide), f.l 19 (by decide), f.l 25 (by decide)]; exact h.tk), (by rw [f.i 26 (by decide), f.i 27 (by decide), f.l 28 (by decide), f.i 29 (by decide)]; exact h.wi), (by rw [f.i 31 (by decide)]; exact h.tr), (by rw [f.l 32 (by decide), f.i 33 (by decide), f.i 34 (by decide), f.i 35 (by decide)]; exact h.row), (by rw [f.i 36 (by decide), f.i 37 (by decide), f.i 38 (by decide), f.i 39 (by decide)]; exact h.uw), (by rw [f.i 40 (by decide), f.i 41 (by decide), f.i 42 (by decide)]; exact h.ur), (by rw [f.i 43 (by decide), f.i 44 (by decide), f.i 45 (by decide), f.i 46 (by decide), f.i 47 (by decide)]; exact ⟨h.la.haw, h.la.har, h.la.hb, h.la.hg, h.la.hinn⟩), (by rw [f.i 48 (by decide), f.i 49 (by decide), f.i 50 (by decide), f.l 51 (by decide), f.i 52 (by decide), f.i 53 (by decide), f.l 55 (by decide), f.i 56 (by decide), uI_s]; exact hv), (by rw [f.i 57 (by decide), f.i 58 (by decide), f.i 59 (by decide), f.l 60 (by decide), f.i 61 (by decide), f.i 62 (by decide), f.i 63 (by decide), f.l 64 (by decide), f.i 65 (by decide)]; exact h.sr), ?_, (by rw [f.i 70 (by decide), f.i 71 (by decide)]; exact h.rg), (by unfold maOf; rw [f.i 72 (by decide), f.l 73 (by decide), f.i 74 (by decide), f.i 75 (by decide), f.i 76 (by decide), f.i 77 (by decide), f.i 78 (by decide), f.i 79 (by decide), f.i 80 (by decide), f.i 81 (by decide), f.l 82 (by decide), f.i 83 (by decide), f.i 84 (by decide), f.i 85 (by decide), f.l 86 (by decide), f.i 87 (by decide)]; exact h.mo), (by rw [f.i 88 (by decide), f.i 89 (by decide), f.l 90 (by decide), f.i 91 (by decide)]; exact h.wt)⟩
  rw [f.i 66 (by decide), f.i 67 (by decide), f.i 68 (by decide), f.i 69 (by decide)]
  refine VCh.sw h.ch rfl rfl rfl rfl (fun q k x hq _ hx => ?_) (fun q k x hq _ hx => ⟨x, hx, rfl⟩)
  show ∃ e', (va_up S.sw s ((S.sw s).set i (e.w_resp (v))) q)[k]? = some e' ∧ e'.place = x.place
  rw [vz_at]
  split
  · rename_i hqs
    subst hqs
    by_cases hk : i = k
    · subst hk
      rw [List.getElem?_set_self (llt he)]
      rw [he] at hx
      cases hx
      exact ⟨_, rfl, rfl⟩
    · rw [List.getElem?_set_ne hk]
      exact ⟨x, hx, rfl⟩
  · exact ⟨x, hx, rfl⟩
theorem r_dw192 {Γ : gm_T} {φ : ph_T} {r : Nat} {S : XS} (h : RV Γ φ r S) {s i : Nat} {e : WE} (hs : s < 4) (he : (S.sw s)[i]? = some e) (hg : e.got = leN e.con) (hr : ruN e.con = 0) (hR : ∀ j q, S.rgt s j = some q → q.1 < 65536 ∧ q.2 < 129) (bad has : Bool) (v : Nat) :
    ∃ φ', f_Ref_doWrite_L192 Γ φ r (nI s) (nI e.place) e.con (nI (leN e.con)) (bI bad) (bI has) (nI v) (nI e.place) (some (r + 54)) = some ((), φ') ∧
      RV Γ φ' r (if bad = true then S.wRs s i e v else if exN e.con = 1 ∧ has = false then S.wRs s i e v else XS.wN s (e.w_resp (v)) (leN e.con) 0 (S.wRs s i e v)) ∧ RFr r [7, 54, 70] φ φ' := by
  have hat := h.sw.hat s i e hs he
  have hx2 := exN_lt e.con
  obtain ⟨a1, a2⟩ := r_res h hs he v
  obtain ⟨φ', b1, b2, b3⟩ := r_dw214 (Γ := Γ) (r := r) (i0 := i) (e := (e.w_resp (v))) hs hg hr (leN e.con) 0 jF _ (S.wRs s i e v) (Nat.zero_add _) (by have := leN_le e.con; unfold jF; omega) a1 (by
    show (va_up S.sw s ((S.sw s).set i (e.w_resp (v))) s)[i]? = _
    rw [vz_same, List.getElem?_set_self (llt he)]) hR
  have b1' : f_Ref_doWrite_L214 Γ jF (uI φ (r + 54) e.place (nI v)) r (nI s) (nI e.place) e.con (nI (leN e.con)) (nI 0) = some ((), φ') := b1
  have b2' : RV Γ φ' r (XS.wN s (e.w_resp (v)) (leN e.con) 0 (S.wRs s i e v)) := b2
  unfold f_Ref_doWrite_L192 f_Ref_doWrite_L210 f_Ref_doWrite_L211
  simp only [Option.bind_some, rg_64 h.rl, zix (show e.place < 16 by omega), zI_lit, bI_eq0, e_Ref_isAlone, b1']
  cases bad with
  | true =>
    rw [if_neg (show ¬ (true = false) by decide), if_pos (show true = true from rfl)]
    exact ⟨_, rfl, a1, a2.mono (by decide)⟩
  | false =>
    rw [if_pos (show false = false from rfl), if_neg (show ¬ (false = true) by decide)]
    by_cases hx : exN e.con = 1
    · rw [if_neg (show ¬ nI (exN e.con) = nI 0 by rw [hx]; decide)]
      cases has with
      | true =>
        rw [if_neg (show ¬ (true = false) by decide), if_neg (fun hc => by cases hc.2)]
        exact ⟨φ', rfl, b2', (a2.mono (by decide)).trans (b3.mono (by decide))⟩
      | false =>
        rw [if_pos (show false = false from rfl), if_pos ⟨hx, rfl⟩]
        exact ⟨_, rfl, a1, a2.mono (by decide)⟩
    · have hx0 : exN e.con = 0 := by omega
      rw [if_pos (show nI (exN e.con) = nI 0 by rw [hx0]), if_neg (fun hc => hx hc.1)]
      exact ⟨φ', rfl, b2', (a2.mono (by decide)).trans (b3.mono (by decide))⟩
def dwV (e : WE) (bad has : Bool) : Nat := if bad = true then 2 else if exN e.con = 1 ∧ has = true then 1 else 0
def XS.dwS (S : XS) (s i : Nat) (e : WE) (bad has : Bool) (v : Nat) : XS := if bad = true then S.wRs s i e v else if exN e.con = 1 ∧ has = false then S.wRs s i e v else XS.wN s (e.w_resp (v)) (leN e.con) 0 (S.wRs s i e v)
theorem r_dw161 {Γ : gm_T} {φ : ph_T} {r : Nat} {S : XS} (h : RV Γ φ r S) {s i : Nat} {e : WE} (hs : s < 4) (he : (S.sw s)[i]? = some e) (hg : e.got = leN e.con) (hr : ruN e.con = 0) (hR : ∀ j q, S.rgt s j = some q → q.1 < 65536 ∧ q.2 < 129) (bad has : Bool) :
    ∃ φ', f_Ref_doWrite_L161 Γ φ r (nI s) (nI e.place) e.con (nI (leN e.con)) (bI bad) (bI has) = some ((), φ') ∧
      RV Γ φ' r (S.dwS s i e bad has (dwV e bad has)) ∧ RFr r [7, 54, 70] φ φ' := by
  have hx2 := exN_lt e.con
  obtain ⟨φ', a1, a2, a3⟩ := r_dw192 h hs he hg hr hR bad has (dwV e bad has)
  refine ⟨φ', ?_, a2, a3⟩
  rw [← a1]
  unfold f_Ref_doWrite_L161 f_Ref_doWrite_L191 dwV
  simp only [h.rl.o, if_true, zI_lit, bI_eq0, e_Ref_isAlone, Option.bind_some, rf_64 h.rl]
  cases bad with
  | true =>
    rw [if_neg (show ¬ (true = false) by decide), if_pos (show true = true from rfl)]
  | false =>
    rw [if_pos (show false = false from rfl), if_neg (show ¬ (false = true) by decide)]
    by_cases hx : exN e.con = 1
    · rw [if_neg (show ¬ nI (exN e.con) = nI 0 by rw [hx]; decide)]
      cases has with
      | true => rw [if_neg (show ¬ (true = false) by decide), if_pos ⟨hx, rfl⟩]
      | false => rw [if_pos (show false = false from rfl), if_neg (fun hc => by cases hc.2)]
    · have hx0 : exN e.con = 0 := by omega
      rw [if_pos (show nI (exN e.con) = nI 0 by rw [hx0]), if_neg (fun hc => hx hc.1)]
def XS.lose (S : XS) (s : Nat) (c : Int64) : XS := if exN c = 1 then S.w_rgt (va_up S.rgt s (va_up (S.rgt s) (idN c) none)) else S
theorem r_dw144 {Γ : gm_T} {φ : ph_T} {r : Nat} {S : XS} (h : RV Γ φ r S) {s i : Nat} {e : WE} (hs : s < 4) (he : (S.sw s)[i]? = some e) (hg : e.got = leN e.con) (hr : ruN e.con = 0) (hR : ∀ j q, S.rgt s j = some q → q.1 < 65536 ∧ q.2 < 129) (bad has : Bool) :
    ∃ φ', f_Ref_doWrite_L144 Γ φ r (nI s) (nI e.place) e.con (nI (leN e.con)) (bI bad) (nI (64 * s + idN e.con)) (bI has) = some ((), φ') ∧
      RV Γ φ' r ((S.lose s e.con).dwS s i e bad has (dwV e bad has)) ∧ RFr r [7, 54, 70] φ φ' := by
  have hx2 := exN_lt e.con
  have hid := idN_lt e.con
  unfold f_Ref_doWrite_L144 XS.lose
  simp only [h.rl.o, if_true, zI_lit, e_Ref_isAlone, Option.bind_some, rf_80 h.rl, rg_80 h.rl, zix (show 64 * s + idN e.con < 256 by omega), ↓zm1]
  by_cases hx : exN e.con = 1
  · rw [if_neg (show ¬ nI (exN e.con) = nI 0 by rw [hx]; decide), if_pos hx]
    have f : RFr r [70] φ (uI φ (r + 70) (64 * s + idN e.con) m1) := by repeat (first | exact RFr.refl _ _ _ | refine RFr.uI ?_ (by decide) _ _ | refine RFr.uL ?_ (by decide) _ _ | refine rfr_uO ?_ (by decide) _ _)
    have h1 : RV Γ (uI φ (r + 70) (64 * s + idN e.con) m1) r (S.w_rgt (va_up S.rgt s (va_up (S.rgt s) (idN e.con) none))) :=
      ⟨(RL.up h.rl (congrFun f.1 r)), (by rw [f.o (by decide)]; exact ⟨h.sc.nm, h.sc.ns, h.sc.lim, h.sc.pol, h.sc.whole, h.sc.time, h.sc.tk, h.sc.wm, h.sc.rm, h.sc.db, h.sc.er⟩), (by rw [f.i 1 (by decide)]; exact h.pg), (by rw [f.i 2 (by decide)]; exact h.mp), (by rw [f.i 3 (by decide)]; exact h.sp), (by rw [f.i 4 (by decide)]; exact h.ea), (by rw [f.i 5 (by decide)]; exact h.de), (by rw [f.i 6 (by decide)]; exact h.wa), (by rw [f.i 7 (by decide), f.i 8 (by decide)]; exact h.me), (by rw [f.i 9 (by decide), f.i 10 (by decide), f.i 11 (by decide), f.i 12 (by decide), f.i 13 (by decide), f.i 14 (by decide), f.i 15 (by decide), f.i 16 (by decide), f.i 17 (by decide), f.i 18 (by decide), f.i 20 (by decide), f.i 21 (by decide), f.i 22 (by decide), f.i 23 (by decide), f.i 24 (by decide), f.l 19 (by decide), f.l 25 (by decide)]; exact h.tk), (by rw [f.i 26 (by decide), f.i 27 (by decide), f.l 28 (by decide), f.i 29 (by decide)]; exact h.wi), (by rw [f.i 31 (by decide)]; exact h.tr), (by rw [f.l 32 (by decide), f.i 33 (by decide), f.i 34 (by decide), f.i 35 (by decide)]; exact h.row), (by rw [f.i 36 (by decide), f.i 37 (by decide), f.i 38 (by decide), f.i 39 (by decide)]; exact h.uw), (by rw [f.i 40 (by decide), f.i 41 (by decide), f.i 42 (by decide)]; exact h.ur), (by rw [f.i 43 (by decide), f.i 44 (by decide), f.i 45 (by decide), f.i 46 (by decide), f.i 47 (by decide)]; exact ⟨h.la.haw, h.la.har, h.la.hb, h.la.hg, h.la.hinn⟩), (by rw [f.i 48 (by decide), f.i 49 (by decide), f.i 50 (by decide), f.l 51 (by decide), f.i 52 (by decide), f.i 53 (by decide), f.i 54 (by decide), f.l 55 (by decide), f.i 56 (by decide)]; exact h.sw), (by rw [f.i 57 (by decide), f.i 58 (by decide), f.i 59 (by decide), f.l 60 (by decide), f.i 61 (by decide), f.i 62 (by decide), f.i 63 (by decide), f.l 64 (by decide), f.i 65 (by decide)]; exact h.sr), (by rw [f.i 66 (by decide), f.i 67 (by decide), f.i 68 (by decide), f.i 69 (by decide)]; exact ⟨h.ch.hnums, h.ch.hlat, h.ch.hchb, h.ch.hchr⟩), (by rw [f.i 71 (by decide), uI_s]; exact VRg.none h.rg hid), (by unfold maOf; rw [f.i 72 (by decide), f.l 73 (by decide), f.i 74 (by decide), f.i 75 (by decide), f.i 76 (by decide), f.i 77 (by decide), f.i 78 (by decide), f.i 79 (by decide), f.i 80 (by decide), f.i 81 (by decide), f.l 82 (by decide), f.i 83 (by decide), f.i 84 (by decide), f.i 85 (by decide), f.l 86 (by decide), f.i 87 (by decide)]; exact h.mo), (by rw [f.i 88 (by decide), f.i 89 (by decide), f.l 90 (by decide), f.i 91 (by decide)]; exact h.wt)⟩
    obtain ⟨φ', a1, a2, a3⟩ := r_dw161 h1 hs he hg hr (by
      intro j q hj
      have hj' : va_up S.rgt s (va_up (S.rgt s) (idN e.con) none) s j = some q := hj
      rw [vz_same, vz_at] at hj'
      split at hj'
      · cases hj'
      · exact hR j q hj') bad has
    exact ⟨φ', a1, a2, (f.mono (by decide)).trans a3⟩
  · have hx0 : exN e.con = 0 := by omega
    rw [if_pos (show nI (exN e.con) = nI 0 by rw [hx0]), if_neg hx]
    exact r_dw161 h hs he hg hr hR bad has
theorem stN_w (e : WE) (v : Nat) : ∀ k mem, stN (e.w_resp (v)) k mem = stN e k mem := by
  intro k
  induction k with
  | zero => intro mem; rfl
  | succ k ih => intro mem; rw [stN, stN, ih]
theorem rgN_w (e : WE) (v : Nat) : ∀ k g, rgN (e.w_resp (v)) k g = rgN e k g := by
  intro k
  induction k with
  | zero => intro g; rfl
  | succ k ih => intro g; rw [rgN, rgN, ih]
theorem wRs_mr (S : XS) (s i : Nat) (e : WE) (v : Nat) (a : Nat → Nat) (b : Nat → Nat → Option (Nat × Nat)) : (S.wRs s i e v).mr a b = (S.mr a b).wRs s i e v := by
  unfold XS.wRs XS.mr
  funext k
  simp only [XS.w_mem, XS.w_rgt, XS.w_sw, XS.up]
  repeat' split
  all_goals first | rfl | omega
theorem rgt_id (S : XS) (s : Nat) : va_up S.rgt s (S.rgt s) = S.rgt := by
  funext t
  rw [vz_at]
  split
  · rename_i ht; subst ht; rfl
  · rfl
def gEx (S : XS) (s : Nat) (e : WE) : Nat → Option (Nat × Nat) := if exN e.con = 1 then va_up (S.rgt s) (idN e.con) none else S.rgt s
theorem lose_eq (S : XS) (s : Nat) (e : WE) : S.lose s e.con = S.w_rgt (va_up S.rgt s (gEx S s e)) := by
  unfold XS.lose gEx
  split
  · rfl
  · rw [rgt_id, XS.w_rgt_self]
theorem doWrite_st (S : XS) (s : Nat) (e : WE) : S.doWrite s e =
    if badW S.spo e = true then (S.w_rgt (va_up S.rgt s (gEx S s e)), 2)
    else if exN e.con = 1 ∧ decide (S.rgt s (idN e.con) = some (adN e.con, leN e.con * szN e.con)) = false then (S.w_rgt (va_up S.rgt s (gEx S s e)), 0)
    else (S.mr (stN e (leN e.con) S.mem) (va_up S.rgt s (rgN e (leN e.con) (gEx S s e))), if exN e.con = 1 then 1 else 0) := by
  unfold XS.doWrite gEx XS.mr
  simp only [decide_eq_true_eq]
theorem doWrite_eq {S : XS} {s i : Nat} {e : WE} : (S.lose s e.con).dwS s i e (badW S.spo e) (decide (S.rgt s (idN e.con) = some (adN e.con, leN e.con * szN e.con))) (dwV e (badW S.spo e) (decide (S.rgt s (idN e.con) = some (adN e.con, leN e.con * szN e.con)))) = (S.doWrite s e).1.wRs s i e (S.doWrite s e).2 := by
  rw [doWrite_st, lose_eq]
  generalize decide (S.rgt s (idN e.con) = some (adN e.con, leN e.con * szN e.con)) = has
  generalize badW S.spo e = bad
  unfold XS.dwS dwV
  cases bad with
  | true => simp only [if_true]
  | false =>
    simp only [Bool.false_eq_true, if_false]
    by_cases hc : exN e.con = 1 ∧ has = false
    · rw [if_pos hc, if_pos hc, if_neg (fun hd => by rw [hc.2] at hd; cases hd.2)]
    · rw [if_neg hc, if_neg hc]
      have hv : (if exN e.con = 1 ∧ has = true then 1 else 0) = if exN e.con = 1 then 1 else 0 := by
        by_cases hx : exN e.con = 1
        · rw [if_pos hx, if_pos ⟨hx, by
            cases has with
            | true => rfl
            | false => exact absurd ⟨hx, rfl⟩ hc⟩]
        · rw [if_neg hx, if_neg (fun hd => hx hd.1)]
      rw [hv]
      have h1 := wN_all s (e.w_resp ((if exN e.con = 1 then 1 else 0))) ((S.w_rgt (va_up S.rgt s (gEx S s e))).wRs s i e (if exN e.con = 1 then 1 else 0))
      have h1' : XS.wN s (e.w_resp ((if exN e.con = 1 then 1 else 0))) (leN e.con) 0 ((S.w_rgt (va_up S.rgt s (gEx S s e))).wRs s i e (if exN e.con = 1 then 1 else 0)) = ((S.w_rgt (va_up S.rgt s (gEx S s e))).wRs s i e (if exN e.con = 1 then 1 else 0)).mr (stN (e.w_resp ((if exN e.con = 1 then 1 else 0))) (leN e.con) S.mem) (va_up (va_up S.rgt s (gEx S s e)) s (rgN (e.w_resp ((if exN e.con = 1 then 1 else 0))) (leN e.con) (va_up S.rgt s (gEx S s e) s))) := h1
      rw [h1', stN_w, rgN_w, vz_same, vz_va, wRs_mr, mr_rgt, mr_mr]
theorem r_doWrite {Γ : gm_T} {φ : ph_T} {r : Nat} {S : XS} (h : RV Γ φ r S) {s i : Nat} {e : WE} (hs : s < 4) (he : (S.sw s)[i]? = some e) (hg : e.got = leN e.con) (hr : ruN e.con = 0) (hR : ∀ j q, S.rgt s j = some q → q.1 < 65536 ∧ q.2 < 129) :
    ∃ φ', f_Ref_doWrite Γ φ r (nI s) (nI e.place) = some ((), φ') ∧ RV Γ φ' r ((S.doWrite s e).1.wRs s i e (S.doWrite s e).2) ∧ RFr r [7, 54, 70] φ φ' := by
  have hat := h.sw.hat s i e hs he
  have hent := h.sw.hent s i e hs he
  have hle := leN_le e.con
  have hid := idN_lt e.con
  have had := adN_lt e.con
  have hal := all_lt e.con
  have hrg := h.rg s (idN e.con) hs hid
  obtain ⟨φ', a1, a2, a3⟩ := r_dw144 h hs he hg hr hR (badW S.spo e) (decide (S.rgt s (idN e.con) = some (adN e.con, leN e.con * szN e.con)))
  rw [doWrite_eq] at a2
  refine ⟨φ', ?_, a2, a3⟩
  rw [← a1]
  have hL := r_dw19 h hs he hg hr (leN e.con) 0 false jF (Nat.zero_add _) (by unfold jF; omega)
  rw [badW_eq, bI_f] at hL
  unfold f_Ref_doWrite
  simp only [h.rl.o, if_true, rf_61 h.rl, Option.bind_some, rg_61 h.rl, zix (show e.place < 16 by omega), hent.1, e_Ref_lengthOf]
  rw [zI_0, hL, f_Ref_doWrite_L19, if_pos (Int32.le_refl _)]
  unfold f_Ref_doWrite_L143
  simp only [e_Ref_idOf, e_Ref_addressOf, e_Ref_sizeOf, Option.bind_some, h.rl.o, if_true, rf_80 h.rl, rg_80 h.rl, rf_81 h.rl, rg_81 h.rl, zI_lit, zI_mul, zI_add, zix (show 64 * s + idN e.con < 256 by omega)]
  cases hq : S.rgt s (idN e.con) with
  | none =>
    rw [hq] at hrg
    have h1 : φ.1 (r + 70) (64 * s + idN e.con) = m1 := hrg.1
    rw [h1, if_neg (fun hc => zI_ne_m1 (by omega) hc.symm), decide_eq_false (fun hc => by cases hc), bI_f]
  | some q =>
    rw [hq] at hrg
    have hb := hR _ q hq
    have h1 : φ.1 (r + 70) (64 * s + idN e.con) = nI q.1 := hrg.1
    have h2 := hrg.2 q rfl
    rw [h1, h2]
    by_cases hc1 : q.1 = adN e.con
    · rw [if_pos (by rw [hc1])]
      by_cases hc2 : q.2 = leN e.con * szN e.con
      · rw [if_pos (by rw [hc2]), decide_eq_true (by rw [← hc1, ← hc2]), bI_t]
      · rw [if_neg (by rw [zI_eq (by omega) (by omega)]; exact hc2), decide_eq_false (fun hc => hc2 (by rw [Option.some.inj hc])), bI_f]
    · rw [if_neg (by rw [zI_eq (by omega) (by omega)]; exact hc1), decide_eq_false (fun hc => hc1 (by rw [Option.some.inj hc])), bI_f]
