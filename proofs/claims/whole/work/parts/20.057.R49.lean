/-! THE REFERENCE's STEP: what goes over -/
def PreM (S : XS) (m c : Nat) : Prop := (c = 0 ∨ c = 3 → S.hasRm (5 * m + c) = true ∧ ((S.wi m).w c).r = 0 ∧ ∃ t, S.tk.findIdx? (isUns m (decide (c = 0))) = some t) ∧ (c = 1 → S.hasRm (5 * m + 1) = true ∧ ∃ t e, S.tk.findIdx? (isUnf m) = some t ∧ S.tk[t]? = some e ∧ ((S.wi m).w 1).c = e.dat e.beats) ∧ (c = 2 ∨ c = 4 → S.row (5 * m + c) ≠ []) ∧ (∀ e ∈ S.tk, e.resp < 4 ∧ (e.done = m1 → (e.wr = true → e.resp = 0) ∧ (e.wr = false → e.beats < leN e.con)))
theorem PreM.h0 {S : XS} {m c : Nat} (h : PreM S m c) : c = 0 ∨ c = 3 → S.hasRm (5 * m + c) = true ∧ ((S.wi m).w c).r = 0 ∧ ∃ t, S.tk.findIdx? (isUns m (decide (c = 0))) = some t := h.1
theorem PreM.h1 {S : XS} {m c : Nat} (h : PreM S m c) : c = 1 → S.hasRm (5 * m + 1) = true ∧ ∃ t e, S.tk.findIdx? (isUnf m) = some t ∧ S.tk[t]? = some e ∧ ((S.wi m).w 1).c = e.dat e.beats := h.2.1
theorem PreM.h2 {S : XS} {m c : Nat} (h : PreM S m c) : c = 2 ∨ c = 4 → S.row (5 * m + c) ≠ [] := h.2.2.1
theorem PreM.tk {S : XS} {m c : Nat} (h : PreM S m c) : ∀ e ∈ S.tk, e.resp < 4 ∧ (e.done = m1 → (e.wr = true → e.resp = 0) ∧ (e.wr = false → e.beats < leN e.con)) := h.2.2.2
def PreG (S : XS) (j : Nat) : Prop := S.mvP j = true → (j < 20 → PreM S (j / 5) (j % 5)) ∧ (20 ≤ j → PrS S (j / 5 - 4) (j % 5))
def GoI (I : Nat → XS → Prop) : Prop := ∀ j S, j < 40 → I j S → PreG S j ∧ I (j + 1) (S.go1 j)
def kGo : List Nat := [7, 19, 21, 22, 23, 24, 25, 30, 31, 32, 33, 34, 35, 48, 49, 50, 51, 52, 53, 54, 55, 56, 57, 58, 59, 60, 61, 62, 63, 64, 65, 66, 67, 70, 71]
theorem r_bump {Γ : gm_T} {φ : ph_T} {r : Nat} {S : XS} (h : RV Γ φ r S) {p c : Nat} (hp : p < 8) (hc : c < 5) (b : Int32) :
    RV Γ (uI (uI φ (r + 30) (5 * p + c) b) (r + 31) (5 * p + c) (φ.1 (r + 31) (5 * p + c) + 1)) r (S.bump p c) ∧ RFr r [30, 31] φ (uI (uI φ (r + 30) (5 * p + c) b) (r + 31) (5 * p + c) (φ.1 (r + 31) (5 * p + c) + 1)) := by
  have f : RFr r [30, 31] φ (uI (uI φ (r + 30) (5 * p + c) b) (r + 31) (5 * p + c) (φ.1 (r + 31) (5 * p + c) + 1)) := by repeat (first | exact RFr.refl _ _ _ | refine RFr.uI ?_ (by decide) _ _ | refine RFr.uL ?_ (by decide) _ _ | refine rfr_uO ?_ (by decide) _ _)
  refine ⟨?_, f⟩
  refine ⟨(RL.up h.rl (congrFun f.1 r)), (by rw [f.o (by decide)]; exact ⟨h.sc.nm, h.sc.ns, h.sc.lim, h.sc.pol, h.sc.whole, h.sc.time, h.sc.tk, h.sc.wm, h.sc.rm, h.sc.db, h.sc.er⟩), (by rw [f.i 1 (by decide)]; exact h.pg), (by rw [f.i 2 (by decide)]; exact h.mp), (by rw [f.i 3 (by decide)]; exact h.sp), (by rw [f.i 4 (by decide)]; exact h.ea), (by rw [f.i 5 (by decide)]; exact h.de), (by rw [f.i 6 (by decide)]; exact h.wa), (by rw [f.i 7 (by decide), f.i 8 (by decide)]; exact h.me), (by rw [f.i 9 (by decide), f.i 10 (by decide), f.i 11 (by decide), f.i 12 (by decide), f.i 13 (by decide), f.i 14 (by decide), f.i 15 (by decide), f.i 16 (by decide), f.i 17 (by decide), f.i 18 (by decide), f.i 20 (by decide), f.i 21 (by decide), f.i 22 (by decide), f.i 23 (by decide), f.i 24 (by decide), f.l 19 (by decide), f.l 25 (by decide)]; exact h.tk), (by rw [f.i 26 (by decide), f.i 27 (by decide), f.l 28 (by decide), f.i 29 (by decide)]; exact h.wi), ?_, (by rw [f.l 32 (by decide), f.i 33 (by decide), f.i 34 (by decide), f.i 35 (by decide)]; exact h.row), (by rw [f.i 36 (by decide), f.i 37 (by decide), f.i 38 (by decide), f.i 39 (by decide)]; exact h.uw), (by rw [f.i 40 (by decide), f.i 41 (by decide), f.i 42 (by decide)]; exact h.ur), (by rw [f.i 43 (by decide), f.i 44 (by decide), f.i 45 (by decide), f.i 46 (by decide), f.i 47 (by decide)]; exact ⟨h.la.haw, h.la.har, h.la.hb, h.la.hg, h.la.hinn⟩), (by rw [f.i 48 (by decide), f.i 49 (by decide), f.i 50 (by decide), f.l 51 (by decide), f.i 52 (by decide), f.i 53 (by decide), f.i 54 (by decide), f.l 55 (by decide), f.i 56 (by decide)]; exact h.sw), (by rw [f.i 57 (by decide), f.i 58 (by decide), f.i 59 (by decide), f.l 60 (by decide), f.i 61 (by decide), f.i 62 (by decide), f.i 63 (by decide), f.l 64 (by decide), f.i 65 (by decide)]; exact h.sr), (by rw [f.i 66 (by decide), f.i 67 (by decide), f.i 68 (by decide), f.i 69 (by decide)]; exact ⟨h.ch.hnums, h.ch.hlat, h.ch.hchb, h.ch.hchr⟩), (by rw [f.i 70 (by decide), f.i 71 (by decide)]; exact h.rg), (by unfold maOf; rw [f.i 72 (by decide), f.l 73 (by decide), f.i 74 (by decide), f.i 75 (by decide), f.i 76 (by decide), f.i 77 (by decide), f.i 78 (by decide), f.i 79 (by decide), f.i 80 (by decide), f.i 81 (by decide), f.l 82 (by decide), f.i 83 (by decide), f.i 84 (by decide), f.i 85 (by decide), f.l 86 (by decide), f.i 87 (by decide)]; exact h.mo), (by rw [f.i 88 (by decide), f.i 89 (by decide), f.l 90 (by decide), f.i 91 (by decide)]; exact h.wt)⟩
  rw [uI_s, uI_d (by omega)]
  intro q k hq hk
  have h1 := h.tr p c hp hc
  show va_up _ _ _ (5 * q + k) = va_up S.tr p (va_up (S.tr p) c (S.tr p c + 1)) q k
  by_cases hqp : q = p
  · subst hqp
    rw [vz_same]
    by_cases hkc : k = c
    · subst hkc
      rw [vz_same, vz_same, h1]
    · rw [vz_ne _ (show 5 * q + k ≠ 5 * q + c by omega), vz_ne _ hkc]
      exact h.tr q k hq hk
  · rw [vz_ne _ (show 5 * q + k ≠ 5 * p + c by omega), vz_ne _ hqp]
    exact h.tr q k hq hk
theorem r_hold {Γ : gm_T} {φ : ph_T} {r : Nat} {S : XS} (h : RV Γ φ r S) (j : Nat) (b : Int32) : RV Γ (uI φ (r + 30) j b) r S ∧ RFr r [30] φ (uI φ (r + 30) j b) := by
  have f : RFr r [30] φ (uI φ (r + 30) j b) := by repeat (first | exact RFr.refl _ _ _ | refine RFr.uI ?_ (by decide) _ _ | refine RFr.uL ?_ (by decide) _ _ | refine rfr_uO ?_ (by decide) _ _)
  exact ⟨⟨(RL.up h.rl (congrFun f.1 r)), (by rw [f.o (by decide)]; exact ⟨h.sc.nm, h.sc.ns, h.sc.lim, h.sc.pol, h.sc.whole, h.sc.time, h.sc.tk, h.sc.wm, h.sc.rm, h.sc.db, h.sc.er⟩), (by rw [f.i 1 (by decide)]; exact h.pg), (by rw [f.i 2 (by decide)]; exact h.mp), (by rw [f.i 3 (by decide)]; exact h.sp), (by rw [f.i 4 (by decide)]; exact h.ea), (by rw [f.i 5 (by decide)]; exact h.de), (by rw [f.i 6 (by decide)]; exact h.wa), (by rw [f.i 7 (by decide), f.i 8 (by decide)]; exact h.me), (by rw [f.i 9 (by decide), f.i 10 (by decide), f.i 11 (by decide), f.i 12 (by decide), f.i 13 (by decide), f.i 14 (by decide), f.i 15 (by decide), f.i 16 (by decide), f.i 17 (by decide), f.i 18 (by decide), f.i 20 (by decide), f.i 21 (by decide), f.i 22 (by decide), f.i 23 (by decide), f.i 24 (by decide), f.l 19 (by decide), f.l 25 (by decide)]; exact h.tk), (by rw [f.i 26 (by decide), f.i 27 (by decide), f.l 28 (by decide), f.i 29 (by decide)]; exact h.wi), (by rw [f.i 31 (by decide)]; exact h.tr), (by rw [f.l 32 (by decide), f.i 33 (by decide), f.i 34 (by decide), f.i 35 (by decide)]; exact h.row), (by rw [f.i 36 (by decide), f.i 37 (by decide), f.i 38 (by decide), f.i 39 (by decide)]; exact h.uw), (by rw [f.i 40 (by decide), f.i 41 (by decide), f.i 42 (by decide)]; exact h.ur), (by rw [f.i 43 (by decide), f.i 44 (by decide), f.i 45 (by decide), f.i 46 (by decide), f.i 47 (by decide)]; exact ⟨h.la.haw, h.la.har, h.la.hb, h.la.hg, h.la.hinn⟩), (by rw [f.i 48 (by decide), f.i 49 (by decide), f.i 50 (by decide), f.l 51 (by decide), f.i 52 (by decide), f.i 53 (by decide), f.i 54 (by decide), f.l 55 (by decide), f.i 56 (by decide)]; exact h.sw), (by rw [f.i 57 (by decide), f.i 58 (by decide), f.i 59 (by decide), f.l 60 (by decide), f.i 61 (by decide), f.i 62 (by decide), f.i 63 (by decide), f.l 64 (by decide), f.i 65 (by decide)]; exact h.sr), (by rw [f.i 66 (by decide), f.i 67 (by decide), f.i 68 (by decide), f.i 69 (by decide)]; exact ⟨h.ch.hnums, h.ch.hlat, h.ch.hchb, h.ch.hchr⟩), (by rw [f.i 70 (by decide), f.i 71 (by decide)]; exact h.rg), (by unfold maOf; rw [f.i 72 (by decide), f.l 73 (by decide), f.i 74 (by decide), f.i 75 (by decide), f.i 76 (by decide), f.i 77 (by decide), f.i 78 (by decide), f.i 79 (by decide), f.i 80 (by decide), f.i 81 (by decide), f.l 82 (by decide), f.i 83 (by decide), f.i 84 (by decide), f.i 85 (by decide), f.l 86 (by decide), f.i 87 (by decide)]; exact h.mo), (by rw [f.i 88 (by decide), f.i 89 (by decide), f.l 90 (by decide), f.i 91 (by decide)]; exact h.wt)⟩, f⟩
theorem r_st116 {Γ : gm_T} {φ : ph_T} {r : Nat} {S : XS} (h : RV Γ φ r S) (hn : S.nm ≤ 4 ∧ S.ns ≤ 4) {j : Nat} (hj : j < 40) (K : ph_T → Nat → Int32 → Int32 → Option (Int32 × ph_T)) (n : Nat) (hG : PreG S j) :
    ∃ φ', f_Ref_step_L116 Γ K φ r (nI n) (nI j) (bI (S.mvP j)) = K φ' r (nI (if S.mvP j = true then n + 1 else n)) (nI (j + 1)) ∧ RV Γ φ' r (S.go1 j) ∧ RFr r kGo φ φ' ∧ (φ'.1 (r + 30) = va_up (φ.1 (r + 30)) j (bI (S.hdP j))) := by
  have hp : j / 5 < 8 := by omega
  have hc : j % 5 < 5 := Nat.mod_lt _ (by omega)
  have hjj : 5 * (j / 5) + j % 5 = j := Nat.div_add_mod j 5
  have hpo := r_isPort h hn hp
  have hw := h.wi (j / 5) (j % 5) hp hc
  rw [hjj] at hw
  have z5 : (5 : Int32) = nI 5 := rfl
  have hst : f_Ref_step_L116 Γ K φ r (nI n) (nI j) (bI (S.mvP j)) = f_Ref_step_L155 Γ K φ r (nI n) (nI j) (bI (S.mvP j)) (bI (S.hdP j)) (nI j) (some (r + 30)) := by
    unfold f_Ref_step_L116 f_Ref_step_L154
    rw [if_pos h.rl.o, z5, if_neg (by decide), zI_div (by omega) (by omega), hpo, Option.bind_some]
    simp only [rf_37 h.rl, rf_33 h.rl, rg_33 h.rl, rf_34 h.rl, rg_34 h.rl, Option.bind_some, zix hj, hw.1, hw.2.1, zI_lit, bI_eq0]
    unfold XS.hdP hdW
    cases S.isP (j / 5) with
    | false => rfl
    | true =>
      cases ((S.wi (j / 5)).w (j % 5)).v with
      | false => rfl
      | true =>
        cases (S.wi (j / 5)).rd (j % 5) <;> rfl
  rw [hst]
  unfold f_Ref_step_L155 f_Ref_step_L204
  rw [Option.bind_some, rg_37 h.rl, Option.bind_some, zix hj, Option.bind_some, zI_0, zI_1, if_pos (by cases S.hdP j <;> decide)]
  unfold XS.go1
  cases hm : S.mvP j with
  | false =>
    rw [if_pos (by rfl), if_neg (by decide), zI_add]
    obtain ⟨a1, a2⟩ := r_hold h j (bI (S.hdP j))
    refine ⟨_, rfl, a1, a2.mono (by decide), ?_⟩
    rw [uI_s]
  | true =>
    obtain ⟨g1, g2⟩ := hG hm
    rw [if_neg (by decide), if_pos h.rl.o, rf_38 h.rl, Option.bind_some, rg_38 h.rl, Option.bind_some, zix hj, Option.bind_some, Option.bind_some, zix hj, Option.bind_some, if_pos (show true = true from rfl), uI_d (show r + 31 ≠ r + 30 by omega), z5, zI_mod (show j < 2 ^ 31 by omega) (show 5 < 2 ^ 31 by omega), zI_div (by omega) (by omega), show (20 : Int32) = nI 20 from rfl, if_pos (show true = true from rfl)]
    obtain ⟨a1, a2⟩ := r_bump h hp hc (bI (S.hdP j))
    rw [hjj] at a1 a2
    have e30 : (uI (uI φ (r + 30) j (bI (S.hdP j))) (r + 31) j (φ.1 (r + 31) j + 1)).1 (r + 30) = va_up (φ.1 (r + 30)) j (bI (S.hdP j)) := by rw [uI_d (by omega), uI_s]
    by_cases h20 : 20 ≤ j
    · rw [if_pos (by rw [zI_le (by omega) (by omega)]; exact h20), if_neg (by decide), if_neg (by decide), z4, zI_sub (by omega)]
      have hP := g2 h20
      obtain ⟨φ', b1, b2, b3⟩ := r_goSlave a1 (s := j / 5 - 4) (c := j % 5) (by omega) hc ⟨hP.sw, hP.rg, hP.mem, hP.row, hP.room, hP.c0, hP.c1, hP.c2, hP.c3, hP.c4⟩
      rw [← zI_1, b1, Option.bind_some, zI_1, zI_add, zI_add]
      refine ⟨φ', rfl, ?_, (a2.mono (by decide)).trans (b3.mono (by decide)), ?_⟩
      · unfold XS.pas
        rw [if_pos h20]
        exact b2
      · rw [b3.i 30 (by decide)]
        exact e30
    · rw [if_neg (by rw [zI_le (by omega) (by omega)]; exact h20), if_neg (by decide), if_neg (by decide)]
      have hP := g1 (by omega)
      obtain ⟨φ', b1, b2, b3⟩ := r_goMaster a1 (m := j / 5) (c := j % 5) (by omega) hc hP.h0 hP.h1 hP.h2 hP.tk
      rw [← zI_1, b1, Option.bind_some, zI_1, zI_add, zI_add]
      refine ⟨φ', rfl, ?_, (a2.mono (by decide)).trans (b3.mono (by decide)), ?_⟩
      · unfold XS.pas
        rw [if_neg h20]
        exact b2
      · rw [b3.i 30 (by decide)]
        exact e30
theorem r_st77 {Γ : gm_T} {r : Nat} {I : Nat → XS → Prop} (hI : GoI I) {q g : Nat → Bool} : ∀ (d j n fu : Nat) (φ : ph_T) (S : XS), j + d = 40 → d < fu → RV Γ φ r S → I j S → S.nm ≤ 4 → S.ns ≤ 4 → S.mvP = q → S.hdP = g → (∀ i, i < j → φ.1 (r + 30) i = bI (g i)) →
    ∃ φ', f_Ref_step_L77 Γ fu φ r (nI n) (nI j) = f_Ref_step_L77 Γ 1 φ' r (nI (cnQ q d j n)) (nI 40) ∧ RV Γ φ' r (iterN XS.go1 d j S) ∧ I 40 (iterN XS.go1 d j S) ∧ (∀ i, i < 40 → φ'.1 (r + 30) i = bI (g i)) ∧ RFr r kGo φ φ' := by
  have z5 : (5 : Int32) = nI 5 := rfl
  have z40 : (40 : Int32) = nI 40 := rfl
  intro d
  induction d with
  | zero =>
    intro j n fu φ S hd hfu h hS h1 h2 hq hg hh
    match fu, hfu with
    | fu + 1, _ =>
      have hj : j = 40 := by omega
      subst hj
      refine ⟨φ, ?_, h, hS, hh, RFr.refl _ _ _⟩
      rw [f_Ref_step_L77, f_Ref_step_L77, z40, if_pos (Int32.le_refl _), if_pos (Int32.le_refl _), cnQ]
  | succ d ih =>
    intro j n fu φ S hd hfu h hS h1 h2 hq hg hh
    match fu, hfu with
    | fu + 1, hfu =>
      obtain ⟨hG, hI2⟩ := hI j S (by omega) hS
      have hp : j / 5 < 8 := by omega
      have hc : j % 5 < 5 := Nat.mod_lt _ (by omega)
      have hpo := r_isPort h ⟨h1, h2⟩ hp
      have hw := h.wi (j / 5) (j % 5) hp hc
      rw [Nat.div_add_mod j 5] at hw
      have hst : f_Ref_step_L77 Γ (fu + 1) φ r (nI n) (nI j) = f_Ref_step_L116 Γ (f_Ref_step_L77 Γ fu) φ r (nI n) (nI j) (bI (S.mvP j)) := by
        rw [f_Ref_step_L77, z40, if_neg (by rw [zI_le (by omega) (by omega)]; omega), z5, if_neg (by decide), if_pos h.rl.o, zI_div (by omega) (by omega), hpo, Option.bind_some]
        unfold f_Ref_step_L115
        simp only [rf_33 h.rl, rg_33 h.rl, rf_34 h.rl, rg_34 h.rl, Option.bind_some, zix (show j < 40 by omega), hw.1, hw.2.1, zI_lit, bI_eq0]
        unfold XS.mvP mvW
        cases S.isP (j / 5) with
        | false => rfl
        | true =>
          cases ((S.wi (j / 5)).w (j % 5)).v with
          | false => rfl
          | true =>
            cases (S.wi (j / 5)).rd (j % 5) <;> rfl
      obtain ⟨φ1, a1, a2, a3, a4⟩ := r_st116 h ⟨h1, h2⟩ (show j < 40 by omega) (f_Ref_step_L77 Γ fu) n hG
      obtain ⟨f1, f2, f3, f4⟩ := go1_fr S j
      obtain ⟨p1, p2, p3⟩ := go1_P S j
      obtain ⟨φ', b1, b2, b3, b4, b5⟩ := ih (j + 1) (if S.mvP j = true then n + 1 else n) fu φ1 (S.go1 j) (by omega) (by omega) a2 hI2 (by rw [f2]; exact h1) (by rw [f3]; exact h2) (by rw [p2]; exact hq) (by rw [p3]; exact hg) (fun i hi => by
        rw [a4, vz_at]
        split
        · rename_i hij
          rw [hij, hg]
        · exact hh i (by omega))
      refine ⟨φ', ?_, b2, b3, b4, a3.trans b5⟩
      rw [hst, a1, b1, cnQ, hq]
def kAl : List Nat := [0, 7, 19, 21, 22, 23, 24, 25, 26, 27, 28, 29, 30, 31, 32, 33, 34, 35, 36, 37, 38, 39, 40, 41, 42, 43, 44, 45, 46, 47, 48, 49, 50, 51, 52, 53, 54, 55, 56, 57, 58, 59, 60, 61, 62, 63, 64, 65, 66, 67, 68, 69, 70, 71, 72, 73, 74, 75, 76, 77, 78, 79, 80, 81, 82, 83, 84, 85, 86, 87]
theorem He.mk {φ : ph_T} {r : Nat} {S : XS} {g : Nat → Bool} (h : ∀ i, i < 40 → φ.1 (r + 30) i = bI (g i)) (hg : S.hdP = g) : He φ r S := fun j hj => by rw [hg]; exact h j hj
/-- wires and ports stay as they are in a move -/
theorem iter_go_fr (S : XS) : ∀ d j T, T.wi = S.wi → T.nm = S.nm → T.ns = S.ns → T.time = S.time → (iterN XS.go1 d j T).wi = S.wi ∧ (iterN XS.go1 d j T).nm = S.nm ∧ (iterN XS.go1 d j T).ns = S.ns ∧ (iterN XS.go1 d j T).time = S.time := by
  intro d
  induction d with
  | zero => intro j T h1 h2 h3 h4; exact ⟨h1, h2, h3, h4⟩
  | succ d ih =>
    intro j T h1 h2 h3 h4
    obtain ⟨f1, f2, f3, f4⟩ := go1_fr T j
    exact ih (j + 1) (T.go1 j) (f1.trans h1) (f2.trans h2) (f3.trans h3) (f4.trans h4)
