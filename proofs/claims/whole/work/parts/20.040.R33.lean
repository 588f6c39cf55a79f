/-! THE REFERENCE moves a beat of a read -/
theorem r_mb21 {Γ : gm_T} {φ : ph_T} {r : Nat} {S : XS} (h : RV Γ φ r S) (hB : Bd S) {m row : Nat} (hm : m < 4) : ∀ d k fu, k + d = S.ns + 2 → d < fu →
    f_Ref_moveBeat_L21 Γ fu φ r (nI m) (nI row) (nI (S.ns + 1)) m1 (nI k) = f_Ref_moveBeat_L71 Γ φ r (nI m) (nI row) (oI (S.givF m 4 (lstA (S.lg m) (S.ns + 1)) d k) m1) := by
  have hns := hB.ns
  have hl := h.la.hg m hm
  have hla : lstA (S.lg m) (S.ns + 1) < S.ns + 1 := lstA_lt (by omega) (fun x hx => by have := hB.lg m x hx; omega)
  have hl' : φ.1 (r + 46) m = nI (lstA (S.lg m) (S.ns + 1)) := by rw [hl]; exact oI_lst (S.lg m) (S.ns + 1)
  intro d
  induction d with
  | zero =>
    intro k fu hd hf
    match fu, hf with
    | fu + 1, _ =>
      unfold f_Ref_moveBeat_L21 XS.givF
      simp (disch := first | assumption | omega) only [zI_lt]
      rw [if_pos (show S.ns + 1 < k by omega)]
      rfl
  | succ d ih =>
    intro k fu hd hf
    match fu, hf with
    | fu + 1, hf =>
      have hmod : (lstA (S.lg m) (S.ns + 1) + k) % (S.ns + 1) < S.ns + 1 := Nat.mod_lt _ (by omega)
      have hfor := r_isFor h (t := (lstA (S.lg m) (S.ns + 1) + k) % (S.ns + 1)) (c := 4) (m := m) (by omega) (by omega) (by omega)
      unfold f_Ref_moveBeat_L21 f_Ref_moveBeat_L63 XS.givF
      simp (disch := first | assumption | omega) only [zI_lt, ↓zm1, if_true, h.rl.o, rf_55 h.rl, rg_55 h.rl, Option.bind_some, zix, hl', zI_lit, zI_eq, zI_add, zI_div, zI_mul, zI_modn, zN_mod, hfor, bI_eq0]
      rw [if_neg (show ¬ S.ns + 1 < k by omega), if_neg (show ¬ S.ns + 1 = 0 by omega)]
      by_cases hg : S.gives m 4 ((lstA (S.lg m) (S.ns + 1) + k) % (S.ns + 1)) = true
      · rw [if_neg (by rw [hg]; decide), if_pos hg, oI_s]
        match fu, hf with
        | fu + 1, _ =>
          unfold f_Ref_moveBeat_L21
          simp (disch := first | assumption | omega) only [zI_lt, ↓zm1, zI_ne_m, if_false, ite_self]
      · rw [if_pos (by simpa using hg), if_neg hg]
        exact ih (k + 1) fu (by omega) (by omega)
theorem r_mb268 {Γ : gm_T} {r n : Nat} (hn : n < 32) : ∀ (d j fu : Nat) (φ : ph_T), j + d = n → d < fu → RL Γ φ r → φ.1 r 51 = nI n →
    ∃ φ', f_Ref_moveBeat_L268 Γ fu φ r (nI j) = some ((), φ') ∧ RFr r [40, 41, 42] φ φ' ∧
      (∀ k, φ'.1 (r + 40) k = if j ≤ k ∧ k < n then φ.1 (r + 40) (k + 1) else φ.1 (r + 40) k) ∧
      (∀ k, φ'.1 (r + 41) k = if j ≤ k ∧ k < n then φ.1 (r + 41) (k + 1) else φ.1 (r + 41) k) ∧
      (∀ k, φ'.1 (r + 42) k = if j ≤ k ∧ k < n then φ.1 (r + 42) (k + 1) else φ.1 (r + 42) k) := by
  intro d
  induction d with
  | zero =>
    intro j fu φ hd hfu hl hm
    match fu, hfu with
    | fu + 1, _ =>
      unfold f_Ref_moveBeat_L268
      simp (disch := first | assumption | omega) only [hl.o, if_true, hm, zI_le]
      rw [if_pos (show n ≤ j by omega)]
      refine ⟨φ, rfl, RFr.refl _ _ _, fun k => ?_, fun k => ?_, fun k => ?_⟩ <;> rw [if_neg (by omega)]
  | succ d ih =>
    intro j fu φ hd hfu hl hm
    match fu, hfu with
    | fu + 1, hfu =>
      have fr : RFr r [40, 41, 42] φ (uI (uI (uI φ (r + 40) j (φ.1 (r + 40) (j + 1))) (r + 41) j (φ.1 (r + 41) (j + 1))) (r + 42) j (φ.1 (r + 42) (j + 1))) := by repeat (first | exact RFr.refl _ _ _ | refine RFr.uI ?_ (by decide) _ _ | refine RFr.uL ?_ (by decide) _ _ | refine rfr_uO ?_ (by decide) _ _)
      obtain ⟨φ', e, f, g1, g2, g3⟩ := ih (j + 1) fu _ (by omega) (by omega) (hl.up (congrFun fr.1 r)) (by rw [fr.o (by decide)]; exact hm)
      refine ⟨φ', ?_, fr.trans f, fun k => ?_, fun k => ?_, fun k => ?_⟩
      · unfold f_Ref_moveBeat_L268
        simp (disch := first | assumption | omega) only [hl.o, rf_48 hl, rg_48 hl, rf_49 hl, rg_49 hl, rf_50 hl, rg_50 hl, Option.bind_some, if_true, zix, hm, zI_lit, zI_le, zI_add, uI_s, uI_d, uI_2, uI_3, uL_1, uL_s, uL_d, uL_3]
        rw [if_neg (show ¬ n ≤ j by omega)]
        exact e
      · rw [g1]
        simp (disch := first | assumption | omega) only [uI_s, uI_d, uI_2, uI_3, uL_1, uL_s, uL_d, uL_3]
        simp only [vz_at]
        repeat' split
        all_goals first | rfl | omega | exact congrArg _ (by omega)
      · rw [g2]
        simp (disch := first | assumption | omega) only [uI_s, uI_d, uI_2, uI_3, uL_1, uL_s, uL_d, uL_3]
        simp only [vz_at]
        repeat' split
        all_goals first | rfl | omega | exact congrArg _ (by omega)
      · rw [g3]
        simp (disch := first | assumption | omega) only [uI_s, uI_d, uI_2, uI_3, uL_1, uL_s, uL_d, uL_3]
        simp only [vz_at]
        repeat' split
        all_goals first | rfl | omega | exact congrArg _ (by omega)
theorem VU3.del {mas idd tg mas' idd' tg' : aI} {l : List UE} (h : VU3 mas idd tg l) {j : Nat} (hj : j < l.length)
    (g1 : ∀ k, mas' k = if j ≤ k ∧ k < l.length - 1 then mas (k + 1) else mas k) (g2 : ∀ k, idd' k = if j ≤ k ∧ k < l.length - 1 then idd (k + 1) else idd k) (g3 : ∀ k, tg' k = if j ≤ k ∧ k < l.length - 1 then tg (k + 1) else tg k) : VU3 mas' idd' tg' (l.eraseIdx j) := by
  have hlen : (l.eraseIdx j).length = l.length - 1 := List.length_eraseIdx_of_lt hj
  have hle := h.hle
  refine ⟨by omega, fun k x hx => ?_⟩
  have hk := llt hx
  rw [hlen] at hk
  rw [eI_get] at hx
  rw [g1, g2, g3]
  by_cases hkj : k < j
  · rw [if_pos hkj] at hx
    rw [if_neg (by omega), if_neg (by omega), if_neg (by omega)]
    exact h.hent k x hx
  · rw [if_neg hkj] at hx
    rw [if_pos (by omega), if_pos (by omega), if_pos (by omega)]
    exact h.hent (k + 1) x hx
theorem r_mb222 {Γ : gm_T} {φ : ph_T} {r : Nat} {S : XS} (h : RV Γ φ r S) (hU : ∀ u ∈ S.ur, u.m < 4 ∧ u.id < 16 ∧ u.tg < 5 ∧ u.left = 0) {m id : Nat} {x : Int32} (hm : m < 4) (hid : id < 16) (hx : x &&& nI 15 = nI id) : ∀ d k j fu, k + d = j → fiF (pMid m id) S.ur k = some j → j < S.ur.length → d < fu →
    f_Ref_moveBeat_L222 Γ fu φ r (nI m) x (nI k) = f_Ref_moveBeat_L268 Γ jF (uI φ r 51 (nI (S.ur.length - 1))) r (nI j) := by
  have hle := h.ur.hle
  intro d
  induction d with
  | zero =>
    intro k j fu hd hf hj hfu
    match fu, hfu with
    | fu + 1, _ =>
      have hkj : k = j := by omega
      subst hkj
      obtain ⟨e, he⟩ := lget (l := S.ur) (t := k) hj
      have hv := h.ur.hent k e he
      have hb := hU e (lmem he)
      rw [fiF_step he] at hf
      have hp : pMid m id e = true := by
        by_cases hp : pMid m id e = true
        · exact hp
        · rw [if_neg hp] at hf
          unfold fiF at hf
          obtain ⟨y, _, hy2⟩ := Option.map_eq_some_iff.mp hf
          omega
      unfold pMid at hp
      simp only [Bool.and_eq_true, decide_eq_true_eq] at hp
      unfold f_Ref_moveBeat_L222
      simp (disch := first | assumption | omega) only [h.rl.o, rf_48 h.rl, rg_48 h.rl, rf_49 h.rl, rg_49 h.rl, Option.bind_some, if_true, zix, hv, zI_lit, hx, zI_eq, hp, h.sc.rm, zI_sub]
  | succ d ih =>
    intro k j fu hd hf hj hfu
    match fu, hfu with
    | fu + 1, hfu =>
      obtain ⟨e, he⟩ := lget (l := S.ur) (t := k) (by omega)
      have hv := h.ur.hent k e he
      have hb := hU e (lmem he)
      rw [fiF_step he] at hf
      have hp : ¬ pMid m id e = true := by
        intro hp
        rw [if_pos hp] at hf
        cases hf
        omega
      rw [if_neg hp] at hf
      have ih' := ih (k + 1) j fu (by omega) hf hj (by omega)
      unfold f_Ref_moveBeat_L222 f_Ref_moveBeat_L248
      simp (disch := first | assumption | omega) only [h.rl.o, rf_48 h.rl, rg_48 h.rl, rf_49 h.rl, rg_49 h.rl, Option.bind_some, if_true, zix, hv, zI_lit, hx, zI_eq, zI_add, ih']
      unfold pMid at hp
      by_cases h1 : e.m = m
      · by_cases h2 : e.id = id
        · exact absurd (by simp [h1, h2]) hp
        · rw [if_pos h1, if_neg h2]
      · rw [if_neg h1]
theorem rLa_sub {x : Int32} {m : Nat} (h : rId x / 16 = m) : rLa (x - nI (16 * m)) = rLa x := by
  unfold rId at h
  unfold rLa
  rw [Int32.toBitVec_sub, BitVec.toNat_sub, zI_bv, BitVec.toNat_ofNat]
  have hx := x.toBitVec.isLt
  generalize x.toBitVec.toNat = y at hx h
  congr 1
  rw [eq_iff_iff]
  omega
theorem VLast.setG {aw ar b g inn : aI} {S S' : XS} (h : VLast aw ar b g inn S) {t m : Nat} {w : Bool} (q1 : S'.lg = va_up S.lg m (some t)) (q2 : S'.la = S.la) (q3 : S'.lr = S.lr) (q4 : S'.lb = S.lb) (q5 : S'.inb = va_up S.inb m w) (q6 : S'.nm = S.nm) (q7 : S'.ns = S.ns) : VLast aw ar b (va_up g m (nI t)) (va_up inn m (bI w)) S' := by
  refine ⟨fun u hu => ?_, fun u hu => ?_, fun u hu => ?_, fun u hu => ?_, fun u hu => ?_⟩
  · rw [q2, q6]; exact h.haw u hu
  · rw [q3, q6]; exact h.har u hu
  · rw [q4, q7]; exact h.hb u hu
  · rw [q1, q7, vz_at, vz_at]
    split
    · rfl
    · exact h.hg u hu
  · rw [q5, vz_at, vz_at]
    split
    · rfl
    · exact h.hinn u hu
theorem row_pd {S : XS} {A B : Nat} {e : RE} (h : A ≠ B) : ((S.put B e).drop A).row = ((S.drop A).put B e).row := by
  funext i
  unfold XS.put XS.drop XS.setRow
  simp only [XS.row_w_row, vz_at, h, Ne.symm h, if_false]
  split
  · rename_i h1
    subst h1
    rw [if_neg h]
  · rfl
theorem movR_no {S : XS} {m : Nat} (h : S.hasRm (5 * m + 4) = false) : S.movR m = S := by unfold XS.movR; rw [if_pos h]
theorem movR_none {S : XS} {m : Nat} (h : S.givR m = none) : S.movR m = S := by
  unfold XS.movR
  split
  · rfl
  · rw [h]
def XS.mvR (S : XS) (m t : Nat) (e : RE) : XS := (((S.drop (5 * (4 + t) + 4)).put (5 * m + 4) ⟨e.c, e.r - nI (16 * m), S.time⟩).w_lg (va_up S.lg m (some t))).w_inb (va_up S.inb m (!rLa e.r))
theorem movR_some {S : XS} {m t : Nat} {e : RE} {l : List RE} (h0 : S.hasRm (5 * m + 4) = true) (h : S.givR m = some t) (hr : S.row (5 * (4 + t) + 4) = e :: l) :
    S.movR m = (S.mvR m t e).w_ur (if rLa e.r = true then S.ur.eraseP (pMid m (rId e.r % 16)) else S.ur) := by
  unfold XS.movR XS.mvR
  rw [if_neg (by rw [h0]; decide), h]
  simp only
  rw [hr]
  rfl
theorem r_mb114a {Γ : gm_T} {φ : ph_T} {r : Nat} {S : XS} (h : RV Γ φ r S) {m t : Nat} {e : RE} {l : List RE} (hm : m < 4) (ht : t < 5) (h0 : S.hasRm (5 * m + 4) = true) (hr : S.row (5 * (4 + t) + 4) = e :: l) (hmm : rId e.r / 16 = m) :
    ∃ φ2, f_Ref_moveBeat_L114 Γ φ r (nI m) (nI (5 * m + 4)) (nI t) = f_Ref_moveBeat_L208 Γ (uI φ2 (r + 46) m (nI t)) r (nI m) (e.r - nI (16 * m)) (bI (!rLa e.r)) (nI m) (some (r + 47)) ∧ RV Γ (uI (uI φ2 (r + 46) m (nI t)) (r + 47) m (bI (!rLa e.r))) r (S.mvR m t e) ∧ RFr r [32, 33, 34, 35, 46, 47] φ (uI (uI φ2 (r + 46) m (nI t)) (r + 47) m (bI (!rLa e.r))) := by
  have hrm := r_hasRoom h (i := 5 * m + 4) (by omega)
  have he := h.row.hent (5 * (4 + t) + 4) 0 e (by omega) (XS.row_at hr)
  simp only [Nat.add_zero] at he
  obtain ⟨φ1, a1, a2, a3⟩ := r_put h (i := 5 * m + 4) (by omega) (hasRm_lt h0) e.c (e.r - nI (16 * m)) S.time
  obtain ⟨φ2, b1, b2, b3⟩ := r_take a2 (i := 5 * (4 + t) + 4) (by omega) (by rw [row_put_ne (by omega), hr]; exact List.cons_ne_nil _ _)
  have f3 : RFr r [46, 47] φ2 (uI (uI φ2 (r + 46) m (nI t)) (r + 47) m (bI (!rLa e.r))) := by repeat (first | exact RFr.refl _ _ _ | refine RFr.uI ?_ (by decide) _ _ | refine RFr.uL ?_ (by decide) _ _ | refine rfr_uO ?_ (by decide) _ _)
  refine ⟨φ2, ?_, ?_, ((a3.mono (by decide)).trans (b3.mono (by decide))).trans (f3.mono (by decide))⟩
  · unfold f_Ref_moveBeat_L114
    rw [if_neg (show ¬ nI t = -1 from zI_ne_m1 (by omega)), if_pos h.rl.o, hrm, Option.bind_some, if_neg (show ¬ bI (S.hasRm (5 * m + 4)) = 0 by rw [h0]; decide)]
    have w2 : f_Ref_rowOf Γ φ r 1 (nI t) 4 = some (nI (5 * (4 + t) + 4), φ) := e_rowOf1 Γ φ r t 4
    rw [w2, Option.bind_some, rf_40 h.rl, Option.bind_some, rg_40 h.rl, Option.bind_some, show (4 : Int32) * nI (5 * (4 + t) + 4) = nI (4 * (5 * (4 + t) + 4)) from zI_mul 4 _, zix (show 4 * (5 * (4 + t) + 4) < 180 by omega), Option.bind_some, rf_39 h.rl, Option.bind_some, rg_39 h.rl, Option.bind_some, zix (show 4 * (5 * (4 + t) + 4) < 180 by omega), Option.bind_some, he.1, he.2.1, h.sc.time, show (16 : Int32) * nI m = nI (16 * m) from zI_mul 16 m, a1, Option.bind_some, b1, Option.bind_some, rf_55 b2.rl, Option.bind_some, rg_55 b2.rl, Option.bind_some, zix (show m < 4 by omega), Option.bind_some, rf_56 b2.rl]
    simp only [zI_lit, rLa_eq, rLa_sub hmm]
    cases hL : rLa e.r with
    | false =>
      rw [if_pos rfl]
      rfl
    | true =>
      rw [if_neg (by decide)]
      rfl
  · exact ⟨(RL.up b2.rl (congrFun f3.1 r)), (by rw [f3.o (by decide)]; exact ⟨b2.sc.nm, b2.sc.ns, b2.sc.lim, b2.sc.pol, b2.sc.whole, b2.sc.time, b2.sc.tk, b2.sc.wm, b2.sc.rm, b2.sc.db, b2.sc.er⟩), (by rw [f3.i 1 (by decide)]; exact b2.pg), (by rw [f3.i 2 (by decide)]; exact b2.mp), (by rw [f3.i 3 (by decide)]; exact b2.sp), (by rw [f3.i 4 (by decide)]; exact b2.ea), (by rw [f3.i 5 (by decide)]; exact b2.de), (by rw [f3.i 6 (by decide)]; exact b2.wa), (by rw [f3.i 7 (by decide), f3.i 8 (by decide)]; exact b2.me), (by rw [f3.i 9 (by decide), f3.i 10 (by decide), f3.i 11 (by decide), f3.i 12 (by decide), f3.i 13 (by decide), f3.i 14 (by decide), f3.i 15 (by decide), f3.i 16 (by decide), f3.i 17 (by decide), f3.i 18 (by decide), f3.i 20 (by decide), f3.i 21 (by decide), f3.i 22 (by decide), f3.i 23 (by decide), f3.i 24 (by decide), f3.l 19 (by decide), f3.l 25 (by decide)]; exact b2.tk), (by rw [f3.i 26 (by decide), f3.i 27 (by decide), f3.l 28 (by decide), f3.i 29 (by decide)]; exact b2.wi), (by rw [f3.i 31 (by decide)]; exact b2.tr), (by
      rw [f3.l 32 (by decide), f3.i 33 (by decide), f3.i 34 (by decide), f3.i 35 (by decide)]
      have hq := b2.row
      rw [row_pd (by omega)] at hq
      exact hq), (by rw [f3.i 36 (by decide), f3.i 37 (by decide), f3.i 38 (by decide), f3.i 39 (by decide)]; exact b2.uw), (by rw [f3.i 40 (by decide), f3.i 41 (by decide), f3.i 42 (by decide)]; exact b2.ur), (by simp (disch := first | assumption | omega) only [uI_s, uI_d, uI_2, uI_3, uL_1, uL_s, uL_d, uL_3]; exact VLast.setG b2.la rfl rfl rfl rfl rfl rfl rfl), (by rw [f3.i 48 (by decide), f3.i 49 (by decide), f3.i 50 (by decide), f3.l 51 (by decide), f3.i 52 (by decide), f3.i 53 (by decide), f3.i 54 (by decide), f3.l 55 (by decide), f3.i 56 (by decide)]; exact b2.sw), (by rw [f3.i 57 (by decide), f3.i 58 (by decide), f3.i 59 (by decide), f3.l 60 (by decide), f3.i 61 (by decide), f3.i 62 (by decide), f3.i 63 (by decide), f3.l 64 (by decide), f3.i 65 (by decide)]; exact b2.sr), (by rw [f3.i 66 (by decide), f3.i 67 (by decide), f3.i 68 (by decide), f3.i 69 (by decide)]; exact ⟨b2.ch.hnums, b2.ch.hlat, b2.ch.hchb, b2.ch.hchr⟩), (by rw [f3.i 70 (by decide), f3.i 71 (by decide)]; exact b2.rg), (by unfold maOf; rw [f3.i 72 (by decide), f3.l 73 (by decide), f3.i 74 (by decide), f3.i 75 (by decide), f3.i 76 (by decide), f3.i 77 (by decide), f3.i 78 (by decide), f3.i 79 (by decide), f3.i 80 (by decide), f3.i 81 (by decide), f3.l 82 (by decide), f3.i 83 (by decide), f3.i 84 (by decide), f3.i 85 (by decide), f3.l 86 (by decide), f3.i 87 (by decide)]; exact b2.mo), (by rw [f3.i 88 (by decide), f3.i 89 (by decide), f3.l 90 (by decide), f3.i 91 (by decide)]; exact b2.wt)⟩
