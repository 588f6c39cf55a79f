/-! THE REFERENCE's memory: bytes of a beat, rights -/
theorem ba_ok {c : Int64} (h : ruN c = 0) {k : Nat} (hk : k < leN c) : baN c k < 65536 := by
  have hs := szN_cases c
  have ha := adN_lt c
  have hal0 := all_pos c
  have hl := leN_le c
  unfold ruN at h
  have h3 : ¬ kiN c = 3 := by
    intro hc
    rw [if_pos hc] at h
    omega
  rw [if_neg h3] at h
  have h4 : ¬ (kiN c = 2 ∧ (¬ (leN c = 2 ∨ leN c = 4 ∨ leN c = 8 ∨ leN c = 16) ∨ adN c % szN c ≠ 0)) := by
    intro hc
    rw [if_pos hc] at h
    omega
  rw [if_neg h4] at h
  have h5 : ¬ (kiN c = 1 ∧ (adN c - adN c % szN c + leN c * szN c - 1) / 4096 ≠ adN c / 4096) := by
    intro hc
    rw [if_pos hc] at h
    omega
  unfold baN
  split
  · rename_i hc
    have h6 : (adN c - adN c % szN c + leN c * szN c - 1) / 4096 = adN c / 4096 := Classical.byContradiction fun hn => h5 ⟨hc.1, hn⟩
    have h7 : (k + 1) * szN c ≤ leN c * szN c := Nat.mul_le_mul_right _ hk
    have h8 : (k + 1) * szN c = k * szN c + szN c := Nat.succ_mul _ _
    have h9 := szN_pos c
    omega
  · split
    · rename_i hc
      have h6 : leN c = 2 ∨ leN c = 4 ∨ leN c = 8 ∨ leN c = 16 := Classical.byContradiction fun hn => h4 ⟨hc, Or.inl hn⟩
      rcases h6 with h6 | h6 | h6 | h6 <;> rcases hs with h7 | h7 | h7 | h7 <;> rw [h6, h7] <;> omega
    · exact ha
theorem e_byteAt (Γ : gm_T) (φ : ph_T) {c : Int64} {k i : Nat} (hk : k < 256) (h3 : kiN c ≠ 3) (hi : i < 8) : f_Ref_byteAt Γ φ c (nI k) (nI i) = some (nI (baN c k - baN c k % 8 + i), φ) := by
  have hb := baN_lt c hk
  unfold f_Ref_byteAt
  rw [e_Ref_beatAt Γ φ c hk h3, Option.bind_some, if_neg (by decide)]
  simp only [zI_lit]
  rw [zI_mod (by omega) (by omega), zI_sub (Nat.mod_le _ _), zI_add]
theorem st_bit {st i : Nat} (hs : st < 256) (hi : i < 8) : (((nI st) >>> (nI i &&& nI 31)) &&& nI 1 = nI 1) ↔ Nat.testBit st i = true := by
  rw [zI_and i 31, show i &&& 31 = i from by rw [Nat.and_two_pow_sub_one_eq_mod i 5]; omega, zI_shr (by omega) (by omega), zI_and, zI_eq ?_ (by omega)]
  · rw [tb_dec, decide_eq_true_eq]
  · exact Nat.lt_of_le_of_lt Nat.and_le_right (by omega)
/-- a byte is written: who had a right there loses it -/
def takeR (g : Nat → Option (Nat × Nat)) (x : Nat) : Nat → Option (Nat × Nat) := fun j => match g j with
  | none => none
  | some q => if q.1 ≤ x ∧ x < q.1 + q.2 then none else some q
theorem r_tr5 {Γ : gm_T} {r s x : Nat} (hs : s < 4) : ∀ (d j fu : Nat) (φ : ph_T), j + d = 64 → d < fu → RL Γ φ r →
    ∃ φ', f_Ref_takeRights_L5 Γ fu φ r (nI s) (nI x) (nI (64 * s + j)) = some ((), φ') ∧ RFr r [70] φ φ' ∧
      (∀ k, φ'.1 (r + 70) k = if 64 * s + j ≤ k ∧ k < 64 * s + 64 ∧ φ.1 (r + 70) k ≠ m1 ∧ ¬ nI x < φ.1 (r + 70) k ∧ ¬ φ.1 (r + 70) k + φ.1 (r + 71) k ≤ nI x then m1 else φ.1 (r + 70) k) := by
  intro d
  induction d with
  | zero =>
    intro j fu φ hd hfu hl
    match fu, hfu with
    | fu + 1, _ =>
      unfold f_Ref_takeRights_L5
      simp only [zI_lit, zI_mul, zI_add]
      rw [if_pos (by rw [zI_le (by omega) (by omega)]; omega)]
      exact ⟨φ, rfl, RFr.refl _ _ _, fun k => by rw [if_neg (by omega)]⟩
  | succ d ih =>
    intro j fu φ hd hfu hl
    match fu, hfu with
    | fu + 1, hfu =>
      obtain ⟨φa, ea, fa, ga⟩ := ih (j + 1) fu φ (by omega) (by omega) hl
      obtain ⟨φb, eb, fb, gb⟩ := ih (j + 1) fu (uI φ (r + 70) (64 * s + j) m1) (by omega) (by omega) (hl.up rfl)
      have hst : f_Ref_takeRights_L5 Γ (fu + 1) φ r (nI s) (nI x) (nI (64 * s + j)) = if φ.1 (r + 70) (64 * s + j) ≠ m1 ∧ ¬ nI x < φ.1 (r + 70) (64 * s + j) ∧ ¬ φ.1 (r + 70) (64 * s + j) + φ.1 (r + 71) (64 * s + j) ≤ nI x then f_Ref_takeRights_L5 Γ fu (uI φ (r + 70) (64 * s + j) m1) r (nI s) (nI x) (nI (64 * s + (j + 1))) else f_Ref_takeRights_L5 Γ fu φ r (nI s) (nI x) (nI (64 * s + (j + 1))) := by
        rw [f_Ref_takeRights_L5]
        unfold f_Ref_takeRights_L60
        simp only [↓zm1, zI_lit, zI_mul, zI_add]
        rw [if_neg (by rw [zI_le (by omega) (by omega)]; omega)]
        simp only [hl.o, rf_80 hl, rg_80 hl, rf_81 hl, rg_81 hl, Option.bind_some, if_true, zix (show 64 * s + j < 256 by omega), Nat.add_assoc]
        by_cases h1 : φ.1 (r + 70) (64 * s + j) = m1
        · rw [if_pos h1, if_neg (fun hc => hc.1 h1)]
        · rw [if_neg h1]
          by_cases h2 : nI x < φ.1 (r + 70) (64 * s + j)
          · rw [if_pos h2, if_neg (fun hc => hc.2.1 h2)]
          · rw [if_neg h2]
            by_cases h3 : φ.1 (r + 70) (64 * s + j) + φ.1 (r + 71) (64 * s + j) ≤ nI x
            · rw [if_pos h3, if_neg (fun hc => hc.2.2 h3)]
            · rw [if_neg h3, if_pos ⟨h1, h2, h3⟩]
      rw [hst]
      split
      · rename_i hc
        refine ⟨φb, eb, RFr.trans (by repeat (first | exact RFr.refl _ _ _ | refine RFr.uI ?_ (by decide) _ _ | refine RFr.uL ?_ (by decide) _ _ | refine rfr_uO ?_ (by decide) _ _)) fb, fun k => ?_⟩
        rw [gb k, uI_s, uI_d (by omega), vz_at]
        by_cases hk : k = 64 * s + j
        · subst hk
          rw [if_pos rfl, if_neg (by omega), if_pos ⟨Nat.le_refl _, by omega, hc⟩]
        · rw [if_neg hk]
          by_cases hk2 : 64 * s + (j + 1) ≤ k
          · congr 1
            exact propext ⟨fun q => ⟨by omega, q.2⟩, fun q => ⟨hk2, q.2⟩⟩
          · rw [if_neg (fun q => hk2 q.1), if_neg (fun q => by omega)]
      · rename_i hc
        refine ⟨φa, ea, fa, fun k => ?_⟩
        rw [ga k]
        by_cases hk : k = 64 * s + j
        · subst hk
          rw [if_neg (by omega), if_neg (fun q => hc q.2.2)]
        · by_cases hk2 : 64 * s + (j + 1) ≤ k
          · congr 1
            exact propext ⟨fun q => ⟨by omega, q.2⟩, fun q => ⟨hk2, q.2⟩⟩
          · rw [if_neg (fun q => hk2 q.1), if_neg (fun q => by omega)]
theorem r_takeRights {Γ : gm_T} {φ : ph_T} {r : Nat} {S : XS} (h : RV Γ φ r S) {s x : Nat} (hs : s < 4) (hx : x < 2 ^ 24) (hR : ∀ j q, S.rgt s j = some q → q.1 < 65536 ∧ q.2 < 129) :
    ∃ φ', f_Ref_takeRights Γ φ r (nI s) (nI x) = some ((), φ') ∧ RV Γ φ' r (S.w_rgt (va_up S.rgt s (takeR (S.rgt s) x))) ∧ RFr r [70] φ φ' := by
  obtain ⟨φ', a1, a2, a3⟩ := r_tr5 (Γ := Γ) (r := r) (s := s) (x := x) hs 64 0 jF φ rfl (by unfold jF; omega) h.rl
  refine ⟨φ', ?_, ?_, a2⟩
  · unfold f_Ref_takeRights
    simp only [zI_lit, zI_mul]
    exact a1
  · refine ⟨(RL.up h.rl (congrFun a2.1 r)), (by rw [a2.o (by decide)]; exact ⟨h.sc.nm, h.sc.ns, h.sc.lim, h.sc.pol, h.sc.whole, h.sc.time, h.sc.tk, h.sc.wm, h.sc.rm, h.sc.db, h.sc.er⟩), (by rw [a2.i 1 (by decide)]; exact h.pg), (by rw [a2.i 2 (by decide)]; exact h.mp), (by rw [a2.i 3 (by decide)]; exact h.sp), (by rw [a2.i 4 (by decide)]; exact h.ea), (by rw [a2.i 5 (by decide)]; exact h.de), (by rw [a2.i 6 (by decide)]; exact h.wa), (by rw [a2.i 7 (by decide), a2.i 8 (by decide)]; exact h.me), (by rw [a2.i 9 (by decide), a2.i 10 (by decide), a2.i 11 (by decide), a2.i 12 (by decide), a2.i 13 (by decide), a2.i 14 (by decide), a2.i 15 (by decide), a2.i 16 (by decide), a2.i 17 (by decide), a2.i 18 (by decide), a2.i 20 (by decide), a2.i 21 (by decide), a2.i 22 (by decide), a2.i 23 (by decide), a2.i 24 (by decide), a2.l 19 (by decide), a2.l 25 (by decide)]; exact h.tk), (by rw [a2.i 26 (by decide), a2.i 27 (by decide), a2.l 28 (by decide), a2.i 29 (by decide)]; exact h.wi), (by rw [a2.i 31 (by decide)]; exact h.tr), (by rw [a2.l 32 (by decide), a2.i 33 (by decide), a2.i 34 (by decide), a2.i 35 (by decide)]; exact h.row), (by rw [a2.i 36 (by decide), a2.i 37 (by decide), a2.i 38 (by decide), a2.i 39 (by decide)]; exact h.uw), (by rw [a2.i 40 (by decide), a2.i 41 (by decide), a2.i 42 (by decide)]; exact h.ur), (by rw [a2.i 43 (by decide), a2.i 44 (by decide), a2.i 45 (by decide), a2.i 46 (by decide), a2.i 47 (by decide)]; exact ⟨h.la.haw, h.la.har, h.la.hb, h.la.hg, h.la.hinn⟩), (by rw [a2.i 48 (by decide), a2.i 49 (by decide), a2.i 50 (by decide), a2.l 51 (by decide), a2.i 52 (by decide), a2.i 53 (by decide), a2.i 54 (by decide), a2.l 55 (by decide), a2.i 56 (by decide)]; exact h.sw), (by rw [a2.i 57 (by decide), a2.i 58 (by decide), a2.i 59 (by decide), a2.l 60 (by decide), a2.i 61 (by decide), a2.i 62 (by decide), a2.i 63 (by decide), a2.l 64 (by decide), a2.i 65 (by decide)]; exact h.sr), (by rw [a2.i 66 (by decide), a2.i 67 (by decide), a2.i 68 (by decide), a2.i 69 (by decide)]; exact ⟨h.ch.hnums, h.ch.hlat, h.ch.hchb, h.ch.hchr⟩), ?_, (by unfold maOf; rw [a2.i 72 (by decide), a2.l 73 (by decide), a2.i 74 (by decide), a2.i 75 (by decide), a2.i 76 (by decide), a2.i 77 (by decide), a2.i 78 (by decide), a2.i 79 (by decide), a2.i 80 (by decide), a2.i 81 (by decide), a2.l 82 (by decide), a2.i 83 (by decide), a2.i 84 (by decide), a2.i 85 (by decide), a2.l 86 (by decide), a2.i 87 (by decide)]; exact h.mo), (by rw [a2.i 88 (by decide), a2.i 89 (by decide), a2.l 90 (by decide), a2.i 91 (by decide)]; exact h.wt)⟩
    rw [a2.i 71 (by decide)]
    intro q j hq hj
    have hg := h.rg q j hq hj
    show φ'.1 (r + 70) (64 * q + j) = oI ((va_up S.rgt s (takeR (S.rgt s) x) q j).map Prod.fst) m1 ∧ ∀ z, va_up S.rgt s (takeR (S.rgt s) x) q j = some z → φ.1 (r + 71) (64 * q + j) = nI z.2
    rw [a3]
    by_cases hqs : q = s
    · subst hqs
      rw [vz_same]
      unfold takeR
      cases hgj : S.rgt q j with
      | none =>
        rw [hgj] at hg
        simp only
        refine ⟨?_, fun z hz => by cases hz⟩
        rw [if_neg (fun hc => hc.2.2.1 hg.1)]
        exact hg.1
      | some z =>
        rw [hgj] at hg
        have hb := hR j z hgj
        have hg1 : φ.1 (r + 70) (64 * q + j) = nI z.1 := hg.1
        have hg2 := hg.2 z rfl
        simp only
        have l1 : nI x < nI z.1 ↔ x < z.1 := zI_lt (by omega) (by omega)
        have l2 : nI (z.1 + z.2) ≤ nI x ↔ z.1 + z.2 ≤ x := zI_le (by omega) (by omega)
        rw [hg1, hg2, zI_add]
        by_cases hc : z.1 ≤ x ∧ x < z.1 + z.2
        · rw [if_pos ⟨by omega, by omega, zI_ne_m1 (by omega), fun hh => by have := l1.mp hh; omega, fun hh => by have := l2.mp hh; omega⟩, if_pos hc]
          exact ⟨rfl, fun z hz => by cases hz⟩
        · rw [if_neg (fun hd => hc ⟨Nat.le_of_not_lt (fun hh => hd.2.2.2.1 (l1.mpr hh)), Nat.lt_of_not_le (fun hh => hd.2.2.2.2 (l2.mpr hh))⟩), if_neg hc]
          exact ⟨rfl, fun z' hz => by cases hz; rfl⟩
    · rw [vz_ne _ hqs, if_neg (by omega)]
      exact hg
