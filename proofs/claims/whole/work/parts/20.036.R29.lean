/-! THE REFERENCE moves an address -/
theorem uI_s (φ : ph_T) (a k : Nat) (v : Int32) : (uI φ a k v).1 a = va_up (φ.1 a) k v := by rw [uI_1, if_pos rfl]
theorem uI_d {a b : Nat} (h : b ≠ a) (φ : ph_T) (k : Nat) (v : Int32) : (uI φ a k v).1 b = φ.1 b := by rw [uI_1, if_neg h]
theorem uL_s (φ : ph_T) (a k : Nat) (v : Int64) : (uL φ a k v).2.1 a = va_up (φ.2.1 a) k v := by rw [uL_2, if_pos rfl]
theorem uL_d {a b : Nat} (h : b ≠ a) (φ : ph_T) (k : Nat) (v : Int64) : (uL φ a k v).2.1 b = φ.2.1 b := by rw [uL_2, if_neg h]
theorem fo_mem {P : Nat → Bool} {bt : Nat → Nat → Bool} : ∀ (l : List Nat) (b : Option Nat) (x : Nat), fo P bt l b = some x → b = some x ∨ (x ∈ l ∧ P x = true) := by
  intro l
  induction l with
  | nil => intro b x h; exact Or.inl h
  | cons m l ih =>
    intro b x h
    rw [fo_cons] at h
    rcases ih _ _ h with j | j
    · unfold foS at j
      cases b with
      | none =>
        simp only at j
        split at j
        · rename_i hp; cases j; exact Or.inr ⟨List.mem_cons_self, hp⟩
        · cases j
      | some o =>
        simp only at j
        split at j
        · rename_i hp; cases j; exact Or.inr ⟨List.mem_cons_self, hp.1⟩
        · exact Or.inl j
    · exact Or.inr ⟨List.mem_cons_of_mem _ j.1, j.2⟩
theorem arb_some {S : XS} (hB : Bd S) {c t m : Nat} (hr : S.hasRm (5 * (4 + t) + c) = true) (h : S.arb c t = some m) : S.may c m t = true ∧ m < S.nm := by
  have hnm := hB.nm
  rw [← chF_arb hB hr, chF_fo] at h
  rcases fo_mem _ _ _ h with j | j
  · cases j
  · obtain ⟨i, _, e⟩ := List.mem_map.mp j.1
    refine ⟨?_, ?_⟩
    · have := j.2
      simp only [Bool.and_eq_true] at this
      exact this.1
    · rw [← e]
      exact Nat.mod_lt _ (by omega)
theorem VU.add {mas idd tg lef : aI} {l : List UE} (h : VU mas idd tg lef l) (e : UE) (hl : l.length < 32) : VU (va_up mas l.length (nI e.m)) (va_up idd l.length (nI e.id)) (va_up tg l.length (nI e.tg)) (va_up lef l.length (nI e.left)) (l ++ [e]) := by
  refine ⟨by simp; omega, fun k x hx => ?_⟩
  by_cases hk : k < l.length
  · rw [List.getElem?_append_left hk] at hx
    simp only [vz_at, show ¬ k = l.length by omega, if_false]
    exact h.hent k x hx
  · have hk2 : k = l.length := by
      have := llt hx
      simp at this
      omega
    subst hk2
    simp at hx
    subst hx
    simp only [vz_same, and_self]
theorem VU3.add {mas idd tg : aI} {l : List UE} (h : VU3 mas idd tg l) (e : UE) (hl : l.length < 32) : VU3 (va_up mas l.length (nI e.m)) (va_up idd l.length (nI e.id)) (va_up tg l.length (nI e.tg)) (l ++ [e]) := by
  refine ⟨by simp; omega, fun k x hx => ?_⟩
  by_cases hk : k < l.length
  · rw [List.getElem?_append_left hk] at hx
    simp only [vz_at, show ¬ k = l.length by omega, if_false]
    exact h.hent k x hx
  · have hk2 : k = l.length := by
      have := llt hx
      simp at this
      omega
    subst hk2
    simp at hx
    subst hx
    simp only [vz_same, and_self]
theorem VLast.setA {aw ar b g inn : aI} {S S' : XS} (h : VLast aw ar b g inn S) {t m : Nat} (q1 : S'.la = va_up S.la t (some m)) (q2 : S'.lr = S.lr) (q3 : S'.lb = S.lb) (q4 : S'.lg = S.lg) (q5 : S'.inb = S.inb) (q6 : S'.nm = S.nm) (q7 : S'.ns = S.ns) : VLast (va_up aw t (nI m)) ar b g inn S' := by
  refine ⟨fun u hu => ?_, fun u hu => ?_, fun u hu => ?_, fun u hu => ?_, fun u hu => ?_⟩
  · rw [q1, q6, vz_at, vz_at]
    split
    · rfl
    · exact h.haw u hu
  · rw [q2, q6]; exact h.har u hu
  · rw [q3, q7]; exact h.hb u hu
  · rw [q4, q7]; exact h.hg u hu
  · rw [q5]; exact h.hinn u hu
theorem VLast.setR {aw ar b g inn : aI} {S S' : XS} (h : VLast aw ar b g inn S) {t m : Nat} (q1 : S'.lr = va_up S.lr t (some m)) (q2 : S'.la = S.la) (q3 : S'.lb = S.lb) (q4 : S'.lg = S.lg) (q5 : S'.inb = S.inb) (q6 : S'.nm = S.nm) (q7 : S'.ns = S.ns) : VLast aw (va_up ar t (nI m)) b g inn S' := by
  refine ⟨fun u hu => ?_, fun u hu => ?_, fun u hu => ?_, fun u hu => ?_, fun u hu => ?_⟩
  · rw [q2, q6]; exact h.haw u hu
  · rw [q1, q6, vz_at, vz_at]
    split
    · rfl
    · exact h.har u hu
  · rw [q3, q7]; exact h.hb u hu
  · rw [q4, q7]; exact h.hg u hu
  · rw [q5]; exact h.hinn u hu
theorem r_movA {Γ : gm_T} {φ : ph_T} {r : Nat} {S : XS} (h : RV Γ φ r S) (hB : Bd S) {t c : Nat} (ht : t < 5) (hc : c = 0 ∨ c = 3) (hlen : ∀ m, m < S.nm → S.may c m t = true → (if c = 0 then S.uw else S.ur).length < 32) :
    ∃ φ', f_Ref_moveAddress Γ φ r (nI t) (nI c) = some ((), φ') ∧ RV Γ φ' r (S.movA c t) ∧ RFr r [0, 32, 33, 34, 35, 36, 37, 38, 39, 40, 41, 42, 43, 44] φ φ' := by
  have hch := r_choose h hB ht hc
  unfold f_Ref_moveAddress XS.movA
  rw [if_pos h.rl.o, hch, Option.bind_some]
  cases hrm : S.hasRm (5 * (4 + t) + c) with
  | false =>
    rw [chF_none hrm, if_pos (show (false = false) from rfl), oI_n]
    simp only [↓zm1, if_true]
    exact ⟨φ, rfl, h, RFr.refl _ _ _⟩
  | true =>
    rw [chF_arb hB hrm, if_neg (show ¬ (true = false) by decide)]
    cases ha : S.arb c t with
    | none =>
      simp only [oI_n, ↓zm1, if_true]
      exact ⟨φ, rfl, h, RFr.refl _ _ _⟩
    | some m =>
      obtain ⟨hmay, hmn⟩ := arb_some hB hrm ha
      have hm4 : m < 4 := by have := hB.nm; omega
      have hl32 := hlen m hmn hmay
      obtain ⟨e, l, hrow⟩ := List.exists_cons_of_ne_nil (may_row hmay)
      have he := h.row.hent (5 * m + c) 0 e (by omega) (XS.row_at hrow)
      simp only [Nat.add_zero] at he
      have hid := idN_lt e.c
      have hle := leN_le e.c
      obtain ⟨φ1, a1, a2, a3⟩ := r_take h (i := 5 * m + c) (by omega) (by rw [hrow]; exact List.cons_ne_nil _ _)
      have hlt : ((S.drop (5 * m + c)).row (5 * (4 + t) + c)).length < roomN ((5 * (4 + t) + c) % 5) := by
        unfold XS.hasRm at hrm
        have e1 : (S.drop (5 * m + c)).row (5 * (4 + t) + c) = S.row (5 * (4 + t) + c) := by
          unfold XS.drop XS.setRow
          rw [XS.row_w_row]
          exact vz_ne _ (by omega)
        rw [e1]
        simpa using hrm
      obtain ⟨φ2, b1, b2, b3⟩ := r_put a2 (i := 5 * (4 + t) + c) (by omega) hlt (e.c + nL (16 * m)) 0 S.time
      have htm : φ1.1 r 6 = nI S.time := a2.sc.time
      have b1' : f_Ref_put Γ φ1 r (nI (5 * (4 + t) + c)) (e.c + nL (16 * m)) (nI 0) (nI S.time) = some ((), φ2) := b1
      simp only [oI_s, ↓zm1, zI_ne_m (show m < 2 ^ 31 by omega), if_false, hrow, zI_lit, e_rowOf0, e_rowOf1, Option.bind_some, rf_39 h.rl, rg_39 h.rl, zI_mul, zix (show 4 * (5 * m + c) < 180 by omega), a1, he, htm, zL_lit, nI_L (show m < 2 ^ 31 by omega), nL_mul, b1', e_Ref_idOf, e_Ref_lengthOf]
      rcases hc with hc | hc
      · subst hc
        simp only [if_true] at hl32 ⊢
        have hwm : φ2.1 r 47 = nI S.uw.length := b2.sc.wm
        simp (disch := first | assumption | omega) only [rf_52 b2.rl, rg_52 b2.rl, rf_43 b2.rl, rg_43 b2.rl, rf_44 b2.rl, rg_44 b2.rl, rf_45 b2.rl, rg_45 b2.rl, rf_46 b2.rl, rg_46 b2.rl, Option.bind_some, zix, uI_1, uI_2, uI_3, uL_1, uL_2, uL_3, vz_at, Nat.add_left_cancel_iff, Nat.reduceEqDiff, if_false, zr1, zr2, hwm]
        unfold f_Ref_moveAddress_L187
        simp (disch := first | assumption | omega) only [uI_1, uI_2, uI_3, uL_1, uL_2, uL_3, vz_at, Nat.add_left_cancel_iff, Nat.reduceEqDiff, if_false, zr1, zr2, hwm, zI_add]
        have hv := VU.add b2.uw ⟨m, idN e.c, t, leN e.c, S.moved⟩ hl32
        have hvl := b2.la
        have f : RFr r [0, 36, 37, 38, 39, 43] φ2 (uI (uI (uI (uI (uI (uI φ2 (r + 43) t (nI m)) (r + 36) S.uw.length (nI m)) (r + 37) S.uw.length (nI (idN e.c))) (r + 38) S.uw.length (nI t)) (r + 39) S.uw.length (nI (leN e.c))) r 47 (nI (S.uw.length + 1))) := by repeat (first | exact RFr.refl _ _ _ | refine RFr.uI ?_ (by decide) _ _ | refine RFr.uL ?_ (by decide) _ _ | refine rfr_uO ?_ (by decide) _ _)
        refine ⟨_, rfl, ?_, ((a3.mono (by decide)).trans (b3.mono (by decide))).trans (f.mono (by decide))⟩
        exact ⟨(RL.up b2.rl (congrFun f.1 r)), (by simp (disch := first | assumption | omega) only [uI_s, uI_d, uI_2, uI_3, uL_1, uL_s, uL_d, uL_3]; exact ⟨b2.sc.nm, b2.sc.ns, b2.sc.lim, b2.sc.pol, b2.sc.whole, b2.sc.time, b2.sc.tk, (by rw [vz_same]; show _ = nI (S.uw ++ [_]).length; rw [List.length_append]; rfl), b2.sc.rm, b2.sc.db, b2.sc.er⟩), (by rw [f.i 1 (by decide)]; exact b2.pg), (by rw [f.i 2 (by decide)]; exact b2.mp), (by rw [f.i 3 (by decide)]; exact b2.sp), (by rw [f.i 4 (by decide)]; exact b2.ea), (by rw [f.i 5 (by decide)]; exact b2.de), (by rw [f.i 6 (by decide)]; exact b2.wa), (by rw [f.i 7 (by decide), f.i 8 (by decide)]; exact b2.me), (by rw [f.i 9 (by decide), f.i 10 (by decide), f.i 11 (by decide), f.i 12 (by decide), f.i 13 (by decide), f.i 14 (by decide), f.i 15 (by decide), f.i 16 (by decide), f.i 17 (by decide), f.i 18 (by decide), f.i 20 (by decide), f.i 21 (by decide), f.i 22 (by decide), f.i 23 (by decide), f.i 24 (by decide), f.l 19 (by decide), f.l 25 (by decide)]; exact b2.tk), (by rw [f.i 26 (by decide), f.i 27 (by decide), f.l 28 (by decide), f.i 29 (by decide)]; exact b2.wi), (by rw [f.i 31 (by decide)]; exact b2.tr), (by rw [f.l 32 (by decide), f.i 33 (by decide), f.i 34 (by decide), f.i 35 (by decide)]; exact b2.row), (by simp (disch := first | assumption | omega) only [uI_s, uI_d, uI_2, uI_3, uL_1, uL_s, uL_d, uL_3]; exact hv), (by rw [f.i 40 (by decide), f.i 41 (by decide), f.i 42 (by decide)]; exact b2.ur), (by simp (disch := first | assumption | omega) only [uI_s, uI_d, uI_2, uI_3, uL_1, uL_s, uL_d, uL_3]; exact VLast.setA hvl rfl rfl rfl rfl rfl rfl rfl), (by rw [f.i 48 (by decide), f.i 49 (by decide), f.i 50 (by decide), f.l 51 (by decide), f.i 52 (by decide), f.i 53 (by decide), f.i 54 (by decide), f.l 55 (by decide), f.i 56 (by decide)]; exact b2.sw), (by rw [f.i 57 (by decide), f.i 58 (by decide), f.i 59 (by decide), f.l 60 (by decide), f.i 61 (by decide), f.i 62 (by decide), f.i 63 (by decide), f.l 64 (by decide), f.i 65 (by decide)]; exact b2.sr), (by rw [f.i 66 (by decide), f.i 67 (by decide), f.i 68 (by decide), f.i 69 (by decide)]; exact ⟨b2.ch.hnums, b2.ch.hlat, b2.ch.hchb, b2.ch.hchr⟩), (by rw [f.i 70 (by decide), f.i 71 (by decide)]; exact b2.rg), (by unfold maOf; rw [f.i 72 (by decide), f.l 73 (by decide), f.i 74 (by decide), f.i 75 (by decide), f.i 76 (by decide), f.i 77 (by decide), f.i 78 (by decide), f.i 79 (by decide), f.i 80 (by decide), f.i 81 (by decide), f.l 82 (by decide), f.i 83 (by decide), f.i 84 (by decide), f.i 85 (by decide), f.l 86 (by decide), f.i 87 (by decide)]; exact b2.mo), (by rw [f.i 88 (by decide), f.i 89 (by decide), f.l 90 (by decide), f.i 91 (by decide)]; exact b2.wt)⟩
      · subst hc
        rw [if_neg (show ¬ (3 = 0) by omega)] at hl32 ⊢
        have hrmm : φ2.1 r 51 = nI S.ur.length := b2.sc.rm
        rw [if_neg (show ¬ (nI 3 = nI 0) by decide)]
        simp (disch := first | assumption | omega) only [rf_53 b2.rl, rg_53 b2.rl, rf_48 b2.rl, rg_48 b2.rl, rf_49 b2.rl, rg_49 b2.rl, rf_50 b2.rl, rg_50 b2.rl, Option.bind_some, zix, uI_1, uI_2, uI_3, uL_1, uL_2, uL_3, vz_at, Nat.add_left_cancel_iff, Nat.reduceEqDiff, if_false, zr1, zr2, hrmm]
        unfold f_Ref_moveAddress_L187
        simp (disch := first | assumption | omega) only [uI_1, uI_2, uI_3, uL_1, uL_2, uL_3, vz_at, Nat.add_left_cancel_iff, Nat.reduceEqDiff, if_false, zr1, zr2, hrmm, zI_add]
        have hv := VU3.add b2.ur ⟨m, idN e.c, t, 0, S.moved⟩ hl32
        have hvl := b2.la
        have f : RFr r [0, 40, 41, 42, 44] φ2 (uI (uI (uI (uI (uI φ2 (r + 44) t (nI m)) (r + 40) S.ur.length (nI m)) (r + 41) S.ur.length (nI (idN e.c))) (r + 42) S.ur.length (nI t)) r 51 (nI (S.ur.length + 1))) := by repeat (first | exact RFr.refl _ _ _ | refine RFr.uI ?_ (by decide) _ _ | refine RFr.uL ?_ (by decide) _ _ | refine rfr_uO ?_ (by decide) _ _)
        refine ⟨_, rfl, ?_, ((a3.mono (by decide)).trans (b3.mono (by decide))).trans (f.mono (by decide))⟩
        exact ⟨(RL.up b2.rl (congrFun f.1 r)), (by simp (disch := first | assumption | omega) only [uI_s, uI_d, uI_2, uI_3, uL_1, uL_s, uL_d, uL_3]; exact ⟨b2.sc.nm, b2.sc.ns, b2.sc.lim, b2.sc.pol, b2.sc.whole, b2.sc.time, b2.sc.tk, b2.sc.wm, (by rw [vz_same]; show _ = nI (S.ur ++ [_]).length; rw [List.length_append]; rfl), b2.sc.db, b2.sc.er⟩), (by rw [f.i 1 (by decide)]; exact b2.pg), (by rw [f.i 2 (by decide)]; exact b2.mp), (by rw [f.i 3 (by decide)]; exact b2.sp), (by rw [f.i 4 (by decide)]; exact b2.ea), (by rw [f.i 5 (by decide)]; exact b2.de), (by rw [f.i 6 (by decide)]; exact b2.wa), (by rw [f.i 7 (by decide), f.i 8 (by decide)]; exact b2.me), (by rw [f.i 9 (by decide), f.i 10 (by decide), f.i 11 (by decide), f.i 12 (by decide), f.i 13 (by decide), f.i 14 (by decide), f.i 15 (by decide), f.i 16 (by decide), f.i 17 (by decide), f.i 18 (by decide), f.i 20 (by decide), f.i 21 (by decide), f.i 22 (by decide), f.i 23 (by decide), f.i 24 (by decide), f.l 19 (by decide), f.l 25 (by decide)]; exact b2.tk), (by rw [f.i 26 (by decide), f.i 27 (by decide), f.l 28 (by decide), f.i 29 (by decide)]; exact b2.wi), (by rw [f.i 31 (by decide)]; exact b2.tr), (by rw [f.l 32 (by decide), f.i 33 (by decide), f.i 34 (by decide), f.i 35 (by decide)]; exact b2.row), (by rw [f.i 36 (by decide), f.i 37 (by decide), f.i 38 (by decide), f.i 39 (by decide)]; exact b2.uw), (by simp (disch := first | assumption | omega) only [uI_s, uI_d, uI_2, uI_3, uL_1, uL_s, uL_d, uL_3]; exact hv), (by simp (disch := first | assumption | omega) only [uI_s, uI_d, uI_2, uI_3, uL_1, uL_s, uL_d, uL_3]; exact VLast.setR hvl rfl rfl rfl rfl rfl rfl rfl), (by rw [f.i 48 (by decide), f.i 49 (by decide), f.i 50 (by decide), f.l 51 (by decide), f.i 52 (by decide), f.i 53 (by decide), f.i 54 (by decide), f.l 55 (by decide), f.i 56 (by decide)]; exact b2.sw), (by rw [f.i 57 (by decide), f.i 58 (by decide), f.i 59 (by decide), f.l 60 (by decide), f.i 61 (by decide), f.i 62 (by decide), f.i 63 (by decide), f.l 64 (by decide), f.i 65 (by decide)]; exact b2.sr), (by rw [f.i 66 (by decide), f.i 67 (by decide), f.i 68 (by decide), f.i 69 (by decide)]; exact ⟨b2.ch.hnums, b2.ch.hlat, b2.ch.hchb, b2.ch.hchr⟩), (by rw [f.i 70 (by decide), f.i 71 (by decide)]; exact b2.rg), (by unfold maOf; rw [f.i 72 (by decide), f.l 73 (by decide), f.i 74 (by decide), f.i 75 (by decide), f.i 76 (by decide), f.i 77 (by decide), f.i 78 (by decide), f.i 79 (by decide), f.i 80 (by decide), f.i 81 (by decide), f.l 82 (by decide), f.i 83 (by decide), f.i 84 (by decide), f.i 85 (by decide), f.l 86 (by decide), f.i 87 (by decide)]; exact b2.mo), (by rw [f.i 88 (by decide), f.i 89 (by decide), f.l 90 (by decide), f.i 91 (by decide)]; exact b2.wt)⟩
