/-! THE REFERENCE's slaves: an answer to a write goes -/
theorem mem_er {x p : Nat} : ∀ {l : List Nat} {i : Nat}, l.Nodup → l[i]? = some x → (p ∈ l.eraseIdx i ↔ p ∈ l ∧ p ≠ x) := by
  intro l
  induction l with
  | nil => intro i _ hx; simp at hx
  | cons a l ih =>
    intro i hn hx
    rw [List.nodup_cons] at hn
    cases i with
    | zero =>
      simp at hx
      subst hx
      simp only [List.eraseIdx_cons_zero, List.mem_cons]
      constructor
      · intro hp
        exact ⟨Or.inr hp, fun e => hn.1 (e ▸ hp)⟩
      · rintro ⟨h1 | h1, h2⟩
        · exact absurd h1 h2
        · exact h1
    | succ i =>
      simp only [List.getElem?_cons_succ] at hx
      simp only [List.eraseIdx_cons_succ, List.mem_cons, ih hn.2 hx]
      have hax : a ≠ x := fun e => hn.1 (e ▸ lmem hx)
      constructor
      · rintro (h1 | h1)
        · exact ⟨Or.inl h1, by rw [h1]; exact hax⟩
        · exact ⟨Or.inr h1.1, h1.2⟩
      · rintro ⟨h1 | h1, h2⟩
        · exact Or.inl h1
        · exact Or.inr ⟨h1, h2⟩
theorem er_map {α : Type} (f : α → Nat) : ∀ (l : List α) (i : Nat), (l.eraseIdx i).map f = (l.map f).eraseIdx i := by
  intro l
  induction l with
  | nil => intro i; simp
  | cons a l ih =>
    intro i
    cases i with
    | zero => simp
    | succ i => simp [ih]
theorem er_at {α : Type} {l : List α} {i k : Nat} {x : α} (h : (l.eraseIdx i)[k]? = some x) : (k < i ∧ l[k]? = some x) ∨ (i ≤ k ∧ l[k + 1]? = some x) := by
  rw [List.getElem?_eraseIdx] at h
  split at h
  · exact Or.inl ⟨by assumption, h⟩
  · exact Or.inr ⟨by omega, h⟩
theorem nd_pl {α : Type} {f : α → Nat} {l : List α} (hn : (l.map f).Nodup) {i k : Nat} {x y : α} (hx : l[i]? = some x) (hy : l[k]? = some y) (h : f x = f y) : i = k := by
  have h1 : (l.map f)[i]? = some (f x) := by simp [hx]
  have h2 : (l.map f)[k]? = some (f x) := by simp [hy, h]
  have hi : i < (l.map f).length := llt h1
  exact (List.getElem?_inj hi hn).mp (h1.trans h2.symm)
theorem VSw.del {many at_ used : aI} {bur : aL} {bea don res : aI} {dat : aL} {str : aI} {sw : Nat → List WE} (h : VSw many at_ used bur bea don res dat str sw) {s i : Nat} {e : WE} (hs : s < 4) (he : (sw s)[i]? = some e) {at' : aI}
    (ha : ∀ k, at' k = if 4 * s + i ≤ k ∧ k < 4 * s + ((sw s).length - 1) then at_ (k + 1) else at_ k) :
    VSw (va_up many s (nI ((sw s).length - 1))) at' (va_up used e.place (nI 0)) bur bea don res dat str (va_up sw s ((sw s).eraseIdx i)) := by
  have hil := llt he
  have h4 := h.hle s hs
  have hpl := h.hat s i e hs he
  have hcs : ∀ (P : Nat → Nat → WE → Prop), (∀ q k x, q < 4 → (sw q)[k]? = some x → (q ≠ s ∨ k < i) → P q k x) → (∀ k x, i ≤ k → (sw s)[k + 1]? = some x → P s k x) → ∀ q k x, q < 4 → (va_up sw s ((sw s).eraseIdx i) q)[k]? = some x → P q k x := by
    intro P p1 p2 q k x hq hx
    rw [vz_at] at hx
    by_cases hqs : q = s
    · subst hqs
      rw [if_pos rfl] at hx
      rcases er_at hx with ⟨a, b⟩ | ⟨a, b⟩
      · exact p1 q k x hq b (Or.inr a)
      · exact p2 k x a b
    · rw [if_neg hqs] at hx
      exact p1 q k x hq hx (Or.inl hqs)
  refine ⟨fun q hq => ?_, fun q hq => ?_, hcs _ (fun q k x hq hx hd => ?_) (fun k x hk hx => ?_), fun q p hq hp1 hp2 => ?_, fun q hq => ?_, hcs _ (fun q k x hq hx hd => h.hent q k x hq hx) (fun k x hk hx => h.hent s (k + 1) x hs hx), hcs _ (fun q k x hq hx hd => h.hdat q k x hq hx) (fun k x hk hx => h.hdat s (k + 1) x hs hx)⟩
  · rw [vz_at]
    split
    · rw [List.length_eraseIdx_of_lt hil]; omega
    · exact h.hle q hq
  · rw [vz_at, vz_at]
    split
    · rw [List.length_eraseIdx_of_lt hil]
    · exact h.hmany q hq
  · have h3 := llt hx
    have h5 := h.hle q hq
    rw [ha, if_neg (by rcases hd with hd | hd <;> omega)]
    exact h.hat q k x hq hx
  · have h3 := llt hx
    rw [ha, if_pos (by omega)]
    exact h.hat s (k + 1) x hs hx
  · rw [vz_at, vz_at]
    by_cases hqs : q = s
    · subst hqs
      rw [if_pos rfl, er_map]
      have hm := mem_er (p := p) (h.hnd q hs) (show ((sw q).map WE.place)[i]? = some e.place by simp [he])
      by_cases hpe : p = e.place
      · rw [if_pos hpe, decide_eq_false (fun hc => (hm.mp hc).2 hpe)]
        rfl
      · rw [if_neg hpe, h.hused q p hq hp1 hp2]
        congr 1
        rw [Bool.eq_iff_iff]
        simp only [decide_eq_true_eq]
        exact ⟨fun hc => hm.mpr ⟨hc, hpe⟩, fun hc => (hm.mp hc).1⟩
    · rw [if_neg hqs, if_neg (by omega)]
      exact h.hused q p hq hp1 hp2
  · rw [vz_at]
    split
    · rw [er_map]
      exact (h.hnd s hs).sublist (List.eraseIdx_sublist _ _)
    · exact h.hnd q hq
theorem r_wg87 {Γ : gm_T} {r s n : Nat} (hs : s < 4) (hn : n < 4) : ∀ (d j fu : Nat) (φ : ph_T), j + d = n → d < fu → RL Γ φ r → φ.1 (r + 48) s = nI n →
    ∃ φ', f_Ref_writeGoes_L87 Γ fu φ r (nI s) (nI j) = some ((), φ') ∧ RFr r [49] φ φ' ∧
      (∀ k, φ'.1 (r + 49) k = if 4 * s + j ≤ k ∧ k < 4 * s + n then φ.1 (r + 49) (k + 1) else φ.1 (r + 49) k) := by
  intro d
  induction d with
  | zero =>
    intro j fu φ hd hfu hl hm
    match fu, hfu with
    | fu + 1, _ =>
      unfold f_Ref_writeGoes_L87
      simp (disch := first | assumption | omega) only [hl.o, rf_58 hl, rg_58 hl, rf_59 hl, rg_59 hl, Option.bind_some, if_true, zix, hm, ↓zm1, zI_ne_m, zI_m_ne, zI_lit, zI_le, zI_eq, zI_mul, zI_lt, zI_modn, zI_div, zI_sub, zI_add, zN_mod]
      rw [if_pos (by omega)]
      exact ⟨φ, rfl, RFr.refl _ _ _, fun k => by rw [if_neg (by omega)]⟩
  | succ d ih =>
    intro j fu φ hd hfu hl hm
    match fu, hfu with
    | fu + 1, hfu =>
      unfold f_Ref_writeGoes_L87
      simp (disch := first | assumption | omega) only [hl.o, rf_58 hl, rg_58 hl, rf_59 hl, rg_59 hl, Option.bind_some, if_true, zix, hm, ↓zm1, zI_ne_m, zI_m_ne, zI_lit, zI_le, zI_eq, zI_mul, zI_lt, zI_modn, zI_div, zI_sub, zI_add, zN_mod]
      rw [if_neg (by omega), Nat.add_assoc]
      obtain ⟨φ', e, f, g1⟩ := ih (j + 1) fu (uI φ (r + 49) (4 * s + j) (φ.1 (r + 49) (4 * s + (j + 1)))) (by omega) (by omega) (hl.up rfl) (by rw [uI_d (by omega)]; exact hm)
      refine ⟨φ', e, RFr.trans (by repeat (first | exact RFr.refl _ _ _ | refine RFr.uI ?_ (by decide) _ _ | refine RFr.uL ?_ (by decide) _ _ | refine rfr_uO ?_ (by decide) _ _)) f, fun k => ?_⟩
      rw [g1]
      simp (disch := first | assumption | omega) only [uI_1, uI_2, uI_3, uL_1, uL_2, uL_3, vz_at, Nat.add_left_cancel_iff, Nat.reduceEqDiff, if_false, zr1, zr2, if_true, if_false]
      repeat' split
      all_goals first | rfl | omega | exact congrArg _ (by omega)
theorem r_wg35 {Γ : gm_T} {φ : ph_T} {r : Nat} {S : XS} (h : RV Γ φ r S) {s i : Nat} {e : WE} (hs : s < 4) (he : (S.sw s)[i]? = some e) (hc : φ.1 (r + 68) s = nI e.place) : ∀ (d k fu : Nat), k + d = i → d < fu →
    f_Ref_writeGoes_L35 Γ fu φ r (nI s) (nI k) = f_Ref_writeGoes_L87 Γ jF (uI (uI φ (r + 50) e.place (nI 0)) (r + 48) s (nI ((S.sw s).length - 1))) r (nI s) (nI i) := by
  have hil := llt he
  have h4 := h.sw.hle s hs
  have hpl := h.sw.hat s i e hs he
  have hmm := h.sw.hmany s hs
  intro d
  induction d with
  | zero =>
    intro k fu hd hfu
    match fu, hfu with
    | fu + 1, _ =>
      have hki : k = i := by omega
      subst hki
      unfold f_Ref_writeGoes_L35
      simp only [h.rl.o, rf_58 h.rl, rg_58 h.rl, rf_59 h.rl, rg_59 h.rl, rf_60 h.rl, rg_60 h.rl, rf_78 h.rl, rg_78 h.rl, Option.bind_some, if_true, zI_lit, zI_mul, zI_add, zix (show 4 * s + k < 16 by omega), zix hs, hpl.1, hc, zix (show e.place < 16 by omega), true_or, if_true]
      rw [uI_d (by omega), hmm, zI_sub (by omega)]
  | succ d ih =>
    intro k fu hd hfu
    match fu, hfu with
    | fu + 1, hfu =>
      obtain ⟨x, hx⟩ := lget (show k < (S.sw s).length by omega)
      have hxp := h.sw.hat s k x hs hx
      have hne : x.place ≠ e.place := fun hc => by
        have := nd_pl (h.sw.hnd s hs) hx he hc
        omega
      unfold f_Ref_writeGoes_L35
      simp only [h.rl.o, rf_58 h.rl, rg_58 h.rl, rf_59 h.rl, rg_59 h.rl, rf_60 h.rl, rg_60 h.rl, rf_78 h.rl, rg_78 h.rl, Option.bind_some, if_true, zI_lit, zI_mul, zI_add, zix (show 4 * s + k < 16 by omega), zix hs, hxp.1, hc]
      rw [if_neg (by rw [zI_eq (by omega) (by omega)]; exact hne)]
      exact ih (k + 1) fu (by omega) (by omega)
theorem passS_2 (S : XS) (s : Nat) : S.passS s 2 = (((S.put (5 * (4 + s) + 2) ⟨0, ((S.wi (4 + s)).w 2).r, S.time⟩).w_sw (va_up S.sw s (rmO (S.chb s) (S.sw s)))).w_chb (va_up S.chb s none)) := rfl
theorem r_writeGoes {Γ : gm_T} {φ : ph_T} {r : Nat} {S : XS} (h : RV Γ φ r S) {s i : Nat} (hs : s < 4) (hi : S.chb s = some i) (hr : (S.row (5 * (4 + s) + 2)).length < roomN ((5 * (4 + s) + 2) % 5)) :
    ∃ φ', f_Ref_writeGoes Γ φ r (nI s) = some ((), φ') ∧ RV Γ φ' r (S.passS s 2) ∧ RFr r [32, 33, 34, 35, 48, 49, 50] φ φ' := by
  have hw := (h.wi (4 + s) 2 (by omega) (by omega)).2.2.2
  obtain ⟨φ1, a1, a2, a3⟩ := r_put h (i := 5 * (4 + s) + 2) (by omega) hr 0 ((S.wi (4 + s)).w 2).r S.time
  obtain ⟨e, he, hc⟩ := a2.ch.hchb s i hs hi
  have hil := llt he
  have h4 := a2.sw.hle s hs
  have hL := r_wg35 a2 hs he hc i 0 jF (Nat.zero_add _) (by unfold jF; omega)
  have f4 : RFr r [48, 50] φ1 (uI (uI φ1 (r + 50) e.place (nI 0)) (r + 48) s (nI (((S.put (5 * (4 + s) + 2) ⟨0, ((S.wi (4 + s)).w 2).r, S.time⟩).sw s).length - 1))) := by repeat (first | exact RFr.refl _ _ _ | refine RFr.uI ?_ (by decide) _ _ | refine RFr.uL ?_ (by decide) _ _ | refine rfr_uO ?_ (by decide) _ _)
  obtain ⟨φ', b1, b2, b3⟩ := r_wg87 (Γ := Γ) (r := r) (s := s) (n := ((S.put (5 * (4 + s) + 2) ⟨0, ((S.wi (4 + s)).w 2).r, S.time⟩).sw s).length - 1) hs (by omega) (((S.put (5 * (4 + s) + 2) ⟨0, ((S.wi (4 + s)).w 2).r, S.time⟩).sw s).length - 1 - i) i jF _ (by omega) (by unfold jF; omega) (a2.rl.up (congrFun f4.1 r)) (by rw [uI_s, vz_same])
  rw [f4.i 49 (by decide)] at b3
  have f5 : RFr r [48, 49, 50] φ1 φ' := (f4.mono (by decide)).trans (b2.mono (by decide))
  have hv := VSw.del a2.sw hs he b3
  refine ⟨φ', ?_, ?_, (a3.mono (by decide)).trans (f5.mono (by decide))⟩
  · unfold f_Ref_writeGoes
    simp only [h.rl.o, if_true, zI_lit, e_rowOf1, Option.bind_some, rf_36 h.rl, rg_36 h.rl, zI_mul, zI_add, zix (show 5 * (4 + s) + 2 < 40 by omega), hw, h.sc.time]
    rw [show (OfNat.ofNat 0 : Int64) = 0 from rfl, a1, Option.bind_some]
    exact hL.trans b1
  · rw [passS_2, hi]
    have e48 : φ'.1 (r + 48) = va_up (φ1.1 (r + 48)) s (nI (((S.put (5 * (4 + s) + 2) ⟨0, ((S.wi (4 + s)).w 2).r, S.time⟩).sw s).length - 1)) := by
      rw [b2.i 48 (by decide), uI_s, uI_d (by omega)]
    have e50 : φ'.1 (r + 50) = va_up (φ1.1 (r + 50)) e.place (nI 0) := by
      rw [b2.i 50 (by decide), uI_d (by omega), uI_s]
    have hv' := hv
    rw [← e48, ← e50] at hv'
    refine ⟨(RL.up a2.rl (congrFun f5.1 r)), (by rw [f5.o (by decide)]; exact ⟨a2.sc.nm, a2.sc.ns, a2.sc.lim, a2.sc.pol, a2.sc.whole, a2.sc.time, a2.sc.tk, a2.sc.wm, a2.sc.rm, a2.sc.db, a2.sc.er⟩), (by rw [f5.i 1 (by decide)]; exact a2.pg), (by rw [f5.i 2 (by decide)]; exact a2.mp), (by rw [f5.i 3 (by decide)]; exact a2.sp), (by rw [f5.i 4 (by decide)]; exact a2.ea), (by rw [f5.i 5 (by decide)]; exact a2.de), (by rw [f5.i 6 (by decide)]; exact a2.wa), (by rw [f5.i 7 (by decide), f5.i 8 (by decide)]; exact a2.me), (by rw [f5.i 9 (by decide), f5.i 10 (by decide), f5.i 11 (by decide), f5.i 12 (by decide), f5.i 13 (by decide), f5.i 14 (by decide), f5.i 15 (by decide), f5.i 16 (by decide), f5.i 17 (by decide), f5.i 18 (by decide), f5.i 20 (by decide), f5.i 21 (by decide), f5.i 22 (by decide), f5.i 23 (by decide), f5.i 24 (by decide), f5.l 19 (by decide), f5.l 25 (by decide)]; exact a2.tk), (by rw [f5.i 26 (by decide), f5.i 27 (by decide), f5.l 28 (by decide), f5.i 29 (by decide)]; exact a2.wi), (by rw [f5.i 31 (by decide)]; exact a2.tr), (by rw [f5.l 32 (by decide), f5.i 33 (by decide), f5.i 34 (by decide), f5.i 35 (by decide)]; exact a2.row), (by rw [f5.i 36 (by decide), f5.i 37 (by decide), f5.i 38 (by decide), f5.i 39 (by decide)]; exact a2.uw), (by rw [f5.i 40 (by decide), f5.i 41 (by decide), f5.i 42 (by decide)]; exact a2.ur), (by rw [f5.i 43 (by decide), f5.i 44 (by decide), f5.i 45 (by decide), f5.i 46 (by decide), f5.i 47 (by decide)]; exact ⟨a2.la.haw, a2.la.har, a2.la.hb, a2.la.hg, a2.la.hinn⟩), (by rw [f5.l 51 (by decide), f5.i 52 (by decide), f5.i 53 (by decide), f5.i 54 (by decide), f5.l 55 (by decide), f5.i 56 (by decide)]; exact hv'), (by rw [f5.i 57 (by decide), f5.i 58 (by decide), f5.i 59 (by decide), f5.l 60 (by decide), f5.i 61 (by decide), f5.i 62 (by decide), f5.i 63 (by decide), f5.l 64 (by decide), f5.i 65 (by decide)]; exact a2.sr), ?_, (by rw [f5.i 70 (by decide), f5.i 71 (by decide)]; exact a2.rg), (by unfold maOf; rw [f5.i 72 (by decide), f5.l 73 (by decide), f5.i 74 (by decide), f5.i 75 (by decide), f5.i 76 (by decide), f5.i 77 (by decide), f5.i 78 (by decide), f5.i 79 (by decide), f5.i 80 (by decide), f5.i 81 (by decide), f5.l 82 (by decide), f5.i 83 (by decide), f5.i 84 (by decide), f5.i 85 (by decide), f5.l 86 (by decide), f5.i 87 (by decide)]; exact a2.mo), (by rw [f5.i 88 (by decide), f5.i 89 (by decide), f5.l 90 (by decide), f5.i 91 (by decide)]; exact a2.wt)⟩
    rw [f5.i 66 (by decide), f5.i 67 (by decide), f5.i 68 (by decide), f5.i 69 (by decide)]
    refine ⟨a2.ch.hnums, a2.ch.hlat, fun q k hq hk => ?_, a2.ch.hchr⟩
    have hk' : va_up S.chb s none q = some k := hk
    rw [vz_at] at hk'
    split at hk'
    · cases hk'
    · rename_i hqs
      obtain ⟨x, hx, hc'⟩ := a2.ch.hchb q k hq hk'
      refine ⟨x, ?_, hc'⟩
      show (va_up S.sw s _ q)[k]? = some x
      rw [vz_at, if_neg hqs]
      exact hx
