/-! THE REFERENCE's slaves: a beat of a read goes -/
theorem VSr.del {many at_ used : aI} {bur : aL} {bea cam num : aI} {dat : aL} {rsp : aI} {sw : Nat → List QE} (h : VSr many at_ used bur bea cam num dat rsp sw) {s i : Nat} {e : QE} (hs : s < 4) (he : (sw s)[i]? = some e) {at' : aI}
    (ha : ∀ k, at' k = if 4 * s + i ≤ k ∧ k < 4 * s + ((sw s).length - 1) then at_ (k + 1) else at_ k) :
    VSr (va_up many s (nI ((sw s).length - 1))) at' (va_up used e.place (nI 0)) bur bea cam num dat rsp (va_up sw s ((sw s).eraseIdx i)) := by
  have hil := llt he
  have h4 := h.hle s hs
  have hpl := h.hat s i e hs he
  have hcs : ∀ (P : Nat → Nat → QE → Prop), (∀ q k x, q < 4 → (sw q)[k]? = some x → (q ≠ s ∨ k < i) → P q k x) → (∀ k x, i ≤ k → (sw s)[k + 1]? = some x → P s k x) → ∀ q k x, q < 4 → (va_up sw s ((sw s).eraseIdx i) q)[k]? = some x → P q k x := by
    intro P p1 p2 q k x hq hx
    rw [vz_at] at hx
    by_cases hqs : q = s
    · subst hqs
      rw [if_pos rfl] at hx
      rcases er_at hx with ⟨a, b⟩ | ⟨a, b⟩
      · exact p1 q k x hq b (Or.inr a)
      · exact p2 k x a b
    · rw [if_neg hqs] at hx
      exact p1 q k x hq hx (Or.inl hqs)
  refine ⟨fun q hq => ?_, fun q hq => ?_, hcs _ (fun q k x hq hx hd => ?_) (fun k x hk hx => ?_), fun q p hq hp1 hp2 => ?_, fun q hq => ?_, hcs _ (fun q k x hq hx hd => h.hent q k x hq hx) (fun k x hk hx => h.hent s (k + 1) x hs hx), hcs _ (fun q k x hq hx hd => h.hdat q k x hq hx) (fun k x hk hx => h.hdat s (k + 1) x hs hx)⟩
  · rw [vz_at]
    split
    · rw [List.length_eraseIdx_of_lt hil]; omega
    · exact h.hle q hq
  · rw [vz_at, vz_at]
    split
    · rw [List.length_eraseIdx_of_lt hil]
    · exact h.hmany q hq
  · have h3 := llt hx
    have h5 := h.hle q hq
    rw [ha, if_neg (by rcases hd with hd | hd <;> omega)]
    exact h.hat q k x hq hx
  · have h3 := llt hx
    rw [ha, if_pos (by omega)]
    exact h.hat s (k + 1) x hs hx
  · rw [vz_at, vz_at]
    by_cases hqs : q = s
    · subst hqs
      rw [if_pos rfl, er_map]
      have hm := mem_er (p := p) (h.hnd q hs) (show ((sw q).map QE.place)[i]? = some e.place by simp [he])
      by_cases hpe : p = e.place
      · rw [if_pos hpe, decide_eq_false (fun hc => (hm.mp hc).2 hpe)]
        rfl
      · rw [if_neg hpe, h.hused q p hq hp1 hp2]
        congr 1
        rw [Bool.eq_iff_iff]
        simp only [decide_eq_true_eq]
        exact ⟨fun hc => hm.mpr ⟨hc, hpe⟩, fun hc => (hm.mp hc).1⟩
    · rw [if_neg hqs, if_neg (by omega)]
      exact h.hused q p hq hp1 hp2
  · rw [vz_at]
    split
    · rw [er_map]
      exact (h.hnd s hs).sublist (List.eraseIdx_sublist _ _)
    · exact h.hnd q hq
theorem r_rg127 {Γ : gm_T} {r s n : Nat} (hs : s < 4) (hn : n < 4) : ∀ (d j fu : Nat) (φ : ph_T), j + d = n → d < fu → RL Γ φ r → φ.1 (r + 57) s = nI n →
    ∃ φ', f_Ref_readGoes_L127 Γ fu φ r (nI s) (nI j) = some ((), φ') ∧ RFr r [58] φ φ' ∧
      (∀ k, φ'.1 (r + 58) k = if 4 * s + j ≤ k ∧ k < 4 * s + n then φ.1 (r + 58) (k + 1) else φ.1 (r + 58) k) := by
  intro d
  induction d with
  | zero =>
    intro j fu φ hd hfu hl hm
    match fu, hfu with
    | fu + 1, _ =>
      unfold f_Ref_readGoes_L127
      simp (disch := first | assumption | omega) only [hl.o, rf_67 hl, rg_67 hl, rf_68 hl, rg_68 hl, Option.bind_some, if_true, zix, hm, ↓zm1, zI_ne_m, zI_m_ne, zI_lit, zI_le, zI_eq, zI_mul, zI_lt, zI_modn, zI_div, zI_sub, zI_add, zN_mod]
      rw [if_pos (by omega)]
      exact ⟨φ, rfl, RFr.refl _ _ _, fun k => by rw [if_neg (by omega)]⟩
  | succ d ih =>
    intro j fu φ hd hfu hl hm
    match fu, hfu with
    | fu + 1, hfu =>
      unfold f_Ref_readGoes_L127
      simp (disch := first | assumption | omega) only [hl.o, rf_67 hl, rg_67 hl, rf_68 hl, rg_68 hl, Option.bind_some, if_true, zix, hm, ↓zm1, zI_ne_m, zI_m_ne, zI_lit, zI_le, zI_eq, zI_mul, zI_lt, zI_modn, zI_div, zI_sub, zI_add, zN_mod]
      rw [if_neg (by omega), Nat.add_assoc]
      obtain ⟨φ', e, f, g1⟩ := ih (j + 1) fu (uI φ (r + 58) (4 * s + j) (φ.1 (r + 58) (4 * s + (j + 1)))) (by omega) (by omega) (hl.up rfl) (by rw [uI_d (by omega)]; exact hm)
      refine ⟨φ', e, RFr.trans (by repeat (first | exact RFr.refl _ _ _ | refine RFr.uI ?_ (by decide) _ _ | refine RFr.uL ?_ (by decide) _ _ | refine rfr_uO ?_ (by decide) _ _)) f, fun k => ?_⟩
      rw [g1]
      simp (disch := first | assumption | omega) only [uI_1, uI_2, uI_3, uL_1, uL_2, uL_3, vz_at, Nat.add_left_cancel_iff, Nat.reduceEqDiff, if_false, zr1, zr2, if_true, if_false]
      repeat' split
      all_goals first | rfl | omega | exact congrArg _ (by omega)
theorem r_rg85 {Γ : gm_T} {φ : ph_T} {r : Nat} {S : XS} (h : RV Γ φ r S) {s i : Nat} {e : QE} (hs : s < 4) (he : (S.sr s)[i]? = some e) : ∀ (d k fu : Nat), k + d = i → d < fu →
    f_Ref_readGoes_L85 Γ fu φ r (nI s) (nI e.place) (nI k) = f_Ref_readGoes_L127 Γ jF (uI (uI φ (r + 59) e.place (nI 0)) (r + 57) s (nI ((S.sr s).length - 1))) r (nI s) (nI i) := by
  have hil := llt he
  have h4 := h.sr.hle s hs
  have hpl := h.sr.hat s i e hs he
  have hmm := h.sr.hmany s hs
  intro d
  induction d with
  | zero =>
    intro k fu hd hfu
    match fu, hfu with
    | fu + 1, _ =>
      have hki : k = i := by omega
      subst hki
      unfold f_Ref_readGoes_L85
      simp only [h.rl.o, rf_67 h.rl, rg_67 h.rl, rf_68 h.rl, rg_68 h.rl, rf_69 h.rl, rg_69 h.rl, Option.bind_some, if_true, zI_lit, zI_mul, zI_add, zix (show 4 * s + k < 16 by omega), zix hs, hpl.1, zix (show e.place < 16 by omega), true_or, if_true]
      rw [uI_d (by omega), hmm, zI_sub (by omega)]
  | succ d ih =>
    intro k fu hd hfu
    match fu, hfu with
    | fu + 1, hfu =>
      obtain ⟨x, hx⟩ := lget (show k < (S.sr s).length by omega)
      have hxp := h.sr.hat s k x hs hx
      have hne : x.place ≠ e.place := fun hc => by
        have := nd_pl (h.sr.hnd s hs) hx he hc
        omega
      unfold f_Ref_readGoes_L85
      simp only [h.rl.o, rf_67 h.rl, rg_67 h.rl, rf_68 h.rl, rg_68 h.rl, rf_69 h.rl, rg_69 h.rl, Option.bind_some, if_true, zI_lit, zI_mul, zI_add, zix (show 4 * s + k < 16 by omega), zix hs, hxp.1]
      rw [if_neg (by rw [zI_eq (by omega) (by omega)]; exact hne)]
      exact ih (k + 1) fu (by omega) (by omega)
theorem set_at {α : Type} {l : List α} {i k : Nat} {x y : α} (h : (l.set i y)[k]? = some x) : (k = i ∧ x = y ∧ i < l.length) ∨ (k ≠ i ∧ l[k]? = some x) := by
  by_cases hk : i = k
  · subst hk
    have := llt h
    simp at this
    rw [List.getElem?_set_self (by simpa using this)] at h
    exact Or.inl ⟨rfl, by simpa using h.symm, this⟩
  · rw [List.getElem?_set_ne hk] at h
    exact Or.inr ⟨fun e => hk e.symm, h⟩
theorem VSr.bump {many at_ used : aI} {bur : aL} {bea cam num : aI} {dat : aL} {rsp : aI} {sr : Nat → List QE} (h : VSr many at_ used bur bea cam num dat rsp sr) {s i : Nat} {e : QE} (hs : s < 4) (he : (sr s)[i]? = some e) :
    VSr many at_ used bur (va_up bea e.place (nI (e.got + 1))) cam num dat rsp (va_up sr s ((sr s).set i (e.w_got (e.got + 1)))) := by
  have hne : ∀ q k x, q < 4 → (sr q)[k]? = some x → (q ≠ s ∨ k ≠ i) → x.place ≠ e.place := by
    intro q k x hq hx hd hc
    have h1 := h.hat q k x hq hx
    have h2 := h.hat s i e hs he
    by_cases hqs : q = s
    · subst hqs
      have := nd_pl (h.hnd q hs) hx he hc
      rcases hd with hd | hd <;> omega
    · omega
  have hcs : ∀ (P : Nat → Nat → QE → Prop), (∀ q k x, q < 4 → (sr q)[k]? = some x → (q ≠ s ∨ k ≠ i) → P q k x) → P s i (e.w_got (e.got + 1)) → ∀ q k x, q < 4 → (va_up sr s ((sr s).set i (e.w_got (e.got + 1))) q)[k]? = some x → P q k x := by
    intro P p1 p2 q k x hq hx
    rw [vz_at] at hx
    by_cases hqs : q = s
    · subst hqs
      rw [if_pos rfl] at hx
      rcases set_at hx with ⟨a, b, _⟩ | ⟨a, b⟩
      · rw [a, b]; exact p2
      · exact p1 q k x hq b (Or.inr a)
    · rw [if_neg hqs] at hx
      exact p1 q k x hq hx (Or.inl hqs)
  have hmp : ((sr s).set i (e.w_got (e.got + 1))).map QE.place = (sr s).map QE.place := by
    rw [List.map_set]
    apply List.ext_getElem?
    intro k
    by_cases hk : i = k
    · subst hk
      have hl := llt he
      rw [List.getElem?_set_self (by simpa using hl)]
      simp [he]
    · rw [List.getElem?_set_ne hk]
  refine ⟨fun q hq => ?_, fun q hq => ?_, hcs _ (fun q k x hq hx hd => h.hat q k x hq hx) (h.hat s i e hs he), fun q p hq hp1 hp2 => ?_, fun q hq => ?_, hcs _ (fun q k x hq hx hd => ?_) ?_, hcs _ (fun q k x hq hx hd => h.hdat q k x hq hx) (h.hdat s i e hs he)⟩
  · rw [vz_at]
    split
    · rw [List.length_set]; exact h.hle s hs
    · exact h.hle q hq
  · rw [vz_at]
    split
    · rename_i hqs
      rw [List.length_set, hqs]; exact h.hmany s hs
    · exact h.hmany q hq
  · rw [h.hused q p hq hp1 hp2, vz_at]
    split
    · rename_i hqs
      rw [hmp, hqs]
    · rfl
  · rw [vz_at]
    split
    · rw [hmp]; exact h.hnd s hs
    · exact h.hnd q hq
  · have h1 := h.hent q k x hq hx
    rw [vz_ne _ (hne q k x hq hx hd)]
    exact h1
  · have h1 := h.hent s i e hs he
    exact ⟨h1.1, vz_same _ _ _, h1.2.2⟩
def XS.rg1 (S : XS) (s i : Nat) (e : QE) : XS := (((S.put (5 * (4 + s) + 4) ⟨((S.wi (4 + s)).w 4).c, ((S.wi (4 + s)).w 4).r, S.time⟩).w_sr (va_up S.sr s ((S.sr s).set i (e.w_got (e.got + 1))))).w_lat (va_up S.lat s (some (e.since, e.num)))).w_chr (va_up S.chr s none)
theorem passS_4a {S : XS} {s i : Nat} {e : QE} (hi : S.chr s = some i) (he : (S.sr s)[i]? = some e) (hL : e.got + 1 ≠ leN e.con) : S.passS s 4 = S.rg1 s i e := by
  have h : S.passS s 4 = (((S.put (5 * (4 + s) + 4) ⟨((S.wi (4 + s)).w 4).c, ((S.wi (4 + s)).w 4).r, S.time⟩).w_sr (va_up S.sr s (bmO (S.chr s) (S.sr s)))).w_lat (va_up S.lat s (ltO (S.chr s) (S.sr s) (S.lat s)))).w_chr (va_up S.chr s none) := rfl
  rw [h, hi]
  have h1 : bmO (some i) (S.sr s) = (S.sr s).set i (e.w_got (e.got + 1)) := by
    unfold bmO
    simp only [he]
    rw [if_neg hL]
  have h2 : ltO (some i) (S.sr s) (S.lat s) = some (e.since, e.num) := by
    unfold ltO
    simp [he]
  rw [h1, h2]
  rfl
theorem passS_4b {S : XS} {s i : Nat} {e : QE} (hi : S.chr s = some i) (he : (S.sr s)[i]? = some e) (hL : e.got + 1 = leN e.con) : S.passS s 4 = (S.rg1 s i e).w_sr (va_up (S.rg1 s i e).sr s (((S.rg1 s i e).sr s).eraseIdx i)) := by
  have h : S.passS s 4 = (((S.put (5 * (4 + s) + 4) ⟨((S.wi (4 + s)).w 4).c, ((S.wi (4 + s)).w 4).r, S.time⟩).w_sr (va_up S.sr s (bmO (S.chr s) (S.sr s)))).w_lat (va_up S.lat s (ltO (S.chr s) (S.sr s) (S.lat s)))).w_chr (va_up S.chr s none) := rfl
  rw [h, hi]
  have h1 : bmO (some i) (S.sr s) = (S.sr s).eraseIdx i := by
    unfold bmO
    simp only [he]
    rw [if_pos hL]
  have h2 : ltO (some i) (S.sr s) (S.lat s) = some (e.since, e.num) := by
    unfold ltO
    simp [he]
  have h3 : (S.rg1 s i e).sr = va_up S.sr s ((S.sr s).set i (e.w_got (e.got + 1))) := rfl
  rw [h1, h2, h3, vz_same, vz_va, List.eraseIdx_set_eq]
  unfold XS.rg1
  funext k
  simp only [XS.w_sr, XS.w_lat, XS.w_chr, XS.up]
  repeat' split
  all_goals first | rfl | omega
theorem r_readGoes {Γ : gm_T} {φ : ph_T} {r : Nat} {S : XS} (h : RV Γ φ r S) {s i : Nat} {e : QE} (hs : s < 4) (hi : S.chr s = some i) (he : (S.sr s)[i]? = some e) (hL : rLa ((S.wi (4 + s)).w 4).r = decide (e.got + 1 = leN e.con)) (hr : (S.row (5 * (4 + s) + 4)).length < roomN ((5 * (4 + s) + 4) % 5)) :
    ∃ φ', f_Ref_readGoes Γ φ r (nI s) = some ((), φ') ∧ RV Γ φ' r (S.passS s 4) ∧ RFr r [32, 33, 34, 35, 57, 58, 59, 61, 67] φ φ' := by
  have hw := (h.wi (4 + s) 4 (by omega) (by omega)).2.2
  obtain ⟨φ1, a1, a2, a3⟩ := r_put h (i := 5 * (4 + s) + 4) (by omega) hr ((S.wi (4 + s)).w 4).c ((S.wi (4 + s)).w 4).r S.time
  obtain ⟨e', he', hc⟩ := a2.ch.hchr s i hs hi
  have hee : e' = e := by
    have : (S.sr s)[i]? = some e' := he'
    rw [he] at this
    exact (Option.some.inj this).symm
  subst hee
  have hat := a2.sr.hat s i e' hs he'
  have hent := a2.sr.hent s i e' hs he'
  have hw1 := (a2.wi (4 + s) 4 (by omega) (by omega)).2.2.2
  have hb := VSr.bump a2.sr hs he'
  have f2 : RFr r [61, 67] φ1 (uI (uI φ1 (r + 67) s (nI e'.num)) (r + 61) e'.place (nI (e'.got + 1))) := by repeat (first | exact RFr.refl _ _ _ | refine RFr.uI ?_ (by decide) _ _ | refine RFr.uL ?_ (by decide) _ _ | refine rfr_uO ?_ (by decide) _ _)
  have hRV : RV Γ (uI (uI φ1 (r + 67) s (nI e'.num)) (r + 61) e'.place (nI (e'.got + 1))) r (S.rg1 s i e') := by
    refine ⟨(RL.up a2.rl (congrFun f2.1 r)), (by rw [f2.o (by decide)]; exact ⟨a2.sc.nm, a2.sc.ns, a2.sc.lim, a2.sc.pol, a2.sc.whole, a2.sc.time, a2.sc.tk, a2.sc.wm, a2.sc.rm, a2.sc.db, a2.sc.er⟩), (by rw [f2.i 1 (by decide)]; exact a2.pg), (by rw [f2.i 2 (by decide)]; exact a2.mp), (by rw [f2.i 3 (by decide)]; exact a2.sp), (by rw [f2.i 4 (by decide)]; exact a2.ea), (by rw [f2.i 5 (by decide)]; exact a2.de), (by rw [f2.i 6 (by decide)]; exact a2.wa), (by rw [f2.i 7 (by decide), f2.i 8 (by decide)]; exact a2.me), (by rw [f2.i 9 (by decide), f2.i 10 (by decide), f2.i 11 (by decide), f2.i 12 (by decide), f2.i 13 (by decide), f2.i 14 (by decide), f2.i 15 (by decide), f2.i 16 (by decide), f2.i 17 (by decide), f2.i 18 (by decide), f2.i 20 (by decide), f2.i 21 (by decide), f2.i 22 (by decide), f2.i 23 (by decide), f2.i 24 (by decide), f2.l 19 (by decide), f2.l 25 (by decide)]; exact a2.tk), (by rw [f2.i 26 (by decide), f2.i 27 (by decide), f2.l 28 (by decide), f2.i 29 (by decide)]; exact a2.wi), (by rw [f2.i 31 (by decide)]; exact a2.tr), (by rw [f2.l 32 (by decide), f2.i 33 (by decide), f2.i 34 (by decide), f2.i 35 (by decide)]; exact a2.row), (by rw [f2.i 36 (by decide), f2.i 37 (by decide), f2.i 38 (by decide), f2.i 39 (by decide)]; exact a2.uw), (by rw [f2.i 40 (by decide), f2.i 41 (by decide), f2.i 42 (by decide)]; exact a2.ur), (by rw [f2.i 43 (by decide), f2.i 44 (by decide), f2.i 45 (by decide), f2.i 46 (by decide), f2.i 47 (by decide)]; exact ⟨a2.la.haw, a2.la.har, a2.la.hb, a2.la.hg, a2.la.hinn⟩), (by rw [f2.i 48 (by decide), f2.i 49 (by decide), f2.i 50 (by decide), f2.l 51 (by decide), f2.i 52 (by decide), f2.i 53 (by decide), f2.i 54 (by decide), f2.l 55 (by decide), f2.i 56 (by decide)]; exact a2.sw), (by simp (disch := first | assumption | omega) only [uI_s, uI_d, uI_2, uI_3, uL_1, uL_s, uL_d, uL_3]; exact hb), ?_, (by rw [f2.i 70 (by decide), f2.i 71 (by decide)]; exact a2.rg), (by unfold maOf; rw [f2.i 72 (by decide), f2.l 73 (by decide), f2.i 74 (by decide), f2.i 75 (by decide), f2.i 76 (by decide), f2.i 77 (by decide), f2.i 78 (by decide), f2.i 79 (by decide), f2.i 80 (by decide), f2.i 81 (by decide), f2.l 82 (by decide), f2.i 83 (by decide), f2.i 84 (by decide), f2.i 85 (by decide), f2.l 86 (by decide), f2.i 87 (by decide)]; exact a2.mo), (by rw [f2.i 88 (by decide), f2.i 89 (by decide), f2.l 90 (by decide), f2.i 91 (by decide)]; exact a2.wt)⟩
    rw [f2.i 66 (by decide), f2.i 68 (by decide), f2.i 69 (by decide)]
    rw [uI_d (by omega), uI_s]
    refine ⟨a2.ch.hnums, fun q hq => ?_, a2.ch.hchb, fun q k hq hk => ?_⟩
    · show _ = oI ((va_up S.lat s (some (e'.since, e'.num)) q).map Prod.snd) m1
      rw [vz_at, vz_at]
      split
      · rfl
      · exact a2.ch.hlat q hq
    · have hk' : va_up S.chr s none q = some k := hk
      rw [vz_at] at hk'
      split at hk'
      · cases hk'
      · rename_i hqs
        obtain ⟨x, hx, hc'⟩ := a2.ch.hchr q k hq hk'
        refine ⟨x, ?_, hc'⟩
        show (va_up S.sr s _ q)[k]? = some x
        rw [vz_at, if_neg hqs]
        exact hx
  have hst : f_Ref_readGoes Γ φ r (nI s) = if e'.got + 1 = leN e'.con then f_Ref_readGoes_L85 Γ jF (uI (uI φ1 (r + 67) s (nI e'.num)) (r + 61) e'.place (nI (e'.got + 1))) r (nI s) (nI e'.place) (nI 0) else some ((), uI (uI φ1 (r + 67) s (nI e'.num)) (r + 61) e'.place (nI (e'.got + 1))) := by
    unfold f_Ref_readGoes
    simp only [h.rl.o, if_true, zI_lit, e_rowOf1, Option.bind_some, rf_35 h.rl, rg_35 h.rl, rf_36 h.rl, rg_36 h.rl, zI_mul, zI_add, zix (show 5 * (4 + s) + 4 < 40 by omega), hw.1, hw.2, h.sc.time]
    rw [a1]
    simp only [Option.bind_some, rf_79 a2.rl, rg_79 a2.rl, rf_73 a2.rl, rg_73 a2.rl, rf_77 a2.rl, rg_77 a2.rl, rf_71 a2.rl, rg_71 a2.rl, rf_36 a2.rl, rg_36 a2.rl, zix hs, hc, zix (show e'.place < 16 by omega), zix (show 5 * (4 + s) + 4 < 40 by omega), hent.2.2.2, hent.2.1]
    simp (disch := first | assumption | omega) only [uI_s, uI_d, uI_2, uI_3, uL_1, uL_s, uL_d, uL_3, hent.2.1, zI_add]
    rw [hw1]
    simp only [rLa_eq]
    have hL' : rLa (((S.put (5 * (4 + s) + 4) ⟨((S.wi (4 + s)).w 4).c, ((S.wi (4 + s)).w 4).r, S.time⟩).wi (4 + s)).w 4).r = decide (e'.got + 1 = leN e'.con) := hL
    rw [hL']
    by_cases hq : e'.got + 1 = leN e'.con
    · rw [if_pos hq, if_neg (by rw [decide_eq_true hq]; decide)]
    · rw [if_neg hq, if_pos (decide_eq_false hq)]
  by_cases hq : e'.got + 1 = leN e'.con
  · rw [if_pos hq] at hst
    rw [hst, passS_4b hi he hq]
    have he2 : ((S.rg1 s i e').sr s)[i]? = some (e'.w_got (e'.got + 1)) := by
      show (va_up S.sr s _ s)[i]? = _
      rw [vz_same, List.getElem?_set_self (llt he)]
    generalize hψ : uI (uI φ1 (r + 67) s (nI e'.num)) (r + 61) e'.place (nI (e'.got + 1)) = ψ at *
    generalize hT : S.rg1 s i e' = T at *
    have hil := llt he2
    have h4 := hRV.sr.hle s hs
    have hLp := r_rg85 hRV hs he2 i 0 jF (Nat.zero_add _) (by unfold jF; omega)
    have hLp' : f_Ref_readGoes_L85 Γ jF ψ r (nI s) (nI e'.place) (nI 0) = f_Ref_readGoes_L127 Γ jF (uI (uI ψ (r + 59) e'.place (nI 0)) (r + 57) s (nI ((T.sr s).length - 1))) r (nI s) (nI i) := hLp
    have f4 : RFr r [57, 59] ψ (uI (uI ψ (r + 59) e'.place (nI 0)) (r + 57) s (nI ((T.sr s).length - 1))) := by repeat (first | exact RFr.refl _ _ _ | refine RFr.uI ?_ (by decide) _ _ | refine RFr.uL ?_ (by decide) _ _ | refine rfr_uO ?_ (by decide) _ _)
    obtain ⟨φ', b1, b2, b3⟩ := r_rg127 (Γ := Γ) (r := r) (s := s) (n := (T.sr s).length - 1) hs (by omega) ((T.sr s).length - 1 - i) i jF _ (by omega) (by unfold jF; omega) (hRV.rl.up (congrFun f4.1 r)) (by rw [uI_s, vz_same])
    rw [f4.i 58 (by decide)] at b3
    have f5 : RFr r [57, 58, 59] ψ φ' := (f4.mono (by decide)).trans (b2.mono (by decide))
    have hv := VSr.del hRV.sr hs he2 b3
    refine ⟨φ', hLp'.trans b1, ?_, (a3.mono (by decide)).trans ((f2.mono (by decide)).trans (f5.mono (by decide)))⟩
    have e57 : φ'.1 (r + 57) = va_up (ψ.1 (r + 57)) s (nI ((T.sr s).length - 1)) := by
      rw [b2.i 57 (by decide), uI_s, uI_d (by omega)]
    have e59 : φ'.1 (r + 59) = va_up (ψ.1 (r + 59)) e'.place (nI 0) := by
      rw [b2.i 59 (by decide), uI_d (by omega), uI_s]
    have hv' : VSr (va_up (ψ.1 (r + 57)) s (nI ((T.sr s).length - 1))) (φ'.1 (r + 58)) (va_up (ψ.1 (r + 59)) e'.place (nI 0)) (ψ.2.1 (r + 60)) (ψ.1 (r + 61)) (ψ.1 (r + 62)) (ψ.1 (r + 63)) (ψ.2.1 (r + 64)) (ψ.1 (r + 65)) (va_up T.sr s ((T.sr s).eraseIdx i)) := hv
    rw [← e57, ← e59] at hv'
    refine ⟨(RL.up hRV.rl (congrFun f5.1 r)), (by rw [f5.o (by decide)]; exact ⟨hRV.sc.nm, hRV.sc.ns, hRV.sc.lim, hRV.sc.pol, hRV.sc.whole, hRV.sc.time, hRV.sc.tk, hRV.sc.wm, hRV.sc.rm, hRV.sc.db, hRV.sc.er⟩), (by rw [f5.i 1 (by decide)]; exact hRV.pg), (by rw [f5.i 2 (by decide)]; exact hRV.mp), (by rw [f5.i 3 (by decide)]; exact hRV.sp), (by rw [f5.i 4 (by decide)]; exact hRV.ea), (by rw [f5.i 5 (by decide)]; exact hRV.de), (by rw [f5.i 6 (by decide)]; exact hRV.wa), (by rw [f5.i 7 (by decide), f5.i 8 (by decide)]; exact hRV.me), (by rw [f5.i 9 (by decide), f5.i 10 (by decide), f5.i 11 (by decide), f5.i 12 (by decide), f5.i 13 (by decide), f5.i 14 (by decide), f5.i 15 (by decide), f5.i 16 (by decide), f5.i 17 (by decide), f5.i 18 (by decide), f5.i 20 (by decide), f5.i 21 (by decide), f5.i 22 (by decide), f5.i 23 (by decide), f5.i 24 (by decide), f5.l 19 (by decide), f5.l 25 (by decide)]; exact hRV.tk), (by rw [f5.i 26 (by decide), f5.i 27 (by decide), f5.l 28 (by decide), f5.i 29 (by decide)]; exact hRV.wi), (by rw [f5.i 31 (by decide)]; exact hRV.tr), (by rw [f5.l 32 (by decide), f5.i 33 (by decide), f5.i 34 (by decide), f5.i 35 (by decide)]; exact hRV.row), (by rw [f5.i 36 (by decide), f5.i 37 (by decide), f5.i 38 (by decide), f5.i 39 (by decide)]; exact hRV.uw), (by rw [f5.i 40 (by decide), f5.i 41 (by decide), f5.i 42 (by decide)]; exact hRV.ur), (by rw [f5.i 43 (by decide), f5.i 44 (by decide), f5.i 45 (by decide), f5.i 46 (by decide), f5.i 47 (by decide)]; exact ⟨hRV.la.haw, hRV.la.har, hRV.la.hb, hRV.la.hg, hRV.la.hinn⟩), (by rw [f5.i 48 (by decide), f5.i 49 (by decide), f5.i 50 (by decide), f5.l 51 (by decide), f5.i 52 (by decide), f5.i 53 (by decide), f5.i 54 (by decide), f5.l 55 (by decide), f5.i 56 (by decide)]; exact hRV.sw), (by rw [f5.l 60 (by decide), f5.i 61 (by decide), f5.i 62 (by decide), f5.i 63 (by decide), f5.l 64 (by decide), f5.i 65 (by decide)]; exact hv'), ?_, (by rw [f5.i 70 (by decide), f5.i 71 (by decide)]; exact hRV.rg), (by unfold maOf; rw [f5.i 72 (by decide), f5.l 73 (by decide), f5.i 74 (by decide), f5.i 75 (by decide), f5.i 76 (by decide), f5.i 77 (by decide), f5.i 78 (by decide), f5.i 79 (by decide), f5.i 80 (by decide), f5.i 81 (by decide), f5.l 82 (by decide), f5.i 83 (by decide), f5.i 84 (by decide), f5.i 85 (by decide), f5.l 86 (by decide), f5.i 87 (by decide)]; exact hRV.mo), (by rw [f5.i 88 (by decide), f5.i 89 (by decide), f5.l 90 (by decide), f5.i 91 (by decide)]; exact hRV.wt)⟩
    rw [f5.i 66 (by decide), f5.i 67 (by decide), f5.i 68 (by decide), f5.i 69 (by decide)]
    refine ⟨hRV.ch.hnums, hRV.ch.hlat, hRV.ch.hchb, fun q k hq hk => ?_⟩
    obtain ⟨x, hx, hc'⟩ := hRV.ch.hchr q k hq hk
    refine ⟨x, ?_, hc'⟩
    show (va_up T.sr s _ q)[k]? = some x
    rw [vz_at]
    split
    · rename_i hqs
      exfalso
      have : T.chr q = some k := hk
      rw [← hT, hqs] at this
      have h2 : va_up S.chr s none s = some k := this
      rw [vz_same] at h2
      cases h2
    · exact hx
  · rw [if_neg hq] at hst
    rw [hst, passS_4a hi he hq]
    exact ⟨_, rfl, hRV, (a3.mono (by decide)).trans (f2.mono (by decide))⟩
