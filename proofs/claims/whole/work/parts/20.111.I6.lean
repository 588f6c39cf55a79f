/-! THE STATE's OWN INVARIANTS: the crossbar refuses -/
theorem nI_N {n : Nat} (h : n < 2 ^ 32) : (nI n).toBitVec.toNat = n := by
  unfold nI
  show (BitVec.ofNat 32 n).toNat = n
  rw [BitVec.toNat_ofNat]
  omega
theorem rId_ans {i r : Nat} {l : Bool} (hi : i < 64) (hr : r < 4) : rId (nI (ansR i r l)) = i ∧ rRe (nI (ansR i r l)) = r ∧ rLa (nI (ansR i r l)) = l := by
  have h : ansR i r l < 2 ^ 32 := by unfold ansR; split <;> omega
  unfold rId rRe rLa
  rw [nI_N h]
  unfold ansR
  cases l
  · rw [if_neg (by decide)]
    refine ⟨by omega, by omega, ?_⟩
    rw [decide_eq_false]
    omega
  · rw [if_pos rfl]
    refine ⟨by omega, by omega, ?_⟩
    rw [decide_eq_true]
    omega
/-- a last beat at the default target has its address -/
theorem Cr.refHas {S : XS} {w : Nat} (h : Cr S w) : ∀ d l, S.row (5 * (4 + S.ns) + 1) = d :: l → rLa d.r = true → S.row (5 * (4 + S.ns)) ≠ [] := by
  intro d l hd hl hn
  obtain ⟨Q, q1, q2⟩ := h.tg S.ns (Nat.le_refl _)
  rw [hd] at q1
  obtain ⟨q, Q', e1, _⟩ := q1.pop
  have := q2.2 rfl
  rw [e1, hn] at this
  simp at this
theorem tail_mem {α : Type} {l : List α} {x : α} (h : x ∈ l.tail) : x ∈ l := List.mem_of_mem_tail h
theorem Cr.refW {S : XS} {w : Nat} (h : Cr S w) : Cr S.refW w := by
  have hn4 := h.bd.nm
  have hs4 := h.bd.ns
  have hmv := h.mv
  unfold XS.refW
  split
  · exact h
  · rename_i d l hd
    obtain ⟨Q, q1, q2⟩ := h.tg S.ns (Nat.le_refl _)
    rw [hd] at q1
    obtain ⟨q, Q', e1, e2, e3, e4⟩ := q1.pop
    have hq := q2.2 rfl
    rw [e1] at hq
    split
    · rename_i hla
      split
      · split
        · exact h
        · rename_i a l2 ha
          have hR1 : ((((S.drop (5 * (4 + S.ns) + 1)).put (5 * (4 + S.ns) + 2) ⟨0, nI (ansR (idN a.c) 3 false), S.time⟩).drop (5 * (4 + S.ns)))).row (5 * (4 + S.ns) + 1) = l := by
            show va_up (va_up (va_up S.row _ _) _ _) _ _ _ = _
            rw [vz_ne _ (by omega), vz_ne _ (by omega), vz_same, hd]; rfl
          have hR2 : ((((S.drop (5 * (4 + S.ns) + 1)).put (5 * (4 + S.ns) + 2) ⟨0, nI (ansR (idN a.c) 3 false), S.time⟩).drop (5 * (4 + S.ns)))).row (5 * (4 + S.ns) + 2) = S.row (5 * (4 + S.ns) + 2) ++ [⟨0, nI (ansR (idN a.c) 3 false), S.time⟩] := by
            show va_up (va_up (va_up S.row _ _) _ _) _ _ _ = _
            rw [vz_ne _ (by omega), vz_same]
            show va_up S.row _ _ _ ++ _ = _
            rw [vz_ne _ (by omega)]
          have hR0 : ((((S.drop (5 * (4 + S.ns) + 1)).put (5 * (4 + S.ns) + 2) ⟨0, nI (ansR (idN a.c) 3 false), S.time⟩).drop (5 * (4 + S.ns)))).row (5 * (4 + S.ns)) = l2 := by
            show va_up (va_up (va_up S.row _ _) _ _) _ _ _ = _
            rw [vz_same]
            show (va_up (va_up S.row _ _) _ _ _).tail = _
            rw [vz_ne _ (by omega), vz_ne _ (by omega), ha]; rfl
          have hRo : ∀ i, i ≠ 5 * (4 + S.ns) → i ≠ 5 * (4 + S.ns) + 1 → i ≠ 5 * (4 + S.ns) + 2 → ((((S.drop (5 * (4 + S.ns) + 1)).put (5 * (4 + S.ns) + 2) ⟨0, nI (ansR (idN a.c) 3 false), S.time⟩).drop (5 * (4 + S.ns)))).row i = S.row i := by
            intro i h1 h2 h3
            show va_up (va_up (va_up S.row _ _) _ _) _ _ _ = _
            rw [vz_ne _ h1, vz_ne _ h3, vz_ne _ h2]
          generalize hRr : ((((S.drop (5 * (4 + S.ns) + 1)).put (5 * (4 + S.ns) + 2) ⟨0, nI (ansR (idN a.c) 3 false), S.time⟩).drop (5 * (4 + S.ns)))).row = R at *
          have hpot : pot R = pot S.row := pot_eq (fun i h1 h2 => hRo i (by omega) (by omega) (by omega))
          have hmem : ∀ i, ∀ x ∈ R i, x ∈ S.row i ∨ (i = 5 * (4 + S.ns) + 2 ∧ x = ⟨0, nI (ansR (idN a.c) 3 false), S.time⟩) := by
            intro i x hx
            by_cases h1 : i = 5 * (4 + S.ns) + 1
            · rw [h1, hR1] at hx; left; rw [h1, hd]; exact List.mem_cons_of_mem _ hx
            · by_cases h2 : i = 5 * (4 + S.ns)
              · rw [h2, hR0] at hx; left; rw [h2, ha]; exact List.mem_cons_of_mem _ hx
              · by_cases h3 : i = 5 * (4 + S.ns) + 2
                · rw [h3, hR2] at hx
                  rcases List.mem_append.mp hx with hx | hx
                  · left; rw [h3]; exact hx
                  · exact Or.inr ⟨h3, List.mem_singleton.mp hx⟩
                · rw [hRo i h2 h1 h3] at hx; exact Or.inl hx
          have hq1 : q.2 = 1 := by rw [hla] at e2; exact of_decide_eq_true e2.symm
          rw [ha] at hq
          have hid : q.1 = idN a.c := by simpa using (List.cons.inj hq).1
          have hQ' : Q'.map Prod.fst = l2.map fun e => idN e.c := by simpa using (List.cons.inj hq).2
          refine ⟨?_, h.tb, h.tk, ?_, h.uw, h.ur, h.pw, ?_, ?_, ?_, ?_, ?_, h.mo, h.cb, h.ch, h.ib, h.ou, ?_⟩
          · refine ⟨h.bd.nm, h.bd.ns, h.bd.lim, h.bd.pol, h.bd.time, h.bd.db, h.bd.moved, h.bd.pages, h.bd.mpat, h.bd.spat, h.bd.delay, h.bd.way, h.bd.mem, h.bd.sw, h.bd.sr, h.bd.rnum, h.bd.lat, h.bd.uw, h.bd.ur, h.bd.la, h.bd.lr, h.bd.lb, h.bd.lg, h.bd.rgt, ?_, h.bd.tk⟩
            show ∀ i, ∀ x ∈ ((((S.drop (5 * (4 + S.ns) + 1)).put (5 * (4 + S.ns) + 2) ⟨0, nI (ansR (idN a.c) 3 false), S.time⟩).drop (5 * (4 + S.ns)))).row i, x.t < 2 ^ 24
            rw [hRr]
            intro i x hx
            rcases hmem i x hx with hx | hx
            · exact h.bd.rowT i x hx
            · rw [hx.2]; exact h.bd.time
          · show IR ((((S.drop (5 * (4 + S.ns) + 1)).put (5 * (4 + S.ns) + 2) ⟨0, nI (ansR (idN a.c) 3 false), S.time⟩).drop (5 * (4 + S.ns)))).row
            rw [hRr]
            refine ⟨?_, ?_, ?_⟩
            · intro i hi x hx
              rcases hmem i x hx with hx | hx
              · exact h.rw.ru i hi x hx
              · omega
            · intro m' c' h1 h2 x hx
              rcases hmem _ x hx with hx | hx
              · exact h.rw.id m' c' h1 h2 x hx
              · omega
            · intro t' x hx
              rcases hmem _ x hx with hx | hx
              · exact h.rw.b t' x hx
              · rw [hx.2]
          · intro m' hm'
            have hm' : m' < S.nm := hm'
            show EMc m' (((((S.drop (5 * (4 + S.ns) + 1)).put (5 * (4 + S.ns) + 2) ⟨0, nI (ansR (idN a.c) 3 false), S.time⟩).drop (5 * (4 + S.ns)))).row (5 * m' + 1)) (((((S.drop (5 * (4 + S.ns) + 1)).put (5 * (4 + S.ns) + 2) ⟨0, nI (ansR (idN a.c) 3 false), S.time⟩).drop (5 * (4 + S.ns)))).row (5 * m')) (S.uw.filter (isM m')) S.tk
            rw [hRr, hRo _ (by omega) (by omega) (by omega), hRo _ (by omega) (by omega) (by omega)]
            exact h.em m' hm'
          · intro m' hm' id
            have hm' : m' < S.nm := hm'
            show NCc m' id (((((S.drop (5 * (4 + S.ns) + 1)).put (5 * (4 + S.ns) + 2) ⟨0, nI (ansR (idN a.c) 3 false), S.time⟩).drop (5 * (4 + S.ns)))).row (5 * m')) (((((S.drop (5 * (4 + S.ns) + 1)).put (5 * (4 + S.ns) + 2) ⟨0, nI (ansR (idN a.c) 3 false), S.time⟩).drop (5 * (4 + S.ns)))).row (5 * m' + 2)) S.uw S.tk
            rw [hRr, hRo _ (by omega) (by omega) (by omega), hRo _ (by omega) (by omega) (by omega)]
            exact h.nc m' hm' id
          · intro t' ht'
            have ht' : t' ≤ S.ns := ht'
            show ∃ Q, TGc (S.uw.filter (isT t')) (((((S.drop (5 * (4 + S.ns) + 1)).put (5 * (4 + S.ns) + 2) ⟨0, nI (ansR (idN a.c) 3 false), S.time⟩).drop (5 * (4 + S.ns)))).row (5 * (4 + t') + 1)) (((((S.drop (5 * (4 + S.ns) + 1)).put (5 * (4 + S.ns) + 2) ⟨0, nI (ansR (idN a.c) 3 false), S.time⟩).drop (5 * (4 + S.ns)))).row (5 * (4 + t') + 2)) (cmS (S.sw t')) Q ∧ QC S.ns t' (S.sw t') (((((S.drop (5 * (4 + S.ns) + 1)).put (5 * (4 + S.ns) + 2) ⟨0, nI (ansR (idN a.c) 3 false), S.time⟩).drop (5 * (4 + S.ns)))).row (5 * (4 + t'))) Q
            rw [hRr]
            by_cases htt : t' = S.ns
            · subst htt
              rw [hR1, hR2, hR0]
              refine ⟨Q', (e4 hq1).2 _ ?_, fun g => absurd g (Nat.lt_irrefl _), fun _ => hQ'⟩
              show rId (nI (ansR (idN a.c) 3 false)) = q.1
              rw [hid]
              exact (rId_ans (idN_lt _) (by decide)).1
            · rw [hRo _ (by omega) (by omega) (by omega), hRo _ (by omega) (by omega) (by omega), hRo _ (by omega) (by omega) (by omega)]
              exact h.tg t' ht'
          · intro t' ht' f
            show RCc t' f S.ur (((((S.drop (5 * (4 + S.ns) + 1)).put (5 * (4 + S.ns) + 2) ⟨0, nI (ansR (idN a.c) 3 false), S.time⟩).drop (5 * (4 + S.ns)))).row (5 * (4 + t') + 4)) (((((S.drop (5 * (4 + S.ns) + 1)).put (5 * (4 + S.ns) + 2) ⟨0, nI (ansR (idN a.c) 3 false), S.time⟩).drop (5 * (4 + S.ns)))).row (5 * (4 + t') + 3)) (S.sr t')
            rw [hRr, hRo _ (by omega) (by omega) (by omega), hRo _ (by omega) (by omega) (by omega)]
            exact h.rc t' ht' f
          · show (((((S.drop (5 * (4 + S.ns) + 1)).put (5 * (4 + S.ns) + 2) ⟨0, nI (ansR (idN a.c) 3 false), S.time⟩).drop (5 * (4 + S.ns)))).row (5 * (4 + S.ns) + 3) = [] → S.dbeat = 0) ∧ ∀ a' l', ((((S.drop (5 * (4 + S.ns) + 1)).put (5 * (4 + S.ns) + 2) ⟨0, nI (ansR (idN a.c) 3 false), S.time⟩).drop (5 * (4 + S.ns)))).row (5 * (4 + S.ns) + 3) = a' :: l' → S.dbeat < leN a'.c
            rw [hRr, hRo _ (by omega) (by omega) (by omega)]
            exact h.db
          · show S.moved + pot ((((S.drop (5 * (4 + S.ns) + 1)).put (5 * (4 + S.ns) + 2) ⟨0, nI (ansR (idN a.c) 3 false), S.time⟩).drop (5 * (4 + S.ns)))).row ≤ w ∧ w ≤ 60 * S.time + 60
            rw [hRr, hpot]
            exact hmv
      · exact h
    · rename_i hla
      have hR1 : ((S.drop (5 * (4 + S.ns) + 1))).row (5 * (4 + S.ns) + 1) = l := by
        show va_up S.row _ _ _ = _
        rw [vz_same, hd]; rfl
      have hRo : ∀ i, i ≠ 5 * (4 + S.ns) + 1 → ((S.drop (5 * (4 + S.ns) + 1))).row i = S.row i := by
        intro i h2
        show va_up S.row _ _ _ = _
        rw [vz_ne _ h2]
      generalize hRr : ((S.drop (5 * (4 + S.ns) + 1))).row = R at *
      have hpot : pot R = pot S.row := pot_eq (fun i h1 h2 => hRo i (by omega))
      have hmem : ∀ i, ∀ x ∈ R i, x ∈ S.row i := by
        intro i x hx
        by_cases h1 : i = 5 * (4 + S.ns) + 1
        · rw [h1, hR1] at hx; rw [h1, hd]; exact List.mem_cons_of_mem _ hx
        · rw [hRo i h1] at hx; exact hx
      have hq1 : q.2 ≠ 1 := by
        intro hh
        rw [hh] at e2
        exact hla e2
      refine ⟨?_, h.tb, h.tk, ?_, h.uw, h.ur, h.pw, ?_, ?_, ?_, ?_, ?_, h.mo, h.cb, h.ch, h.ib, h.ou, ?_⟩
      · refine ⟨h.bd.nm, h.bd.ns, h.bd.lim, h.bd.pol, h.bd.time, h.bd.db, h.bd.moved, h.bd.pages, h.bd.mpat, h.bd.spat, h.bd.delay, h.bd.way, h.bd.mem, h.bd.sw, h.bd.sr, h.bd.rnum, h.bd.lat, h.bd.uw, h.bd.ur, h.bd.la, h.bd.lr, h.bd.lb, h.bd.lg, h.bd.rgt, ?_, h.bd.tk⟩
        show ∀ i, ∀ x ∈ ((S.drop (5 * (4 + S.ns) + 1))).row i, x.t < 2 ^ 24
        rw [hRr]
        intro i x hx
        exact h.bd.rowT i x (hmem i x hx)
      · show IR ((S.drop (5 * (4 + S.ns) + 1))).row
        rw [hRr]
        refine ⟨?_, ?_, ?_⟩
        · intro i hi x hx
          exact h.rw.ru i hi x (hmem _ x hx)
        · intro m' c' h1 h2 x hx
          exact h.rw.id m' c' h1 h2 x (hmem _ x hx)
        · intro t' x hx
          exact h.rw.b t' x (hmem _ x hx)
      · intro m' hm'
        have hm' : m' < S.nm := hm'
        show EMc m' (((S.drop (5 * (4 + S.ns) + 1))).row (5 * m' + 1)) (((S.drop (5 * (4 + S.ns) + 1))).row (5 * m')) (S.uw.filter (isM m')) S.tk
        rw [hRr, hRo _ (by omega), hRo _ (by omega)]
        exact h.em m' hm'
      · intro m' hm' id
        have hm' : m' < S.nm := hm'
        show NCc m' id (((S.drop (5 * (4 + S.ns) + 1))).row (5 * m')) (((S.drop (5 * (4 + S.ns) + 1))).row (5 * m' + 2)) S.uw S.tk
        rw [hRr, hRo _ (by omega), hRo _ (by omega)]
        exact h.nc m' hm' id
      · intro t' ht'
        have ht' : t' ≤ S.ns := ht'
        show ∃ Q, TGc (S.uw.filter (isT t')) (((S.drop (5 * (4 + S.ns) + 1))).row (5 * (4 + t') + 1)) (((S.drop (5 * (4 + S.ns) + 1))).row (5 * (4 + t') + 2)) (cmS (S.sw t')) Q ∧ QC S.ns t' (S.sw t') (((S.drop (5 * (4 + S.ns) + 1))).row (5 * (4 + t'))) Q
        rw [hRr, hRo (5 * (4 + t') + 2) (by omega), hRo (5 * (4 + t')) (by omega)]
        by_cases htt : t' = S.ns
        · subst htt
          rw [hR1]
          exact ⟨_, e3 hq1, fun g => absurd g (Nat.lt_irrefl _), fun _ => hq⟩
        · rw [hRo _ (by omega)]
          exact h.tg t' ht'
      · intro t' ht' f
        show RCc t' f S.ur (((S.drop (5 * (4 + S.ns) + 1))).row (5 * (4 + t') + 4)) (((S.drop (5 * (4 + S.ns) + 1))).row (5 * (4 + t') + 3)) (S.sr t')
        rw [hRr, hRo _ (by omega), hRo _ (by omega)]
        exact h.rc t' ht' f
      · show (((S.drop (5 * (4 + S.ns) + 1))).row (5 * (4 + S.ns) + 3) = [] → S.dbeat = 0) ∧ ∀ a l, ((S.drop (5 * (4 + S.ns) + 1))).row (5 * (4 + S.ns) + 3) = a :: l → S.dbeat < leN a.c
        rw [hRr, hRo _ (by omega)]
        exact h.db
      · show S.moved + pot ((S.drop (5 * (4 + S.ns) + 1))).row ≤ w ∧ w ≤ 60 * S.time + 60
        rw [hRr, hpot]
        exact hmv
/-- a row of reads' beats or of writes' beats alone has changed -/
theorem Cr.rowX {S : XS} {w : Nat} (h : Cr S w) {R : Nat → List RE} (hR : ∀ i, i % 5 ≠ 4 → i % 5 ≠ 3 → R i = S.row i) (hp : pot R = pot S.row) (hr : IR R) (ht : ∀ i, ∀ x ∈ R i, x.t < 2 ^ 24) (hrc : ∀ t, t ≤ S.ns → ∀ f, RCc t f S.ur (R (5 * (4 + t) + 4)) (R (5 * (4 + t) + 3)) (S.sr t)) {n : Nat} (hn : n < 16) (hdb : (R (5 * (4 + S.ns) + 3) = [] → n = 0) ∧ ∀ a l, R (5 * (4 + S.ns) + 3) = a :: l → n < leN a.c) : Cr ((S.w_row R).w_dbeat n) w := by
  have hmv := h.mv
  refine ⟨?_, h.tb, h.tk, hr, h.uw, h.ur, h.pw, ?_, ?_, ?_, hrc, hdb, h.mo, h.cb, h.ch, h.ib, h.ou, ?_⟩
  · exact ⟨h.bd.nm, h.bd.ns, h.bd.lim, h.bd.pol, h.bd.time, hn, h.bd.moved, h.bd.pages, h.bd.mpat, h.bd.spat, h.bd.delay, h.bd.way, h.bd.mem, h.bd.sw, h.bd.sr, h.bd.rnum, h.bd.lat, h.bd.uw, h.bd.ur, h.bd.la, h.bd.lr, h.bd.lb, h.bd.lg, h.bd.rgt, ht, h.bd.tk⟩
  · intro m' hm'
    have hm' : m' < S.nm := hm'
    show EMc m' (R (5 * m' + 1)) (R (5 * m')) (S.uw.filter (isM m')) S.tk
    rw [hR _ (by omega) (by omega), hR _ (by omega) (by omega)]
    exact h.em m' hm'
  · intro m' hm' id
    have hm' : m' < S.nm := hm'
    show NCc m' id (R (5 * m')) (R (5 * m' + 2)) S.uw S.tk
    rw [hR _ (by omega) (by omega), hR _ (by omega) (by omega)]
    exact h.nc m' hm' id
  · intro t' ht'
    have ht' : t' ≤ S.ns := ht'
    show ∃ Q, TGc (S.uw.filter (isT t')) (R (5 * (4 + t') + 1)) (R (5 * (4 + t') + 2)) (cmS (S.sw t')) Q ∧ QC S.ns t' (S.sw t') (R (5 * (4 + t'))) Q
    rw [hR _ (by omega) (by omega), hR _ (by omega) (by omega), hR _ (by omega) (by omega)]
    exact h.tg t' ht'
  · show S.moved + pot R ≤ w ∧ w ≤ 60 * S.time + 60
    rw [hp]
    exact hmv
theorem Cr.refR {S : XS} {w : Nat} (h : Cr S w) : Cr S.refR w := by
  have hn4 := h.bd.nm
  have hs4 := h.bd.ns
  unfold XS.refR
  split
  · exact h
  · rename_i a l ha
    have hdb := h.db.2 a l ha
    have hle := leN_le a.c
    split
    · split
      · rename_i hb
        have hR := rw_pd (row := S.row) (a := 5 * (4 + S.ns) + 3) (b := 5 * (4 + S.ns) + 4) (ne := ⟨0, nI (ansR (idN a.c) 3 true), S.time⟩) (by omega) ha
        have hR' : ∀ i, (((S.put (5 * (4 + S.ns) + 4) ⟨0, nI (ansR (idN a.c) 3 true), S.time⟩).drop (5 * (4 + S.ns) + 3))).row i = _ := hR
        show Cr ((((S.put (5 * (4 + S.ns) + 4) ⟨0, nI (ansR (idN a.c) 3 true), S.time⟩).drop (5 * (4 + S.ns) + 3))).w_dbeat 0) w
        have hRo : ∀ i, i ≠ 5 * (4 + S.ns) + 4 → i ≠ 5 * (4 + S.ns) + 3 → (((S.put (5 * (4 + S.ns) + 4) ⟨0, nI (ansR (idN a.c) 3 true), S.time⟩).drop (5 * (4 + S.ns) + 3))).row i = S.row i := fun i h1 h2 => (hR' i).trans (by rw [if_neg h1, if_neg h2])
        have hRt : (((S.put (5 * (4 + S.ns) + 4) ⟨0, nI (ansR (idN a.c) 3 true), S.time⟩).drop (5 * (4 + S.ns) + 3))).row (5 * (4 + S.ns) + 4) = S.row (5 * (4 + S.ns) + 4) ++ [⟨0, nI (ansR (idN a.c) 3 true), S.time⟩] := (hR' _).trans (by rw [if_pos rfl])
        have hRm : (((S.put (5 * (4 + S.ns) + 4) ⟨0, nI (ansR (idN a.c) 3 true), S.time⟩).drop (5 * (4 + S.ns) + 3))).row (5 * (4 + S.ns) + 3) = l := (hR' _).trans (by rw [if_neg (by omega), if_pos rfl])
        have hs : (((S.put (5 * (4 + S.ns) + 4) ⟨0, nI (ansR (idN a.c) 3 true), S.time⟩).drop (5 * (4 + S.ns) + 3))) = S.w_row (((S.put (5 * (4 + S.ns) + 4) ⟨0, nI (ansR (idN a.c) 3 true), S.time⟩).drop (5 * (4 + S.ns) + 3))).row := by
          unfold XS.drop XS.put XS.setRow
          rw [XS.w_row_w_row]
          rfl
        rw [hs]
        generalize hRr : (((S.put (5 * (4 + S.ns) + 4) ⟨0, nI (ansR (idN a.c) 3 true), S.time⟩).drop (5 * (4 + S.ns) + 3))).row = R at *
        have hmem : ∀ i, ∀ x ∈ R i, x ∈ S.row i ∨ (i = 5 * (4 + S.ns) + 4 ∧ x = ⟨0, nI (ansR (idN a.c) 3 true), S.time⟩) := by
          intro i x hx
          by_cases h1 : i = 5 * (4 + S.ns) + 4
          · rw [h1, hRt] at hx
            rcases List.mem_append.mp hx with hx | hx
            · rw [h1]; exact Or.inl hx
            · exact Or.inr ⟨h1, List.mem_singleton.mp hx⟩
          · by_cases h2 : i = 5 * (4 + S.ns) + 3
            · rw [h2, hRm] at hx; left; rw [h2, ha]; exact List.mem_cons_of_mem _ hx
            · rw [hRo i h1 h2] at hx; exact Or.inl hx
        refine h.rowX (fun i h1 h2 => hRo i (by omega) (by omega)) (pot_eq (fun i h1 h2 => hRo i (by omega) (by omega))) ⟨?_, ?_, ?_⟩ ?_ ?_ (by decide) ⟨fun _ => rfl, fun a l _ => leN_pos _⟩
        · intro i hi x hx
          rcases hmem i x hx with hx | hx
          · exact h.rw.ru i hi x hx
          · omega
        · intro m' c' h1 h2 x hx
          rcases hmem _ x hx with hx | hx
          · exact h.rw.id m' c' h1 h2 x hx
          · omega
        · intro t' x hx
          rcases hmem _ x hx with hx | hx
          · exact h.rw.b t' x hx
          · omega
        · intro i x hx
          rcases hmem _ x hx with hx | hx
          · exact h.bd.rowT i x hx
          · rw [hx.2]; exact h.bd.time
        · intro t' ht' f
          have h0 := h.rc t' ht' f
          by_cases htt : t' = S.ns
          · subst htt
            rw [hRt, hRm]
            unfold RCc at *
            rw [ha, List.countP_cons] at h0
            rw [List.countP_append, List.countP_cons, List.countP_nil]
            have e2 : isR f (⟨0, nI (ansR (idN a.c) 3 true), S.time⟩ : RE) = decide (idN a.c = f) := by
              obtain ⟨x1, x2, x3⟩ := rId_ans (l := true) (idN_lt a.c) (show 3 < 4 by decide)
              show (rLa (nI (ansR (idN a.c) 3 true)) && decide (rId (nI (ansR (idN a.c) 3 true)) = f)) = _
              rw [x1, x3]; rfl
            rw [e2]
            omega
          · rw [hRo _ (by omega) (by omega), hRo _ (by omega) (by omega)]
            exact h0
      · rename_i hb
        show Cr (((S.put (5 * (4 + S.ns) + 4) ⟨0, nI (ansR (idN a.c) 3 false), S.time⟩)).w_dbeat (S.dbeat + 1)) w
        have hRo : ∀ i, i ≠ 5 * (4 + S.ns) + 4 → ((S.put (5 * (4 + S.ns) + 4) ⟨0, nI (ansR (idN a.c) 3 false), S.time⟩)).row i = S.row i := fun i h1 => vz_ne _ h1
        have hRt : ((S.put (5 * (4 + S.ns) + 4) ⟨0, nI (ansR (idN a.c) 3 false), S.time⟩)).row (5 * (4 + S.ns) + 4) = S.row (5 * (4 + S.ns) + 4) ++ [⟨0, nI (ansR (idN a.c) 3 false), S.time⟩] := vz_same _ _ _
        have hs : ((S.put (5 * (4 + S.ns) + 4) ⟨0, nI (ansR (idN a.c) 3 false), S.time⟩)) = S.w_row ((S.put (5 * (4 + S.ns) + 4) ⟨0, nI (ansR (idN a.c) 3 false), S.time⟩)).row := rfl
        rw [hs]
        generalize hRr : ((S.put (5 * (4 + S.ns) + 4) ⟨0, nI (ansR (idN a.c) 3 false), S.time⟩)).row = R at *
        have hmem : ∀ i, ∀ x ∈ R i, x ∈ S.row i ∨ (i = 5 * (4 + S.ns) + 4 ∧ x = ⟨0, nI (ansR (idN a.c) 3 false), S.time⟩) := by
          intro i x hx
          by_cases h1 : i = 5 * (4 + S.ns) + 4
          · rw [h1, hRt] at hx
            rcases List.mem_append.mp hx with hx | hx
            · rw [h1]; exact Or.inl hx
            · exact Or.inr ⟨h1, List.mem_singleton.mp hx⟩
          · rw [hRo i h1] at hx; exact Or.inl hx
        refine h.rowX (fun i h1 h2 => hRo i (by omega)) (pot_eq (fun i h1 h2 => hRo i (by omega))) ⟨?_, ?_, ?_⟩ ?_ ?_ (by omega) ?_
        · intro i hi x hx
          rcases hmem i x hx with hx | hx
          · exact h.rw.ru i hi x hx
          · omega
        · intro m' c' h1 h2 x hx
          rcases hmem _ x hx with hx | hx
          · exact h.rw.id m' c' h1 h2 x hx
          · omega
        · intro t' x hx
          rcases hmem _ x hx with hx | hx
          · exact h.rw.b t' x hx
          · omega
        · intro i x hx
          rcases hmem _ x hx with hx | hx
          · exact h.bd.rowT i x hx
          · rw [hx.2]; exact h.bd.time
        · intro t' ht' f
          have h0 := h.rc t' ht' f
          rw [hRo (5 * (4 + t') + 3) (by omega)]
          by_cases htt : t' = S.ns
          · subst htt
            rw [hRt]
            unfold RCc at *
            rw [List.countP_append, List.countP_cons, List.countP_nil]
            have e2 : isR f (⟨0, nI (ansR (idN a.c) 3 false), S.time⟩ : RE) = false := by
              obtain ⟨x1, x2, x3⟩ := rId_ans (l := false) (idN_lt a.c) (show 3 < 4 by decide)
              show (rLa (nI (ansR (idN a.c) 3 false)) && decide (rId (nI (ansR (idN a.c) 3 false)) = f)) = _
              rw [x3]; rfl
            rw [e2]
            simp only [Bool.false_eq_true, if_false]
            omega
          · rw [hRo _ (by omega)]
            exact h0
        · rw [hRo _ (by omega), ha]
          refine ⟨fun hh => (by cases hh), fun a' l' hh => ?_⟩
          have : a = a' := (List.cons.inj hh).1
          rw [← this]
          omega
    · exact h
