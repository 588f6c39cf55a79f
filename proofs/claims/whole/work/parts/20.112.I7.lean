/-! THE STATE's OWN INVARIANTS: answers and beats go back -/
theorem find_split {α : Type} {p : α → Bool} {l1 l2 : List α} {u : α} (h : ∀ v ∈ l1, p v = false) (hu : p u = true) : (l1 ++ u :: l2).find? p = some u := by
  rw [List.find?_append, List.find?_eq_none.mpr (fun x hx => by rw [h x hx]; decide), List.find?_cons, hu]
  rfl
theorem erase_split {α : Type} {p : α → Bool} {l1 l2 : List α} {u : α} (h : ∀ v ∈ l1, p v = false) (hu : p u = true) : (l1 ++ u :: l2).eraseP p = l1 ++ l2 := by
  rw [List.eraseP_append_right _ (fun x hx => by rw [h x hx]; decide), List.eraseP_cons_of_pos hu]
theorem first_split {α : Type} {p : α → Bool} {l : List α} {u : α} (hu : u ∈ l) (hp : p u = true) : ∃ v k1 k2, l = k1 ++ v :: k2 ∧ (∀ x ∈ k1, p x = false) ∧ p v = true ∧ l.eraseP p = k1 ++ k2 := by
  obtain ⟨v, k1, k2, h1, h2, h3, h4⟩ := List.exists_of_eraseP hu hp
  exact ⟨v, k1, k2, h3, fun x hx => by simpa using h1 x hx, h2, h4⟩
theorem IU.sub {k1 k2 : List UE} {v : UE} {nm ns : Nat} (h : IU (k1 ++ v :: k2) nm ns) : IU (k1 ++ k2) nm ns := by
  have hs : ∀ x ∈ k1 ++ k2, x ∈ k1 ++ v :: k2 := fun x hx => mid_mem (Or.inr (List.mem_append.mp hx))
  refine ⟨fun u hu => h.m u (hs u hu), fun m => ?_, fun u hu v hv => h.sm u (hs u hu) v (hs v hv)⟩
  have := h.cn m
  rw [filter_split] at this
  rw [List.filter_append]
  simp only [List.length_append] at *
  omega
theorem pw_sub {k1 k2 : List UE} {v : UE} (h : (k1 ++ v :: k2).Pairwise (fun a b => a.num < b.num)) : (k1 ++ k2).Pairwise (fun a b => a.num < b.num) := by
  refine h.sublist ?_
  exact List.Sublist.append_left (List.sublist_cons_self ..) _
theorem pMid_iff {m id : Nat} {u : UE} : pMid m id u = true ↔ u.m = m ∧ u.id = id := by
  unfold pMid
  simp
/-- what an answer at a target ends -/
theorem Cr.ansU {S : XS} {w t m : Nat} {e : RE} {l : List RE} (h : Cr S w) (ht : t ≤ S.ns) (he : S.row (5 * (4 + t) + 2) = e :: l) (hm : rId e.r / 16 = m) :
    ∃ v k1 k2, S.uw = k1 ++ v :: k2 ∧ (∀ x ∈ k1, pMid m (rId e.r % 16) x = false) ∧ pMid m (rId e.r % 16) v = true ∧ v.m = m ∧ v.id = rId e.r % 16 ∧ v.tg = t ∧ v.left = 0 ∧ S.uw.eraseP (pMid m (rId e.r % 16)) = k1 ++ k2 ∧
      ∃ Q, TGc ((k1 ++ k2).filter (isT t)) (S.row (5 * (4 + t) + 1)) l (cmS (S.sw t)) Q ∧ QC S.ns t (S.sw t) (S.row (5 * (4 + t))) Q := by
  obtain ⟨Q, q1, q2⟩ := h.tg t ht
  rw [he] at q1
  have hp : ∀ u ∈ S.uw.filter (isT t), pMid m (rId e.r % 16) u = true ↔ fid u = rId e.r := by
    intro u hu
    have hu1 := h.uw.m u (List.mem_filter.mp hu).1
    rw [pMid_iff]
    unfold fid
    omega
  obtain ⟨⟨u, l1, l2, a1, a2, a3, a4⟩, a5⟩ := q1.ans hp
  have hu : u ∈ S.uw.filter (isT t) := by rw [a1]; exact mid_mem (Or.inl rfl)
  obtain ⟨hu1, hu2⟩ := List.mem_filter.mp hu
  have hut : u.tg = t := by unfold isT at hu2; exact of_decide_eq_true hu2
  obtain ⟨v, k1, k2, b1, b2, b3, b4⟩ := first_split hu1 a3
  have hv1 := pMid_iff.mp b3
  have hu3 := pMid_iff.mp a3
  have hvt : v.tg = t := by
    rw [← hut]
    exact h.uw.sm v (by rw [b1]; exact mid_mem (Or.inl rfl)) u hu1 (hv1.1.trans hu3.1.symm) (hv1.2.trans hu3.2.symm)
  have hTv : isT t v = true := by unfold isT; exact decide_eq_true hvt
  have hfs : S.uw.filter (isT t) = k1.filter (isT t) ++ v :: k2.filter (isT t) := by
    rw [b1, filter_split, hTv, if_pos rfl]; rfl
  have hk : ∀ x ∈ k1.filter (isT t), pMid m (rId e.r % 16) x = false := fun x hx => b2 x (List.mem_filter.mp hx).1
  have hvu : v = u := by
    have h1 := find_split (l2 := l2) a2 a3
    have h2 := find_split (l2 := k2.filter (isT t)) hk b3
    rw [← a1, hfs, h2] at h1
    exact Option.some.inj h1
  rw [hfs, erase_split hk b3, ← List.filter_append] at a5
  exact ⟨v, k1, k2, b1, b2, b3, hv1.1, hv1.2, hvt, by rw [hvu]; exact a4, b4, Q, a5, q2⟩
theorem Cr.movB {S : XS} {w m : Nat} (h : Cr S w) (hm : m < S.nm) : Cr (S.movB m) w := by
  have hn4 := h.bd.nm
  have hs4 := h.bd.ns
  cases hrm : S.hasRm (5 * m + 2) with
  | false => rw [movB_no hrm]; exact h
  | true =>
  cases hg : S.giv m 2 (S.lb m) with
  | none => rw [movB_none hg]; exact h
  | some t =>
  obtain ⟨g1, g2⟩ := giv_some hg
  obtain ⟨e, l, he⟩ := gives_row g1
  have hid := gives_id g1 he
  rw [movB_some hrm hg he]
  obtain ⟨v, k1, k2, b1, b2, b3, v1, v2, v3, v4, b4, Q, q1, q2⟩ := h.ansU (show t ≤ S.ns by omega) he hid
  rw [b4]
  have hmv := h.mv
  have hR := rw_dp (row := S.row) (a := 5 * (4 + t) + 2) (b := 5 * m + 2) (ne := ⟨0, e.r - nI (16 * m), S.time⟩) (by omega) he
  have hRo : ∀ i, i ≠ 5 * m + 2 → i ≠ 5 * (4 + t) + 2 → (((S.drop (5 * (4 + t) + 2)).put (5 * m + 2) ⟨0, e.r - nI (16 * m), S.time⟩)).row i = S.row i := fun i h1 h2 => (hR i).trans (by rw [if_neg h1, if_neg h2])
  have hRm : (((S.drop (5 * (4 + t) + 2)).put (5 * m + 2) ⟨0, e.r - nI (16 * m), S.time⟩)).row (5 * m + 2) = S.row (5 * m + 2) ++ [⟨0, e.r - nI (16 * m), S.time⟩] := (hR _).trans (by rw [if_pos rfl])
  have hRt : (((S.drop (5 * (4 + t) + 2)).put (5 * m + 2) ⟨0, e.r - nI (16 * m), S.time⟩)).row (5 * (4 + t) + 2) = l := (hR _).trans (by rw [if_neg (by omega), if_pos rfl])
  generalize hR1 : (((S.drop (5 * (4 + t) + 2)).put (5 * m + 2) ⟨0, e.r - nI (16 * m), S.time⟩)).row = R at *
  have hmem : ∀ i, ∀ x ∈ R i, x ∈ S.row i ∨ (i = 5 * m + 2 ∧ x = ⟨0, e.r - nI (16 * m), S.time⟩) := by
    intro i x hx
    by_cases h1 : i = 5 * m + 2
    · rw [h1, hRm] at hx
      rcases List.mem_append.mp hx with hx | hx
      · rw [h1]; exact Or.inl hx
      · exact Or.inr ⟨h1, List.mem_singleton.mp hx⟩
    · by_cases h2 : i = 5 * (4 + t) + 2
      · rw [h2, hRt] at hx; left; rw [h2, he]; exact List.mem_cons_of_mem _ hx
      · rw [hRo i h1 h2] at hx; exact Or.inl hx
  have hsub : ∀ x ∈ k1 ++ k2, x ∈ S.uw := fun x hx => by rw [b1]; exact mid_mem (Or.inr (List.mem_append.mp hx))
  have hpot : pot R = pot S.row := pot_eq (fun i h1 h2 => hRo i (by omega) (by omega))
  refine ⟨?_, h.tb, h.tk, ?_, ?_, h.ur, ?_, ?_, ?_, ?_, ?_, ?_, h.mo, h.cb, h.ch, h.ib, h.ou, ?_⟩
  · refine ⟨h.bd.nm, h.bd.ns, h.bd.lim, h.bd.pol, h.bd.time, h.bd.db, h.bd.moved, h.bd.pages, h.bd.mpat, h.bd.spat, h.bd.delay, h.bd.way, h.bd.mem, h.bd.sw, h.bd.sr, h.bd.rnum, h.bd.lat, ?_, h.bd.ur, h.bd.la, h.bd.lr, ?_, h.bd.lg, h.bd.rgt, ?_, h.bd.tk⟩
    · exact fun x hx => h.bd.uw x (hsub x hx)
    · intro m' t' h'
      have h' : va_up S.lb m (some t) m' = some t' := h'
      rw [vz_at] at h'
      split at h'
      · cases h'; show t ≤ S.ns; omega
      · exact h.bd.lb m' t' h'
    · show ∀ i, ∀ x ∈ (((S.drop (5 * (4 + t) + 2)).put (5 * m + 2) ⟨0, e.r - nI (16 * m), S.time⟩)).row i, x.t < 2 ^ 24
      rw [hR1]
      intro i x hx
      rcases hmem i x hx with hx | hx
      · exact h.bd.rowT i x hx
      · rw [hx.2]; exact h.bd.time
  · show IR (((S.drop (5 * (4 + t) + 2)).put (5 * m + 2) ⟨0, e.r - nI (16 * m), S.time⟩)).row
    rw [hR1]
    refine ⟨?_, ?_, ?_⟩
    · intro i hi x hx
      rcases hmem i x hx with hx | hx
      · exact h.rw.ru i hi x hx
      · omega
    · intro m' c' h1 h2 x hx
      rcases hmem _ x hx with hx | hx
      · exact h.rw.id m' c' h1 h2 x hx
      · omega
    · intro t' x hx
      rcases hmem _ x hx with hx | hx
      · exact h.rw.b t' x hx
      · rw [hx.2]
  · have := h.uw
    rw [b1] at this
    exact this.sub
  · have := h.pw
    rw [b1] at this
    exact ⟨pw_sub this.1, fun x hx => this.2 x (mid_mem (Or.inr (List.mem_append.mp hx)))⟩
  · intro m' hm'
    have hm' : m' < S.nm := hm'
    have h0 := h.em m' hm'
    show EMc m' ((((S.drop (5 * (4 + t) + 2)).put (5 * m + 2) ⟨0, e.r - nI (16 * m), S.time⟩)).row (5 * m' + 1)) ((((S.drop (5 * (4 + t) + 2)).put (5 * m + 2) ⟨0, e.r - nI (16 * m), S.time⟩)).row (5 * m')) ((k1 ++ k2).filter (isM m')) S.tk
    rw [hR1, hRo _ (by omega) (by omega), hRo _ (by omega) (by omega), List.filter_append]
    rw [b1, filter_split] at h0
    by_cases hmm : m' = m
    · subst hmm
      rw [show isM m' v = true by unfold isM; exact decide_eq_true v1, if_pos rfl] at h0
      exact EMc.erase (l2 := k2.filter (isM m')) h0 v4
    · rw [show isM m' v = false by unfold isM; exact decide_eq_false (by omega)] at h0
      exact h0
  · intro m' hm' id
    have hm' : m' < S.nm := hm'
    have h0 := h.nc m' hm' id
    show NCc m' id ((((S.drop (5 * (4 + t) + 2)).put (5 * m + 2) ⟨0, e.r - nI (16 * m), S.time⟩)).row (5 * m')) ((((S.drop (5 * (4 + t) + 2)).put (5 * m + 2) ⟨0, e.r - nI (16 * m), S.time⟩)).row (5 * m' + 2)) (k1 ++ k2) S.tk
    rw [hR1, hRo (5 * m') (by omega) (by omega)]
    unfold NCc at *
    rw [b1, List.countP_append, List.countP_cons] at h0
    rw [List.countP_append]
    by_cases hmm : m' = m
    · subst hmm
      rw [hRm, List.countP_append, List.countP_cons, List.countP_nil]
      have e1 : pMid m' id v = decide (rId e.r % 16 = id) := by
        unfold pMid
        rw [v1, v2]; simp
      have e2 : rId (RE.r (⟨0, e.r - nI (16 * m'), S.time⟩ : RE)) = rId e.r % 16 := by
        show rId (e.r - nI (16 * m')) = _
        rw [← hid]
        exact rId_m49 _
      rw [e1] at h0
      rw [e2]
      omega
    · rw [hRo _ (by omega) (by omega)]
      have e1 : pMid m' id v = false := by
        unfold pMid
        rw [v1, decide_eq_false (Ne.symm hmm)]; rfl
      rw [e1] at h0
      simp only [Bool.false_eq_true, if_false] at h0
      omega
  · intro t' ht'
    have ht' : t' ≤ S.ns := ht'
    show ∃ Q, TGc ((k1 ++ k2).filter (isT t')) ((((S.drop (5 * (4 + t) + 2)).put (5 * m + 2) ⟨0, e.r - nI (16 * m), S.time⟩)).row (5 * (4 + t') + 1)) ((((S.drop (5 * (4 + t) + 2)).put (5 * m + 2) ⟨0, e.r - nI (16 * m), S.time⟩)).row (5 * (4 + t') + 2)) (cmS (S.sw t')) Q ∧ QC S.ns t' (S.sw t') ((((S.drop (5 * (4 + t) + 2)).put (5 * m + 2) ⟨0, e.r - nI (16 * m), S.time⟩)).row (5 * (4 + t'))) Q
    rw [hR1, hRo (5 * (4 + t') + 1) (by omega) (by omega), hRo (5 * (4 + t')) (by omega) (by omega)]
    by_cases htt : t' = t
    · subst htt
      rw [hRt]
      exact ⟨Q, q1, q2⟩
    · obtain ⟨Q', q1', q2'⟩ := h.tg t' ht'
      rw [b1, filter_split, show isT t' v = false by unfold isT; exact decide_eq_false (by omega)] at q1'
      rw [hRo _ (by omega) (by omega), List.filter_append]
      exact ⟨Q', q1', q2'⟩
  · intro t' ht' f
    show RCc t' f S.ur ((((S.drop (5 * (4 + t) + 2)).put (5 * m + 2) ⟨0, e.r - nI (16 * m), S.time⟩)).row (5 * (4 + t') + 4)) ((((S.drop (5 * (4 + t) + 2)).put (5 * m + 2) ⟨0, e.r - nI (16 * m), S.time⟩)).row (5 * (4 + t') + 3)) (S.sr t')
    rw [hR1, hRo _ (by omega) (by omega), hRo _ (by omega) (by omega)]
    exact h.rc t' ht' f
  · show ((((S.drop (5 * (4 + t) + 2)).put (5 * m + 2) ⟨0, e.r - nI (16 * m), S.time⟩)).row (5 * (4 + S.ns) + 3) = [] → S.dbeat = 0) ∧ ∀ a l, (((S.drop (5 * (4 + t) + 2)).put (5 * m + 2) ⟨0, e.r - nI (16 * m), S.time⟩)).row (5 * (4 + S.ns) + 3) = a :: l → S.dbeat < leN a.c
    rw [hR1, hRo _ (by omega) (by omega)]
    exact h.db
  · show S.moved + pot (((S.drop (5 * (4 + t) + 2)).put (5 * m + 2) ⟨0, e.r - nI (16 * m), S.time⟩)).row ≤ w ∧ w ≤ 60 * S.time + 60
    rw [hR1, hpot]
    exact hmv
/-- what a last beat at a target ends -/
theorem Cr.lastU {S : XS} {w t m : Nat} {e : RE} {l : List RE} (h : Cr S w) (ht : t ≤ S.ns) (he : S.row (5 * (4 + t) + 4) = e :: l) (hm : rId e.r / 16 = m) (hl : rLa e.r = true) :
    ∃ v k1 k2, S.ur = k1 ++ v :: k2 ∧ (∀ x ∈ k1, pMid m (rId e.r % 16) x = false) ∧ pMid m (rId e.r % 16) v = true ∧ v.m = m ∧ v.id = rId e.r % 16 ∧ v.tg = t ∧ S.ur.eraseP (pMid m (rId e.r % 16)) = k1 ++ k2 := by
  have h0 := h.rc t ht (rId e.r)
  unfold RCc at h0
  rw [he, List.countP_cons] at h0
  have e1 : isR (rId e.r) e = true := by unfold isR; rw [hl]; simp
  rw [e1, if_pos rfl] at h0
  have hpos : 0 < S.ur.countP (isF t (rId e.r)) := by omega
  obtain ⟨u, hu, hu2⟩ := List.countP_pos_iff.mp hpos
  unfold isF at hu2
  simp only [Bool.and_eq_true, decide_eq_true_eq] at hu2
  have hum := h.ur.m u hu
  have hpu : pMid m (rId e.r % 16) u = true := by
    rw [pMid_iff]
    have := hu2.2
    unfold fid at this
    omega
  obtain ⟨v, k1, k2, b1, b2, b3, b4⟩ := first_split hu hpu
  have hv1 := pMid_iff.mp b3
  have hu3 := pMid_iff.mp hpu
  have hvt : v.tg = t := by
    rw [← hu2.1]
    exact h.ur.sm v (by rw [b1]; exact mid_mem (Or.inl rfl)) u hu (hv1.1.trans hu3.1.symm) (hv1.2.trans hu3.2.symm)
  exact ⟨v, k1, k2, b1, b2, b3, hv1.1, hv1.2, hvt, b4⟩
theorem Cr.movR {S : XS} {w m : Nat} (h : Cr S w) (hm : m < S.nm) : Cr (S.movR m) w := by
  have hn4 := h.bd.nm
  have hs4 := h.bd.ns
  cases hrm : S.hasRm (5 * m + 4) with
  | false => rw [movR_no hrm]; exact h
  | true =>
  cases hg : S.givR m with
  | none => rw [movR_none hg]; exact h
  | some t =>
  obtain ⟨g1, g2⟩ := givR_some h.bd hg
  obtain ⟨e, l, he⟩ := gives_row g1
  have hid := gives_id g1 he
  rw [movR_some hrm hg he]
  have hmv := h.mv
  have hR := rw_dp (row := S.row) (a := 5 * (4 + t) + 4) (b := 5 * m + 4) (ne := ⟨e.c, e.r - nI (16 * m), S.time⟩) (by omega) he
  have hRo : ∀ i, i ≠ 5 * m + 4 → i ≠ 5 * (4 + t) + 4 → (((S.drop (5 * (4 + t) + 4)).put (5 * m + 4) ⟨e.c, e.r - nI (16 * m), S.time⟩)).row i = S.row i := fun i h1 h2 => (hR i).trans (by rw [if_neg h1, if_neg h2])
  have hRm : (((S.drop (5 * (4 + t) + 4)).put (5 * m + 4) ⟨e.c, e.r - nI (16 * m), S.time⟩)).row (5 * m + 4) = S.row (5 * m + 4) ++ [⟨e.c, e.r - nI (16 * m), S.time⟩] := (hR _).trans (by rw [if_pos rfl])
  have hRt : (((S.drop (5 * (4 + t) + 4)).put (5 * m + 4) ⟨e.c, e.r - nI (16 * m), S.time⟩)).row (5 * (4 + t) + 4) = l := (hR _).trans (by rw [if_neg (by omega), if_pos rfl])
  generalize hR1 : (((S.drop (5 * (4 + t) + 4)).put (5 * m + 4) ⟨e.c, e.r - nI (16 * m), S.time⟩)).row = R at *
  have hmem : ∀ i, ∀ x ∈ R i, x ∈ S.row i ∨ (i = 5 * m + 4 ∧ x = ⟨e.c, e.r - nI (16 * m), S.time⟩) := by
    intro i x hx
    by_cases h1 : i = 5 * m + 4
    · rw [h1, hRm] at hx
      rcases List.mem_append.mp hx with hx | hx
      · rw [h1]; exact Or.inl hx
      · exact Or.inr ⟨h1, List.mem_singleton.mp hx⟩
    · by_cases h2 : i = 5 * (4 + t) + 4
      · rw [h2, hRt] at hx; left; rw [h2, he]; exact List.mem_cons_of_mem _ hx
      · rw [hRo i h1 h2] at hx; exact Or.inl hx
  have hpot : pot R = pot S.row := pot_eq (fun i h1 h2 => hRo i (by omega) (by omega))
  have hur : ∃ U, (if rLa e.r = true then S.ur.eraseP (pMid m (rId e.r % 16)) else S.ur) = U ∧ (∀ x ∈ U, x ∈ S.ur) ∧ IU U S.nm S.ns ∧ ∀ t', t' ≤ S.ns → ∀ f, RCc t' f U (R (5 * (4 + t') + 4)) (S.row (5 * (4 + t') + 3)) (S.sr t') := by
    by_cases hl : rLa e.r = true
    · obtain ⟨v, k1, k2, b1, b2, b3, v1, v2, v3, b4⟩ := h.lastU (show t ≤ S.ns by omega) he hid hl
      refine ⟨k1 ++ k2, by rw [if_pos hl, b4], fun x hx => by rw [b1]; exact mid_mem (Or.inr (List.mem_append.mp hx)), ?_, ?_⟩
      · have := h.ur
        rw [b1] at this
        exact this.sub
      · intro t' ht' f
        have h0 := h.rc t' ht' f
        unfold RCc at *
        rw [b1, List.countP_append, List.countP_cons] at h0
        rw [List.countP_append]
        by_cases htt : t' = t
        · subst htt
          rw [he, List.countP_cons] at h0
          rw [hRt]
          have e1 : isF t' f v = isR f e := by
            unfold isF isR fid
            rw [hl, v3, v1, v2, show 16 * m + rId e.r % 16 = rId e.r by omega]; simp
          rw [e1] at h0
          omega
        · rw [hRo _ (by omega) (by omega)]
          have e1 : isF t' f v = false := by
            unfold isF
            rw [decide_eq_false (by omega)]; rfl
          rw [e1] at h0
          simp only [Bool.false_eq_true, if_false] at h0
          omega
    · refine ⟨S.ur, by rw [if_neg hl], fun x hx => hx, h.ur, ?_⟩
      intro t' ht' f
      have h0 := h.rc t' ht' f
      by_cases htt : t' = t
      · subst htt
        unfold RCc at *
        rw [he, List.countP_cons] at h0
        rw [hRt]
        have e1 : isR f e = false := by
          unfold isR
          rw [show rLa e.r = false by simpa using hl]; rfl
        rw [e1] at h0
        simp only [Bool.false_eq_true, if_false] at h0
        omega
      · rw [hRo _ (by omega) (by omega)]
        exact h0
  obtain ⟨U, u1, u2, u3, u4⟩ := hur
  rw [u1]
  refine ⟨?_, h.tb, h.tk, ?_, h.uw, u3, h.pw, ?_, ?_, ?_, ?_, ?_, h.mo, h.cb, h.ch, ?_, h.ou, ?_⟩
  · refine ⟨h.bd.nm, h.bd.ns, h.bd.lim, h.bd.pol, h.bd.time, h.bd.db, h.bd.moved, h.bd.pages, h.bd.mpat, h.bd.spat, h.bd.delay, h.bd.way, h.bd.mem, h.bd.sw, h.bd.sr, h.bd.rnum, h.bd.lat, h.bd.uw, ?_, h.bd.la, h.bd.lr, h.bd.lb, ?_, h.bd.rgt, ?_, h.bd.tk⟩
    · exact fun x hx => h.bd.ur x (u2 x hx)
    · intro m' t' h'
      have h' : va_up S.lg m (some t) m' = some t' := h'
      rw [vz_at] at h'
      split at h'
      · cases h'; show t ≤ S.ns; omega
      · exact h.bd.lg m' t' h'
    · show ∀ i, ∀ x ∈ (((S.drop (5 * (4 + t) + 4)).put (5 * m + 4) ⟨e.c, e.r - nI (16 * m), S.time⟩)).row i, x.t < 2 ^ 24
      rw [hR1]
      intro i x hx
      rcases hmem i x hx with hx | hx
      · exact h.bd.rowT i x hx
      · rw [hx.2]; exact h.bd.time
  · show IR (((S.drop (5 * (4 + t) + 4)).put (5 * m + 4) ⟨e.c, e.r - nI (16 * m), S.time⟩)).row
    rw [hR1]
    refine ⟨?_, ?_, ?_⟩
    · intro i hi x hx
      rcases hmem i x hx with hx | hx
      · exact h.rw.ru i hi x hx
      · omega
    · intro m' c' h1 h2 x hx
      rcases hmem _ x hx with hx | hx
      · exact h.rw.id m' c' h1 h2 x hx
      · omega
    · intro t' x hx
      rcases hmem _ x hx with hx | hx
      · exact h.rw.b t' x hx
      · omega
  · intro m' hm'
    have hm' : m' < S.nm := hm'
    show EMc m' ((((S.drop (5 * (4 + t) + 4)).put (5 * m + 4) ⟨e.c, e.r - nI (16 * m), S.time⟩)).row (5 * m' + 1)) ((((S.drop (5 * (4 + t) + 4)).put (5 * m + 4) ⟨e.c, e.r - nI (16 * m), S.time⟩)).row (5 * m')) (S.uw.filter (isM m')) S.tk
    rw [hR1, hRo _ (by omega) (by omega), hRo _ (by omega) (by omega)]
    exact h.em m' hm'
  · intro m' hm' id
    have hm' : m' < S.nm := hm'
    show NCc m' id ((((S.drop (5 * (4 + t) + 4)).put (5 * m + 4) ⟨e.c, e.r - nI (16 * m), S.time⟩)).row (5 * m')) ((((S.drop (5 * (4 + t) + 4)).put (5 * m + 4) ⟨e.c, e.r - nI (16 * m), S.time⟩)).row (5 * m' + 2)) S.uw S.tk
    rw [hR1, hRo _ (by omega) (by omega), hRo _ (by omega) (by omega)]
    exact h.nc m' hm' id
  · intro t' ht'
    have ht' : t' ≤ S.ns := ht'
    show ∃ Q, TGc (S.uw.filter (isT t')) ((((S.drop (5 * (4 + t) + 4)).put (5 * m + 4) ⟨e.c, e.r - nI (16 * m), S.time⟩)).row (5 * (4 + t') + 1)) ((((S.drop (5 * (4 + t) + 4)).put (5 * m + 4) ⟨e.c, e.r - nI (16 * m), S.time⟩)).row (5 * (4 + t') + 2)) (cmS (S.sw t')) Q ∧ QC S.ns t' (S.sw t') ((((S.drop (5 * (4 + t) + 4)).put (5 * m + 4) ⟨e.c, e.r - nI (16 * m), S.time⟩)).row (5 * (4 + t'))) Q
    rw [hR1, hRo _ (by omega) (by omega), hRo _ (by omega) (by omega), hRo _ (by omega) (by omega)]
    exact h.tg t' ht'
  · intro t' ht' f
    show RCc t' f U ((((S.drop (5 * (4 + t) + 4)).put (5 * m + 4) ⟨e.c, e.r - nI (16 * m), S.time⟩)).row (5 * (4 + t') + 4)) ((((S.drop (5 * (4 + t) + 4)).put (5 * m + 4) ⟨e.c, e.r - nI (16 * m), S.time⟩)).row (5 * (4 + t') + 3)) (S.sr t')
    rw [hR1, hRo (5 * (4 + t') + 3) (by omega) (by omega)]
    exact u4 t' ht' f
  · show ((((S.drop (5 * (4 + t) + 4)).put (5 * m + 4) ⟨e.c, e.r - nI (16 * m), S.time⟩)).row (5 * (4 + S.ns) + 3) = [] → S.dbeat = 0) ∧ ∀ a l, (((S.drop (5 * (4 + t) + 4)).put (5 * m + 4) ⟨e.c, e.r - nI (16 * m), S.time⟩)).row (5 * (4 + S.ns) + 3) = a :: l → S.dbeat < leN a.c
    rw [hR1, hRo _ (by omega) (by omega)]
    exact h.db
  · intro m' hi
    show ∃ l, va_up S.lg m (some t) m' = some l
    have hi : va_up S.inb m (!rLa e.r) m' = true := hi
    rw [vz_at] at *
    split
    · exact ⟨t, rfl⟩
    · rename_i hne
      rw [if_neg hne] at hi
      exact h.ib m' hi
  · show S.moved + pot (((S.drop (5 * (4 + t) + 4)).put (5 * m + 4) ⟨e.c, e.r - nI (16 * m), S.time⟩)).row ≤ w ∧ w ≤ 60 * S.time + 60
    rw [hR1, hpot]
    exact hmv
