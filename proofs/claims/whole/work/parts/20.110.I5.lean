/-! THE STATE's OWN INVARIANTS: the crossbar moves data -/
theorem fi_split {α : Type} {p : α → Bool} {l : List α} {k : Nat} {u : α} (h : l.findIdx? p = some k) (hu : l[k]? = some u) : ∃ l1 l2, l = l1 ++ u :: l2 ∧ l1.length = k ∧ (∀ v ∈ l1, p v = false) ∧ p u = true := by
  rw [List.findIdx?_eq_some_iff_getElem] at h
  obtain ⟨hk, h1, h2⟩ := h
  have hu' : l[k] = u := by
    rw [List.getElem?_eq_getElem hk] at hu
    exact Option.some.inj hu
  refine ⟨l.take k, l.drop (k + 1), ?_, ?_, ?_, ?_⟩
  · rw [← hu', List.getElem_cons_drop, List.take_append_drop]
  · rw [List.length_take]; omega
  · intro v hv
    obtain ⟨j, hj, hjv⟩ := List.mem_iff_getElem.mp hv
    rw [List.length_take] at hj
    rw [List.getElem_take] at hjv
    have := h2 j (by omega)
    rw [hjv] at this
    simpa using this
  · rw [← hu']; exact h1
theorem set_mid {α : Type} {l1 l2 : List α} {u v : α} {k : Nat} (h : l1.length = k) : (l1 ++ u :: l2).set k v = l1 ++ v :: l2 := by
  subst h; simp
theorem mem_mid {α : Type} {l1 l2 : List α} {u x : α} (h : x ∈ l1 ++ u :: l2) : x = u ∨ (x ∈ l1 ∨ x ∈ l2) := by
  rcases List.mem_append.mp h with h | h
  · exact Or.inr (Or.inl h)
  · rcases List.mem_cons.mp h with h | h
    · exact Or.inl h
    · exact Or.inr (Or.inr h)
theorem mid_mem {α : Type} {l1 l2 : List α} {u x : α} (h : x = u ∨ (x ∈ l1 ∨ x ∈ l2)) : x ∈ l1 ++ u :: l2 := by
  rcases h with h | h | h
  · rw [h]; simp
  · exact List.mem_append_left _ h
  · exact List.mem_append_right _ (List.mem_cons_of_mem _ h)
theorem IU.chg {l1 l2 : List UE} {u v : UE} {nm ns : Nat} (h : IU (l1 ++ u :: l2) nm ns) (e1 : v.m = u.m) (e2 : v.id = u.id) (e3 : v.tg = u.tg) : IU (l1 ++ v :: l2) nm ns := by
  have hx : ∀ x ∈ l1 ++ v :: l2, ∃ y ∈ l1 ++ u :: l2, x.m = y.m ∧ x.id = y.id ∧ x.tg = y.tg := by
    intro x hx
    rcases mem_mid hx with hx | hx
    · exact ⟨u, mid_mem (Or.inl rfl), by rw [hx]; exact ⟨e1, e2, e3⟩⟩
    · exact ⟨x, mid_mem (Or.inr hx), rfl, rfl, rfl⟩
  refine ⟨?_, ?_, ?_⟩
  · intro x hx1
    obtain ⟨y, hy, g1, g2, g3⟩ := hx x hx1
    rw [g1, g2, g3]
    exact h.m y hy
  · intro m
    have := h.cn m
    rw [filter_split] at *
    rw [show isM m v = isM m u by unfold isM; rw [e1]]
    have hz : (l1.filter (isM m) ++ ((if isM m u = true then [v] else []) ++ l2.filter (isM m))).length = (l1.filter (isM m) ++ ((if isM m u = true then [u] else []) ++ l2.filter (isM m))).length := by
      split <;> simp
    rw [hz]
    exact this
  · intro x hx1 y hy1 d1 d2
    obtain ⟨x', hx', g1, g2, g3⟩ := hx x hx1
    obtain ⟨y', hy', g4, g5, g6⟩ := hx y hy1
    rw [g3, g6]
    exact h.sm x' hx' y' hy' (by rw [← g1, ← g4]; exact d1) (by rw [← g2, ← g5]; exact d2)
theorem pw_chg {l1 l2 : List UE} {u v : UE} (h : (l1 ++ u :: l2).Pairwise (fun a b => a.num < b.num)) (e : v.num = u.num) : (l1 ++ v :: l2).Pairwise (fun a b => a.num < b.num) := by
  rw [List.pairwise_append, List.pairwise_cons] at *
  refine ⟨h.1, ⟨fun a ha => by rw [e]; exact h.2.1.1 a ha, h.2.1.2⟩, fun a ha b hb => ?_⟩
  rcases List.mem_cons.mp hb with hb | hb
  · rw [hb, e]; exact h.2.2 a ha u (List.mem_cons_self ..)
  · exact h.2.2 a ha b (List.mem_cons_of_mem _ hb)
theorem rw_pd {row : Nat → List RE} {a b : Nat} {e ne : RE} {l : List RE} (hab : a ≠ b) (ha : row a = e :: l) (i : Nat) : va_up (va_up row b (row b ++ [ne])) a (va_up row b (row b ++ [ne]) a).tail i = if i = b then row i ++ [ne] else if i = a then l else row i := by
  rw [vz_at]
  by_cases h : i = a
  · rw [if_pos h, if_neg (by omega), if_pos h, vz_ne _ hab, ha]; rfl
  · rw [if_neg h, if_neg h, vz_at]
    by_cases h2 : i = b
    · rw [if_pos h2, if_pos h2, h2]
    · rw [if_neg h2, if_neg h2]
theorem Cr.movD {S : XS} {w m : Nat} (h : Cr S w) (hm : m < S.nm) : Cr (S.movD m) w := by
  unfold XS.movD
  split
  · rename_i e l k he hk
    split
    · exact h
    · rename_i u hu
      split
      · rename_i hc
        obtain ⟨l1, l2, g1, g2, g3, g4⟩ := fi_split hk hu
        obtain ⟨l1', l2', g1', g2', g3', g4'⟩ := fi_split hc.2 hu
        have hll : l1' = l1 := by
          have : (l1' ++ u :: l2').take k = (l1 ++ u :: l2).take k := by rw [← g1, ← g1']
          rw [← g2, List.take_left, g2, ← g2', List.take_left] at this
          exact this
        subst hll
        clear g1' g2' g4'
        simp only [Bool.and_eq_true, decide_eq_true_eq] at g4
        have hn4 := h.bd.nm
        have hs4 := h.bd.ns
        have hum := h.uw.m u (by rw [g1]; exact mid_mem (Or.inl rfl))
        have hR := rw_pd (row := S.row) (a := 5 * m + 1) (b := 5 * (4 + u.tg) + 1) (ne := ⟨e.c, e.r, S.time⟩) (by omega) he
        have hRo : ∀ i, i ≠ 5 * (4 + u.tg) + 1 → i ≠ 5 * m + 1 → (((S.put (5 * (4 + u.tg) + 1) ⟨e.c, e.r, S.time⟩).drop (5 * m + 1))).row i = S.row i := by
          intro i h1 h2
          exact (hR i).trans (by rw [if_neg h1, if_neg h2])
        have hRt : (((S.put (5 * (4 + u.tg) + 1) ⟨e.c, e.r, S.time⟩).drop (5 * m + 1))).row (5 * (4 + u.tg) + 1) = S.row (5 * (4 + u.tg) + 1) ++ [⟨e.c, e.r, S.time⟩] := (hR _).trans (by rw [if_pos rfl])
        have hRm : (((S.put (5 * (4 + u.tg) + 1) ⟨e.c, e.r, S.time⟩).drop (5 * m + 1))).row (5 * m + 1) = l := (hR _).trans (by rw [if_neg (by omega), if_pos rfl])
        generalize hR1 : (((S.put (5 * (4 + u.tg) + 1) ⟨e.c, e.r, S.time⟩).drop (5 * m + 1))).row = R at *
        have hpot : pot R = pot S.row := pot_eq (fun i h1 h2 => hRo i (by omega) (by omega))
        have hus : S.uw.set k (((u.w_left (u.left - 1)) : UE)) = l1' ++ (((u.w_left (u.left - 1)) : UE)) :: l2 := by rw [g1]; exact set_mid g2
        have hmv := h.mv
        have hem := h.em m hm
        rw [he, g1, filter_split, show isM m u = true by unfold isM; exact decide_eq_true g4.1, if_pos rfl] at hem
        have hz1 : ∀ v ∈ l1'.filter (isM m), v.left = 0 := by
          intro v hv
          obtain ⟨hv1, hv2⟩ := List.mem_filter.mp hv
          have := g3 v hv1
          unfold isM at hv2
          rw [hv2] at this
          simpa using this
        obtain ⟨hla, hem2⟩ := EMc.movD (l2 := l2.filter (isM m)) hem hz1 g4.2
        have hz2 : ∀ v ∈ l1'.filter (isT u.tg), v.left = 0 := by
          intro v hv
          obtain ⟨hv1, hv2⟩ := List.mem_filter.mp hv
          have := g3' v hv1
          unfold isT at hv2
          rw [hv2] at this
          simpa using this
        refine ⟨?_, h.tb, h.tk, ?_, ?_, h.ur, ?_, ?_, ?_, ?_, ?_, ?_, h.mo, h.cb, h.ch, h.ib, h.ou, ?_⟩
        · refine ⟨h.bd.nm, h.bd.ns, h.bd.lim, h.bd.pol, h.bd.time, h.bd.db, h.bd.moved, h.bd.pages, h.bd.mpat, h.bd.spat, h.bd.delay, h.bd.way, h.bd.mem, h.bd.sw, h.bd.sr, h.bd.rnum, h.bd.lat, ?_, h.bd.ur, h.bd.la, h.bd.lr, h.bd.lb, h.bd.lg, h.bd.rgt, ?_, h.bd.tk⟩
          · show ∀ x ∈ S.uw.set k (((u.w_left (u.left - 1)) : UE)), _
            rw [hus]
            intro x hx
            rcases mem_mid hx with hx | hx
            · have := h.bd.uw u (by rw [g1]; exact mid_mem (Or.inl rfl))
              rw [hx]
              exact ⟨this.1, this.2.1, this.2.2.1, by show u.left - 1 ≤ 16; omega⟩
            · exact h.bd.uw x (by rw [g1]; exact mid_mem (Or.inr hx))
          · show ∀ i, ∀ x ∈ (((S.put (5 * (4 + u.tg) + 1) ⟨e.c, e.r, S.time⟩).drop (5 * m + 1))).row i, x.t < 2 ^ 24
            rw [hR1]
            intro i x hx
            by_cases h1 : i = 5 * (4 + u.tg) + 1
            · rw [h1, hRt] at hx
              rcases List.mem_append.mp hx with hx | hx
              · exact h.bd.rowT _ x hx
              · rw [List.mem_singleton.mp hx]; exact h.bd.time
            · by_cases h2 : i = 5 * m + 1
              · rw [h2, hRm] at hx
                exact h.bd.rowT (5 * m + 1) x (by rw [he]; exact List.mem_cons_of_mem _ hx)
              · rw [hRo i h1 h2] at hx
                exact h.bd.rowT i x hx
        · show IR (((S.put (5 * (4 + u.tg) + 1) ⟨e.c, e.r, S.time⟩).drop (5 * m + 1))).row
          rw [hR1]
          refine ⟨?_, ?_, ?_⟩
          · intro i hi x hx
            rw [hRo i (by omega) (by omega)] at hx
            exact h.rw.ru i hi x hx
          · intro m' c' h1 h2 x hx
            rw [hRo _ (by omega) (by omega)] at hx
            exact h.rw.id m' c' h1 h2 x hx
          · intro t' x hx
            rw [hRo _ (by omega) (by omega)] at hx
            exact h.rw.b t' x hx
        · show IU (S.uw.set k (((u.w_left (u.left - 1)) : UE))) S.nm S.ns
          rw [hus]
          have := h.uw
          rw [g1] at this
          exact this.chg rfl rfl rfl
        · show (S.uw.set k (((u.w_left (u.left - 1)) : UE))).Pairwise _ ∧ ∀ x ∈ S.uw.set k (((u.w_left (u.left - 1)) : UE)), x.num < S.moved
          rw [hus]
          have := h.pw
          rw [g1] at this
          refine ⟨pw_chg this.1 rfl, fun x hx => ?_⟩
          rcases mem_mid hx with hx | hx
          · rw [hx]; exact this.2 u (mid_mem (Or.inl rfl))
          · exact this.2 x (mid_mem (Or.inr hx))
        · intro m' hm'
          have hm' : m' < S.nm := hm'
          show EMc m' ((((S.put (5 * (4 + u.tg) + 1) ⟨e.c, e.r, S.time⟩).drop (5 * m + 1))).row (5 * m' + 1)) ((((S.put (5 * (4 + u.tg) + 1) ⟨e.c, e.r, S.time⟩).drop (5 * m + 1))).row (5 * m')) ((S.uw.set k (((u.w_left (u.left - 1)) : UE))).filter (isM m')) S.tk
          rw [hR1, hus, filter_split, hRo (5 * m') (by omega) (by omega)]
          by_cases hmm : m' = m
          · subst hmm
            rw [hRm, show isM m' (((u.w_left (u.left - 1)) : UE)) = true by unfold isM; exact decide_eq_true g4.1, if_pos rfl]
            exact hem2
          · have h0 := h.em m' hm'
            rw [g1, filter_split, show isM m' u = false by unfold isM; exact decide_eq_false (by omega)] at h0
            rw [hRo (5 * m' + 1) (by omega) (by omega), show isM m' (((u.w_left (u.left - 1)) : UE)) = false by unfold isM; exact decide_eq_false (by show ¬ u.m = m'; omega)]
            exact h0
        · intro m' hm' id
          have hm' : m' < S.nm := hm'
          have h0 := h.nc m' hm' id
          show NCc m' id ((((S.put (5 * (4 + u.tg) + 1) ⟨e.c, e.r, S.time⟩).drop (5 * m + 1))).row (5 * m')) ((((S.put (5 * (4 + u.tg) + 1) ⟨e.c, e.r, S.time⟩).drop (5 * m + 1))).row (5 * m' + 2)) (S.uw.set k (((u.w_left (u.left - 1)) : UE))) S.tk
          rw [hR1, hus, hRo (5 * m' + 2) (by omega) (by omega), hRo (5 * m') (by omega) (by omega)]
          unfold NCc at *
          rw [g1, List.countP_append, List.countP_cons] at h0
          rw [List.countP_append, List.countP_cons]
          exact h0
        · intro t' ht'
          obtain ⟨Q, q1, q2⟩ := h.tg t' ht'
          refine ⟨Q, ?_, ?_⟩
          · show TGc ((S.uw.set k (((u.w_left (u.left - 1)) : UE))).filter (isT t')) ((((S.put (5 * (4 + u.tg) + 1) ⟨e.c, e.r, S.time⟩).drop (5 * m + 1))).row (5 * (4 + t') + 1)) ((((S.put (5 * (4 + u.tg) + 1) ⟨e.c, e.r, S.time⟩).drop (5 * m + 1))).row (5 * (4 + t') + 2)) (cmS (S.sw t')) Q
            rw [hR1, hus, filter_split, hRo (5 * (4 + t') + 2) (by omega) (by omega)]
            rw [g1, filter_split] at q1
            by_cases htt : t' = u.tg
            · subst htt
              rw [show isT u.tg u = true by unfold isT; exact decide_eq_true rfl, if_pos rfl] at q1
              rw [hRt, show isT u.tg (((u.w_left (u.left - 1)) : UE)) = true by unfold isT; exact decide_eq_true rfl, if_pos rfl]
              exact TGc.beat (l2 := l2.filter (isT u.tg)) q1 hz2 g4.2 hla
            · rw [show isT t' u = false by unfold isT; exact decide_eq_false (Ne.symm htt)] at q1
              rw [hRo (5 * (4 + t') + 1) (by omega) (by omega), show isT t' (((u.w_left (u.left - 1)) : UE)) = false by unfold isT; exact decide_eq_false (Ne.symm htt)]
              exact q1
          · show QC S.ns t' (S.sw t') ((((S.put (5 * (4 + u.tg) + 1) ⟨e.c, e.r, S.time⟩).drop (5 * m + 1))).row (5 * (4 + t'))) Q
            rw [hR1, hRo (5 * (4 + t')) (by omega) (by omega)]
            exact q2
        · intro t' ht' f
          show RCc t' f S.ur ((((S.put (5 * (4 + u.tg) + 1) ⟨e.c, e.r, S.time⟩).drop (5 * m + 1))).row (5 * (4 + t') + 4)) ((((S.put (5 * (4 + u.tg) + 1) ⟨e.c, e.r, S.time⟩).drop (5 * m + 1))).row (5 * (4 + t') + 3)) (S.sr t')
          rw [hR1, hRo (5 * (4 + t') + 4) (by omega) (by omega), hRo (5 * (4 + t') + 3) (by omega) (by omega)]
          exact h.rc t' ht' f
        · show ((((S.put (5 * (4 + u.tg) + 1) ⟨e.c, e.r, S.time⟩).drop (5 * m + 1))).row (5 * (4 + S.ns) + 3) = [] → S.dbeat = 0) ∧ ∀ a l, (((S.put (5 * (4 + u.tg) + 1) ⟨e.c, e.r, S.time⟩).drop (5 * m + 1))).row (5 * (4 + S.ns) + 3) = a :: l → S.dbeat < leN a.c
          rw [hR1, hRo (5 * (4 + S.ns) + 3) (by omega) (by omega)]
          exact h.db
        · show S.moved + pot (((S.put (5 * (4 + u.tg) + 1) ⟨e.c, e.r, S.time⟩).drop (5 * m + 1))).row ≤ w ∧ w ≤ 60 * S.time + 60
          rw [hR1, hpot]
          exact hmv
      · exact h
  · exact h
