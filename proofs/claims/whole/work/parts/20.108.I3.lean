/-! THE STATE's OWN INVARIANTS: the crossbar moves addresses -/
theorem rw_dp {row : Nat → List RE} {a b : Nat} {e ne : RE} {l : List RE} (hab : a ≠ b) (ha : row a = e :: l) (i : Nat) : va_up (va_up row a (row a).tail) b (va_up row a (row a).tail b ++ [ne]) i = if i = b then row i ++ [ne] else if i = a then l else row i := by
  rw [vz_at]
  by_cases h : i = b
  · rw [if_pos h, if_pos h, vz_ne _ (Ne.symm hab), h]
  · rw [if_neg h, if_neg h, vz_at, ha]; rfl
theorem pot_eq {row R : Nat → List RE} (h : ∀ i, i < 20 → i % 5 = 0 ∨ i % 5 = 3 → R i = row i) : pot R = pot row := by
  unfold pot
  rw [h 0 (by decide) (by decide), h 3 (by decide) (by decide), h 5 (by decide) (by decide), h 8 (by decide) (by decide), h 10 (by decide) (by decide), h 13 (by decide) (by decide), h 15 (by decide) (by decide), h 18 (by decide) (by decide)]
theorem pot_ch {row R : Nat → List RE} {m c x : Nat} (hm : m < 4) (hc : c = 0 ∨ c = 3) (h1 : (R (5 * m + c)).length + x = (row (5 * m + c)).length) (h : ∀ i, i < 20 → i ≠ 5 * m + c → R i = row i) : pot R + x = pot row := by
  have hm4 : m = 0 ∨ m = 1 ∨ m = 2 ∨ m = 3 := by omega
  unfold pot
  rcases hc with rfl | rfl <;> rcases hm4 with rfl | rfl | rfl | rfl
  · rw [h 3 (by decide) (by decide), h 5 (by decide) (by decide), h 8 (by decide) (by decide), h 10 (by decide) (by decide), h 13 (by decide) (by decide), h 15 (by decide) (by decide), h 18 (by decide) (by decide)]; simp only [Nat.mul_zero, Nat.zero_add] at h1; omega
  · rw [h 0 (by decide) (by decide), h 3 (by decide) (by decide), h 8 (by decide) (by decide), h 10 (by decide) (by decide), h 13 (by decide) (by decide), h 15 (by decide) (by decide), h 18 (by decide) (by decide)]; simp only [Nat.mul_one, Nat.add_zero] at h1; omega
  · rw [h 0 (by decide) (by decide), h 3 (by decide) (by decide), h 5 (by decide) (by decide), h 8 (by decide) (by decide), h 13 (by decide) (by decide), h 15 (by decide) (by decide), h 18 (by decide) (by decide)]; have h1' : (R 10).length + x = (row 10).length := h1; omega
  · rw [h 0 (by decide) (by decide), h 3 (by decide) (by decide), h 5 (by decide) (by decide), h 8 (by decide) (by decide), h 10 (by decide) (by decide), h 13 (by decide) (by decide), h 18 (by decide) (by decide)]; have h1' : (R 15).length + x = (row 15).length := h1; omega
  · rw [h 0 (by decide) (by decide), h 5 (by decide) (by decide), h 8 (by decide) (by decide), h 10 (by decide) (by decide), h 13 (by decide) (by decide), h 15 (by decide) (by decide), h 18 (by decide) (by decide)]; have h1' : (R 3).length + x = (row 3).length := h1; omega
  · rw [h 0 (by decide) (by decide), h 3 (by decide) (by decide), h 5 (by decide) (by decide), h 10 (by decide) (by decide), h 13 (by decide) (by decide), h 15 (by decide) (by decide), h 18 (by decide) (by decide)]; have h1' : (R 8).length + x = (row 8).length := h1; omega
  · rw [h 0 (by decide) (by decide), h 3 (by decide) (by decide), h 5 (by decide) (by decide), h 8 (by decide) (by decide), h 10 (by decide) (by decide), h 15 (by decide) (by decide), h 18 (by decide) (by decide)]; have h1' : (R 13).length + x = (row 13).length := h1; omega
  · rw [h 0 (by decide) (by decide), h 3 (by decide) (by decide), h 5 (by decide) (by decide), h 8 (by decide) (by decide), h 10 (by decide) (by decide), h 13 (by decide) (by decide), h 15 (by decide) (by decide)]; have h1' : (R 18).length + x = (row 18).length := h1; omega
theorem fil_add {p : UE → Bool} {l : List UE} {u : UE} (h : p u = false) : (l ++ [u]).filter p = l.filter p := by
  rw [List.filter_append, List.filter_cons, h]; simp
theorem fil_ad1 {p : UE → Bool} {l : List UE} {u : UE} (h : p u = true) : (l ++ [u]).filter p = l.filter p ++ [u] := by
  rw [List.filter_append, List.filter_cons, h]; simp
theorem may_tgt {S : XS} {c m t : Nat} {e : RE} {l : List RE} (h : S.may c m t = true) (he : S.row (5 * m + c) = e :: l) : S.tgt e.c = t ∧ S.mayG (if c = 0 then S.uw else S.ur) m t (idN e.c) = true := by
  unfold XS.may at h
  rw [he] at h
  simpa using h
/-- an address of a write goes to its target -/
theorem Cr.movA0 {S : XS} {w t : Nat} (h : Cr S w) (ht : t ≤ S.ns) : Cr (S.movA 0 t) w := by
  unfold XS.movA
  split
  · exact h
  · rename_i hrm
    split
    · exact h
    · rename_i m hm
      split
      · exact h
      · rename_i e l he
        have hrm' : S.hasRm (5 * (4 + t) + 0) = true := by simpa using hrm
        obtain ⟨hmay, hmn⟩ := arb_some h.bd hrm' hm
        obtain ⟨htg, hgo⟩ := may_tgt hmay he
        rw [if_pos rfl] at hgo
        rw [Nat.add_zero] at he
        have hn4 := h.bd.nm
        have hs4 := h.bd.ns
        have hid : idN e.c < 16 := h.rw.id m 0 (by omega) (Or.inl rfl) e (by rw [Nat.add_zero, he]; simp)
        have hru : ruN e.c = 0 := h.rw.ru (5 * m) (by omega) e (by rw [he]; simp)
        obtain ⟨a1, a2, a3⟩ := idN_add hid (show m < 4 by omega)
        have hR := rw_dp (row := S.row) (a := 5 * m + 0) (b := 5 * (4 + t) + 0) (ne := ⟨e.c + nL (16 * m), 0, S.time⟩) (by omega) he
        simp only [Nat.add_zero] at hR
        have hRo : ∀ i, i ≠ 5 * (4 + t) → i ≠ 5 * m → va_up (va_up S.row (5 * m) (S.row (5 * m)).tail) (5 * (4 + t)) (va_up S.row (5 * m) (S.row (5 * m)).tail (5 * (4 + t)) ++ [⟨e.c + nL (16 * m), 0, S.time⟩]) i = S.row i := by
          intro i h1 h2
          rw [hR, if_neg h1, if_neg h2]
        have hRt := hR (5 * (4 + t))
        rw [if_pos rfl] at hRt
        have hRm := hR (5 * m)
        rw [if_neg (by omega), if_pos rfl] at hRm
        simp only [if_true, Nat.add_zero]
        generalize hRr : va_up (va_up S.row (5 * m) (S.row (5 * m)).tail) (5 * (4 + t)) (va_up S.row (5 * m) (S.row (5 * m)).tail (5 * (4 + t)) ++ [⟨e.c + nL (16 * m), 0, S.time⟩]) = R at *
        have hmem : ∀ i, ∀ x ∈ R i, x ∈ S.row i ∨ (i = 5 * (4 + t) ∧ x = ⟨e.c + nL (16 * m), 0, S.time⟩) := by
          intro i x hx
          rw [hR] at hx
          split at hx
          · rcases List.mem_append.mp hx with hx | hx
            · exact Or.inl hx
            · exact Or.inr ⟨by assumption, List.mem_singleton.mp hx⟩
          · split at hx
            · rename_i e1 e2
              left
              rw [e2, he]
              exact List.mem_cons_of_mem _ hx
            · exact Or.inl hx
        have hsr : ((S.drop (5 * m)).put (5 * (4 + t)) ⟨e.c + nL (16 * m), 0, S.time⟩).row = R := hRr
        have hpot : pot R + 1 = pot S.row := pot_ch (m := m) (c := 0) (by omega) (Or.inl rfl) (by show (R (5 * m)).length + 1 = (S.row (5 * m)).length; rw [hRm, he]; rfl) (fun i h1 h2 => hRo i (by omega) (by omega))
        have hmv := h.mv
        refine ⟨?_, h.tb, h.tk, ?_, ?_, h.ur, ?_, ?_, ?_, ?_, ?_, ?_, h.mo, h.cb, h.ch, h.ib, h.ou, ?_⟩
        · refine ⟨h.bd.nm, h.bd.ns, h.bd.lim, h.bd.pol, h.bd.time, h.bd.db, ?_, h.bd.pages, h.bd.mpat, h.bd.spat, h.bd.delay, h.bd.way, h.bd.mem, h.bd.sw, h.bd.sr, h.bd.rnum, h.bd.lat, ?_, h.bd.ur, ?_, h.bd.lr, h.bd.lb, h.bd.lg, h.bd.rgt, ?_, h.bd.tk⟩
          · show S.moved + 1 ≤ 60 * S.time + 60
            omega
          · intro u hu
            rcases List.mem_append.mp hu with hu | hu
            · exact h.bd.uw u hu
            · rw [List.mem_singleton.mp hu]
              exact ⟨by show m < 4; omega, hid, by show t < 5; omega, leN_le _⟩
          · intro t' m' h'
            have h' : va_up S.la t (some m) t' = some m' := h'
            rw [vz_at] at h'
            split at h'
            · cases h'; exact hmn
            · exact h.bd.la t' m' h'
          · show ∀ i, ∀ x ∈ ((S.drop (5 * m)).put (5 * (4 + t)) ⟨e.c + nL (16 * m), 0, S.time⟩).row i, x.t < 2 ^ 24
            rw [hsr]
            intro i x hx
            rcases hmem i x hx with hx | hx
            · exact h.bd.rowT i x hx
            · rw [hx.2]; exact h.bd.time
        · show IR ((S.drop (5 * m)).put (5 * (4 + t)) ⟨e.c + nL (16 * m), 0, S.time⟩).row
          rw [hsr]
          refine ⟨?_, ?_, ?_⟩
          · intro i hi x hx
            rcases hmem i x hx with hx | hx
            · exact h.rw.ru i hi x hx
            · rw [hx.2]; exact a3.trans hru
          · intro m' c' h1 h2 x hx
            rcases hmem _ x hx with hx | hx
            · exact h.rw.id m' c' h1 h2 x hx
            · omega
          · intro t' x hx
            rcases hmem _ x hx with hx | hx
            · exact h.rw.b t' x hx
            · omega
        · exact h.uw.add hgo h.bd.lim.2 hmn hid ht
        · refine ⟨?_, ?_⟩
          · show (S.uw ++ [_]).Pairwise _
            rw [List.pairwise_append]
            refine ⟨h.pw.1, List.pairwise_singleton _ _, fun a ha b hb => ?_⟩
            rw [List.mem_singleton.mp hb]
            exact h.pw.2 a ha
          · intro u hu
            rcases List.mem_append.mp hu with hu | hu
            · exact Nat.lt_succ_of_lt (h.pw.2 u hu)
            · rw [List.mem_singleton.mp hu]; exact Nat.lt_succ_self _
        · intro m' hm'
          have hm' : m' < S.nm := hm'
          have h0 := h.em m' hm'
          show EMc m' (((S.drop (5 * m)).put (5 * (4 + t)) ⟨e.c + nL (16 * m), 0, S.time⟩).row (5 * m' + 1)) (((S.drop (5 * m)).put (5 * (4 + t)) ⟨e.c + nL (16 * m), 0, S.time⟩).row (5 * m')) ((S.uw ++ [(⟨m, idN e.c, t, leN e.c, S.moved⟩ : UE)]).filter (isM m')) S.tk
          rw [hsr, hRo (5 * m' + 1) (by omega) (by omega)]
          by_cases hmm : m' = m
          · subst hmm
            rw [hRm, fil_ad1 (by unfold isM; exact decide_eq_true rfl)]
            rw [he] at h0
            exact h0.movA rfl
          · rw [hRo (5 * m') (by omega) (by omega), fil_add (by unfold isM; exact decide_eq_false (Ne.symm hmm))]
            exact h0
        · intro m' hm' id
          have hm' : m' < S.nm := hm'
          have h0 := h.nc m' hm' id
          show NCc m' id (((S.drop (5 * m)).put (5 * (4 + t)) ⟨e.c + nL (16 * m), 0, S.time⟩).row (5 * m')) (((S.drop (5 * m)).put (5 * (4 + t)) ⟨e.c + nL (16 * m), 0, S.time⟩).row (5 * m' + 2)) (S.uw ++ [(⟨m, idN e.c, t, leN e.c, S.moved⟩ : UE)]) S.tk
          rw [hsr, hRo (5 * m' + 2) (by omega) (by omega)]
          unfold NCc at *
          rw [List.countP_append, List.countP_cons, List.countP_nil]
          by_cases hmm : m' = m
          · subst hmm
            rw [hRm]
            rw [he, List.countP_cons] at h0
            have : pMid m' id ⟨m', idN e.c, t, leN e.c, S.moved⟩ = decide (idN e.c = id) := by
              show (decide (m' = m') && decide (idN e.c = id)) = _
              simp
            rw [this]
            omega
          · rw [hRo (5 * m') (by omega) (by omega)]
            have : pMid m' id ⟨m, idN e.c, t, leN e.c, S.moved⟩ = false := by
              show (decide (m = m') && decide (idN e.c = id)) = _
              rw [decide_eq_false (Ne.symm hmm)]; rfl
            rw [this]
            simp only [Bool.false_eq_true, if_false]
            omega
        · intro t' ht'
          obtain ⟨Q, q1, q2⟩ := h.tg t' ht'
          have ht' : t' ≤ S.ns := ht'
          show ∃ Q, TGc ((S.uw ++ [(⟨m, idN e.c, t, leN e.c, S.moved⟩ : UE)]).filter (isT t')) (((S.drop (5 * m)).put (5 * (4 + t)) ⟨e.c + nL (16 * m), 0, S.time⟩).row (5 * (4 + t') + 1)) (((S.drop (5 * m)).put (5 * (4 + t)) ⟨e.c + nL (16 * m), 0, S.time⟩).row (5 * (4 + t') + 2)) (cmS (S.sw t')) Q ∧ QC S.ns t' (S.sw t') (((S.drop (5 * m)).put (5 * (4 + t)) ⟨e.c + nL (16 * m), 0, S.time⟩).row (5 * (4 + t'))) Q
          rw [hsr, hRo (5 * (4 + t') + 1) (by omega) (by omega), hRo (5 * (4 + t') + 2) (by omega) (by omega)]
          by_cases htt : t' = t
          · subst htt
            rw [fil_ad1 (by unfold isT; exact decide_eq_true rfl), hRt]
            refine ⟨_, q1.add _ (leN_pos _), ?_⟩
            have hf : fid ⟨m, idN e.c, t', leN e.c, S.moved⟩ = 16 * m + idN e.c := rfl
            refine ⟨fun g => ?_, fun g => ?_⟩
            · rw [q2.1 g]
              unfold awQ
              rw [List.map_append, ← List.append_assoc]
              congr 1
              show [(_, leN e.c)] = [(idN (e.c + nL (16 * m)), leN (e.c + nL (16 * m)))]
              rw [a1, a2, hf]
            · rw [List.map_append, List.map_append, q2.2 g]
              congr 1
              show [_] = [idN (e.c + nL (16 * m))]
              rw [a1]; rfl
          · rw [hRo (5 * (4 + t')) (by omega) (by omega), fil_add (by unfold isT; exact decide_eq_false (Ne.symm htt))]
            exact ⟨Q, q1, q2⟩
        · intro t' ht' f
          show RCc t' f S.ur (((S.drop (5 * m)).put (5 * (4 + t)) ⟨e.c + nL (16 * m), 0, S.time⟩).row (5 * (4 + t') + 4)) (((S.drop (5 * m)).put (5 * (4 + t)) ⟨e.c + nL (16 * m), 0, S.time⟩).row (5 * (4 + t') + 3)) (S.sr t')
          rw [hsr, hRo (5 * (4 + t') + 4) (by omega) (by omega), hRo (5 * (4 + t') + 3) (by omega) (by omega)]
          exact h.rc t' ht' f
        · show (((S.drop (5 * m)).put (5 * (4 + t)) ⟨e.c + nL (16 * m), 0, S.time⟩).row (5 * (4 + S.ns) + 3) = [] → S.dbeat = 0) ∧ ∀ a l, ((S.drop (5 * m)).put (5 * (4 + t)) ⟨e.c + nL (16 * m), 0, S.time⟩).row (5 * (4 + S.ns) + 3) = a :: l → S.dbeat < leN a.c
          rw [hsr, hRo (5 * (4 + S.ns) + 3) (by omega) (by omega)]
          exact h.db
        · show S.moved + 1 + pot ((S.drop (5 * m)).put (5 * (4 + t)) ⟨e.c + nL (16 * m), 0, S.time⟩).row ≤ w ∧ w ≤ 60 * S.time + 60
          rw [hsr]
          omega
