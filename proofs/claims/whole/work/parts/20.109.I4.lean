/-! THE STATE's OWN INVARIANTS: the crossbar moves addresses of reads -/
theorem Cr.movA3 {S : XS} {w t : Nat} (h : Cr S w) (ht : t ≤ S.ns) : Cr (S.movA 3 t) w := by
  unfold XS.movA
  split
  · exact h
  · rename_i hrm
    split
    · exact h
    · rename_i m hm
      split
      · exact h
      · rename_i e l he
        have hrm' : S.hasRm (5 * (4 + t) + 3) = true := by simpa using hrm
        obtain ⟨hmay, hmn⟩ := arb_some h.bd hrm' hm
        obtain ⟨htg, hgo⟩ := may_tgt hmay he
        rw [if_neg (by decide)] at hgo
        have hn4 := h.bd.nm
        have hs4 := h.bd.ns
        have hid : idN e.c < 16 := h.rw.id m 3 (by omega) (Or.inr rfl) e (by rw [he]; simp)
        have hru : ruN e.c = 0 := h.rw.ru (5 * m + 3) (by omega) e (by rw [he]; simp)
        obtain ⟨a1, a2, a3⟩ := idN_add hid (show m < 4 by omega)
        have hR := rw_dp (row := S.row) (a := 5 * m + 3) (b := 5 * (4 + t) + 3) (ne := ⟨e.c + nL (16 * m), 0, S.time⟩) (by omega) he
        have hRo : ∀ i, i ≠ 5 * (4 + t) + 3 → i ≠ 5 * m + 3 → (((S.drop (5 * m + 3)).put (5 * (4 + t) + 3) ⟨e.c + nL (16 * m), 0, S.time⟩)).row i = S.row i := by
          intro i h1 h2
          exact (hR i).trans (by rw [if_neg h1, if_neg h2])
        have hRt : (((S.drop (5 * m + 3)).put (5 * (4 + t) + 3) ⟨e.c + nL (16 * m), 0, S.time⟩)).row (5 * (4 + t) + 3) = S.row (5 * (4 + t) + 3) ++ [⟨e.c + nL (16 * m), 0, S.time⟩] := (hR _).trans (by rw [if_pos rfl])
        have hRm : (((S.drop (5 * m + 3)).put (5 * (4 + t) + 3) ⟨e.c + nL (16 * m), 0, S.time⟩)).row (5 * m + 3) = l := (hR _).trans (by rw [if_neg (by omega), if_pos rfl])
        simp only [show ¬ (3 : Nat) = 0 by decide, if_false]
        generalize hR1 : (((S.drop (5 * m + 3)).put (5 * (4 + t) + 3) ⟨e.c + nL (16 * m), 0, S.time⟩)).row = R at *
        have hmem : ∀ i, ∀ x ∈ R i, x ∈ S.row i ∨ (i = 5 * (4 + t) + 3 ∧ x = ⟨e.c + nL (16 * m), 0, S.time⟩) := by
          intro i x hx
          by_cases h1 : i = 5 * (4 + t) + 3
          · rw [h1, hRt] at hx
            rcases List.mem_append.mp hx with hx | hx
            · rw [h1]; exact Or.inl hx
            · exact Or.inr ⟨h1, List.mem_singleton.mp hx⟩
          · by_cases h2 : i = 5 * m + 3
            · rw [h2, hRm] at hx
              left
              rw [h2, he]
              exact List.mem_cons_of_mem _ hx
            · rw [hRo i h1 h2] at hx
              exact Or.inl hx
        have hpot : pot R + 1 = pot S.row := pot_ch (m := m) (c := 3) (by omega) (Or.inr rfl) (by rw [hRm, he]; rfl) (fun i h1 h2 => hRo i (by omega) (by omega))
        have hmv := h.mv
        refine ⟨?_, h.tb, h.tk, ?_, h.uw, ?_, ?_, ?_, ?_, ?_, ?_, ?_, h.mo, h.cb, h.ch, h.ib, h.ou, ?_⟩
        · refine ⟨h.bd.nm, h.bd.ns, h.bd.lim, h.bd.pol, h.bd.time, h.bd.db, ?_, h.bd.pages, h.bd.mpat, h.bd.spat, h.bd.delay, h.bd.way, h.bd.mem, h.bd.sw, h.bd.sr, h.bd.rnum, h.bd.lat, h.bd.uw, ?_, h.bd.la, ?_, h.bd.lb, h.bd.lg, h.bd.rgt, ?_, h.bd.tk⟩
          · show S.moved + 1 ≤ 60 * S.time + 60
            omega
          · intro u hu
            rcases List.mem_append.mp hu with hu | hu
            · exact h.bd.ur u hu
            · rw [List.mem_singleton.mp hu]
              exact ⟨by show m < 4; omega, hid, by show t < 5; omega, rfl⟩
          · intro t' m' h'
            have h' : va_up S.lr t (some m) t' = some m' := h'
            rw [vz_at] at h'
            split at h'
            · cases h'; exact hmn
            · exact h.bd.lr t' m' h'
          · show ∀ i, ∀ x ∈ (((S.drop (5 * m + 3)).put (5 * (4 + t) + 3) ⟨e.c + nL (16 * m), 0, S.time⟩)).row i, x.t < 2 ^ 24
            rw [hR1]
            intro i x hx
            rcases hmem i x hx with hx | hx
            · exact h.bd.rowT i x hx
            · rw [hx.2]; exact h.bd.time
        · show IR (((S.drop (5 * m + 3)).put (5 * (4 + t) + 3) ⟨e.c + nL (16 * m), 0, S.time⟩)).row
          rw [hR1]
          refine ⟨?_, ?_, ?_⟩
          · intro i hi x hx
            rcases hmem i x hx with hx | hx
            · exact h.rw.ru i hi x hx
            · rw [hx.2]; exact a3.trans hru
          · intro m' c' h1 h2 x hx
            rcases hmem _ x hx with hx | hx
            · exact h.rw.id m' c' h1 h2 x hx
            · omega
          · intro t' x hx
            rcases hmem _ x hx with hx | hx
            · exact h.rw.b t' x hx
            · omega
        · exact h.ur.add hgo h.bd.lim.2 hmn hid ht
        · exact ⟨h.pw.1, fun u hu => Nat.lt_succ_of_lt (h.pw.2 u hu)⟩
        · intro m' hm'
          have hm' : m' < S.nm := hm'
          show EMc m' ((((S.drop (5 * m + 3)).put (5 * (4 + t) + 3) ⟨e.c + nL (16 * m), 0, S.time⟩)).row (5 * m' + 1)) ((((S.drop (5 * m + 3)).put (5 * (4 + t) + 3) ⟨e.c + nL (16 * m), 0, S.time⟩)).row (5 * m')) (S.uw.filter (isM m')) S.tk
          rw [hR1, hRo (5 * m' + 1) (by omega) (by omega), hRo (5 * m') (by omega) (by omega)]
          exact h.em m' hm'
        · intro m' hm' id
          have hm' : m' < S.nm := hm'
          show NCc m' id ((((S.drop (5 * m + 3)).put (5 * (4 + t) + 3) ⟨e.c + nL (16 * m), 0, S.time⟩)).row (5 * m')) ((((S.drop (5 * m + 3)).put (5 * (4 + t) + 3) ⟨e.c + nL (16 * m), 0, S.time⟩)).row (5 * m' + 2)) S.uw S.tk
          rw [hR1, hRo (5 * m' + 2) (by omega) (by omega), hRo (5 * m') (by omega) (by omega)]
          exact h.nc m' hm' id
        · intro t' ht'
          show ∃ Q, TGc (S.uw.filter (isT t')) ((((S.drop (5 * m + 3)).put (5 * (4 + t) + 3) ⟨e.c + nL (16 * m), 0, S.time⟩)).row (5 * (4 + t') + 1)) ((((S.drop (5 * m + 3)).put (5 * (4 + t) + 3) ⟨e.c + nL (16 * m), 0, S.time⟩)).row (5 * (4 + t') + 2)) (cmS (S.sw t')) Q ∧ QC S.ns t' (S.sw t') ((((S.drop (5 * m + 3)).put (5 * (4 + t) + 3) ⟨e.c + nL (16 * m), 0, S.time⟩)).row (5 * (4 + t'))) Q
          rw [hR1, hRo (5 * (4 + t') + 1) (by omega) (by omega), hRo (5 * (4 + t') + 2) (by omega) (by omega), hRo (5 * (4 + t')) (by omega) (by omega)]
          exact h.tg t' ht'
        · intro t' ht' f
          have h0 := h.rc t' ht' f
          show RCc t' f (S.ur ++ [(⟨m, idN e.c, t, 0, S.moved⟩ : UE)]) ((((S.drop (5 * m + 3)).put (5 * (4 + t) + 3) ⟨e.c + nL (16 * m), 0, S.time⟩)).row (5 * (4 + t') + 4)) ((((S.drop (5 * m + 3)).put (5 * (4 + t) + 3) ⟨e.c + nL (16 * m), 0, S.time⟩)).row (5 * (4 + t') + 3)) (S.sr t')
          rw [hR1, hRo (5 * (4 + t') + 4) (by omega) (by omega)]
          unfold RCc at *
          rw [List.countP_append, List.countP_cons, List.countP_nil]
          by_cases htt : t' = t
          · subst htt
            rw [hRt, List.countP_append, List.countP_cons, List.countP_nil]
            have : isF t' f ⟨m, idN e.c, t', 0, S.moved⟩ = decide (idN (e.c + nL (16 * m)) = f) := by
              rw [a1]
              show (decide (t' = t') && decide (16 * m + idN e.c = f)) = _
              simp
            have e2 : RE.c (⟨e.c + nL (16 * m), 0, S.time⟩ : RE) = e.c + nL (16 * m) := rfl
            rw [this, e2]
            omega
          · rw [hRo (5 * (4 + t') + 3) (by omega) (by omega)]
            have : isF t' f ⟨m, idN e.c, t, 0, S.moved⟩ = false := by
              show (decide (t = t') && decide (16 * m + idN e.c = f)) = _
              rw [decide_eq_false (Ne.symm htt)]; rfl
            rw [this]
            simp only [Bool.false_eq_true, if_false]
            omega
        · show ((((S.drop (5 * m + 3)).put (5 * (4 + t) + 3) ⟨e.c + nL (16 * m), 0, S.time⟩)).row (5 * (4 + S.ns) + 3) = [] → S.dbeat = 0) ∧ ∀ a l, (((S.drop (5 * m + 3)).put (5 * (4 + t) + 3) ⟨e.c + nL (16 * m), 0, S.time⟩)).row (5 * (4 + S.ns) + 3) = a :: l → S.dbeat < leN a.c
          rw [hR1]
          by_cases htt : t = S.ns
          · subst htt
            rw [hRt]
            refine ⟨fun hh => absurd hh (by simp), fun a l' hh => ?_⟩
            cases hr : S.row (5 * (4 + S.ns) + 3) with
            | nil =>
              rw [h.db.1 hr]
              exact leN_pos _
            | cons a' l'' =>
              rw [hr] at hh
              have : a' = a := by simpa using (List.cons.inj hh).1
              rw [← this]
              exact h.db.2 a' l'' hr
          · rw [hRo (5 * (4 + S.ns) + 3) (by omega) (by omega)]
            exact h.db
        · show S.moved + 1 + pot (((S.drop (5 * m + 3)).put (5 * (4 + t) + 3) ⟨e.c + nL (16 * m), 0, S.time⟩)).row ≤ w ∧ w ≤ 60 * S.time + 60
          rw [hR1]
          omega
