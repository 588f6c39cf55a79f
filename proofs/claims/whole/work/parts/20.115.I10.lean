/-! THE STATE's OWN INVARIANTS: beats of writes at slaves; wires -/
theorem smZ_pS (S : XS) (s c : Nat) : smZ (S.passS s c) S := ⟨pS_nm S s c, pS_ns S s c, pS_lim S s c, pS_pol S s c, pS_time S s c, pS_dbeat S s c, pS_moved S s c, pS_pages S s c, pS_mpat S s c, pS_spat S s c, pS_delay S s c, pS_way S s c, pS_uw S s c, pS_ur S s c, pS_la S s c, pS_lr S s c, pS_lb S s c, pS_lg S s c, pS_tk S s c, pS_mon S s c, pS_inb S s c⟩
theorem stB_lt {mem : Nat → Nat} (h : ∀ y, mem y < 256) (x st : Nat) (d : Int64) : ∀ y, stB mem x st d y < 256 := by
  intro y
  unfold stB
  split
  · exact Nat.mod_lt _ (by decide)
  · exact h y
theorem stN_lt (e : WE) {mem : Nat → Nat} (h : ∀ y, mem y < 256) : ∀ k y, stN e k mem y < 256 := by
  intro k
  induction k with
  | zero => exact h
  | succ k ih => exact stB_lt ih _ _ _
/-- what a write that is done leaves -/
theorem dw_bd (S : XS) (s : Nat) (e : WE) (h1 : ∀ y, S.mem y < 256) (h2 : ∀ s j q, S.rgt s j = some q → q.1 < 65536 ∧ q.2 < 129) : (∀ y, (S.doWrite s e).1.mem y < 256) ∧ (∀ s' j q, (S.doWrite s e).1.rgt s' j = some q → q.1 < 65536 ∧ q.2 < 129) ∧ (S.doWrite s e).2 < 4 := by
  have hg : ∀ j q, gEx S s e j = some q → q.1 < 65536 ∧ q.2 < 129 := by
    intro j q hq
    unfold gEx at hq
    split at hq
    · rw [vz_at] at hq
      split at hq
      · cases hq
      · exact h2 s j q hq
    · exact h2 s j q hq
  have hu : ∀ g : Nat → Option (Nat × Nat), (∀ j q, g j = some q → q.1 < 65536 ∧ q.2 < 129) → ∀ s' j q, va_up S.rgt s g s' j = some q → q.1 < 65536 ∧ q.2 < 129 := by
    intro g hg s' j q hq
    rw [vz_at] at hq
    split at hq
    · exact hg j q hq
    · exact h2 s' j q hq
  rw [doWrite_st]
  split
  · exact ⟨h1, hu _ hg, by show 2 < 4; decide⟩
  · split
    · exact ⟨h1, hu _ hg, by show 0 < 4; decide⟩
    · refine ⟨stN_lt e h1 _, hu _ (rgN_bd hg _), ?_⟩
      show (if exN e.con = 1 then 1 else 0) < 4
      split <;> decide
theorem dw_oth (S : XS) (s : Nat) (e : WE) : (S.doWrite s e).1.rnum = S.rnum ∧ (S.doWrite s e).1.lat = S.lat ∧ (S.doWrite s e).1.sr = S.sr ∧ (S.doWrite s e).1.chb = S.chb ∧ (S.doWrite s e).1.chr = S.chr ∧ (S.doWrite s e).1.sw = S.sw := by
  rw [doWrite_st]
  repeat' split
  all_goals exact ⟨rfl, rfl, rfl, rfl, rfl, rfl⟩
/-- a beat of a write comes to its slave: what has changed -/
theorem pS1_st {S : XS} {s k : Nat} {e : WE} (hk : (S.sw s).findIdx? lackP = some k) (he : (S.sw s)[k]? = some e) (h1 : ∀ y, S.mem y < 256) (h2 : ∀ s j q, S.rgt s j = some q → q.1 < 65536 ∧ q.2 < 129) (ht : S.time < 2 ^ 24) (heb : e.since < 2 ^ 24 ∧ e.resp < 4) :
    ∃ e' : WE, e'.con = e.con ∧ e'.got = e.got + 1 ∧ e'.since < 2 ^ 24 ∧ e'.resp < 4 ∧ (S.passS s 1).sw = va_up S.sw s ((S.sw s).set k e') ∧ (S.passS s 1).sr = S.sr ∧ (S.passS s 1).rnum = S.rnum ∧ (S.passS s 1).lat = S.lat ∧ (S.passS s 1).chb = S.chb ∧ (S.passS s 1).chr = S.chr ∧ (∀ y, (S.passS s 1).mem y < 256) ∧ (∀ s' j q, (S.passS s 1).rgt s' j = some q → q.1 < 65536 ∧ q.2 < 129) := by
  rw [passS_1 hk he]
  unfold XS.bc
  split
  · obtain ⟨a1, a2, a3⟩ := dw_bd (S.drop (5 * (4 + s) + 1)) s (e.beat ((S.wi (4 + s)).w 1).c ((S.wi (4 + s)).w 1).r) h1 h2
    obtain ⟨b1, b2, b3, b4, b5, b6⟩ := dw_oth (S.drop (5 * (4 + s) + 1)) s (e.beat ((S.wi (4 + s)).w 1).c ((S.wi (4 + s)).w 1).r)
    exact ⟨((((e.beat ((S.wi (4 + s)).w 1).c ((S.wi (4 + s)).w 1).r)).w_since (S.time)).w_resp (((S.drop (5 * (4 + s) + 1)).doWrite s (e.beat ((S.wi (4 + s)).w 1).c ((S.wi (4 + s)).w 1).r)).2)), rfl, rfl, ht, a3, rfl, b3, b1, b2, b4, b5, a1, a2⟩
  · exact ⟨e.beat ((S.wi (4 + s)).w 1).c ((S.wi (4 + s)).w 1).r, rfl, rfl, heb.1, heb.2, rfl, rfl, rfl, rfl, rfl, rfl, h1, h2⟩
theorem Cr.pS1 {S : XS} {w s k : Nat} (h : Cr S w) (hs : s < S.ns) {x : RE} {l : List RE} (hx : S.row (5 * (4 + s) + 1) = x :: l) (hk : (S.sw s).findIdx? lackP = some k) : Cr (S.passS s 1) w := by
  obtain ⟨e, he, hef, hel⟩ := fi_some hk
  have heb := h.bd.sw s e (lmem he)
  obtain ⟨e', c1, c2, c3, c4, c5, c6, c7, c8, c9, c10, c11, c12⟩ := pS1_st hk he h.bd.mem h.bd.rgt h.bd.time ⟨heb.1, heb.2.2.1⟩
  obtain ⟨l1, l2, g1, g2, g3, g4⟩ := fi_split hk he
  have hrow := pS_row S (s := s) (c := 1) (by decide)
  rw [if_neg (by decide)] at hrow
  have hrow : (S.passS s 1).row = va_up S.row (5 * (4 + s) + 1) (S.row (5 * (4 + s) + 1)).tail := hrow
  have hlt : e.got < leN e.con := of_decide_eq_true hel
  obtain ⟨Q, q1, q2⟩ := h.tg s (by omega)
  have hQ := q2.1 hs
  rw [g1, lkQ_app, lkQ_n g3, lkQ_1 _ hel] at hQ
  rw [hx] at q1
  obtain ⟨q, Q', p1, p2, p3, p4⟩ := q1.pop
  rw [p1] at hQ
  have hq : q = (idN e.con, leN e.con - e.got) := (List.cons.inj hQ).1
  have hQ' : Q' = lkQ l2 ++ awQ (S.row (5 * (4 + s))) := (List.cons.inj hQ).2
  have hns : ¬ s = S.ns := by omega
  refine h.slX (s := s) (smZ_pS S s 1) hs ?_ ?_ ?_ c11 ?_ (by rw [c6]; exact h.bd.sr s) (by rw [c7]; exact h.bd.rnum) (by rw [c8]; exact h.bd.lat) c12 ?_ ?_ ?_ ?_ (by rw [c10, c6]; exact h.ch)
  · intro i hi
    rw [hrow]
    exact vz_ne _ (by omega)
  · intro s' hs'
    rw [c5]
    exact vz_ne _ hs'
  · intro s' hs'
    rw [c6]
  · rw [c5, vz_same, g1, set_mid g2]
    intro y hy
    rcases mem_mid hy with hy | hy
    · rw [hy, c1]
      exact ⟨c3, by rw [c2]; omega, c4, heb.2.2.2⟩
    · exact h.bd.sw s y (by rw [g1]; exact mid_mem (Or.inr hy))
  · intro i hi y hy
    rw [hrow] at hy
    exact h.rowB i hi y (dn_mem hy)
  · unfold TGS
    rw [pS_uw, pS_ns, hrow, c5, vz_same, vz_same, vz_ne _ (show 5 * (4 + s) + 2 ≠ 5 * (4 + s) + 1 by omega), vz_ne _ (show 5 * (4 + s) ≠ 5 * (4 + s) + 1 by omega), hx, g1, set_mid g2]
    show ∃ Q, TGc (S.uw.filter (isT s)) l (S.row (5 * (4 + s) + 2)) (cmS (l1 ++ e' :: l2)) Q ∧ QC S.ns s (l1 ++ e' :: l2) (S.row (5 * (4 + s))) Q
    by_cases hone : e.got + 1 = leN e.con
    · have hlp : lackP e' = false := by unfold lackP; rw [c1, c2]; exact decide_eq_false (by omega)
      have hq1 : q.2 = 1 := by rw [hq]; show leN e.con - e.got = 1; omega
      refine ⟨Q', ((p4 hq1).1).perm ?_, fun _ => ?_, fun g => absurd g hns⟩
      · refine List.Perm.append_left _ ?_
        rw [g1, cmS_app, cmS_0 _ hel, cmS_app, cmS_1 _ hlp, c1, hq]
        exact List.perm_middle.symm
      · rw [hQ', lkQ_app, lkQ_n g3, lkQ_0 _ hlp]; rfl
    · have hlp : lackP e' = true := by unfold lackP; rw [c1, c2]; exact decide_eq_true (by omega)
      have hq1 : q.2 ≠ 1 := by rw [hq]; show leN e.con - e.got ≠ 1; omega
      refine ⟨_, (p3 hq1).perm ?_, fun _ => ?_, fun g => absurd g hns⟩
      · rw [g1, cmS_app, cmS_0 _ hel, cmS_app, cmS_0 _ hlp]
      · rw [hQ', lkQ_app, lkQ_n g3, lkQ_1 _ hlp, c1, c2, hq]
        show (idN e.con, leN e.con - e.got - 1) :: _ = (idN e.con, leN e.con - (e.got + 1)) :: _
        rw [Nat.sub_add_eq]
        rfl
  · intro f
    rw [hrow, c6, vz_ne _ (by omega), vz_ne _ (by omega)]
    exact h.rc s (by omega) f
  · intro s' i hi
    rw [c9] at hi
    have := h.cb s' i hi
    rw [c5, vz_at]
    split
    · rename_i e; subst e; rw [List.length_set]; exact this
    · exact this
/-- WIRES: what they show from transfer j on -/
def Ws (S : XS) (j : Nat) : Prop := (∀ m, m < S.nm → ∀ c, c = 0 ∨ c = 3 → ((S.wi m).w c).v = true → (j ≤ 5 * m + c ∨ (S.wi m).rd c = false) → ∃ t, S.tk.find? (isUns m (decide (c = 0))) = some t ∧ (S.wi m).w c = ⟨true, t.con, 0⟩) ∧ (∀ m, m < S.nm → ((S.wi m).w 1).v = true → (j ≤ 5 * m + 1 ∨ (S.wi m).rd 1 = false) → ∃ t, S.tk.find? (isUnf m) = some t ∧ (S.wi m).w 1 = ⟨true, t.dat t.beats, t.rst t.beats⟩) ∧ (∀ s, s < S.ns → ((S.wi (4 + s)).w 2).v = true → (j ≤ 5 * (4 + s) + 2 ∨ (S.wi (4 + s)).rd 2 = false) → ∃ i e, S.chb s = some i ∧ (S.sw s)[i]? = some e ∧ e.got = leN e.con ∧ (S.wi (4 + s)).w 2 = wvB e) ∧ (∀ s, s < S.ns → ((S.wi (4 + s)).w 4).v = true → (j ≤ 5 * (4 + s) + 4 ∨ (S.wi (4 + s)).rd 4 = false) → ∃ i e, S.chr s = some i ∧ (S.sr s)[i]? = some e ∧ (S.wi (4 + s)).w 4 = wvR e) ∧ (∀ m, m < S.nm → ∀ c, c = 2 ∨ c = 4 → j ≤ 5 * m + c → (S.wi m).w c = rowW (S.row (5 * m + c))) ∧ (∀ m, m < S.nm → ∀ c, c = 2 ∨ c = 4 → hdW (S.wi m) c = true → S.row (5 * m + c) ≠ []) ∧ (∀ s, s < S.ns → ∀ c, c = 0 ∨ c = 1 ∨ c = 3 → j ≤ 5 * (4 + s) + c → (S.wi (4 + s)).w c = rowW (S.row (5 * (4 + s) + c))) ∧ (∀ s, s < S.ns → ∀ c, c = 0 ∨ c = 1 ∨ c = 3 → hdW (S.wi (4 + s)) c = true → S.row (5 * (4 + s) + c) ≠ []) ∧ (∀ m, m < S.nm → ∀ c, c = 0 ∨ c = 1 ∨ c = 3 → j ≤ 5 * m + c → (S.wi m).rd c = S.hasRm (5 * m + c)) ∧ (∀ s, s < S.ns → ∀ c, c = 2 ∨ c = 4 → j ≤ 5 * (4 + s) + c → (S.wi (4 + s)).rd c = S.hasRm (5 * (4 + s) + c)) ∧ (∀ s, s < S.ns → j ≤ 5 * (4 + s) → (S.wi (4 + s)).rd 0 = true → (S.sw s).length < 4) ∧ (∀ s, s < S.ns → j ≤ 5 * (4 + s) + 1 → (S.wi (4 + s)).rd 1 = true → ∃ i, (S.sw s).findIdx? lackP = some i) ∧ (∀ s, s < S.ns → j ≤ 5 * (4 + s) + 3 → (S.wi (4 + s)).rd 3 = true → (S.sr s).length < 4)
theorem Ws.a {S : XS} {j : Nat} (h : Ws S j) : ∀ m, m < S.nm → ∀ c, c = 0 ∨ c = 3 → ((S.wi m).w c).v = true → (j ≤ 5 * m + c ∨ (S.wi m).rd c = false) → ∃ t, S.tk.find? (isUns m (decide (c = 0))) = some t ∧ (S.wi m).w c = ⟨true, t.con, 0⟩ := h.1
theorem Ws.d {S : XS} {j : Nat} (h : Ws S j) : ∀ m, m < S.nm → ((S.wi m).w 1).v = true → (j ≤ 5 * m + 1 ∨ (S.wi m).rd 1 = false) → ∃ t, S.tk.find? (isUnf m) = some t ∧ (S.wi m).w 1 = ⟨true, t.dat t.beats, t.rst t.beats⟩ := h.2.1
theorem Ws.b {S : XS} {j : Nat} (h : Ws S j) : ∀ s, s < S.ns → ((S.wi (4 + s)).w 2).v = true → (j ≤ 5 * (4 + s) + 2 ∨ (S.wi (4 + s)).rd 2 = false) → ∃ i e, S.chb s = some i ∧ (S.sw s)[i]? = some e ∧ e.got = leN e.con ∧ (S.wi (4 + s)).w 2 = wvB e := h.2.2.1
theorem Ws.r {S : XS} {j : Nat} (h : Ws S j) : ∀ s, s < S.ns → ((S.wi (4 + s)).w 4).v = true → (j ≤ 5 * (4 + s) + 4 ∨ (S.wi (4 + s)).rd 4 = false) → ∃ i e, S.chr s = some i ∧ (S.sr s)[i]? = some e ∧ (S.wi (4 + s)).w 4 = wvR e := h.2.2.2.1
theorem Ws.mr {S : XS} {j : Nat} (h : Ws S j) : ∀ m, m < S.nm → ∀ c, c = 2 ∨ c = 4 → j ≤ 5 * m + c → (S.wi m).w c = rowW (S.row (5 * m + c)) := h.2.2.2.2.1
theorem Ws.mh {S : XS} {j : Nat} (h : Ws S j) : ∀ m, m < S.nm → ∀ c, c = 2 ∨ c = 4 → hdW (S.wi m) c = true → S.row (5 * m + c) ≠ [] := h.2.2.2.2.2.1
theorem Ws.sr {S : XS} {j : Nat} (h : Ws S j) : ∀ s, s < S.ns → ∀ c, c = 0 ∨ c = 1 ∨ c = 3 → j ≤ 5 * (4 + s) + c → (S.wi (4 + s)).w c = rowW (S.row (5 * (4 + s) + c)) := h.2.2.2.2.2.2.1
theorem Ws.sh {S : XS} {j : Nat} (h : Ws S j) : ∀ s, s < S.ns → ∀ c, c = 0 ∨ c = 1 ∨ c = 3 → hdW (S.wi (4 + s)) c = true → S.row (5 * (4 + s) + c) ≠ [] := h.2.2.2.2.2.2.2.1
theorem Ws.mp {S : XS} {j : Nat} (h : Ws S j) : ∀ m, m < S.nm → ∀ c, c = 0 ∨ c = 1 ∨ c = 3 → j ≤ 5 * m + c → (S.wi m).rd c = S.hasRm (5 * m + c) := h.2.2.2.2.2.2.2.2.1
theorem Ws.sp {S : XS} {j : Nat} (h : Ws S j) : ∀ s, s < S.ns → ∀ c, c = 2 ∨ c = 4 → j ≤ 5 * (4 + s) + c → (S.wi (4 + s)).rd c = S.hasRm (5 * (4 + s) + c) := h.2.2.2.2.2.2.2.2.2.1
theorem Ws.s0 {S : XS} {j : Nat} (h : Ws S j) : ∀ s, s < S.ns → j ≤ 5 * (4 + s) → (S.wi (4 + s)).rd 0 = true → (S.sw s).length < 4 := h.2.2.2.2.2.2.2.2.2.2.1
theorem Ws.s1 {S : XS} {j : Nat} (h : Ws S j) : ∀ s, s < S.ns → j ≤ 5 * (4 + s) + 1 → (S.wi (4 + s)).rd 1 = true → ∃ i, (S.sw s).findIdx? lackP = some i := h.2.2.2.2.2.2.2.2.2.2.2.1
theorem Ws.s3 {S : XS} {j : Nat} (h : Ws S j) : ∀ s, s < S.ns → j ≤ 5 * (4 + s) + 3 → (S.wi (4 + s)).rd 3 = true → (S.sr s).length < 4 := h.2.2.2.2.2.2.2.2.2.2.2.2
/-- end of Ws -/
theorem Ws.next {S : XS} {j : Nat} (h : Ws S j) : Ws S (j + 1) :=
  ⟨fun m hm c hc hv hj => h.a m hm c hc hv (hj.imp (fun g => by omega) id), fun m hm hv hj => h.d m hm hv (hj.imp (fun g => by omega) id), fun s hs hv hj => h.b s hs hv (hj.imp (fun g => by omega) id), fun s hs hv hj => h.r s hs hv (hj.imp (fun g => by omega) id),
   fun m hm c hc hj => h.mr m hm c hc (by omega), h.mh, fun s hs c hc hj => h.sr s hs c hc (by omega), h.sh, fun m hm c hc hj => h.mp m hm c hc (by omega), fun s hs c hc hj => h.sp s hs c hc (by omega), fun s hs hj => h.s0 s hs (by omega), fun s hs hj => h.s1 s hs (by omega), fun s hs hj => h.s3 s hs (by omega)⟩
theorem updF_findK {β : Type} {p q : TK → Bool} {f : TK → TK} (K : TK → β) (h : ∀ x, p x = true → q (f x) = q x) (hK : ∀ x, p x = true → q x = true → K (f x) = K x) {l : List TK} {t : TK} (ht : l.find? q = some t) : ∃ t', (updF p f l).find? q = some t' ∧ K t' = K t := by
  obtain ⟨t', h1, h2⟩ := updF_find (f := f) h ht
  refine ⟨t', h1, ?_⟩
  rcases h2 with h2 | ⟨h2, h3⟩
  · rw [h2]
  · rw [h3]; exact hK t h2 (find_mem ht).2
theorem mv_v {x : WI} {c : Nat} (h : mvW x c = true) : (x.w c).v = true ∧ x.rd c = true := by
  unfold mvW at h
  simpa using h
theorem hd_v {x : WI} {c : Nat} (h : hdW x c = true) : (x.w c).v = true ∧ x.rd c = false := by
  unfold hdW at h
  simpa using h
theorem hasRm_eq {S T : XS} {i : Nat} (h : T.row i = S.row i) : T.hasRm i = S.hasRm i := by
  unfold XS.hasRm
  rw [h]
/-- a transfer at a master: tickets and one row have changed -/
theorem Ws.mst {S T : XS} {m c : Nat} (h : Ws S (5 * m + c)) (hc5 : c < 5) (hmv : mvW (S.wi m) c = true) (e1 : T.nm = S.nm) (e2 : T.ns = S.ns) (e3 : T.wi = S.wi) (e4 : T.chb = S.chb) (e5 : T.chr = S.chr) (e6 : T.sw = S.sw) (e7 : T.sr = S.sr) (hm : m < S.nm) (h4 : S.nm ≤ 4) (hR : ∀ i, i ≠ 5 * m + c → T.row i = S.row i)
    (hA : ∀ m' c', c' = 0 ∨ c' = 3 → ¬ (m' = m ∧ c' = c) → ∀ t, S.tk.find? (isUns m' (decide (c' = 0))) = some t → ∃ t', T.tk.find? (isUns m' (decide (c' = 0))) = some t' ∧ t'.con = t.con)
    (hD : ∀ m', ¬ (m' = m ∧ c = 1) → ∀ t, S.tk.find? (isUnf m') = some t → ∃ t', T.tk.find? (isUnf m') = some t' ∧ t'.dat t'.beats = t.dat t.beats ∧ t'.rst t'.beats = t.rst t.beats) : Ws T (5 * m + c + 1) := by
  obtain ⟨v1, v2⟩ := mv_v hmv
  refine ⟨?_, ?_, ?_, ?_, ?_, ?_, ?_, ?_, ?_, ?_, ?_, ?_, ?_⟩
  · rw [e1, e3]
    intro m' hm' c' hc' hv hj
    have hne : ¬ (m' = m ∧ c' = c) := by
      rintro ⟨rfl, rfl⟩
      rcases hj with hj | hj
      · omega
      · rw [v2] at hj; cases hj
    obtain ⟨t, t1, t2⟩ := h.a m' hm' c' hc' hv (hj.imp (fun g => by omega) id)
    obtain ⟨t', t3, t4⟩ := hA m' c' hc' hne t t1
    exact ⟨t', t3, by rw [t4]; exact t2⟩
  · rw [e1, e3]
    intro m' hm' hv hj
    have hne : ¬ (m' = m ∧ c = 1) := by
      rintro ⟨rfl, rfl⟩
      rcases hj with hj | hj
      · omega
      · rw [v2] at hj; cases hj
    obtain ⟨t, t1, t2⟩ := h.d m' hm' hv (hj.imp (fun g => by omega) id)
    obtain ⟨t', t3, t4, t5⟩ := hD m' hne t t1
    exact ⟨t', t3, by rw [t4, t5]; exact t2⟩
  · rw [e2, e3, e4, e6]
    exact fun s hs hv hj => h.b s hs hv (hj.imp (fun g => by omega) id)
  · rw [e2, e3, e5, e7]
    exact fun s hs hv hj => h.r s hs hv (hj.imp (fun g => by omega) id)
  · rw [e1, e3]
    intro m' hm' c' hc' hj
    rw [hR _ (by omega)]
    exact h.mr m' hm' c' hc' (by omega)
  · rw [e1, e3]
    intro m' hm' c' hc' hh
    by_cases g : 5 * m' + c' = 5 * m + c
    · have : m' = m ∧ c' = c := by omega
      rw [this.1, this.2] at hh
      have := (hd_v hh).2
      rw [v2] at this; cases this
    · rw [hR _ g]
      exact h.mh m' hm' c' hc' hh
  · rw [e2, e3]
    intro s hs c' hc' hj
    rw [hR _ (by omega)]
    exact h.sr s hs c' hc' (by omega)
  · rw [e2, e3]
    intro s hs c' hc' hh
    rw [hR _ (by omega)]
    exact h.sh s hs c' hc' hh
  · rw [e1, e3]
    intro m' hm' c' hc' hj
    rw [hasRm_eq (hR _ (by omega))]
    exact h.mp m' hm' c' hc' (by omega)
  · rw [e2, e3]
    intro s hs c' hc' hj
    rw [hasRm_eq (hR _ (by omega))]
    exact h.sp s hs c' hc' (by omega)
  · rw [e2, e3, e6]
    exact fun s hs hj => h.s0 s hs (by omega)
  · rw [e2, e3, e6]
    exact fun s hs hj => h.s1 s hs (by omega)
  · rw [e2, e3, e7]
    exact fun s hs hj => h.s3 s hs (by omega)
/-- a transfer at a slave: its lists and one row have changed -/
theorem Ws.slv {S T : XS} {s c : Nat} (h : Ws S (5 * (4 + s) + c)) (hc5 : c < 5) (hmv : mvW (S.wi (4 + s)) c = true) (h4 : S.nm ≤ 4) (hs : s < S.ns) (e1 : T.nm = S.nm) (e2 : T.ns = S.ns) (e3 : T.wi = S.wi) (e4 : T.tk = S.tk) (hne : ∀ s', s' ≠ s → T.sw s' = S.sw s' ∧ T.sr s' = S.sr s' ∧ T.chb s' = S.chb s' ∧ T.chr s' = S.chr s') (hR : ∀ i, i ≠ 5 * (4 + s) + c → T.row i = S.row i)
    (hB : c ≠ 2 → T.chb s = S.chb s ∧ ∀ (i : Nat) (e : WE), (S.sw s)[i]? = some e → e.got = leN e.con → (T.sw s)[i]? = some e)
    (hQ : c ≠ 4 → T.chr s = S.chr s ∧ ∀ (i : Nat) (e : QE), (S.sr s)[i]? = some e → (T.sr s)[i]? = some e)
    (h1 : c = 0 → ∀ i, (S.sw s).findIdx? lackP = some i → ∃ i, (T.sw s).findIdx? lackP = some i)
    (h3 : c < 3 → T.sr s = S.sr s) : Ws T (5 * (4 + s) + c + 1) := by
  obtain ⟨v1, v2⟩ := mv_v hmv
  refine ⟨?_, ?_, ?_, ?_, ?_, ?_, ?_, ?_, ?_, ?_, ?_, ?_, ?_⟩
  · rw [e1, e3, e4]
    exact fun m hm c hc hv hj => h.a m hm c hc hv (hj.imp (fun g => by omega) id)
  · rw [e1, e3, e4]
    exact fun m hm hv hj => h.d m hm hv (hj.imp (fun g => by omega) id)
  · rw [e2, e3]
    intro s' hs' hv hj
    obtain ⟨i, e, g1, g2, g3, g4⟩ := h.b s' hs' hv (hj.imp (fun g => by omega) id)
    by_cases hss : s' = s
    · subst hss
      have hc2 : c ≠ 2 := by
        rintro rfl
        rcases hj with hj | hj
        · omega
        · rw [v2] at hj; cases hj
      obtain ⟨b1, b2⟩ := hB hc2
      exact ⟨i, e, by rw [b1]; exact g1, b2 i e g2 g3, g3, g4⟩
    · obtain ⟨n1, n2, n3, n4⟩ := hne s' hss
      exact ⟨i, e, by rw [n3]; exact g1, by rw [n1]; exact g2, g3, g4⟩
  · rw [e2, e3]
    intro s' hs' hv hj
    obtain ⟨i, e, g1, g2, g3⟩ := h.r s' hs' hv (hj.imp (fun g => by omega) id)
    by_cases hss : s' = s
    · subst hss
      have hc2 : c ≠ 4 := by
        rintro rfl
        rcases hj with hj | hj
        · omega
        · rw [v2] at hj; cases hj
      obtain ⟨b1, b2⟩ := hQ hc2
      exact ⟨i, e, by rw [b1]; exact g1, b2 i e g2, g3⟩
    · obtain ⟨n1, n2, n3, n4⟩ := hne s' hss
      exact ⟨i, e, by rw [n4]; exact g1, by rw [n2]; exact g2, g3⟩
  · rw [e1, e3]
    intro m' hm' c' hc' hj
    rw [hR _ (by omega)]
    exact h.mr m' hm' c' hc' (by omega)
  · rw [e1, e3]
    intro m' hm' c' hc' hh
    rw [hR _ (by omega)]
    exact h.mh m' hm' c' hc' hh
  · rw [e2, e3]
    intro s hs c' hc' hj
    rw [hR _ (by omega)]
    exact h.sr s hs c' hc' (by omega)
  · rw [e2, e3]
    intro s' hs' c' hc' hh
    by_cases g : 5 * (4 + s') + c' = 5 * (4 + s) + c
    · have : s' = s ∧ c' = c := by omega
      rw [this.1, this.2] at hh
      have := (hd_v hh).2
      rw [v2] at this; cases this
    · rw [hR _ g]
      exact h.sh s' hs' c' hc' hh
  · rw [e1, e3]
    intro m' hm' c' hc' hj
    rw [hasRm_eq (hR _ (by omega))]
    exact h.mp m' hm' c' hc' (by omega)
  · rw [e2, e3]
    intro s hs c' hc' hj
    rw [hasRm_eq (hR _ (by omega))]
    exact h.sp s hs c' hc' (by omega)
  · rw [e2, e3]
    intro s' hs' hj hr
    by_cases hss : s' = s
    · omega
    · rw [(hne s' hss).1]; exact h.s0 s' hs' (by omega) hr
  · rw [e2, e3]
    intro s' hs' hj hr
    by_cases hss : s' = s
    · subst hss
      obtain ⟨i, hi⟩ := h.s1 s' hs' (by omega) hr
      exact h1 (by omega) i hi
    · rw [(hne s' hss).1]; exact h.s1 s' hs' (by omega) hr
  · rw [e2, e3]
    intro s' hs' hj hr
    by_cases hss : s' = s
    · subst hss
      rw [h3 (by omega)]; exact h.s3 s' hs' (by omega) hr
    · rw [(hne s' hss).2.1]; exact h.s3 s' hs' (by omega) hr
