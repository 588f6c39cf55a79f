/-! THE STATE's OWN INVARIANTS: transfers at masters -/
theorem Cr.tkX {S : XS} {w w' : Nat} (h : Cr S w) {R : Nat → List RE} {tk : List TK} (hR : ∀ i, 20 ≤ i → R i = S.row i) (hIT : ∀ t ∈ tk, IT S.nm t) (hIR : IR R) (hT : ∀ i, ∀ x ∈ R i, x.t < 2 ^ 24) (hem : ∀ m, m < S.nm → EMc m (R (5 * m + 1)) (R (5 * m)) (S.uw.filter (isM m)) tk) (hnc : ∀ m, m < S.nm → ∀ id, NCc m id (R (5 * m)) (R (5 * m + 2)) S.uw tk) (hp : S.moved + pot R ≤ w' ∧ w' ≤ 60 * S.time + 60) : Cr ((S.w_row R).w_tk tk) w' := by
  refine ⟨?_, h.tb, hIT, hIR, h.uw, h.ur, h.pw, hem, hnc, ?_, ?_, ?_, h.mo, h.cb, h.ch, h.ib, h.ou, hp⟩
  · exact ⟨h.bd.nm, h.bd.ns, h.bd.lim, h.bd.pol, h.bd.time, h.bd.db, h.bd.moved, h.bd.pages, h.bd.mpat, h.bd.spat, h.bd.delay, h.bd.way, h.bd.mem, h.bd.sw, h.bd.sr, h.bd.rnum, h.bd.lat, h.bd.uw, h.bd.ur, h.bd.la, h.bd.lr, h.bd.lb, h.bd.lg, h.bd.rgt, hT, fun e he => (hIT e he).rs⟩
  · intro t' ht'
    have ht' : t' ≤ S.ns := ht'
    show ∃ Q, TGc (S.uw.filter (isT t')) (R (5 * (4 + t') + 1)) (R (5 * (4 + t') + 2)) (cmS (S.sw t')) Q ∧ QC S.ns t' (S.sw t') (R (5 * (4 + t'))) Q
    rw [hR _ (by omega), hR _ (by omega), hR _ (by omega)]
    exact h.tg t' ht'
  · intro t' ht' f
    show RCc t' f S.ur (R (5 * (4 + t') + 4)) (R (5 * (4 + t') + 3)) (S.sr t')
    rw [hR _ (by omega), hR _ (by omega)]
    exact h.rc t' ht' f
  · show (R (5 * (4 + S.ns) + 3) = [] → S.dbeat = 0) ∧ ∀ a l, R (5 * (4 + S.ns) + 3) = a :: l → S.dbeat < leN a.c
    rw [hR _ (by omega)]
    exact h.db
theorem find_mem {α : Type} {p : α → Bool} {l : List α} {t : α} (h : l.find? p = some t) : t ∈ l ∧ p t = true := ⟨List.mem_of_find?_eq_some h, List.find?_some h⟩
theorem time_m1 {S : XS} (h : Bd S) : nI S.time ≠ m1 := by
  have := h.time
  exact zI_ne_m1 (by omega)
theorem put_row (S : XS) (i : Nat) (e : RE) : (S.put i e) = S.w_row (va_up S.row i (S.row i ++ [e])) := rfl
theorem drop_row (S : XS) (i : Nat) : (S.drop i) = S.w_row (va_up S.row i (S.row i).tail) := rfl
theorem up_mem {row : Nat → List RE} {i : Nat} {e : RE} {k : Nat} {x : RE} (h : x ∈ va_up row i (row i ++ [e]) k) : x ∈ row k ∨ (k = i ∧ x = e) := by
  rw [vz_at] at h
  split at h
  · rename_i hk
    rcases List.mem_append.mp h with h | h
    · rw [hk]; exact Or.inl h
    · exact Or.inr ⟨hk, List.mem_singleton.mp h⟩
  · exact Or.inl h
theorem dn_mem {row : Nat → List RE} {i k : Nat} {x : RE} (h : x ∈ va_up row i (row i).tail k) : x ∈ row k := by
  rw [vz_at] at h
  split at h
  · rename_i hk; rw [hk]; exact List.mem_of_mem_tail h
  · exact h
theorem IT.upd {nm : Nat} {p : TK → Bool} {f : TK → TK} {l : List TK} (h : ∀ t ∈ l, IT nm t) (hf : ∀ t ∈ l, p t = true → IT nm (f t)) : ∀ t ∈ updF p f l, IT nm t := by
  intro t ht
  rcases updF_mem ht with ht | ⟨y, hy, hp, e⟩
  · exact h t ht
  · rw [e]; exact hf y hy hp
/-- an address is sent -/
theorem Cr.pM0 {S : XS} {w m c : Nat} (h : Cr S w) (hm : m < S.nm) (hc : c = 0 ∨ c = 3) {t : TK} (ht : S.tk.find? (isUns m (decide (c = 0))) = some t) {e : RE} (he : e.c = t.con) (het : e.t < 2 ^ 24) (hw : w + 1 ≤ 60 * S.time + 60) : Cr ((S.put (5 * m + c) e).w_tk (updF (isUns m (decide (c = 0))) (fun t => (t.w_sent (nI S.time))) S.tk)) (w + 1) := by
  have hn4 := h.bd.nm
  obtain ⟨t1, t2⟩ := find_mem ht
  have hI := h.tk t t1
  have hx := time_m1 h.bd
  unfold isUns at t2
  simp only [Bool.and_eq_true, decide_eq_true_eq, beq_iff_eq] at t2
  have hmv := h.mv
  rw [put_row]
  refine h.tkX (fun i hi => vz_ne _ (by omega)) ?_ ⟨?_, ?_, ?_⟩ ?_ ?_ ?_ ?_
  · refine IT.upd h.tk (fun y hy hp => ?_)
    have hy' := h.tk y hy
    exact ⟨hy'.m, hy'.id, hy'.ru, hy'.rs, fun hh => absurd hh hx, hy'.dn, hy'.be, hy'.la⟩
  · intro i hi x hx
    rcases up_mem hx with hx | hx
    · exact h.rw.ru i hi x hx
    · rw [hx.2, he]; exact hI.ru
  · intro m' c' h1 h2 x hx
    rcases up_mem hx with hx | hx
    · exact h.rw.id m' c' h1 h2 x hx
    · rw [hx.2, he]; exact hI.id
  · intro t' x hx
    rcases up_mem hx with hx | hx
    · exact h.rw.b t' x hx
    · omega
  · intro i x hx
    rcases up_mem hx with hx | hx
    · exact h.bd.rowT i x hx
    · rw [hx.2]; exact het
  · intro m' hm'
    have h0 := h.em m' hm'
    rw [vz_ne _ (show 5 * m' + 1 ≠ 5 * m + c by omega)]
    by_cases hmm : m' = m ∧ c = 0
    · obtain ⟨rfl, rfl⟩ := hmm
      have ev : va_up S.row (5 * m' + 0) (S.row (5 * m' + 0) ++ [e]) (5 * m') = S.row (5 * m') ++ [e] := vz_same _ _ _
      rw [ev]
      exact h0.send ht (by rw [he]) hx
    · rw [vz_ne _ (by omega)]
      refine h0.upd (fun y hp => ?_)
      unfold isUns at hp
      simp only [Bool.and_eq_true, decide_eq_true_eq, beq_iff_eq] at hp
      have hno : ¬ (y.m = m' ∧ y.wr = true) := by
        intro hh
        have h3 : decide (c = 0) = true := hp.1.2.symm.trans hh.2
        exact hmm ⟨hh.1.symm.trans hp.1.1, of_decide_eq_true h3⟩
      unfold hU hS
      show (if y.m = m' ∧ y.wr = true then _ else _) = _ ∧ (if y.m = m' ∧ y.wr = true ∧ nI S.time = m1 then _ else _) = _
      exact ⟨(if_neg hno).trans (if_neg hno).symm, (if_neg (fun hh => hno ⟨hh.1, hh.2.1⟩)).trans (if_neg (fun hh => hno ⟨hh.1, hh.2.1⟩)).symm⟩
  · intro m' hm' id
    have h0 := h.nc m' hm' id
    rw [vz_ne _ (show 5 * m' + 2 ≠ 5 * m + c by omega)]
    by_cases hmm : m' = m ∧ c = 0
    · obtain ⟨rfl, rfl⟩ := hmm
      have ev : va_up S.row (5 * m' + 0) (S.row (5 * m' + 0) ++ [e]) (5 * m') = S.row (5 * m') ++ [e] := vz_same _ _ _
      rw [ev]
      exact h0.send ht (hI.sd t2.2) (by rw [he]) hx
    · rw [vz_ne _ (by omega)]
      refine h0.upd (fun y hp => ?_)
      unfold isUns at hp
      simp only [Bool.and_eq_true, decide_eq_true_eq, beq_iff_eq] at hp
      have hno : ¬ (y.m = m' ∧ y.wr = true) := by
        intro hh
        have h3 : decide (c = 0) = true := hp.1.2.symm.trans hh.2
        exact hmm ⟨hh.1.symm.trans hp.1.1, of_decide_eq_true h3⟩
      unfold isAns
      show (decide (y.m = m') && (y.wr == true) && _ && _ && _) = (decide (y.m = m') && (y.wr == true) && _ && _ && _)
      by_cases g : y.m = m'
      · have : y.wr = false := by
          cases hw2 : y.wr with
          | true => exact absurd ⟨g, hw2⟩ hno
          | false => rfl
        rw [this]; simp
      · rw [decide_eq_false g]; rfl
  · have : pot S.row + 1 = pot (va_up S.row (5 * m + c) (S.row (5 * m + c) ++ [e])) := pot_ch (row := va_up S.row (5 * m + c) (S.row (5 * m + c) ++ [e])) (m := m) (c := c) (by omega) hc (by rw [vz_same]; simp) (fun i h1 h2 => (vz_ne _ h2).symm)
    omega
/-- a beat is sent -/
theorem Cr.pM1 {S : XS} {w m : Nat} (h : Cr S w) (hm : m < S.nm) {t : TK} (ht : S.tk.find? (isUnf m) = some t) {e : RE} (he : e.r = t.rst t.beats) (het : e.t < 2 ^ 24) {f : TK → TK} (hf : ∀ t, (f t).m = t.m ∧ (f t).wr = t.wr ∧ (f t).con = t.con ∧ (f t).sent = t.sent ∧ (f t).beats = t.beats + 1) (hf2 : ∀ t, (f t).done = t.done ∧ (f t).resp = t.resp ∧ (f t).rst = t.rst) : Cr ((S.put (5 * m + 1) e).w_tk (updF (isUnf m) f S.tk)) w := by
  have hn4 := h.bd.nm
  obtain ⟨t1, t2⟩ := find_mem ht
  have hI := h.tk t t1
  unfold isUnf at t2
  simp only [Bool.and_eq_true, decide_eq_true_eq] at t2
  have hmv := h.mv
  rw [put_row]
  refine h.tkX (fun i hi => vz_ne _ (by omega)) ?_ ⟨?_, ?_, ?_⟩ ?_ ?_ ?_ ?_
  · refine IT.upd h.tk (fun y hy hp => ?_)
    have hy' := h.tk y hy
    unfold isUnf at hp
    simp only [Bool.and_eq_true, decide_eq_true_eq] at hp
    obtain ⟨f1, f2, f3, f4, f5⟩ := hf y
    obtain ⟨f6, f7, f8⟩ := hf2 y
    refine ⟨by rw [f1]; exact hy'.m, by rw [f3]; exact hy'.id, by rw [f3]; exact hy'.ru, by rw [f7]; exact hy'.rs, by rw [f4, f6]; exact hy'.sd, ?_, ?_, by rw [f2, f3, f8]; exact hy'.la⟩
    · rw [f6, f2, f7]
      intro hd
      exact ⟨(hy'.dn hd).1, fun hh => by rw [hh] at hp; cases hp.1.2⟩
    · intro _
      rw [f5, f3]
      omega
  · intro i hi x hx
    rcases up_mem hx with hx | hx
    · exact h.rw.ru i hi x hx
    · omega
  · intro m' c' h1 h2 x hx
    rcases up_mem hx with hx | hx
    · exact h.rw.id m' c' h1 h2 x hx
    · omega
  · intro t' x hx
    rcases up_mem hx with hx | hx
    · exact h.rw.b t' x hx
    · omega
  · intro i x hx
    rcases up_mem hx with hx | hx
    · exact h.bd.rowT i x hx
    · rw [hx.2]; exact het
  · intro m' hm'
    have h0 := h.em m' hm'
    rw [vz_ne _ (show 5 * m' ≠ 5 * m + 1 by omega)]
    by_cases hmm : m' = m
    · subst hmm
      rw [vz_same]
      exact h0.feed ht (by rw [he]; exact hI.la t2.1.2 t.beats t2.2) hf
    · rw [vz_ne _ (by omega)]
      refine h0.upd (fun y hp => ?_)
      unfold isUnf at hp
      simp only [Bool.and_eq_true, decide_eq_true_eq] at hp
      obtain ⟨f1, f2, f3, f4, f5⟩ := hf y
      unfold hU hS
      rw [f1]
      exact ⟨(if_neg (fun hh => hmm (hh.1.symm.trans hp.1.1))).trans (if_neg (fun hh => hmm (hh.1.symm.trans hp.1.1))).symm, (if_neg (fun hh => hmm (hh.1.symm.trans hp.1.1))).trans (if_neg (fun hh => hmm (hh.1.symm.trans hp.1.1))).symm⟩
  · intro m' hm' id
    have h0 := h.nc m' hm' id
    rw [vz_ne _ (show 5 * m' + 2 ≠ 5 * m + 1 by omega), vz_ne _ (show 5 * m' ≠ 5 * m + 1 by omega)]
    refine h0.upd (fun y hp => ?_)
    obtain ⟨f1, f2, f3, f4, f5⟩ := hf y
    unfold isAns
    rw [f1, f2, f3, f4, (hf2 y).1]
  · rw [pot_eq (row := S.row) (fun i h1 h2 => vz_ne _ (by omega))]
    exact hmv
/-- an answer comes -/
theorem Cr.pM2 {S : XS} {w m : Nat} (h : Cr S w) (hm : m < S.nm) {e : RE} {l : List RE} (he : S.row (5 * m + 2) = e :: l) : Cr ((S.drop (5 * m + 2)).w_tk (updF (isAns m true (rId e.r)) (fun t => ((t.w_resp (rRe e.r)).w_done (nI S.time))) S.tk)) w := by
  have hn4 := h.bd.nm
  have hx := time_m1 h.bd
  have hmv := h.mv
  rw [drop_row]
  refine h.tkX (fun i hi => vz_ne _ (by omega)) ?_ ⟨?_, ?_, ?_⟩ ?_ ?_ ?_ ?_
  · refine IT.upd h.tk (fun y hy hp => ?_)
    have hy' := h.tk y hy
    unfold isAns at hp
    simp only [Bool.and_eq_true, decide_eq_true_eq, Bool.not_eq_true', decide_eq_false_iff_not] at hp
    exact ⟨hy'.m, hy'.id, hy'.ru, rRe_lt _, fun hh => absurd hh hp.1.2, fun hd => absurd hd hx, hy'.be, hy'.la⟩
  · exact fun i hi x hx => h.rw.ru i hi x (dn_mem hx)
  · exact fun m' c' h1 h2 x hx => h.rw.id m' c' h1 h2 x (dn_mem hx)
  · exact fun t' x hx => h.rw.b t' x (dn_mem hx)
  · exact fun i x hx => h.bd.rowT i x (dn_mem hx)
  · intro m' hm'
    have h0 := h.em m' hm'
    rw [vz_ne _ (show 5 * m' ≠ 5 * m + 2 by omega), vz_ne _ (show 5 * m' + 1 ≠ 5 * m + 2 by omega)]
    exact h0.upd (fun y hp => ⟨rfl, rfl⟩)
  · intro m' hm' id
    have h0 := h.nc m' hm' id
    rw [vz_ne _ (show 5 * m' ≠ 5 * m + 2 by omega)]
    by_cases hmm : m' = m
    · subst hmm
      have h1 := h.nc m' hm' (rId e.r)
      rw [vz_same, he]
      rw [he] at h0 h1
      exact h1.came h0 (fun t => hx)
    · rw [vz_ne _ (by omega)]
      refine h0.upd (fun y hp => ?_)
      unfold isAns at hp
      simp only [Bool.and_eq_true, decide_eq_true_eq] at hp
      unfold isAns
      show (decide (y.m = m') && _ && _ && _ && _) = (decide (y.m = m') && _ && _ && _ && _)
      rw [decide_eq_false (by omega)]; rfl
  · rw [pot_eq (row := S.row) (fun i h1 h2 => vz_ne _ (by omega))]
    exact hmv
/-- a read's beat comes -/
theorem Cr.pM4 {S : XS} {w m : Nat} (h : Cr S w) (hm : m < S.nm) (c : Int64) (r : Int32) : Cr ((S.drop (5 * m + 4)).w_tk (updF (isAns m false (rId r)) (fun t => ((((t.w_dat (va_up t.dat t.beats c)).w_beats (t.beats + 1)).w_resp (max t.resp (rRe r))).w_done (if t.beats + 1 = leN t.con then nI S.time else m1))) S.tk)) w := by
  have hn4 := h.bd.nm
  have hx := time_m1 h.bd
  have hmv := h.mv
  rw [drop_row]
  refine h.tkX (fun i hi => vz_ne _ (by omega)) ?_ ⟨?_, ?_, ?_⟩ ?_ ?_ ?_ ?_
  · refine IT.upd h.tk (fun y hy hp => ?_)
    have hy' := h.tk y hy
    unfold isAns at hp
    simp only [Bool.and_eq_true, decide_eq_true_eq, Bool.not_eq_true', decide_eq_false_iff_not, beq_iff_eq] at hp
    have hw0 : y.wr = false := hp.1.1.1.2
    refine ⟨hy'.m, hy'.id, hy'.ru, ?_, fun hh => absurd hh hp.1.2, ?_, ?_, ?_⟩
    · show max y.resp (rRe r) < 4
      have := rRe_lt r
      have := hy'.rs
      omega
    · show (if y.beats + 1 = leN y.con then nI S.time else m1) = m1 → (y.wr = true → _) ∧ (y.wr = false → y.beats + 1 < leN y.con)
      intro hd
      refine ⟨fun hh => (by rw [hw0] at hh; cases hh), fun _ => ?_⟩
      have := (hy'.dn hp.2).2 hw0
      by_cases g : y.beats + 1 = leN y.con
      · rw [if_pos g] at hd; exact absurd hd hx
      · omega
    · intro hh
      have hh : y.wr = true := hh
      rw [hw0] at hh; cases hh
    · intro hh
      have hh : y.wr = true := hh
      rw [hw0] at hh; cases hh
  · exact fun i hi x hx => h.rw.ru i hi x (dn_mem hx)
  · exact fun m' c' h1 h2 x hx => h.rw.id m' c' h1 h2 x (dn_mem hx)
  · exact fun t' x hx => h.rw.b t' x (dn_mem hx)
  · exact fun i x hx => h.bd.rowT i x (dn_mem hx)
  · intro m' hm'
    have h0 := h.em m' hm'
    rw [vz_ne _ (show 5 * m' ≠ 5 * m + 4 by omega), vz_ne _ (show 5 * m' + 1 ≠ 5 * m + 4 by omega)]
    refine h0.upd (fun y hp => ?_)
    unfold isAns at hp
    simp only [Bool.and_eq_true, decide_eq_true_eq, beq_iff_eq] at hp
    have hw0 : y.wr = false := hp.1.1.1.2
    unfold hU hS
    show (if y.m = m' ∧ y.wr = true then _ else _) = _ ∧ (if y.m = m' ∧ y.wr = true ∧ y.sent = m1 then _ else _) = _
    rw [hw0]
    simp
  · intro m' hm' id
    have h0 := h.nc m' hm' id
    rw [vz_ne _ (show 5 * m' ≠ 5 * m + 4 by omega), vz_ne _ (show 5 * m' + 2 ≠ 5 * m + 4 by omega)]
    refine h0.upd (fun y hp => ?_)
    unfold isAns at hp
    simp only [Bool.and_eq_true, decide_eq_true_eq, beq_iff_eq] at hp
    have hw0 : y.wr = false := hp.1.1.1.2
    unfold isAns
    show (_ && (y.wr == true) && _ && _ && _) = (_ && (y.wr == true) && _ && _ && _)
    rw [hw0]
    simp
  · rw [pot_eq (row := S.row) (fun i h1 h2 => vz_ne _ (by omega))]
    exact hmv
