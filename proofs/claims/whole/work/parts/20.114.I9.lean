/-! THE STATE's OWN INVARIANTS: transfers at slaves -/
def smZ (T S : XS) : Prop := T.nm = S.nm ∧ T.ns = S.ns ∧ T.lim = S.lim ∧ T.pol = S.pol ∧ T.time = S.time ∧ T.dbeat = S.dbeat ∧ T.moved = S.moved ∧ T.pages = S.pages ∧ T.mpat = S.mpat ∧ T.spat = S.spat ∧ T.delay = S.delay ∧ T.way = S.way ∧ T.uw = S.uw ∧ T.ur = S.ur ∧ T.la = S.la ∧ T.lr = S.lr ∧ T.lb = S.lb ∧ T.lg = S.lg ∧ T.tk = S.tk ∧ T.mon = S.mon ∧ T.inb = S.inb
theorem Cr.slX {S T : XS} {w s : Nat} (h : Cr S w) (e : smZ T S) (hs : s < S.ns) (hR : ∀ i, i / 5 ≠ 4 + s → T.row i = S.row i) (hsw : ∀ s', s' ≠ s → T.sw s' = S.sw s') (hsr : ∀ s', s' ≠ s → T.sr s' = S.sr s')
    (b1 : ∀ y, T.mem y < 256) (b2 : ∀ e ∈ T.sw s, e.since < 2 ^ 24 ∧ e.got ≤ leN e.con ∧ e.resp < 4 ∧ ruN e.con = 0) (b3 : ∀ e ∈ T.sr s, e.since < 2 ^ 24 ∧ e.num < 2 ^ 24 ∧ e.got < leN e.con ∧ ruN e.con = 0 ∧ ∀ k, e.rsp k < 4) (b4 : ∀ s, T.rnum s < 2 ^ 24) (b5 : ∀ s q, T.lat s = some q → q.1 < 2 ^ 24 ∧ q.2 < 2 ^ 24) (b6 : ∀ s j q, T.rgt s j = some q → q.1 < 65536 ∧ q.2 < 129)
    (b7 : ∀ i, i / 5 = 4 + s → ∀ x ∈ T.row i, x.t < 2 ^ 24 ∧ (i % 5 = 0 ∨ i % 5 = 3 → ruN x.c = 0) ∧ (i % 5 = 2 → x.c = 0)) (tg : TGS T s) (rc : ∀ f, RCc s f S.ur (T.row (5 * (4 + s) + 4)) (T.row (5 * (4 + s) + 3)) (T.sr s)) (cb : ∀ s i, T.chb s = some i → i < (T.sw s).length) (ch : ∀ s i, T.chr s = some i → i < (T.sr s).length) : Cr T w := by
  obtain ⟨e_nm, e_ns, e_lim, e_pol, e_time, e_dbeat, e_moved, e_pages, e_mpat, e_spat, e_delay, e_way, e_uw, e_ur, e_la, e_lr, e_lb, e_lg, e_tk, e_mon, e_inb⟩ := e
  have hn4 := h.bd.nm
  have hs4 := h.bd.ns
  have hpot : pot T.row = pot S.row := pot_eq (fun i h1 h2 => hR i (by omega))
  refine ⟨?_, ?_, ?_, ?_, ?_, ?_, ?_, ?_, ?_, ?_, ?_, ?_, ?_, cb, ch, ?_, ?_, ?_⟩
  · refine ⟨?_, ?_, ?_, ?_, ?_, ?_, ?_, ?_, ?_, ?_, ?_, ?_, b1, ?_, ?_, b4, b5, ?_, ?_, ?_, ?_, ?_, ?_, b6, ?_, ?_⟩
    · rw [e_nm]; exact h.bd.nm
    · rw [e_ns]; exact h.bd.ns
    · rw [e_lim]; exact h.bd.lim
    · rw [e_pol]; exact h.bd.pol
    · rw [e_time]; exact h.bd.time
    · rw [e_dbeat]; exact h.bd.db
    · rw [e_moved, e_time]; exact h.bd.moved
    · rw [e_pages, e_ns]; exact h.bd.pages
    · rw [e_mpat]; exact h.bd.mpat
    · rw [e_spat]; exact h.bd.spat
    · rw [e_delay]; exact h.bd.delay
    · rw [e_way]; exact h.bd.way
    · intro s' x hx
      by_cases g : s' = s
      · subst g; exact b2 x hx
      · rw [hsw s' g] at hx; exact h.bd.sw s' x hx
    · intro s' x hx
      by_cases g : s' = s
      · subst g; exact b3 x hx
      · rw [hsr s' g] at hx; exact h.bd.sr s' x hx
    · rw [e_uw]; exact h.bd.uw
    · rw [e_ur]; exact h.bd.ur
    · rw [e_la, e_nm]; exact h.bd.la
    · rw [e_lr, e_nm]; exact h.bd.lr
    · rw [e_lb, e_ns]; exact h.bd.lb
    · rw [e_lg, e_ns]; exact h.bd.lg
    · intro i x hx
      by_cases g : i / 5 = 4 + s
      · exact (b7 i g x hx).1
      · rw [hR i g] at hx; exact h.bd.rowT i x hx
    · rw [e_tk]; exact h.bd.tk
  · rw [e_time]; exact h.tb
  · rw [e_tk, e_nm]; exact h.tk
  · refine ⟨?_, ?_, ?_⟩
    · intro i hi x hx
      by_cases g : i / 5 = 4 + s
      · exact (b7 i g x hx).2.1 hi
      · rw [hR i g] at hx; exact h.rw.ru i hi x hx
    · intro m' c' h1 h2 x hx
      rw [hR _ (by omega)] at hx
      exact h.rw.id m' c' h1 h2 x hx
    · intro t' x hx
      by_cases g : t' = s
      · exact (b7 _ (by omega) x hx).2.2 (by omega)
      · rw [hR _ (by omega)] at hx; exact h.rw.b t' x hx
  · rw [e_uw, e_nm, e_ns]; exact h.uw
  · rw [e_ur, e_nm, e_ns]; exact h.ur
  · rw [e_uw, e_moved]; exact h.pw
  · rw [e_nm, e_uw, e_tk]
    intro m' hm'
    rw [hR _ (by omega), hR _ (by omega)]
    exact h.em m' hm'
  · rw [e_nm, e_uw, e_tk]
    intro m' hm' id
    rw [hR _ (by omega), hR _ (by omega)]
    exact h.nc m' hm' id
  · rw [e_ns]
    intro t' ht'
    by_cases g : t' = s
    · subst g; exact tg
    · unfold TGS
      rw [e_uw, e_ns, hsw t' g, hR _ (by omega), hR _ (by omega), hR _ (by omega)]
      exact h.tg t' ht'
  · rw [e_ns, e_ur]
    intro t' ht' f
    by_cases g : t' = s
    · subst g; exact rc f
    · rw [hsr t' g, hR _ (by omega), hR _ (by omega)]
      exact h.rc t' ht' f
  · rw [e_ns, e_dbeat, hR _ (by omega)]; exact h.db
  · rw [e_mon]; exact h.mo
  · rw [e_inb, e_lg]; exact h.ib
  · rw [e_ns]
    intro s' hs'
    rw [hsw s' (by omega), hsr s' (by omega)]
    exact h.ou s' hs'
  · rw [e_moved, e_time, hpot]; exact h.mv
theorem cmS_app (a b : List WE) : cmS (a ++ b) = cmS a ++ cmS b := by unfold cmS; rw [List.filter_append, List.map_append]
theorem lkQ_app (a b : List WE) : lkQ (a ++ b) = lkQ a ++ lkQ b := by unfold lkQ; rw [List.filter_append, List.map_append]
theorem cmS_1 {e : WE} (b : List WE) (h : lackP e = false) : cmS (e :: b) = idN e.con :: cmS b := by unfold cmS; rw [List.filter_cons, h]; rfl
theorem cmS_0 {e : WE} (b : List WE) (h : lackP e = true) : cmS (e :: b) = cmS b := by unfold cmS; rw [List.filter_cons, h]; rfl
theorem lkQ_1 {e : WE} (b : List WE) (h : lackP e = true) : lkQ (e :: b) = (idN e.con, leN e.con - e.got) :: lkQ b := by unfold lkQ; rw [List.filter_cons, h]; rfl
theorem lkQ_0 {e : WE} (b : List WE) (h : lackP e = false) : lkQ (e :: b) = lkQ b := by unfold lkQ; rw [List.filter_cons, h]; rfl
theorem lkQ_n {l : List WE} (h : ∀ e ∈ l, lackP e = false) : lkQ l = [] := by
  unfold lkQ
  rw [List.filter_eq_nil_iff.mpr (fun e he => by rw [h e he]; decide)]; rfl

theorem Cr.rowB {S : XS} {w s : Nat} (h : Cr S w) (i : Nat) (hi : i / 5 = 4 + s) (x : RE) (hx : x ∈ S.row i) : x.t < 2 ^ 24 ∧ (i % 5 = 0 ∨ i % 5 = 3 → ruN x.c = 0) ∧ (i % 5 = 2 → x.c = 0) :=
  ⟨h.bd.rowT i x hx, fun g => h.rw.ru i g x hx, fun g => h.rw.b s x (by rw [show 5 * (4 + s) + 2 = i by omega]; exact hx)⟩
/-- an address of a write comes to its slave -/
theorem Cr.pS0 {S : XS} {w s p : Nat} (h : Cr S w) (hs : s < S.ns) {x : RE} {l : List RE} (hx : S.row (5 * (4 + s) + 0) = x :: l) : Cr ((S.drop (5 * (4 + s) + 0)).w_sw (va_up S.sw s (S.sw s ++ [newW x.c p]))) w := by
  have hxr : ruN x.c = 0 := h.rw.ru (5 * (4 + s) + 0) (by omega) x (by rw [hx]; exact List.mem_cons_self ..)
  have hlp : lackP (newW x.c p) = true := decide_eq_true (leN_pos x.c)
  obtain ⟨Q, q1, q2⟩ := h.tg s (by omega)
  refine h.slX (s := s) ⟨rfl, rfl, rfl, rfl, rfl, rfl, rfl, rfl, rfl, rfl, rfl, rfl, rfl, rfl, rfl, rfl, rfl, rfl, rfl, rfl, rfl⟩ hs ?_ ?_ (fun _ _ => rfl) h.bd.mem ?_ (h.bd.sr s) h.bd.rnum h.bd.lat h.bd.rgt ?_ ?_ ?_ ?_ h.ch
  · intro i hi
    exact vz_ne _ (by omega)
  · intro s' hs'
    exact vz_ne _ hs'
  · show ∀ e ∈ va_up S.sw s _ s, _
    rw [vz_same]
    intro e he
    rcases List.mem_append.mp he with he | he
    · exact h.bd.sw s e he
    · rw [List.mem_singleton.mp he]
      exact ⟨by show 0 < 2 ^ 24; decide, Nat.zero_le _, by show 0 < 4; decide, hxr⟩
  · intro i hi y hy
    exact h.rowB i hi y (dn_mem hy)
  · refine ⟨Q, ?_, ?_, fun g => absurd g (by show ¬ s = S.ns; omega)⟩
    · show TGc (S.uw.filter (isT s)) (va_up S.row (5 * (4 + s) + 0) _ (5 * (4 + s) + 1)) (va_up S.row (5 * (4 + s) + 0) _ (5 * (4 + s) + 2)) (cmS (va_up S.sw s _ s)) Q
      rw [vz_ne _ (by omega), vz_ne _ (by omega), vz_same, cmS_app, cmS_0 _ hlp, show cmS [] = [] from rfl, List.append_nil]
      exact q1
    · intro _
      show Q = lkQ (va_up S.sw s _ s) ++ awQ (va_up S.row (5 * (4 + s) + 0) _ (5 * (4 + s) + 0))
      rw [vz_same, vz_same, hx, lkQ_app, lkQ_1 _ hlp, q2.1 hs, show S.row (5 * (4 + s)) = x :: l from hx]
      show lkQ (S.sw s) ++ (idN x.c, leN x.c) :: awQ l = (lkQ (S.sw s) ++ [(idN x.c, leN x.c - 0)]) ++ awQ l
      simp
  · intro f
    show RCc s f S.ur (va_up S.row (5 * (4 + s) + 0) _ (5 * (4 + s) + 4)) (va_up S.row (5 * (4 + s) + 0) _ (5 * (4 + s) + 3)) (S.sr s)
    rw [vz_ne _ (by omega), vz_ne _ (by omega)]
    exact h.rc s (by omega) f
  · intro s' i hi
    have := h.cb s' i hi
    show i < (va_up S.sw s _ s').length
    rw [vz_at]
    split
    · rename_i e; subst e; rw [List.length_append]; omega
    · exact this
/-- an answer leaves its slave -/
theorem Cr.pS2 {S : XS} {w s k : Nat} (h : Cr S w) (hs : s < S.ns) {e : WE} (he : (S.sw s)[k]? = some e) (hg : e.got = leN e.con) {x : RE} (hx : rId x.r = idN e.con) (hxc : x.c = 0) (hxt : x.t < 2 ^ 24) : Cr (((S.put (5 * (4 + s) + 2) x).w_sw (va_up S.sw s ((S.sw s).eraseIdx k))).w_chb (va_up S.chb s none)) w := by
  have hlp : lackP e = false := decide_eq_false (by omega)
  obtain ⟨Q, q1, q2⟩ := h.tg s (by omega)
  have hk : k < (S.sw s).length := llt he
  obtain ⟨l1, l2, g1, g2⟩ : ∃ l1 l2, S.sw s = l1 ++ e :: l2 ∧ (S.sw s).eraseIdx k = l1 ++ l2 := by
    have hu' : (S.sw s)[k] = e := by
      rw [List.getElem?_eq_getElem hk] at he
      exact Option.some.inj he
    refine ⟨(S.sw s).take k, (S.sw s).drop (k + 1), ?_, List.eraseIdx_eq_take_drop_succ ..⟩
    rw [← hu', List.getElem_cons_drop, List.take_append_drop]
  have hsub : ∀ y ∈ (S.sw s).eraseIdx k, y ∈ S.sw s := fun y hy => List.mem_of_mem_eraseIdx hy
  refine h.slX (s := s) ⟨rfl, rfl, rfl, rfl, rfl, rfl, rfl, rfl, rfl, rfl, rfl, rfl, rfl, rfl, rfl, rfl, rfl, rfl, rfl, rfl, rfl⟩ hs ?_ ?_ (fun _ _ => rfl) h.bd.mem ?_ (h.bd.sr s) h.bd.rnum h.bd.lat h.bd.rgt ?_ ?_ ?_ ?_ h.ch
  · intro i hi
    exact vz_ne _ (by omega)
  · intro s' hs'
    exact vz_ne _ hs'
  · show ∀ e ∈ va_up S.sw s _ s, _
    rw [vz_same]
    intro y hy
    exact h.bd.sw s y (hsub y hy)
  · intro i hi y hy
    rcases up_mem hy with hy | hy
    · exact h.rowB i hi y hy
    · rw [hy.2]
      exact ⟨hxt, fun g => by omega, fun _ => hxc⟩
  · refine ⟨Q, ?_, ?_, fun g => absurd g (by show ¬ s = S.ns; omega)⟩
    · show TGc (S.uw.filter (isT s)) (va_up S.row (5 * (4 + s) + 2) _ (5 * (4 + s) + 1)) (va_up S.row (5 * (4 + s) + 2) _ (5 * (4 + s) + 2)) (cmS (va_up S.sw s _ s)) Q
      rw [vz_ne _ (by omega), vz_same, vz_same, g2]
      rw [g1] at q1
      refine q1.perm ?_
      rw [cmS_app, cmS_1 _ hlp, cmS_app, List.map_append, ← hx]
      show (_ ++ (cmS l1 ++ rId x.r :: cmS l2)).Perm ((_ ++ [rId x.r]) ++ _)
      rw [List.append_assoc]
      refine List.Perm.append_left _ ?_
      exact List.perm_middle
    · intro _
      show Q = lkQ (va_up S.sw s _ s) ++ awQ (va_up S.row (5 * (4 + s) + 2) _ (5 * (4 + s)))
      rw [vz_same, vz_ne _ (by omega), g2, q2.1 hs, g1, lkQ_app, lkQ_0 _ hlp, lkQ_app]
  · intro f
    show RCc s f S.ur (va_up S.row (5 * (4 + s) + 2) _ (5 * (4 + s) + 4)) (va_up S.row (5 * (4 + s) + 2) _ (5 * (4 + s) + 3)) (S.sr s)
    rw [vz_ne _ (by omega), vz_ne _ (by omega)]
    exact h.rc s (by omega) f
  · intro s' i hi
    have hi : va_up S.chb s none s' = some i := hi
    show i < (va_up S.sw s _ s').length
    rw [vz_at] at *
    split at hi
    · cases hi
    · rename_i e; rw [if_neg e]; exact h.cb s' i hi
theorem le_sz (c : Int64) : leN c * szN c < 129 := by
  have h1 := leN_le c
  have h2 := szN_le c
  have : leN c * szN c ≤ 16 * 8 := Nat.mul_le_mul h1 h2
  omega
/-- an address of a read comes to its slave -/
theorem Cr.pS3 {S : XS} {w s p : Nat} (h : Cr S w) (hs : s < S.ns) {x : RE} {l : List RE} (hx : S.row (5 * (4 + s) + 3) = x :: l) (hn : S.rnum s + 1 < 2 ^ 24) : Cr ((((S.drop (5 * (4 + s) + 3)).w_sr (va_up S.sr s (S.sr s ++ [S.newQ s x.c p]))).w_rnum (va_up S.rnum s (S.rnum s + 1))).w_rgt (va_up S.rgt s (S.newRgt s x.c))) w := by
  have hxr : ruN x.c = 0 := h.rw.ru (5 * (4 + s) + 3) (by omega) x (by rw [hx]; exact List.mem_cons_self ..)
  refine h.slX (s := s) ⟨rfl, rfl, rfl, rfl, rfl, rfl, rfl, rfl, rfl, rfl, rfl, rfl, rfl, rfl, rfl, rfl, rfl, rfl, rfl, rfl, rfl⟩ hs ?_ (fun _ _ => rfl) ?_ h.bd.mem (h.bd.sw s) ?_ ?_ h.bd.lat ?_ ?_ ?_ ?_ h.cb ?_
  · intro i hi
    exact vz_ne _ (by omega)
  · intro s' hs'
    exact vz_ne _ hs'
  · show ∀ e ∈ va_up S.sr s _ s, _
    rw [vz_same]
    intro e he
    rcases List.mem_append.mp he with he | he
    · exact h.bd.sr s e he
    · rw [List.mem_singleton.mp he]
      refine ⟨h.bd.time, h.bd.rnum s, leN_pos _, hxr, fun k => ?_⟩
      show (if spoR S.spo x.c k = true then 2 else exN x.c) < 4
      have := exN_lt x.c
      split <;> omega
  · intro s'
    show va_up S.rnum s _ s' < _
    rw [vz_at]
    split
    · exact hn
    · exact h.bd.rnum s'
  · intro s' j q hq
    have hq : va_up S.rgt s (S.newRgt s x.c) s' j = some q := hq
    rw [vz_at] at hq
    split at hq
    · unfold XS.newRgt at hq
      split at hq
      · rw [vz_at] at hq
        split at hq
        · cases hq
          exact ⟨adN_lt _, le_sz _⟩
        · exact h.bd.rgt s j q hq
      · exact h.bd.rgt s j q hq
    · exact h.bd.rgt s' j q hq
  · intro i hi y hy
    exact h.rowB i hi y (dn_mem hy)
  · obtain ⟨Q, q1, q2⟩ := h.tg s (by omega)
    refine ⟨Q, ?_, ?_⟩
    · show TGc (S.uw.filter (isT s)) (va_up S.row (5 * (4 + s) + 3) _ (5 * (4 + s) + 1)) (va_up S.row (5 * (4 + s) + 3) _ (5 * (4 + s) + 2)) (cmS (S.sw s)) Q
      rw [vz_ne _ (by omega), vz_ne _ (by omega)]
      exact q1
    · show QC S.ns s (S.sw s) (va_up S.row (5 * (4 + s) + 3) _ (5 * (4 + s))) Q
      rw [vz_ne _ (by omega)]
      exact q2
  · intro f
    have h0 := h.rc s (by omega) f
    show RCc s f S.ur (va_up S.row (5 * (4 + s) + 3) _ (5 * (4 + s) + 4)) (va_up S.row (5 * (4 + s) + 3) _ (5 * (4 + s) + 3)) (va_up S.sr s _ s)
    rw [vz_ne _ (by omega), vz_same, vz_same, hx]
    rw [hx] at h0
    unfold RCc at *
    rw [List.countP_cons] at h0
    rw [List.countP_append, List.countP_cons, List.countP_nil]
    have e2 : (S.newQ s x.c p).con = x.c := rfl
    rw [e2]
    show _ = _ + _ + List.countP _ l
    omega
  · intro s' i hi
    have := h.ch s' i hi
    show i < (va_up S.sr s _ s').length
    rw [vz_at]
    split
    · rename_i e; subst e; rw [List.length_append]; omega
    · exact this
/-- a read's beat leaves its slave -/
theorem Cr.pS4 {S T : XS} {w s k : Nat} (h : Cr S w) (hs : s < S.ns) {e : QE} (he : (S.sr s)[k]? = some e) {x : RE} (hx : rId x.r = idN e.con) (hxl : rLa x.r = decide (e.got + 1 = leN e.con)) (hxt : x.t < 2 ^ 24) {L : List QE} (hL : L = if e.got + 1 = leN e.con then (S.sr s).eraseIdx k else (S.sr s).set k (e.w_got (e.got + 1))) (hT : smZ T S) (t1 : T.row = va_up S.row (5 * (4 + s) + 4) (S.row (5 * (4 + s) + 4) ++ [x])) (t2 : T.sw = S.sw) (t3 : T.sr = va_up S.sr s L) (t4 : T.mem = S.mem) (t5 : T.rnum = S.rnum) (t6 : T.lat = va_up S.lat s (some (e.since, e.num))) (t7 : T.rgt = S.rgt) (t8 : T.chb = S.chb) (t9 : T.chr = va_up S.chr s none) : Cr T w := by
  have hk : k < (S.sr s).length := llt he
  have heb := h.bd.sr s e (lmem he)
  obtain ⟨l1, l2, g1, g2, g3⟩ : ∃ l1 l2, S.sr s = l1 ++ e :: l2 ∧ (S.sr s).eraseIdx k = l1 ++ l2 ∧ l1.length = k := by
    have hu' : (S.sr s)[k] = e := by
      rw [List.getElem?_eq_getElem hk] at he
      exact Option.some.inj he
    refine ⟨(S.sr s).take k, (S.sr s).drop (k + 1), ?_, List.eraseIdx_eq_take_drop_succ .., by rw [List.length_take]; omega⟩
    rw [← hu', List.getElem_cons_drop, List.take_append_drop]
  have hLb : ∀ y ∈ L, y.since < 2 ^ 24 ∧ y.num < 2 ^ 24 ∧ y.got < leN y.con ∧ ruN y.con = 0 ∧ ∀ k, y.rsp k < 4 := by
    intro y hy
    rw [hL] at hy
    split at hy
    · exact h.bd.sr s y (List.mem_of_mem_eraseIdx hy)
    · rename_i hne
      rw [g1, set_mid g3] at hy
      rcases mem_mid hy with hy | hy
      · rw [hy]
        exact ⟨heb.1, heb.2.1, by show e.got + 1 < leN e.con; omega, heb.2.2.2.1, heb.2.2.2.2⟩
      · exact h.bd.sr s y (by rw [g1]; exact mid_mem (Or.inr hy))
  have hLc : ∀ f, L.countP (fun e => decide (idN e.con = f)) + (if e.got + 1 = leN e.con ∧ idN e.con = f then 1 else 0) = (S.sr s).countP (fun e => decide (idN e.con = f)) := by
    intro f
    rw [hL]
    split
    · rename_i hl
      rw [g2, g1, List.countP_append, List.countP_append, List.countP_cons]
      by_cases hf : idN e.con = f
      · rw [if_pos ⟨hl, hf⟩, if_pos (decide_eq_true hf)]; omega
      · rw [if_neg (fun hh => hf hh.2), if_neg (by simpa using hf)]; omega
    · rename_i hl
      rw [if_neg (fun hh => hl hh.1), g1, set_mid g3, List.countP_append, List.countP_append, List.countP_cons, List.countP_cons]
      rfl
  refine h.slX (s := s) hT hs ?_ ?_ ?_ (by rw [t4]; exact h.bd.mem) (by rw [t2]; exact h.bd.sw s) ?_ (by rw [t5]; exact h.bd.rnum) ?_ (by rw [t7]; exact h.bd.rgt) ?_ ?_ ?_ (by rw [t8, t2]; exact h.cb) ?_
  · intro i hi
    rw [t1]
    exact vz_ne _ (by omega)
  · intro s' hs'
    rw [t2]
  · intro s' hs'
    rw [t3]
    exact vz_ne _ hs'
  · rw [t3, vz_same]; exact hLb
  · rw [t6]
    intro s' q hq
    rw [vz_at] at hq
    split at hq
    · cases hq; exact ⟨heb.1, heb.2.1⟩
    · exact h.bd.lat s' q hq
  · intro i hi y hy
    rw [t1] at hy
    rcases up_mem hy with hy | hy
    · exact h.rowB i hi y hy
    · rw [hy.2]
      exact ⟨hxt, fun g => by omega, fun g => by omega⟩
  · obtain ⟨e_nm, e_ns, e_lim, e_pol, e_time, e_dbeat, e_moved, e_pages, e_mpat, e_spat, e_delay, e_way, e_uw, e_ur, e_la, e_lr, e_lb, e_lg, e_tk, e_mon, e_inb⟩ := hT
    unfold TGS
    rw [e_uw, e_ns, t1, t2, vz_ne _ (by omega), vz_ne _ (by omega), vz_ne _ (by omega)]
    exact h.tg s (by omega)
  · intro f
    have h0 := h.rc s (by omega) f
    have h1 := hLc f
    rw [t1, t3, vz_same, vz_same, vz_ne _ (by omega)]
    unfold RCc at *
    rw [List.countP_append, List.countP_cons, List.countP_nil]
    have e2 : isR f x = decide (e.got + 1 = leN e.con ∧ idN e.con = f) := by
      unfold isR
      rw [hx, hxl, Bool.decide_and]
    rw [e2]
    simp only [decide_eq_true_eq]
    omega
  · intro s' i hi
    rw [t9, vz_at] at hi
    split at hi
    · cases hi
    · rename_i g
      rw [t3, vz_ne _ g]
      exact h.ch s' i hi
