/-! THE STATE's OWN INVARIANTS: transfers -/
def tS (S : XS) (j s : Nat) : Nat := S.time + (if 5 * (4 + s) + 3 < j then 1 else 0)
theorem tS_le (S : XS) (j s : Nat) : tS S j s ≤ tS S (j + 1) s := by
  unfold tS
  repeat' split
  all_goals omega
def OrS (S : XS) (j : Nat) : Prop := (∀ s, S.rnum s ≤ tS S j s) ∧ (∀ s, ∀ e ∈ S.sr s, e.num < S.rnum s ∧ e.since < tS S j s) ∧ (∀ s q, S.lat s = some q → q.2 < S.rnum s ∧ q.1 < tS S j s) ∧ (∀ s, ∀ e ∈ S.sr s, ∀ e' ∈ S.sr s, (e.since < e'.since ↔ e.num < e'.num)) ∧ (∀ s q, S.lat s = some q → ∀ e ∈ S.sr s, (q.1 < e.since ↔ q.2 < e.num))
theorem OrS.n {S : XS} {j : Nat} (h : OrS S j) : ∀ s, S.rnum s ≤ tS S j s := h.1
theorem OrS.e {S : XS} {j : Nat} (h : OrS S j) : ∀ s, ∀ e ∈ S.sr s, e.num < S.rnum s ∧ e.since < tS S j s := h.2.1
theorem OrS.l {S : XS} {j : Nat} (h : OrS S j) : ∀ s q, S.lat s = some q → q.2 < S.rnum s ∧ q.1 < tS S j s := h.2.2.1
theorem OrS.p {S : XS} {j : Nat} (h : OrS S j) : ∀ s, ∀ e ∈ S.sr s, ∀ e' ∈ S.sr s, (e.since < e'.since ↔ e.num < e'.num) := h.2.2.2.1
theorem OrS.q {S : XS} {j : Nat} (h : OrS S j) : ∀ s q, S.lat s = some q → ∀ e ∈ S.sr s, (q.1 < e.since ↔ q.2 < e.num) := h.2.2.2.2
/-- end of OrS -/
theorem OrS.keep {S T : XS} {j : Nat} (h : OrS S j) (e1 : T.time = S.time) (e2 : T.rnum = S.rnum) (e3 : T.sr = S.sr) (e4 : T.lat = S.lat) : OrS T (j + 1) := by
  have et : ∀ s, tS S j s ≤ tS T (j + 1) s := by
    intro s
    have := tS_le S j s
    unfold tS at *
    rw [e1]
    exact this
  refine ⟨?_, ?_, ?_, ?_, ?_⟩
  · rw [e2]; exact fun s => Nat.le_trans (h.n s) (et s)
  · rw [e2, e3]; exact fun s e he => ⟨(h.e s e he).1, Nat.lt_of_lt_of_le (h.e s e he).2 (et s)⟩
  · rw [e2, e4]; exact fun s q he => ⟨(h.l s q he).1, Nat.lt_of_lt_of_le (h.l s q he).2 (et s)⟩
  · rw [e3]; exact h.p
  · rw [e3, e4]; exact h.q
theorem Cr.mono {S : XS} {w w' : Nat} (h : Cr S w) (h1 : w ≤ w') (h2 : w' ≤ 60 * S.time + 60) : Cr S w' := by
  have := h.mv
  exact ⟨h.bd, h.tb, h.tk, h.rw, h.uw, h.ur, h.pw, h.em, h.nc, h.tg, h.rc, h.db, h.mo, h.cb, h.ch, h.ib, h.ou, ⟨by omega, h2⟩⟩
theorem Cr.bump {S : XS} {w : Nat} (h : Cr S w) (p c : Nat) : Cr (S.bump p c) w := by
  have hb : Bd (S.bump p c) := ⟨h.bd.nm, h.bd.ns, h.bd.lim, h.bd.pol, h.bd.time, h.bd.db, h.bd.moved, h.bd.pages, h.bd.mpat, h.bd.spat, h.bd.delay, h.bd.way, h.bd.mem, h.bd.sw, h.bd.sr, h.bd.rnum, h.bd.lat, h.bd.uw, h.bd.ur, h.bd.la, h.bd.lr, h.bd.lb, h.bd.lg, h.bd.rgt, h.bd.rowT, h.bd.tk⟩
  exact ⟨hb, h.tb, h.tk, h.rw, h.uw, h.ur, h.pw, h.em, h.nc, h.tg, h.rc, h.db, h.mo, h.cb, h.ch, h.ib, h.ou, h.mv⟩
theorem Ws.bump {S : XS} {j : Nat} (h : Ws S j) (p c : Nat) : Ws (S.bump p c) j := ⟨h.a, h.d, h.b, h.r, h.mr, h.mh, h.sr, h.sh, h.mp, h.sp, h.s0, h.s1, h.s3⟩
theorem OrS.bump {S : XS} {j : Nat} (h : OrS S j) (p c : Nat) : OrS (S.bump p c) j := ⟨h.n, h.e, h.l, h.p, h.q⟩
theorem passM_03 (S : XS) (m c : Nat) (hc : c = 0 ∨ c = 3) : S.passM m c = (S.put (5 * m + c) ⟨((S.wi m).w c).c, ((S.wi m).w c).r, S.time⟩).w_tk (updF (isUns m (decide (c = 0))) (fun t => (t.w_sent (nI S.time))) S.tk) := by
  unfold XS.passM
  rw [if_pos hc]
theorem passM_1f (S : XS) (m : Nat) : ∃ f : TK → TK, (∀ t, (f t).m = t.m ∧ (f t).wr = t.wr ∧ (f t).con = t.con ∧ (f t).sent = t.sent ∧ (f t).beats = t.beats + 1) ∧ (∀ t, (f t).done = t.done ∧ (f t).resp = t.resp ∧ (f t).rst = t.rst) ∧ S.passM m 1 = (S.put (5 * m + 1) ⟨((S.wi m).w 1).c, ((S.wi m).w 1).r, S.time⟩).w_tk (updF (isUnf m) f S.tk) := by
  obtain ⟨g, hg⟩ : ∃ g, g = lcg := ⟨lcg, rfl⟩
  have h : S.passM m 1 = (S.put (5 * m + 1) ⟨((S.wi m).w 1).c, ((S.wi m).w 1).r, S.time⟩).w_tk (updF (isUnf m) (fun t => ((t.w_beats (t.beats + 1)).w_seed (g t.seed))) S.tk) := by
    unfold XS.passM
    rw [if_neg (show ¬ (1 = 0 ∨ 1 = 3) by omega), if_pos rfl, ← hg]
  clear hg
  exact ⟨(fun t => ((t.w_beats (t.beats + 1)).w_seed (g t.seed))), fun t => ⟨rfl, rfl, rfl, rfl, rfl⟩, fun t => ⟨rfl, rfl, rfl⟩, h⟩
theorem rowW_v {l : List RE} {x : WV} (h : x = rowW l) (hv : x.v = true) : ∃ e l', l = e :: l' ∧ x.c = e.c ∧ x.r = e.r := by
  cases l with
  | nil => rw [h] at hv; cases hv
  | cons e l => exact ⟨e, l, rfl, by rw [h]; rfl, by rw [h]; rfl⟩
theorem isUns_iff {m : Nat} {wr : Bool} {t : TK} : isUns m wr t = true ↔ t.m = m ∧ t.wr = wr ∧ t.sent = m1 := by
  unfold isUns
  simp only [Bool.and_eq_true, decide_eq_true_eq, beq_iff_eq, and_assoc]
theorem isUnf_iff {m : Nat} {t : TK} : isUnf m t = true ↔ t.m = m ∧ t.wr = true ∧ t.beats < leN t.con := by
  unfold isUnf
  simp only [Bool.and_eq_true, decide_eq_true_eq, and_assoc]
theorem isAns_wr {m id : Nat} {wr : Bool} {t : TK} (h : isAns m wr id t = true) : t.m = m ∧ t.wr = wr := by
  unfold isAns at h
  simp only [Bool.and_eq_true, decide_eq_true_eq, beq_iff_eq] at h
  exact ⟨h.1.1.1.1, h.1.1.1.2⟩
theorem bool_ff {a b : Bool} (h1 : ¬ a = true) (h2 : ¬ b = true) : a = b := by
  cases a <;> cases b <;> simp_all
/-- a transfer at a master -/
theorem go_mst {S : XS} {w m c : Nat} (h : Cr S w) (hw : w + 1 ≤ 60 * S.time + 60) (hW : Ws S (5 * m + c)) (hO : OrS S (5 * m + c)) (hc : c < 5) (hm : m < S.nm) (hmv : mvW (S.wi m) c = true) : Cr (S.passM m c) (w + 1) ∧ Ws (S.passM m c) (5 * m + c + 1) ∧ OrS (S.passM m c) (5 * m + c + 1) := by
  obtain ⟨v1, v2⟩ := mv_v hmv
  have hn4 := h.bd.nm
  have hx := time_m1 h.bd
  have htm := h.bd.time
  have hc5 : (c = 0 ∨ c = 3) ∨ c = 1 ∨ c = 2 ∨ c = 4 := by omega
  rcases hc5 with hc03 | rfl | rfl | rfl
  · obtain ⟨t, t1, t2⟩ := hW.a m hm c hc03 v1 (Or.inl (Nat.le_refl _))
    rw [passM_03 S m c hc03]
    refine ⟨h.pM0 hm hc03 t1 (by rw [t2]) htm hw, ?_, hO.keep rfl rfl rfl rfl⟩
    refine hW.mst hc hmv rfl rfl rfl rfl rfl rfl rfl hm hn4.2 (fun i hi => vz_ne _ hi) ?_ ?_
    · intro m' c' hc' hne t ht
      refine updF_findK (p := isUns m (decide (c = 0))) (f := fun t => (t.w_sent (nI S.time))) TK.con (fun x hp => ?_) (fun x _ _ => rfl) ht
      refine bool_ff (fun hq => ?_) (fun hq => ?_)
      · exact hx (isUns_iff.mp hq).2.2
      · obtain ⟨p1, p2, p3⟩ := isUns_iff.mp hp
        obtain ⟨q1, q2, q3⟩ := isUns_iff.mp hq
        refine hne ⟨q1.symm.trans p1, ?_⟩
        have : decide (c' = 0) = decide (c = 0) := q2.symm.trans p2
        have := decide_eq_decide.mp this
        omega
    · intro m' _ t ht
      obtain ⟨t', t3, t4⟩ := updF_findK (p := isUns m (decide (c = 0))) (q := isUnf m') (f := fun t => (t.w_sent (nI S.time))) (fun t => (t.dat t.beats, t.rst t.beats)) (fun x _ => rfl) (fun x _ _ => rfl) ht
      exact ⟨t', t3, congrArg Prod.fst t4, congrArg Prod.snd t4⟩
  · obtain ⟨t, t1, t2⟩ := hW.d m hm v1 (Or.inl (Nat.le_refl _))
    obtain ⟨f, f1, f2, f3⟩ := passM_1f S m
    rw [f3]
    refine ⟨(h.pM1 hm t1 (by rw [t2]) htm f1 f2).mono (Nat.le_succ _) hw, ?_, hO.keep rfl rfl rfl rfl⟩
    refine hW.mst hc hmv rfl rfl rfl rfl rfl rfl rfl hm hn4.2 (fun i hi => vz_ne _ hi) ?_ ?_
    · intro m' c' hc' hne t ht
      refine updF_findK TK.con (fun x hp => ?_) (fun x _ _ => (f1 x).2.2.1) ht
      unfold isUns
      rw [(f1 x).1, (f1 x).2.1, (f1 x).2.2.2.1]
    · intro m' hne t ht
      have hmm : m' ≠ m := fun e => hne ⟨e, rfl⟩
      obtain ⟨t', t3, t4⟩ := updF_findK (p := isUnf m) (q := isUnf m') (f := f) (fun t => (t.dat t.beats, t.rst t.beats)) (fun x hp => bool_ff (fun hq => hmm ((isUnf_iff.mp hq).1.symm.trans ((f1 x).1.trans (isUnf_iff.mp hp).1))) (fun hq => hmm ((isUnf_iff.mp hq).1.symm.trans (isUnf_iff.mp hp).1))) (fun x hp hq => absurd ((isUnf_iff.mp hq).1.symm.trans (isUnf_iff.mp hp).1) hmm) ht
      exact ⟨t', t3, congrArg Prod.fst t4, congrArg Prod.snd t4⟩
  · obtain ⟨e, l, r1, r2, r3⟩ := rowW_v (hW.mr m hm 2 (Or.inl rfl) (Nat.le_refl _)) v1
    rw [passM_2, r3]
    refine ⟨(h.pM2 hm r1).mono (Nat.le_succ _) hw, ?_, hO.keep rfl rfl rfl rfl⟩
    refine hW.mst hc hmv rfl rfl rfl rfl rfl rfl rfl hm hn4.2 (fun i hi => vz_ne _ hi) ?_ ?_
    · intro m' c' hc' hne t ht
      exact updF_findK (p := isAns m true (rId e.r)) (f := fun t => ((t.w_resp (rRe e.r)).w_done (nI S.time))) TK.con (fun x hp => rfl) (fun x _ _ => rfl) ht
    · intro m' _ t ht
      obtain ⟨t', t3, t4⟩ := updF_findK (p := isAns m true (rId e.r)) (q := isUnf m') (f := fun t => ((t.w_resp (rRe e.r)).w_done (nI S.time))) (fun t => (t.dat t.beats, t.rst t.beats)) (fun x _ => rfl) (fun x _ _ => rfl) ht
      exact ⟨t', t3, congrArg Prod.fst t4, congrArg Prod.snd t4⟩
  · rw [passM_4]
    refine ⟨(h.pM4 hm _ _).mono (Nat.le_succ _) hw, ?_, hO.keep rfl rfl rfl rfl⟩
    refine hW.mst hc hmv rfl rfl rfl rfl rfl rfl rfl hm hn4.2 (fun i hi => vz_ne _ hi) ?_ ?_
    · intro m' c' hc' hne t ht
      exact updF_findK (p := isAns m false (rId ((S.wi m).w 4).r)) (f := fun t => ((((t.w_dat (va_up t.dat t.beats ((S.wi m).w 4).c)).w_beats (t.beats + 1)).w_resp (max t.resp (rRe ((S.wi m).w 4).r))).w_done (if t.beats + 1 = leN t.con then nI S.time else m1))) TK.con (fun x hp => rfl) (fun x _ _ => rfl) ht
    · intro m' _ t ht
      have hno : ∀ x, isAns m false (rId ((S.wi m).w 4).r) x = true → x.wr ≠ true := fun x hp => by rw [(isAns_wr hp).2]; decide
      obtain ⟨t', t3, t4⟩ := updF_findK (p := isAns m false (rId ((S.wi m).w 4).r)) (q := isUnf m') (f := fun t => ((((t.w_dat (va_up t.dat t.beats ((S.wi m).w 4).c)).w_beats (t.beats + 1)).w_resp (max t.resp (rRe ((S.wi m).w 4).r))).w_done (if t.beats + 1 = leN t.con then nI S.time else m1))) (fun t => (t.dat t.beats, t.rst t.beats)) (fun x hp => bool_ff (fun hq => hno x hp (isUnf_iff.mp hq).2.1) (fun hq => hno x hp (isUnf_iff.mp hq).2.1)) (fun x hp hq => absurd (isUnf_iff.mp hq).2.1 (hno x hp)) ht
      exact ⟨t', t3, congrArg Prod.fst t4, congrArg Prod.snd t4⟩
theorem wvR_at {e : QE} (h : e.got < leN e.con) (h2 : ∀ k, e.rsp k < 4) : rId (wvR e).r = idN e.con ∧ rLa (wvR e).r = decide (e.got + 1 = leN e.con) := by
  obtain ⟨a1, a2, a3⟩ := rId_ans (l := decide (e.got = leN e.con - 1)) (idN_lt e.con) (h2 e.got)
  refine ⟨a1, ?_⟩
  show rLa (nI (ansR (idN e.con) (e.rsp e.got) (decide (e.got = leN e.con - 1)))) = _
  rw [a3]
  exact decide_eq_decide.mpr (by omega)
theorem pS_oth {S : XS} {s c : Nat} (hc : c = 0 ∨ c = 2) : (S.passS s c).sr = S.sr ∧ (S.passS s c).rnum = S.rnum ∧ (S.passS s c).lat = S.lat ∧ (S.passS s c).chr = S.chr := by
  rcases hc with rfl | rfl
  · exact ⟨rfl, rfl, rfl, rfl⟩
  · exact ⟨rfl, rfl, rfl, rfl⟩
theorem pS_rowo {S : XS} {s c : Nat} (hc : c < 5) : ∀ i, i ≠ 5 * (4 + s) + c → (S.passS s c).row i = S.row i := by
  intro i hi
  rw [pS_row S hc]
  split
  · exact vz_ne _ hi
  · exact vz_ne _ hi
theorem fi_app {α : Type} {p : α → Bool} {l l' : List α} {i : Nat} (h : l.findIdx? p = some i) : ∃ i, (l ++ l').findIdx? p = some i := by
  rw [List.findIdx?_append, h]
  exact ⟨i, rfl⟩
/-- a transfer at a slave -/
theorem go_slv {S : XS} {w s c : Nat} (h : Cr S w) (hW : Ws S (5 * (4 + s) + c)) (hO : OrS S (5 * (4 + s) + c)) (hc : c < 5) (hs : s < S.ns) (hmv : mvW (S.wi (4 + s)) c = true) : Cr (S.passS s c) w ∧ Ws (S.passS s c) (5 * (4 + s) + c + 1) ∧ OrS (S.passS s c) (5 * (4 + s) + c + 1) := by
  obtain ⟨v1, v2⟩ := mv_v hmv
  have hn4 := h.bd.nm
  have htm := h.bd.time
  have htb := h.tb
  have hne : ∀ s', s' ≠ s → (S.passS s c).sw s' = S.sw s' ∧ (S.passS s c).sr s' = S.sr s' ∧ (S.passS s c).chb s' = S.chb s' ∧ (S.passS s c).chr s' = S.chr s' := fun s' hs' => by
    obtain ⟨a1, a2, a3, a4, a5, a6⟩ := pS_ne S (c := c) hs'
    exact ⟨a1, a2, a4, a5⟩
  have hc5 : c = 0 ∨ c = 1 ∨ c = 2 ∨ c = 3 ∨ c = 4 := by omega
  rcases hc5 with rfl | rfl | rfl | rfl | rfl
  · obtain ⟨x, l, r1, r2, r3⟩ := rowW_v (hW.sr s hs 0 (Or.inl rfl) (Nat.le_refl _)) v1
    refine ⟨?_, ?_, hO.keep rfl rfl rfl rfl⟩
    · rw [passS_0, r2]
      exact h.pS0 hs r1
    · refine hW.slv hc hmv hn4.2 hs (pS_nm _ _ _) (pS_ns _ _ _) (pS_wi _ _ _) (pS_tk _ _ _) hne (pS_rowo hc) (fun _ => ⟨rfl, fun i e he _ => ?_⟩) (fun _ => ⟨rfl, fun i e he => he⟩) (fun _ i hi => ?_) (fun _ => rfl)
      · show (va_up S.sw s _ s)[i]? = some e
        rw [vz_same, List.getElem?_append_left (llt he)]
        exact he
      · show ∃ i, (va_up S.sw s _ s).findIdx? lackP = some i
        rw [vz_same]
        exact fi_app hi
  · obtain ⟨x, l, r1, r2, r3⟩ := rowW_v (hW.sr s hs 1 (Or.inr (Or.inl rfl)) (Nat.le_refl _)) v1
    obtain ⟨k, hk⟩ := hW.s1 s hs (Nat.le_refl _) v2
    obtain ⟨e, he, hef, hel⟩ := fi_some hk
    have heb := h.bd.sw s e (lmem he)
    obtain ⟨e', c1, c2, c3, c4, c5, c6, c7, c8, c9, c10, c11, c12⟩ := pS1_st hk he h.bd.mem h.bd.rgt h.bd.time ⟨heb.1, heb.2.2.1⟩
    refine ⟨h.pS1 hs r1 hk, ?_, hO.keep (pS_time _ _ _) c7 c6 c8⟩
    refine hW.slv hc hmv hn4.2 hs (pS_nm _ _ _) (pS_ns _ _ _) (pS_wi _ _ _) (pS_tk _ _ _) hne (pS_rowo hc) (fun _ => ⟨by rw [c9], fun i y hy hg => ?_⟩) (fun _ => ⟨by rw [c10], fun i e he => by rw [c6]; exact he⟩) (fun g => absurd g (by decide)) (fun _ => by rw [c6])
    rw [c5, vz_same, List.getElem?_set_ne]
    · exact hy
    · rintro rfl
      rw [he] at hy
      cases hy
      have := of_decide_eq_true hel
      omega
  · obtain ⟨i, e, g1, g2, g3, g4⟩ := hW.b s hs v1 (Or.inl (Nat.le_refl _))
    have heb := h.bd.sw s e (lmem g2)
    obtain ⟨a1, a2, a3⟩ := rId_ans (l := false) (idN_lt e.con) heb.2.2.1
    refine ⟨?_, ?_, hO.keep rfl rfl rfl rfl⟩
    · rw [passS_2, g1]
      exact h.pS2 hs g2 g3 (x := ⟨0, ((S.wi (4 + s)).w 2).r, S.time⟩) (by rw [g4]; exact a1) rfl htm
    · exact hW.slv hc hmv hn4.2 hs (pS_nm _ _ _) (pS_ns _ _ _) (pS_wi _ _ _) (pS_tk _ _ _) hne (pS_rowo hc) (fun g => absurd rfl g) (fun _ => ⟨rfl, fun i e he => he⟩) (fun g => absurd g (by decide)) (fun _ => rfl)
  · obtain ⟨x, l, r1, r2, r3⟩ := rowW_v (hW.sr s hs 3 (Or.inr (Or.inr rfl)) (Nat.le_refl _)) v1
    have hnt : S.rnum s ≤ S.time := by
      have := hO.n s
      unfold tS at this
      rw [if_neg (by omega)] at this
      exact this
    have hes : ∀ y ∈ S.sr s, y.since < S.time ∧ y.num < S.rnum s := by
      intro y hy
      have := hO.e s y hy
      unfold tS at this
      rw [if_neg (by omega)] at this
      exact ⟨this.2, this.1⟩
    refine ⟨?_, ?_, ?_⟩
    · rw [passS_3, r2]
      exact h.pS3 hs r1 (by omega)
    · refine hW.slv hc hmv hn4.2 hs (pS_nm _ _ _) (pS_ns _ _ _) (pS_wi _ _ _) (pS_tk _ _ _) hne (pS_rowo hc) (fun _ => ⟨rfl, fun i e he _ => he⟩) (fun _ => ⟨rfl, fun i e he => ?_⟩) (fun g => absurd g (by decide)) (fun g => absurd g (by decide))
      show (va_up S.sr s _ s)[i]? = some e
      rw [vz_same, List.getElem?_append_left (llt he)]
      exact he
    · have hsr : (S.passS s 3).sr = va_up S.sr s (S.sr s ++ [S.newQ s ((S.wi (4 + s)).w 3).c (freeP ((S.sr s).map QE.place) (4 * s) 4)]) := rfl
      have hrn : (S.passS s 3).rnum = va_up S.rnum s (S.rnum s + 1) := rfl
      have hlt : (S.passS s 3).lat = S.lat := rfl
      generalize hnq : S.newQ s ((S.wi (4 + s)).w 3).c (freeP ((S.sr s).map QE.place) (4 * s) 4) = nq at hsr
      have q1 : nq.since = S.time := by rw [← hnq]; rfl
      have q2 : nq.num = S.rnum s := by rw [← hnq]; rfl
      have et : ∀ s', tS S (5 * (4 + s) + 3) s' ≤ tS (S.passS s 3) (5 * (4 + s) + 3 + 1) s' := by
        intro s'
        have := tS_le S (5 * (4 + s) + 3) s'
        unfold tS at *
        rw [pS_time]
        exact this
      have ets : tS (S.passS s 3) (5 * (4 + s) + 3 + 1) s = S.time + 1 := by
        unfold tS
        rw [if_pos (by omega), pS_time]
      have hmem : ∀ y ∈ S.sr s ++ [nq], (y ∈ S.sr s ∧ y.since < S.time ∧ y.num < S.rnum s) ∨ y = nq := by
        intro y hy
        rcases List.mem_append.mp hy with hy | hy
        · exact Or.inl ⟨hy, hes y hy⟩
        · exact Or.inr (List.mem_singleton.mp hy)
      refine ⟨?_, ?_, ?_, ?_, ?_⟩
      · intro s'
        rw [hrn, vz_at]
        split
        · rename_i e; subst e; rw [ets]; omega
        · exact Nat.le_trans (hO.n s') (et s')
      · intro s' y hy
        rw [hsr, vz_at] at hy
        rw [hrn, vz_at]
        split at hy
        · rename_i e; subst e
          rw [if_pos rfl, ets]
          rcases hmem y hy with ⟨g, g1, g2⟩ | g
          · omega
          · rw [g, q1, q2]; omega
        · rename_i e
          rw [if_neg e]
          have := hO.e s' y hy
          exact ⟨this.1, Nat.lt_of_lt_of_le this.2 (et s')⟩
      · intro s' q hq
        rw [hlt] at hq
        have := hO.l s' q hq
        rw [hrn, vz_at]
        refine ⟨?_, Nat.lt_of_lt_of_le this.2 (et s')⟩
        split
        · rename_i e; subst e; omega
        · exact this.1
      · intro s' y hy z hz
        rw [hsr, vz_at] at hy hz
        split at hy
        · rename_i e; subst e
          rw [if_pos rfl] at hz
          rcases hmem y hy with ⟨g, g1, g2⟩ | g
          · rcases hmem z hz with ⟨k, k1, k2⟩ | k
            · exact hO.p s' y g z k
            · rw [k, q1, q2]; omega
          · rcases hmem z hz with ⟨k, k1, k2⟩ | k
            · rw [g, q1, q2]; omega
            · rw [g, k]; omega
        · rename_i e
          rw [if_neg e] at hz
          exact hO.p s' y hy z hz
      · intro s' q hq y hy
        rw [hlt] at hq
        rw [hsr, vz_at] at hy
        split at hy
        · rename_i e; subst e
          rcases hmem y hy with ⟨g, g1, g2⟩ | g
          · exact hO.q s' q hq y g
          · have := hO.l s' q hq
            unfold tS at this
            rw [if_neg (by omega)] at this
            rw [g, q1, q2]; omega
        · exact hO.q s' q hq y hy
  · obtain ⟨i, e, g1, g2, g3⟩ := hW.r s hs v1 (Or.inl (Nat.le_refl _))
    have heb := h.bd.sr s e (lmem g2)
    have hem := lmem g2
    obtain ⟨a1, a2⟩ := wvR_at heb.2.2.1 heb.2.2.2.2
    have hrow := pS_row S (s := s) (c := 4) (by decide)
    rw [if_pos (by decide)] at hrow
    have hrow : (S.passS s 4).row = va_up S.row (5 * (4 + s) + 4) (S.row (5 * (4 + s) + 4) ++ [⟨((S.wi (4 + s)).w 4).c, ((S.wi (4 + s)).w 4).r, S.time⟩]) := hrow
    have hL : (S.passS s 4).sr = va_up S.sr s (if e.got + 1 = leN e.con then (S.sr s).eraseIdx i else (S.sr s).set i (e.w_got (e.got + 1))) ∧ (S.passS s 4).lat = va_up S.lat s (some (e.since, e.num)) := by
      by_cases hl : e.got + 1 = leN e.con
      · rw [passS_4b g1 g2 hl, if_pos hl]
        refine ⟨?_, rfl⟩
        show va_up (va_up S.sr s _) s ((va_up S.sr s _ s).eraseIdx i) = _
        rw [vz_va, vz_same, List.eraseIdx_set_eq]
      · rw [passS_4a g1 g2 hl, if_neg hl]
        exact ⟨rfl, rfl⟩
    refine ⟨?_, ?_, ?_⟩
    · exact h.pS4 hs g2 (x := ⟨((S.wi (4 + s)).w 4).c, ((S.wi (4 + s)).w 4).r, S.time⟩) (by rw [g3]; exact a1) (by rw [g3]; exact a2) htm rfl (smZ_pS S s 4) hrow rfl hL.1 rfl rfl hL.2 rfl rfl rfl
    · exact hW.slv hc hmv hn4.2 hs (pS_nm _ _ _) (pS_ns _ _ _) (pS_wi _ _ _) (pS_tk _ _ _) hne (pS_rowo hc) (fun _ => ⟨rfl, fun i e he _ => he⟩) (fun g => absurd rfl g) (fun g => absurd g (by decide)) (fun g => absurd g (by decide))
    · have et : ∀ s', tS S (5 * (4 + s) + 4) s' ≤ tS (S.passS s 4) (5 * (4 + s) + 4 + 1) s' := by
        intro s'
        have := tS_le S (5 * (4 + s) + 4) s'
        unfold tS at *
        rw [pS_time]
        exact this
      have hsrc : ∀ s', ∀ y ∈ (S.passS s 4).sr s', ∃ z ∈ S.sr s', y.since = z.since ∧ y.num = z.num := by
        intro s' y hy
        rw [hL.1, vz_at] at hy
        split at hy
        · rename_i es; subst es
          split at hy
          · exact ⟨y, List.mem_of_mem_eraseIdx hy, rfl, rfl⟩
          · rcases List.mem_or_eq_of_mem_set hy with hy | hy
            · exact ⟨y, hy, rfl, rfl⟩
            · exact ⟨e, hem, by rw [hy], by rw [hy]⟩
        · exact ⟨y, hy, rfl, rfl⟩
      have hla : ∀ s' q, (S.passS s 4).lat s' = some q → S.lat s' = some q ∨ (∃ z ∈ S.sr s', q.1 = z.since ∧ q.2 = z.num) := by
        intro s' q hq
        rw [hL.2, vz_at] at hq
        split at hq
        · rename_i es; subst es
          cases hq
          exact Or.inr ⟨e, hem, rfl, rfl⟩
        · exact Or.inl hq
      have hrn : (S.passS s 4).rnum = S.rnum := rfl
      refine ⟨?_, ?_, ?_, ?_, ?_⟩
      · rw [hrn]; exact fun s' => Nat.le_trans (hO.n s') (et s')
      · intro s' y hy
        obtain ⟨z, z1, z2, z3⟩ := hsrc s' y hy
        have := hO.e s' z z1
        rw [hrn, z2, z3]
        exact ⟨this.1, Nat.lt_of_lt_of_le this.2 (et s')⟩
      · intro s' q hq
        rw [hrn]
        rcases hla s' q hq with g | ⟨z, z1, z2, z3⟩
        · exact ⟨(hO.l s' q g).1, Nat.lt_of_lt_of_le (hO.l s' q g).2 (et s')⟩
        · have := hO.e s' z z1
          rw [z2, z3]
          exact ⟨this.1, Nat.lt_of_lt_of_le this.2 (et s')⟩
      · intro s' y hy y' hy'
        obtain ⟨z, z1, z2, z3⟩ := hsrc s' y hy
        obtain ⟨z', z1', z2', z3'⟩ := hsrc s' y' hy'
        rw [z2, z3, z2', z3']
        exact hO.p s' z z1 z' z1'
      · intro s' q hq y hy
        obtain ⟨z, z1, z2, z3⟩ := hsrc s' y hy
        rw [z2, z3]
        rcases hla s' q hq with g | ⟨z', z1', z2', z3'⟩
        · exact hO.q s' q g z z1
        · rw [z2', z3']
          exact hO.p s' z' z1' z z1
