/-! THE STATE's OWN INVARIANTS: a tick keeps them -/
def kpR (ns i : Nat) : Prop := (i < 20 ∧ (i % 5 = 2 ∨ i % 5 = 4)) ∨ (20 ≤ i ∧ i < 20 + 5 * ns ∧ (i % 5 = 0 ∨ i % 5 = 1 ∨ i % 5 = 3))
/-- a move: rows that a port shows are not emptied -/
def smR (T S : XS) : Prop := T.rnum = S.rnum ∧ ∀ i, kpR S.ns i → S.row i ≠ [] → T.row i ≠ []
theorem smR.refl (S : XS) : smR S S := ⟨rfl, fun _ _ h => h⟩
theorem put_ne {S : XS} {k i : Nat} {e : RE} (h : S.row i ≠ []) : (S.put k e).row i ≠ [] := by
  show va_up S.row k _ i ≠ []
  rw [vz_at]
  split
  · simp
  · exact h
theorem drop_ne {S : XS} {k i : Nat} (hk : i ≠ k) (h : S.row i ≠ []) : (S.drop k).row i ≠ [] := by
  show va_up S.row k _ i ≠ []
  rw [vz_ne _ hk]
  exact h
theorem movA_R {S : XS} (h4 : S.nm ≤ 4) (hB : Bd S) {c t : Nat} (hc : c = 0 ∨ c = 3) : smR (S.movA c t) S := by
  unfold XS.movA
  split
  · exact smR.refl S
  · rename_i hrm
    split
    · exact smR.refl S
    · rename_i m hm
      have hmn := (arb_some hB (by simpa using hrm) hm).2
      split
      · exact smR.refl S
      · have hne : ∀ i, kpR S.ns i → i ≠ 5 * m + c := by
          intro i hi
          unfold kpR at hi
          omega
        simp only
        split
        · exact ⟨rfl, fun i hi hr => put_ne (drop_ne (hne i hi) hr)⟩
        · exact ⟨rfl, fun i hi hr => put_ne (drop_ne (hne i hi) hr)⟩
theorem movD_R {S : XS} {m : Nat} (hm : m < 4) : smR (S.movD m) S := by
  have hne : ∀ i, kpR S.ns i → i ≠ 5 * m + 1 := by
    intro i hi
    unfold kpR at hi
    omega
  unfold XS.movD
  split
  · split
    · exact smR.refl S
    · split
      · exact ⟨rfl, fun i hi hr => drop_ne (hne i hi) (put_ne hr)⟩
      · exact smR.refl S
  · exact smR.refl S
theorem refW_R (S : XS) : smR S.refW S := by
  have hne : ∀ i, kpR S.ns i → i ≠ 5 * (4 + S.ns) ∧ i ≠ 5 * (4 + S.ns) + 1 := by
    intro i hi
    unfold kpR at hi
    omega
  unfold XS.refW
  split
  · exact smR.refl S
  · split
    · split
      · split
        · exact smR.refl S
        · exact ⟨rfl, fun i hi hr => drop_ne (hne i hi).1 (put_ne (drop_ne (hne i hi).2 hr))⟩
      · exact smR.refl S
    · exact ⟨rfl, fun i hi hr => drop_ne (hne i hi).2 hr⟩
theorem refR_R (S : XS) : smR S.refR S := by
  have hne : ∀ i, kpR S.ns i → i ≠ 5 * (4 + S.ns) + 3 := by
    intro i hi
    unfold kpR at hi
    omega
  unfold XS.refR
  split
  · exact smR.refl S
  · split
    · split
      · exact ⟨rfl, fun i hi hr => drop_ne (hne i hi) (put_ne hr)⟩
      · exact ⟨rfl, fun i hi hr => put_ne hr⟩
    · exact smR.refl S
theorem movB_R (S : XS) (m : Nat) : smR (S.movB m) S := by
  have hne : ∀ t i, kpR S.ns i → i ≠ 5 * (4 + t) + 2 := by
    intro t i hi
    unfold kpR at hi
    omega
  unfold XS.movB
  split
  · exact smR.refl S
  · split
    · exact smR.refl S
    · split
      · exact smR.refl S
      · exact ⟨rfl, fun i hi hr => put_ne (drop_ne (hne _ i hi) hr)⟩
theorem movR_R (S : XS) (m : Nat) : smR (S.movR m) S := by
  have hne : ∀ t i, kpR S.ns i → i ≠ 5 * (4 + t) + 4 := by
    intro t i hi
    unfold kpR at hi
    omega
  unfold XS.movR
  split
  · exact smR.refl S
  · split
    · exact smR.refl S
    · split
      · exact smR.refl S
      · exact ⟨rfl, fun i hi hr => put_ne (drop_ne (hne _ i hi) hr)⟩
theorem HJ.mv {S T : XS} (h : HJ S) (h4 : S.nm ≤ 4) (e : smM T S) (f : smR T S) : HJ T := by
  obtain ⟨e_nm, e_ns, e_lim, e_pol, e_whole, e_time, e_pages, e_mpat, e_spat, e_early, e_delay, e_way, e_mem, e_spo, e_tk, e_wi, e_tr, e_sw, e_sr, e_lat, e_chb, e_chr, e_rgt, e_mon⟩ := e
  refine ⟨?_, ?_, ?_, ?_, ?_, ?_, ?_⟩
  · unfold InvA; rw [e_nm, e_wi, e_tk]; exact h.a0
  · unfold InvA; rw [e_nm, e_wi, e_tk]; exact h.a3
  · unfold InvD; rw [e_nm, e_wi, e_tk]; exact h.d
  · unfold InvB; rw [e_ns, e_wi, e_sw, e_chb]; exact h.b
  · unfold InvR; rw [e_ns, e_wi, e_sr, e_chr]; exact h.r
  · rw [e_nm, e_wi]
    intro m hm c hc hh
    refine f.2 _ ?_ (h.mh m hm c hc hh)
    unfold kpR
    omega
  · rw [e_ns, e_wi]
    intro s hs c hc hh
    refine f.2 _ ?_ (h.sh s hs c hc hh)
    unfold kpR
    omega
theorem OrS.mv {S T : XS} {j : Nat} (h : OrS S j) (e : smM T S) (f : smR T S) : OrS T j := by
  obtain ⟨e_nm, e_ns, e_lim, e_pol, e_whole, e_time, e_pages, e_mpat, e_spat, e_early, e_delay, e_way, e_mem, e_spo, e_tk, e_wi, e_tr, e_sw, e_sr, e_lat, e_chb, e_chr, e_rgt, e_mon⟩ := e
  have et : ∀ s, tS T j s = tS S j s := fun s => by unfold tS; rw [e_time]
  refine ⟨?_, ?_, ?_, ?_, ?_⟩
  · intro s; rw [f.1, et]; exact h.n s
  · intro s; rw [f.1, et, e_sr]; exact h.e s
  · intro s; rw [f.1, et, e_lat]; exact h.l s
  · rw [e_sr]; exact h.p
  · rw [e_sr, e_lat]; exact h.q
/-- what stands while the crossbar moves -/
def MI (S : XS) : Prop := Cr S (60 * S.time + 40) ∧ HJ S ∧ OrS S 40
/-- what stands while transfers are done -/
def GI (j : Nat) (S : XS) : Prop := Cr S (60 * S.time + j) ∧ Ws S j ∧ OrS S j
/-- what stands between ticks, with k ticks to come -/
def UN (S : XS) : Prop := ∀ m wr, S.tk.countP (isUns m wr) ≤ 8
def JI (k : Nat) (S : XS) : Prop := Cr S (60 * S.time) ∧ HJ S ∧ OrS S 0 ∧ (S.time + k + 8 < 2 ^ 24 ∧ UN S)
theorem updF_countLe {p q : TK → Bool} {f : TK → TK} (h : ∀ x, p x = true → q (f x) = true → q x = true) : ∀ l : List TK, (updF p f l).countP q ≤ l.countP q := by
  intro l
  induction l with
  | nil => exact Nat.le_refl _
  | cons x l ih =>
    unfold updF
    by_cases hp : p x = true
    · rw [if_pos hp, List.countP_cons, List.countP_cons]
      have := h x hp
      cases hq : q (f x) with
      | false => simp only [Bool.false_eq_true, if_false]; omega
      | true => rw [this hq]; exact Nat.le_refl _
    · rw [if_neg hp, List.countP_cons, List.countP_cons]
      omega
theorem UN.upd {S T : XS} (h : UN S) {p : TK → Bool} {f : TK → TK} (e : T.tk = updF p f S.tk) (hq : ∀ m wr x, p x = true → isUns m wr (f x) = true → isUns m wr x = true) : UN T := by
  intro m wr
  rw [e]
  exact Nat.le_trans (updF_countLe (hq m wr) S.tk) (h m wr)
theorem UN.go1 {S : XS} (h : UN S) (hB : Bd S) (j : Nat) : UN (S.go1 j) := by
  unfold XS.go1
  split
  · unfold XS.pas
    split
    · intro m wr
      rw [pS_tk]
      exact h m wr
    · have hx := time_m1 hB
      have hc5 : (j % 5 = 0 ∨ j % 5 = 3) ∨ j % 5 = 1 ∨ j % 5 = 2 ∨ j % 5 = 4 := by omega
      rcases hc5 with hc | hc | hc | hc
      · rw [passM_03 _ _ _ hc]
        exact h.upd (S := S) (p := isUns (j / 5) (decide (j % 5 = 0))) (f := fun t => (t.w_sent (nI S.time))) rfl (fun m wr x _ hq => absurd (isUns_iff.mp hq).2.2 hx)
      · rw [hc]
        obtain ⟨f, f1, f2, f3⟩ := passM_1f (S.bump (j / 5) 1) (j / 5)
        rw [f3]
        refine h.upd (S := S) (p := isUnf (j / 5)) (f := f) rfl (fun m wr x _ hq => ?_)
        have := isUns_iff.mp hq
        rw [(f1 x).1, (f1 x).2.1, (f1 x).2.2.2.1] at this
        exact isUns_iff.mpr this
      · rw [hc, passM_2]
        exact h.upd (S := S) (p := isAns (j / 5) true (rId ((S.wi (j / 5)).w 2).r)) (f := fun t => ((t.w_resp (rRe ((S.wi (j / 5)).w 2).r)).w_done (nI S.time))) rfl (fun m wr x _ hq => hq)
      · rw [hc, passM_4]
        exact h.upd (S := S) (p := isAns (j / 5) false (rId ((S.wi (j / 5)).w 4).r)) (f := fun t => ((((t.w_dat (va_up t.dat t.beats ((S.wi (j / 5)).w 4).c)).w_beats (t.beats + 1)).w_resp (max t.resp (rRe ((S.wi (j / 5)).w 4).r))).w_done (if t.beats + 1 = leN t.con then nI S.time else m1))) rfl (fun m wr x _ hq => hq)
  · exact h
theorem MI.mv {S T : XS} (h : MI S) (hc : Cr T (60 * S.time + 40)) (e : smM T S) (f : smR T S) : MI T := by
  refine ⟨?_, h.2.1.mv h.1.bd.nm.2 e f, h.2.2.mv e f⟩
  have : T.time = S.time := e.2.2.2.2.2.1
  rw [this]
  exact hc
theorem fi_of_mem {α : Type} {p : α → Bool} {l : List α} {x : α} (h : x ∈ l) (hp : p x = true) : ∃ j, l.findIdx? p = some j := by
  cases hf : l.findIdx? p with
  | some i => exact ⟨i, rfl⟩
  | none =>
    rw [List.findIdx?_eq_none_iff] at hf
    rw [hf x h] at hp
    cases hp
theorem MI.len {S : XS} (h : MI S) {c m t : Nat} (hc : c = 0 ∨ c = 3) (hmn : m < S.nm) (hm : S.may c m t = true) : (if c = 0 then S.uw else S.ur).length < 32 := by
  have hr := may_row hm
  obtain ⟨e, l, he⟩ : ∃ e l, S.row (5 * m + c) = e :: l := by
    cases hh : S.row (5 * m + c) with
    | nil => exact absurd hh hr
    | cons e l => exact ⟨e, l, rfl⟩
  have hg := (may_tgt hm he).2
  have hlim := h.1.bd.lim
  have h4 := h.1.bd.nm
  have hgl := (mayG_t hg).1
  rcases hc with rfl | rfl
  · rw [if_pos rfl] at *
    exact h.1.uw.len h4.2 hmn (by omega)
  · rw [if_neg (by decide)] at *
    exact h.1.ur.len h4.2 hmn (by omega)
theorem MI.movA {S : XS} (h : MI S) {c t : Nat} (hc : c = 0 ∨ c = 3) (ht : t ≤ S.ns) : MI (S.movA c t) := by
  have f := movA_R (t := t) h.1.bd.nm.2 h.1.bd hc
  rcases hc with rfl | rfl
  · exact h.mv (h.1.movA0 ht) (movA_M S 0 t) f
  · exact h.mv (h.1.movA3 ht) (movA_M S 3 t) f
theorem MI.movD {S : XS} (h : MI S) {m : Nat} (hm : m < S.nm) : MI (S.movD m) := h.mv (h.1.movD hm) (movD_M S m) (movD_R (by have := h.1.bd.nm; omega))
theorem MI.refW {S : XS} (h : MI S) : MI S.refW := h.mv h.1.refW (refW_M S) (refW_R S)
theorem MI.refR {S : XS} (h : MI S) : MI S.refR := h.mv h.1.refR (refR_M S) (refR_R S)
theorem MI.movB {S : XS} (h : MI S) {m : Nat} (hm : m < S.nm) : MI (S.movB m) := h.mv (h.1.movB hm) (movB_M S m) (movB_R S m)
theorem MI.movR {S : XS} (h : MI S) {m : Nat} (hm : m < S.nm) : MI (S.movR m) := h.mv (h.1.movR hm) (movR_M S m) (movR_R S m)
theorem mvI : MvI MI := by
  intro S h
  refine ⟨h.1.bd, ?_, ?_, ⟨h.1.refHas, h.refW⟩, h.refR, ?_, ?_⟩
  · intro c t hc ht
    exact ⟨fun m hm hmay => h.len hc hm hmay, h.movA hc (by omega)⟩
  · exact fun m hm => h.movD hm
  · intro m hm
    refine ⟨?_, h.movB hm⟩
    intro t e l hg he
    obtain ⟨g1, g2⟩ := giv_some hg
    obtain ⟨v, k1, k2, b1, b2, b3, _⟩ := h.1.ansU (show t ≤ S.ns by omega) he (gives_id g1 he)
    exact fi_of_mem (by rw [b1]; exact mid_mem (Or.inl rfl)) b3
  · intro m hm
    refine ⟨h.1.ib m, ?_, h.movR hm⟩
    intro t e l hg he hl
    obtain ⟨g1, g2⟩ := givR_some h.1.bd hg
    obtain ⟨v, k1, k2, b1, b2, b3, _⟩ := h.1.lastU (show t ≤ S.ns by omega) he (gives_id g1 he) hl
    exact fi_of_mem (by rw [b1]; exact mid_mem (Or.inl rfl)) b3
theorem mvC : MvC MI := by
  intro S h
  refine ⟨h.1.bd, ?_, ?_, ⟨h.1.refHas, h.refW⟩, ⟨h.1.db.2, h.refR⟩, ?_, ?_⟩
  · intro c t hc ht
    exact h.movA hc (by omega)
  · intro m hm
    refine ⟨h.1.pw.1, fun u hu => ?_, h.movD hm⟩
    have := h.1.uw.m u hu
    omega
  · intro m hm
    exact ⟨fun t e he => h.1.rw.b t e he, h.movB hm⟩
  · exact fun m hm => h.movR hm
theorem go1_M {S : XS} {m c : Nat} (hc : c < 5) (hm : m < 4) (h : S.mvP (5 * m + c) = true) : S.go1 (5 * m + c) = (S.bump m c).passM m c := by
  unfold XS.go1 XS.pas
  rw [if_pos h, if_neg (by omega), show (5 * m + c) / 5 = m by omega, show (5 * m + c) % 5 = c by omega]
theorem go1_S {S : XS} {s c : Nat} (hc : c < 5) (h : S.mvP (5 * (4 + s) + c) = true) : S.go1 (5 * (4 + s) + c) = (S.bump (4 + s) c).passS s c := by
  unfold XS.go1 XS.pas
  rw [if_pos h, if_pos (by omega), show (5 * (4 + s) + c) / 5 = 4 + s by omega, show (5 * (4 + s) + c) % 5 = c by omega, show 4 + s - 4 = s by omega]
theorem fi_of_find {α : Type} {p : α → Bool} {l : List α} {t : α} (h : l.find? p = some t) : ∃ i, l.findIdx? p = some i ∧ l[i]? = some t := by
  obtain ⟨i, hi⟩ := fi_of_mem (find_mem h).1 (find_mem h).2
  obtain ⟨e, he, hf, _⟩ := fi_some hi
  rw [h] at hf
  cases hf
  exact ⟨i, hi, he⟩
theorem GI.preM {S : XS} {m c : Nat} (h : GI (5 * m + c) S) (hc : c < 5) (hm : m < S.nm) (hmv : mvW (S.wi m) c = true) : PreM S m c := by
  obtain ⟨v1, v2⟩ := mv_v hmv
  obtain ⟨h1, h2, h3⟩ := h
  refine ⟨?_, ?_, ?_, ?_⟩
  · intro hc03
    obtain ⟨t, t1, t2⟩ := h2.a m hm c hc03 v1 (Or.inl (Nat.le_refl _))
    refine ⟨by rw [← h2.mp m hm c (by omega) (Nat.le_refl _)]; exact v2, by rw [t2], ?_⟩
    obtain ⟨i, hi, _⟩ := fi_of_find t1
    exact ⟨i, hi⟩
  · rintro rfl
    obtain ⟨t, t1, t2⟩ := h2.d m hm v1 (Or.inl (Nat.le_refl _))
    obtain ⟨i, hi, he⟩ := fi_of_find t1
    exact ⟨by rw [← h2.mp m hm 1 (by omega) (Nat.le_refl _)]; exact v2, i, t, hi, he, by rw [t2]⟩
  · intro hc24
    obtain ⟨x, l, r1, _⟩ := rowW_v (h2.mr m hm c hc24 (Nat.le_refl _)) v1
    rw [r1]
    exact List.cons_ne_nil _ _
  · intro e he
    exact ⟨(h1.tk e he).rs, (h1.tk e he).dn⟩
theorem GI.preS {S : XS} {s c : Nat} (h : GI (5 * (4 + s) + c) S) (hc : c < 5) (hs : s < S.ns) (hmv : mvW (S.wi (4 + s)) c = true) : PrS S s c ∧ PrC S s c := by
  obtain ⟨v1, v2⟩ := mv_v hmv
  obtain ⟨h1, h2, h3⟩ := h
  refine ⟨⟨?_, h1.bd.rgt s, h1.bd.mem, ?_, ?_, ?_, ?_, ?_, ?_, ?_⟩, h1.cb s, ?_⟩
  · exact fun x hx => ⟨(h1.bd.sw s x hx).2.1, (h1.bd.sw s x hx).2.2.2⟩
  · intro hc'
    obtain ⟨x, l, r1, _⟩ := rowW_v (h2.sr s hs c hc' (Nat.le_refl _)) v1
    rw [r1]
    exact List.cons_ne_nil _ _
  · intro hc'
    rw [← h2.sp s hs c hc' (Nat.le_refl _)]
    exact v2
  · rintro rfl
    exact h2.s0 s hs (Nat.le_refl _) v2
  · rintro rfl
    exact h2.s1 s hs (Nat.le_refl _) v2
  · rintro rfl
    obtain ⟨i, e, g1, _⟩ := h2.b s hs v1 (Or.inl (Nat.le_refl _))
    exact ⟨i, g1⟩
  · rintro rfl
    obtain ⟨x, l, r1, r2, r3⟩ := rowW_v (h2.sr s hs 3 (by omega) (Nat.le_refl _)) v1
    refine ⟨h2.s3 s hs (Nat.le_refl _) v2, ?_⟩
    rw [r2]
    exact h1.rw.ru (5 * (4 + s) + 3) (by omega) x (by rw [r1]; exact List.mem_cons_self ..)
  · rintro rfl
    obtain ⟨i, e, g1, g2, g3⟩ := h2.r s hs v1 (Or.inl (Nat.le_refl _))
    have heb := h1.bd.sr s e (lmem g2)
    exact ⟨i, e, g1, g2, by rw [g3]; exact (wvR_at heb.2.2.1 heb.2.2.2.2).2⟩
  · rintro rfl
    obtain ⟨i, e, g1, g2, g3, g4⟩ := h2.b s hs v1 (Or.inl (Nat.le_refl _))
    rw [g4]
    rfl
theorem GI.idle {S : XS} {j : Nat} (h : GI j S) (hj : j < 40) : GI (j + 1) S := ⟨h.1.mono (by omega) (by omega), h.2.1.next, h.2.2.keep rfl rfl rfl rfl⟩
theorem GI.all {S : XS} {j : Nat} (h : GI j S) (hj : j < 40) : PreG S j ∧ (S.mvP j = true → 20 ≤ j → PrC S (j / 5 - 4) (j % 5)) ∧ GI (j + 1) (S.go1 j) := by
  have hn4 := h.1.bd.nm
  by_cases hmv : S.mvP j = true
  · have hmv0 := hmv
    unfold XS.mvP at hmv0
    simp only [Bool.and_eq_true] at hmv0
    obtain ⟨hp, hw⟩ := hmv0
    by_cases h20 : 20 ≤ j
    · obtain ⟨s, c, rfl, hc⟩ : ∃ s c, j = 5 * (4 + s) + c ∧ c < 5 := ⟨j / 5 - 4, j % 5, by omega, by omega⟩
      have e1 : (5 * (4 + s) + c) / 5 = 4 + s := by omega
      have e2 : (5 * (4 + s) + c) % 5 = c := by omega
      rw [e1] at hp hw
      rw [e2] at hw
      have hs : s < S.ns := by
        unfold XS.isP at hp
        rw [if_pos (by omega)] at hp
        have := of_decide_eq_true hp
        omega
      obtain ⟨p1, p2⟩ := h.preS hc hs hw
      refine ⟨fun _ => ⟨fun hh => by omega, fun _ => by rw [e1, e2, show 4 + s - 4 = s by omega]; exact p1⟩, fun _ _ => by rw [e1, e2, show 4 + s - 4 = s by omega]; exact p2, ?_⟩
      rw [go1_S hc hmv]
      have ht : ((S.bump (4 + s) c).passS s c).time = S.time := pS_time _ _ _
      have hlt : 5 * (4 + s) + c < 40 := hj
      obtain ⟨a1, a2, a3⟩ := go_slv (h.1.bump (4 + s) c) (h.2.1.bump (4 + s) c) (h.2.2.bump (4 + s) c) hc hs hw
      refine ⟨?_, a2, a3⟩
      exact a1.mono (by rw [ht]; omega) (by rw [ht]; omega)
    · obtain ⟨m, c, rfl, hc⟩ : ∃ m c, j = 5 * m + c ∧ c < 5 := ⟨j / 5, j % 5, by omega, by omega⟩
      have e1 : (5 * m + c) / 5 = m := by omega
      have e2 : (5 * m + c) % 5 = c := by omega
      rw [e1] at hp hw
      rw [e2] at hw
      have hm : m < S.nm := by
        unfold XS.isP at hp
        rw [if_neg (by omega)] at hp
        exact of_decide_eq_true hp
      refine ⟨fun _ => ⟨fun _ => by rw [e1, e2]; exact h.preM hc hm hw, fun hh => by omega⟩, fun _ hh => by omega, ?_⟩
      rw [go1_M hc (by omega) hmv]
      have ht : ((S.bump m c).passM m c).time = S.time := (passM_fr _ _ _).2.2.2
      obtain ⟨a1, a2, a3⟩ := go_mst (h.1.bump m c) (by show 60 * S.time + (5 * m + c) + 1 ≤ 60 * S.time + 60; omega) (h.2.1.bump m c) (h.2.2.bump m c) hc hm hw
      refine ⟨?_, a2, a3⟩
      exact a1.mono (by rw [ht]; omega) (by rw [ht]; omega)
  · refine ⟨fun hh => absurd hh hmv, fun hh => absurd hh hmv, ?_⟩
    unfold XS.go1
    rw [if_neg hmv]
    exact h.idle hj
theorem goI : GoI GI := fun j S hj h => ⟨(GI.all h hj).1, (GI.all h hj).2.2⟩
theorem goC : GoC GI := fun j S hj h => ⟨h.1.bd, (GI.all h hj).1, (GI.all h hj).2.1, (GI.all h hj).2.2⟩
theorem GI.mi {S : XS} (h : GI 40 S) : MI S := ⟨h.1, h.2.1.hj, h.2.2⟩
theorem JI.gi {k : Nat} {S : XS} (h : JI k S) : GI 0 S.sh := by
  obtain ⟨h1, h2, h3, h4⟩ := h
  exact ⟨h1.sh, h2.ws h1.bd.nm.2, ⟨h3.n, h3.e, h3.l, h3.p, h3.q⟩⟩
theorem JI.shI {k : Nat} {S : XS} (h : JI k S) : ShI S := ⟨h.1.bd, h.2.1.a0, h.2.1.a3, h.2.1.d, h.2.1.b, h.2.1.r, fun p _ => h.1.mo p⟩
theorem JI.shC {k : Nat} {S : XS} (h : JI k S) : ShC S :=
  ⟨h.1.bd, h.2.1.mh, h.2.1.sh, fun s _ e he q hq => h.2.2.1.q s q hq e he, fun p _ => h.1.mo p⟩
theorem st_I (k : Nat) : StI (JI (k + 1)) GI MI := ⟨fun S h => ⟨h.shI, h.gi⟩, goI, fun S h => h.mi, mvI⟩
theorem st_C (k : Nat) : StC (JI (k + 1)) GI MI := ⟨fun S h => ⟨h.shC, h.gi⟩, goC, fun S h => h.mi, mvC⟩
/-- a tick keeps what stands between ticks -/
theorem it_MI {f : XS → Nat → XS} {P : XS → Nat → Prop} (hf : ∀ S i, MI S → P S i → MI (f S i)) (hP : ∀ S i j, P S j → P (f S i) j) : ∀ d i S, MI S → (∀ k, i ≤ k → k < i + d → P S k) → MI (iterN f d i S) := by
  intro d
  induction d with
  | zero => intro i S h _; exact h
  | succ d ih =>
    intro i S h hp
    exact ih (i + 1) (f S i) (hf S i h (hp i (Nat.le_refl _) (by omega))) (fun k h1 h2 => hP S i k (hp k (by omega) (by omega)))
theorem MI.move {S : XS} (h : MI S) : MI S.move := by
  have ens : ∀ T S : XS, smM T S → T.ns = S.ns := fun T S e => e.2.1
  have enm : ∀ T S : XS, smM T S → T.nm = S.nm := fun T S e => e.1
  unfold XS.move
  simp only
  have h1 : MI (iterN (fun S t => S.movA 0 t) (S.ns + 1) 0 S) := it_MI (P := fun S t => t ≤ S.ns) (fun S t hS ht => hS.movA (Or.inl rfl) ht) (fun S i j hj => by rw [ens _ _ (movA_M S 0 i)]; exact hj) _ _ S h (fun k _ hk => by omega)
  have e1 := iter_M (fun S t => movA_M S 0 t) (S.ns + 1) 0 S
  generalize iterN (fun S t => S.movA 0 t) (S.ns + 1) 0 S = S1 at h1 e1
  have h2 : MI (iterN (fun S t => S.movA 3 t) (S.ns + 1) 0 S1) := it_MI (P := fun S t => t ≤ S.ns) (fun S t hS ht => hS.movA (Or.inr rfl) ht) (fun S i j hj => by rw [ens _ _ (movA_M S 3 i)]; exact hj) _ _ S1 h1 (fun k _ hk => by have := ens _ _ e1; omega)
  have e2 := (iter_M (fun S t => movA_M S 3 t) (S.ns + 1) 0 S1).trans e1
  generalize iterN (fun S t => S.movA 3 t) (S.ns + 1) 0 S1 = S2 at h2 e2
  have h3 : MI (iterN XS.movD S.nm 0 S2) := it_MI (P := fun S m => m < S.nm) (fun S m hS hm => hS.movD hm) (fun S i j hj => by rw [enm _ _ (movD_M S i)]; exact hj) _ _ S2 h2 (fun k _ hk => by have := enm _ _ e2; omega)
  have e3 := (iter_M movD_M S.nm 0 S2).trans e2
  generalize iterN XS.movD S.nm 0 S2 = S3 at h3 e3
  have h4 := h3.refW.refR
  have e4 := ((refR_M S3.refW).trans (refW_M S3)).trans e3
  generalize S3.refW.refR = S4 at h4 e4
  have h5 : MI (iterN XS.movB S.nm 0 S4) := it_MI (P := fun S m => m < S.nm) (fun S m hS hm => hS.movB hm) (fun S i j hj => by rw [enm _ _ (movB_M S i)]; exact hj) _ _ S4 h4 (fun k _ hk => by have := enm _ _ e4; omega)
  have e5 := (iter_M movB_M S.nm 0 S4).trans e4
  generalize iterN XS.movB S.nm 0 S4 = S5 at h5 e5
  exact it_MI (P := fun S m => m < S.nm) (fun S m hS hm => hS.movR hm) (fun S i j hj => by rw [enm _ _ (movR_M S i)]; exact hj) _ _ S5 h5 (fun k _ hk => by have := enm _ _ e5; omega)
theorem it_GI : ∀ d j S, j + d = 40 → GI j S → GI 40 (iterN XS.go1 d j S) := by
  intro d
  induction d with
  | zero => intro j S hj h; rw [show (40 : Nat) = j by omega]; exact h
  | succ d ih => intro j S hj h; exact ih (j + 1) (S.go1 j) (by omega) (goI j S (by omega) h).2
theorem it_UN : ∀ d j S, j + d = 40 → GI j S → UN S → UN (iterN XS.go1 d j S) := by
  intro d
  induction d with
  | zero => intro j S hj h hu; exact hu
  | succ d ih => intro j S hj h hu; exact ih (j + 1) (S.go1 j) (by omega) (goI j S (by omega) h).2 (hu.go1 h.1.bd j)
theorem JI.tick {k : Nat} {S : XS} (h : JI (k + 1) S) : JI k S.tk1 := by
  have hun : UN S.sh.goA.move := by
    have h1 := it_UN 40 0 S.sh rfl h.gi h.2.2.2.2
    intro m wr
    rw [show S.sh.goA.move.tk = S.sh.goA.tk from (move_M S.sh.goA).2.2.2.2.2.2.2.2.2.2.2.2.2.2.1]
    exact h1 m wr
  have h1 := it_GI 40 0 S.sh rfl h.gi
  have h2 : MI S.sh.goA := h1.mi
  have h3 := h2.move
  have ht : S.sh.goA.move.time = S.time := (move_4 S.sh.goA).2.2.2.trans (goA_4 S.sh).2.2.2
  have hb := h.2.2.2.1
  unfold XS.tk1
  generalize S.sh.goA.move = T at h3 ht hun
  obtain ⟨c1, c2, c3⟩ := h3
  rw [ht] at c1
  have hmv := c1.mv
  have htb : S.time + 1 + 8 < 2 ^ 24 := by omega
  have hbd : Bd (T.w_time (S.time + 1)) := by
    refine ⟨c1.bd.nm, c1.bd.ns, c1.bd.lim, c1.bd.pol, ?_, c1.bd.db, ?_, c1.bd.pages, c1.bd.mpat, c1.bd.spat, c1.bd.delay, c1.bd.way, c1.bd.mem, c1.bd.sw, c1.bd.sr, c1.bd.rnum, c1.bd.lat, c1.bd.uw, c1.bd.ur, c1.bd.la, c1.bd.lr, c1.bd.lb, c1.bd.lg, c1.bd.rgt, c1.bd.rowT, c1.bd.tk⟩
    · show S.time + 1 < 2 ^ 24
      omega
    · show T.moved ≤ 60 * (S.time + 1) + 60
      omega
  refine ⟨?_, ⟨c2.a0, c2.a3, c2.d, c2.b, c2.r, c2.mh, c2.sh⟩, ?_, by show S.time + 1 + k + 8 < 2 ^ 24; omega, hun⟩
  · refine ⟨hbd, htb, c1.tk, c1.rw, c1.uw, c1.ur, c1.pw, c1.em, c1.nc, c1.tg, c1.rc, c1.db, c1.mo, c1.cb, c1.ch, c1.ib, c1.ou, ?_⟩
    show T.moved + pot T.row ≤ 60 * (S.time + 1) ∧ 60 * (S.time + 1) ≤ 60 * (S.time + 1) + 60
    omega
  · have et : ∀ s, tS T 40 s ≤ tS (T.w_time (S.time + 1)) 0 s := by
      intro s
      unfold tS
      show T.time + _ ≤ S.time + 1 + _
      rw [ht]
      split <;> split <;> omega
    exact ⟨fun s => Nat.le_trans (c3.n s) (et s), fun s e he => ⟨(c3.e s e he).1, Nat.lt_of_lt_of_le (c3.e s e he).2 (et s)⟩, fun s q hq => ⟨(c3.l s q hq).1, Nat.lt_of_lt_of_le (c3.l s q hq).2 (et s)⟩, c3.p, c3.q⟩
theorem JI.low {k : Nat} {S : XS} (h : JI (k + 1) S) : JI k S := ⟨h.1, h.2.1, h.2.2.1, by have := h.2.2.2.1; omega, h.2.2.2.2⟩
theorem JI.err {k : Nat} {S : XS} (h : JI k S) (e : Nat) : JI k (S.w_err e) := by
  obtain ⟨h1, h2, h3, h4⟩ := h
  have hb : Bd (S.w_err e) := ⟨h1.bd.nm, h1.bd.ns, h1.bd.lim, h1.bd.pol, h1.bd.time, h1.bd.db, h1.bd.moved, h1.bd.pages, h1.bd.mpat, h1.bd.spat, h1.bd.delay, h1.bd.way, h1.bd.mem, h1.bd.sw, h1.bd.sr, h1.bd.rnum, h1.bd.lat, h1.bd.uw, h1.bd.ur, h1.bd.la, h1.bd.lr, h1.bd.lb, h1.bd.lg, h1.bd.rgt, h1.bd.rowT, h1.bd.tk⟩
  exact ⟨⟨hb, h1.tb, h1.tk, h1.rw, h1.uw, h1.ur, h1.pw, h1.em, h1.nc, h1.tg, h1.rc, h1.db, h1.mo, h1.cb, h1.ch, h1.ib, h1.ou, h1.mv⟩, ⟨h2.a0, h2.a3, h2.d, h2.b, h2.r, h2.mh, h2.sh⟩, ⟨h3.n, h3.e, h3.l, h3.p, h3.q⟩, h4⟩
theorem JI.tkm {k : Nat} {S : XS} (h : JI k S) : ∀ e ∈ S.tk, e.m < S.nm := fun e he => (h.1.tk e he).m
