/-! THE REFERENCE: what goes over at a master's port -/
theorem updF_none {α : Type} {p : α → Bool} {f : α → α} : ∀ {l : List α}, l.findIdx? p = none → updF p f l = l := by
  intro l
  induction l with
  | nil => intro _; rfl
  | cons e l ih =>
    intro h
    rw [List.findIdx?_cons] at h
    unfold updF
    cases hc : p e with
    | true => rw [hc] at h; simp at h
    | false =>
      rw [hc] at h
      simp only [Bool.false_eq_true, if_false, Option.map_eq_none_iff] at h ⊢
      rw [ih h]
theorem updF_some {α : Type} {p : α → Bool} {f : α → α} : ∀ {l : List α} {k : Nat} {e : α}, l.findIdx? p = some k → l[k]? = some e → updF p f l = l.set k (f e) := by
  intro l
  induction l with
  | nil => intro k e h; cases h
  | cons x l ih =>
    intro k e h he
    rw [List.findIdx?_cons] at h
    unfold updF
    cases hc : p x with
    | true =>
      rw [hc] at h
      simp only [if_true, Option.some.injEq] at h
      subst h
      simp only [List.getElem?_cons_zero, Option.some.injEq] at he
      subst he
      rfl
    | false =>
      rw [hc] at h
      simp only [Bool.false_eq_true, if_false] at h ⊢
      obtain ⟨k', hk', hkk⟩ := Option.map_eq_some_iff.mp h
      subst hkk
      simp only [List.getElem?_cons_succ] at he
      rw [ih hk' he]
      rfl
theorem VTk.set {mas len siz kin wri alo spa urg adr idd ask sen don bea res sen' don' bea' res' : aI} {see dat see' dat' : aL} {l : List TK} (h : VTk mas len siz kin wri alo spa urg adr idd ask sen don bea res see dat l) {t : Nat} {e e' : TK} (he : l[t]? = some e)
    (q1 : e'.m = e.m) (q2 : e'.con = e.con) (q3 : e'.wr = e.wr) (q4 : e'.sp = e.sp) (q5 : e'.asked = e.asked) (q6 : e'.beats ≤ 16)
    (q7 : e'.wr = true → ∀ k, e'.beats + k < leN e'.con → e'.dat (e'.beats + k) = gdat e'.con (e'.beats + k) (lcgN (k + 1) e'.seed) ∧ e'.rst (e'.beats + k) = grst e'.con (e'.beats + k) e'.sp (lcgN (k + 1) e'.seed))
    (q8 : sen' t = e'.sent) (q9 : don' t = e'.done) (q10 : bea' t = nI e'.beats) (q11 : res' t = nI e'.resp) (q12 : see' t = e'.seed) (q13 : ∀ k, k < e'.beats → k < 16 → dat' (16 * t + k) = e'.dat k)
    (r1 : ∀ u, u ≠ t → u < 64 → sen' u = sen u ∧ don' u = don u ∧ bea' u = bea u ∧ res' u = res u ∧ see' u = see u) (r2 : ∀ u k, u ≠ t → k < 16 → dat' (16 * u + k) = dat (16 * u + k)) :
    VTk mas len siz kin wri alo spa urg adr idd ask sen' don' bea' res' see' dat' (l.set t e') := by
  have ht := llt he
  have hcs : ∀ (P : Nat → TK → Prop), (∀ u x, l[u]? = some x → u ≠ t → P u x) → P t e' → ∀ u x, (l.set t e')[u]? = some x → P u x := by
    intro P p1 p2 u x hx
    by_cases hu : u = t
    · subst hu
      rw [List.getElem?_set_self ht] at hx
      cases hx
      exact p2
    · rw [List.getElem?_set_ne (Ne.symm hu)] at hx
      exact p1 u x hx hu
  refine ⟨by rw [List.length_set]; exact h.hle, hcs _ (fun u x hx _ => h.hbd u x hx) ?_, hcs _ (fun u x hx _ => h.hgen u x hx) q7, hcs _ (fun u x hx _ => h.hmas u x hx) ?_, hcs _ (fun u x hx _ => h.hlen u x hx) ?_, hcs _ (fun u x hx _ => h.hsiz u x hx) ?_, hcs _ (fun u x hx _ => h.hkin u x hx) ?_, hcs _ (fun u x hx _ => h.hwri u x hx) ?_, hcs _ (fun u x hx _ => h.halo u x hx) ?_, hcs _ (fun u x hx _ => h.hspa u x hx) ?_, hcs _ (fun u x hx _ => h.hurg u x hx) ?_, hcs _ (fun u x hx _ => h.hadr u x hx) ?_, hcs _ (fun u x hx _ => h.hidd u x hx) ?_, hcs _ (fun u x hx _ => h.hask u x hx) ?_, hcs _ (fun u x hx hu => ?_) q8, hcs _ (fun u x hx hu => ?_) q9, hcs _ (fun u x hx hu => ?_) q10, hcs _ (fun u x hx hu => ?_) q11, hcs _ (fun u x hx hu => ?_) q12, hcs _ (fun u x hx hu k hk hk6 => ?_) q13⟩
  · have := h.hbd t e he
    rw [q1, q2]
    exact ⟨this.1, q6, this.2.2⟩
  · rw [q1]; exact h.hmas t e he
  · rw [q2]; exact h.hlen t e he
  · rw [q2]; exact h.hsiz t e he
  · rw [q2]; exact h.hkin t e he
  · rw [q3]; exact h.hwri t e he
  · rw [q2]; exact h.halo t e he
  · rw [q4]; exact h.hspa t e he
  · rw [q2]; exact h.hurg t e he
  · rw [q2]; exact h.hadr t e he
  · rw [q2]; exact h.hidd t e he
  · rw [q5]; exact h.hask t e he
  · rw [(r1 u hu (h.lt hx)).1]; exact h.hsen u x hx
  · rw [(r1 u hu (h.lt hx)).2.1]; exact h.hdon u x hx
  · rw [(r1 u hu (h.lt hx)).2.2.1]; exact h.hbea u x hx
  · rw [(r1 u hu (h.lt hx)).2.2.2.1]; exact h.hres u x hx
  · rw [(r1 u hu (h.lt hx)).2.2.2.2]; exact h.hsee u x hx
  · rw [r2 u k hu hk6]; exact h.hdat u x hx k hk hk6
theorem put_tk (S : XS) (i : Nat) (e : RE) : (S.put i e).tk = S.tk := rfl
theorem drop_tk (S : XS) (i : Nat) : (S.drop i).tk = S.tk := rfl
theorem put_wi (S : XS) (i : Nat) (e : RE) : (S.put i e).wi = S.wi := rfl
theorem drop_wi (S : XS) (i : Nat) : (S.drop i).wi = S.wi := rfl
theorem put_time (S : XS) (i : Nat) (e : RE) : (S.put i e).time = S.time := rfl
theorem RV.tkU {Γ : gm_T} {φ φ' : ph_T} {r : Nat} {S : XS} (h : RV Γ φ r S) {l : List TK} (f : RFr r [19, 21, 22, 23, 24, 25] φ φ') (hl : l.length = S.tk.length)
    (hv : VTk (φ.1 (r + 9)) (φ.1 (r + 10)) (φ.1 (r + 11)) (φ.1 (r + 12)) (φ.1 (r + 13)) (φ.1 (r + 14)) (φ.1 (r + 15)) (φ.1 (r + 16)) (φ.1 (r + 17)) (φ.1 (r + 18)) (φ.1 (r + 20)) (φ'.1 (r + 21)) (φ'.1 (r + 22)) (φ'.1 (r + 23)) (φ'.1 (r + 24)) (φ'.2.1 (r + 19)) (φ'.2.1 (r + 25)) l) : RV Γ φ' r (S.w_tk l) := by
  have hsc : φ'.1 r = φ.1 r := f.o (by decide)
  exact ⟨(RL.up h.rl (congrFun f.1 r)), (by rw [hsc]; exact ⟨h.sc.nm, h.sc.ns, h.sc.lim, h.sc.pol, h.sc.whole, h.sc.time, (by show φ.1 r 15 = nI l.length; rw [hl]; exact h.sc.tk), h.sc.wm, h.sc.rm, h.sc.db, h.sc.er⟩), (by rw [f.i 1 (by decide)]; exact h.pg), (by rw [f.i 2 (by decide)]; exact h.mp), (by rw [f.i 3 (by decide)]; exact h.sp), (by rw [f.i 4 (by decide)]; exact h.ea), (by rw [f.i 5 (by decide)]; exact h.de), (by rw [f.i 6 (by decide)]; exact h.wa), (by rw [f.i 7 (by decide), f.i 8 (by decide)]; exact h.me), (by rw [f.i 9 (by decide), f.i 10 (by decide), f.i 11 (by decide), f.i 12 (by decide), f.i 13 (by decide), f.i 14 (by decide), f.i 15 (by decide), f.i 16 (by decide), f.i 17 (by decide), f.i 18 (by decide), f.i 20 (by decide)]; exact hv), (by rw [f.i 26 (by decide), f.i 27 (by decide), f.l 28 (by decide), f.i 29 (by decide)]; exact h.wi), (by rw [f.i 31 (by decide)]; exact h.tr), (by rw [f.l 32 (by decide), f.i 33 (by decide), f.i 34 (by decide), f.i 35 (by decide)]; exact h.row), (by rw [f.i 36 (by decide), f.i 37 (by decide), f.i 38 (by decide), f.i 39 (by decide)]; exact h.uw), (by rw [f.i 40 (by decide), f.i 41 (by decide), f.i 42 (by decide)]; exact h.ur), (by rw [f.i 43 (by decide), f.i 44 (by decide), f.i 45 (by decide), f.i 46 (by decide), f.i 47 (by decide)]; exact ⟨h.la.haw, h.la.har, h.la.hb, h.la.hg, h.la.hinn⟩), (by rw [f.i 48 (by decide), f.i 49 (by decide), f.i 50 (by decide), f.l 51 (by decide), f.i 52 (by decide), f.i 53 (by decide), f.i 54 (by decide), f.l 55 (by decide), f.i 56 (by decide)]; exact h.sw), (by rw [f.i 57 (by decide), f.i 58 (by decide), f.i 59 (by decide), f.l 60 (by decide), f.i 61 (by decide), f.i 62 (by decide), f.i 63 (by decide), f.l 64 (by decide), f.i 65 (by decide)]; exact h.sr), (by rw [f.i 66 (by decide), f.i 67 (by decide), f.i 68 (by decide), f.i 69 (by decide)]; exact ⟨h.ch.hnums, h.ch.hlat, h.ch.hchb, h.ch.hchr⟩), (by rw [f.i 70 (by decide), f.i 71 (by decide)]; exact h.rg), (by unfold maOf; rw [f.i 72 (by decide), f.l 73 (by decide), f.i 74 (by decide), f.i 75 (by decide), f.i 76 (by decide), f.i 77 (by decide), f.i 78 (by decide), f.i 79 (by decide), f.i 80 (by decide), f.i 81 (by decide), f.l 82 (by decide), f.i 83 (by decide), f.i 84 (by decide), f.i 85 (by decide), f.l 86 (by decide), f.i 87 (by decide)]; exact h.mo), (by rw [f.i 88 (by decide), f.i 89 (by decide), f.l 90 (by decide), f.i 91 (by decide)]; exact h.wt)⟩
theorem r_addressSent {Γ : gm_T} {φ : ph_T} {r : Nat} {S : XS} (h : RV Γ φ r S) {m c : Nat} (hm : m < 4) (hc : c = 0 ∨ c = 3) (hroom : S.hasRm (5 * m + c) = true) (hr0 : ((S.wi m).w c).r = 0) {t : Nat} (ht : S.tk.findIdx? (isUns m (decide (c = 0))) = some t) :
    ∃ φ', f_Ref_addressSent Γ φ r (nI m) (nI c) = some ((), φ') ∧ RV Γ φ' r (S.passM m c) ∧ RFr r [21, 32, 33, 34, 35] φ φ' := by
  have hw := h.wi m c (by omega) (by omega)
  have hlt : (S.row (5 * m + c)).length < roomN ((5 * m + c) % 5) := by unfold XS.hasRm at hroom; simpa using hroom
  obtain ⟨φ1, a1, a2, a3⟩ := r_put h (i := 5 * m + c) (by omega) hlt ((S.wi m).w c).c 0 S.time
  obtain ⟨e, he, hf2, hp⟩ := fi_some ht
  have htl := h.tk.lt he
  have hu := r_unsent a2 hm (decide (c = 0))
  rw [put_tk, ht] at hu
  have he1 : (S.put (5 * m + c) ⟨((S.wi m).w c).c, 0, S.time⟩).tk[t]? = some e := he
  have f1 : RFr r [19, 21, 22, 23, 24, 25] φ1 (uI φ1 (r + 21) t (nI S.time)) := by repeat (first | exact RFr.refl _ _ _ | refine RFr.uI ?_ (by decide) _ _ | refine RFr.uL ?_ (by decide) _ _ | refine rfr_uO ?_ (by decide) _ _)
  have hv := VTk.set a2.tk he1 (e' := (e.w_sent (nI S.time))) (sen' := va_up (φ1.1 (r + 21)) t (nI S.time)) (don' := φ1.1 (r + 22)) (bea' := φ1.1 (r + 23)) (res' := φ1.1 (r + 24)) (see' := φ1.2.1 (r + 19)) (dat' := φ1.2.1 (r + 25)) rfl rfl rfl rfl rfl (a2.tk.hbd t e he1).2.1 (a2.tk.hgen t e he1) (vz_same _ _ _) (a2.tk.hdon t e he1) (a2.tk.hbea t e he1) (a2.tk.hres t e he1) (a2.tk.hsee t e he1) (a2.tk.hdat t e he1) (fun u hu _ => ⟨vz_ne _ hu, rfl, rfl, rfl, rfl⟩) (fun u k _ _ => rfl)
  have h2 := a2.tkU (φ' := uI φ1 (r + 21) t (nI S.time)) f1 (List.length_set ..) (by simpa [uI_1, uI_2, uI_3, uL_1, uL_2, uL_3, vz_at] using hv)
  have hS : S.passM m c = ((S.put (5 * m + c) ⟨((S.wi m).w c).c, 0, S.time⟩).w_tk ((S.put (5 * m + c) ⟨((S.wi m).w c).c, 0, S.time⟩).tk.set t (e.w_sent (nI S.time)))) := by
    unfold XS.passM
    rw [if_pos hc, hr0, updF_some ht he]
    rfl
  rw [hS]
  refine ⟨_, ?_, h2, (a3.mono (by decide)).trans (by repeat (first | exact RFr.refl _ _ _ | refine RFr.uI ?_ (by decide) _ _ | refine RFr.uL ?_ (by decide) _ _ | refine rfr_uO ?_ (by decide) _ _))⟩
  have hL : f_Ref_addressSent_L43 Γ φ1 r (bI (decide (c = 0))) (nI m) r (some (r + 21)) = some ((), uI φ1 (r + 21) t (nI S.time)) := by
    unfold f_Ref_addressSent_L43
    have ht2 : φ1.1 r 6 = nI S.time := a2.sc.time
    simp (disch := first | assumption | omega) only [a2.rl.o, if_true, hu, Option.bind_some, oI, rg_28 a2.rl, zix, ht2]
  unfold f_Ref_addressSent
  have ht3 := h.sc.time
  simp (disch := first | assumption | omega) only [h.rl.o, rf_28 h.rl, rg_28 h.rl, rf_35 h.rl, rg_35 h.rl, e_rowOf0, Option.bind_some, if_true, zix, hw, ht3, zI_lit, zI_mul, zI_add]
  have a1' : f_Ref_put Γ φ r (nI (5 * m + c)) ((S.wi m).w c).c (nI 0) (nI S.time) = some ((), φ1) := a1
  simp only [a1', Option.bind_some, rf_28 a2.rl]
  rcases hc with hc | hc
  · subst hc
    exact hL
  · subst hc
    exact hL
theorem r_dataSent {Γ : gm_T} {φ : ph_T} {r : Nat} {S : XS} (h : RV Γ φ r S) {m : Nat} (hm : m < 4) (hroom : S.hasRm (5 * m + 1) = true) {t : Nat} {e : TK} (ht : S.tk.findIdx? (isUnf m) = some t) (he : S.tk[t]? = some e) (hwc : ((S.wi m).w 1).c = e.dat e.beats) :
    ∃ φ', f_Ref_dataSent Γ φ r (nI m) = some ((), φ') ∧ RV Γ φ' r (S.passM m 1) ∧ RFr r [19, 23, 25, 32, 33, 34, 35] φ φ' := by
  have hw := h.wi m 1 (by omega) (by omega)
  have hlt : (S.row (5 * m + 1)).length < roomN ((5 * m + 1) % 5) := by unfold XS.hasRm at hroom; simpa using hroom
  obtain ⟨φ1, a1, a2, a3⟩ := r_put h (i := 5 * m + 1) (by omega) hlt ((S.wi m).w 1).c ((S.wi m).w 1).r S.time
  have htl := h.tk.lt he
  have hu := r_unfinished a2 hm
  rw [put_tk, ht] at hu
  obtain ⟨e2, he2, _, hpe⟩ := fi_some ht
  rw [he] at he2
  cases he2
  have hbt : e.beats < leN e.con := by unfold isUnf at hpe; simp only [Bool.and_eq_true, decide_eq_true_eq] at hpe; exact hpe.2
  have hwr : e.wr = true := by unfold isUnf at hpe; simp only [Bool.and_eq_true, decide_eq_true_eq] at hpe; exact hpe.1.2
  have hle := leN_le e.con
  obtain ⟨sd, hsd⟩ : ∃ sd, sd = lcg e.seed := ⟨_, rfl⟩
  have he1 : (S.put (5 * m + 1) ⟨((S.wi m).w 1).c, ((S.wi m).w 1).r, S.time⟩).tk[t]? = some e := he
  have hv := VTk.set a2.tk he1 (e' := ((e.w_beats (e.beats + 1)).w_seed (sd))) (sen' := φ1.1 (r + 21)) (don' := φ1.1 (r + 22)) (bea' := va_up (φ1.1 (r + 23)) t (nI (e.beats + 1))) (res' := φ1.1 (r + 24)) (see' := va_up (φ1.2.1 (r + 19)) t (sd)) (dat' := va_up (φ1.2.1 (r + 25)) (16 * t + e.beats) (e.dat e.beats)) rfl rfl rfl rfl rfl (show e.beats + 1 ≤ 16 by omega) (fun _ k hk => by
      have hk' : e.beats + 1 + k < leN e.con := hk
      have := a2.tk.hgen t e he1 hwr (k + 1) (by omega)
      rw [lcgN_s, ← hsd, show e.beats + (k + 1) = e.beats + 1 + k by omega] at this
      exact this) (a2.tk.hsen t e he1) (a2.tk.hdon t e he1) (vz_same _ _ _) (a2.tk.hres t e he1) (vz_same _ _ _) (fun k hk hk6 => by
      have hk' : k < e.beats + 1 := hk
      show va_up (φ1.2.1 (r + 25)) (16 * t + e.beats) (e.dat e.beats) (16 * t + k) = e.dat k
      rw [vz_at]
      by_cases hkb : k = e.beats
      · rw [if_pos (by omega), hkb]
      · rw [if_neg (by omega)]
        exact a2.tk.hdat t e he1 k (by omega) hk6) (fun u hu _ => ⟨rfl, rfl, vz_ne _ hu, rfl, vz_ne _ hu⟩) (fun u k hu hk => by
      show va_up (φ1.2.1 (r + 25)) (16 * t + e.beats) (e.dat e.beats) (16 * u + k) = φ1.2.1 (r + 25) (16 * u + k)
      exact vz_ne _ (by omega))
  have f1 : RFr r [19, 21, 22, 23, 24, 25] φ1 (uI (uL (uL φ1 (r + 25) (16 * t + e.beats) (e.dat e.beats)) (r + 19) t (sd)) (r + 23) t (nI (e.beats + 1))) := by repeat (first | exact RFr.refl _ _ _ | refine RFr.uI ?_ (by decide) _ _ | refine RFr.uL ?_ (by decide) _ _ | refine rfr_uO ?_ (by decide) _ _)
  have h2 := a2.tkU f1 (List.length_set ..) (by simpa [uI_1, uI_2, uI_3, uL_1, uL_2, uL_3, vz_at] using hv)
  have hS : S.passM m 1 = ((S.put (5 * m + 1) ⟨((S.wi m).w 1).c, ((S.wi m).w 1).r, S.time⟩).w_tk ((S.put (5 * m + 1) ⟨((S.wi m).w 1).c, ((S.wi m).w 1).r, S.time⟩).tk.set t ((e.w_beats (e.beats + 1)).w_seed (sd)))) := by
    unfold XS.passM
    rw [if_neg (by omega), if_pos rfl, updF_some ht he, ← hsd]
    rfl
  rw [hS]
  refine ⟨_, ?_, h2, (a3.mono (by decide)).trans (by repeat (first | exact RFr.refl _ _ _ | refine RFr.uI ?_ (by decide) _ _ | refine RFr.uL ?_ (by decide) _ _ | refine rfr_uO ?_ (by decide) _ _))⟩
  have ht3 := h.sc.time
  have b1 : φ1.1 (r + 23) t = nI e.beats := a2.tk.hbea t e he1
  have b2 : φ1.2.1 (r + 19) t = e.seed := a2.tk.hsee t e he1
  have b3 : φ1.2.1 (r + 28) (5 * m + 1) = e.dat e.beats := by
    have := (a2.wi m 1 (by omega) (by omega)).2.2.1
    rw [this]
    exact hwc
  unfold f_Ref_dataSent
  simp only [h.rl.o, if_true, zI_lit, e_rowOf0, Option.bind_some, rf_35 h.rl, rg_35 h.rl, rf_36 h.rl, rg_36 h.rl, zI_mul, zI_add, zix (show 5 * m + 1 < 40 by omega), hw, ht3, a1]
  simp only [hu, oI, Option.bind_some, rf_30 a2.rl, rg_30 a2.rl, rf_35 a2.rl, rg_35 a2.rl, rf_32 a2.rl, rg_32 a2.rl, rf_26 a2.rl, rg_26 a2.rl, zix (show t < 64 by omega), zix (show 5 * m + 1 < 40 by omega), b1, b3, zI_mul, zI_add, zix (show 16 * t + e.beats < 1024 by omega)]
  simp (disch := first | assumption | omega) only [uI_1, uI_2, uI_3, uL_1, uL_2, uL_3, vz_at, Nat.add_left_cancel_iff, Nat.reduceEqDiff, if_false, zr1, zr2, b2, Option.bind_some]
  rw [hsd, lcg]
