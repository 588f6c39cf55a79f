/-! THE FACE: a request, the class's object and what stands -/
theorem grst_la (c : Int64) (k : Nat) (sp : Bool) (x : Int64) : rLa (grst c k sp x) = decide (k = leN c - 1) := by
  have h1 := laN_lt (baN c k) (szN_cases c)
  have h2 : (if sp = true then laN (baN c k) (szN c) &&& (uN x / 2 ^ 56) else laN (baN c k) (szN c)) < 256 := by
    split
    · exact Nat.lt_of_le_of_lt Nat.and_le_left h1
    · exact h1
  unfold grst rLa
  generalize (if sp = true then laN (baN c k) (szN c) &&& (uN x / 2 ^ 56) else laN (baN c k) (szN c)) = st at *
  by_cases e : k = leN c - 1
  · rw [if_pos e, nI_N (by omega), decide_eq_true e]
    exact decide_eq_true (by omega)
  · rw [if_neg e, nI_N (by omega), decide_eq_false e]
    exact decide_eq_false (by omega)
theorem IT_new {nm m : Nat} {con : Int64} (hm : m < nm) (hid : idN con < 16) (hru : ruN con = 0) (wr sp : Bool) (seed : Int64) (time : Nat) : IT nm (newT m con wr sp seed time) :=
  ⟨hm, hid, hru, (by show 0 < 4; decide), fun _ => rfl, fun _ => ⟨fun _ => rfl, fun _ => leN_pos con⟩, fun _ => Nat.zero_le _, fun _ k _ => grst_la con k sp _⟩
theorem find_app {α : Type} {p : α → Bool} {l l' : List α} {t : α} (h : l.find? p = some t) : (l ++ l').find? p = some t := by
  rw [List.find?_append, h]; rfl
theorem JI.ask {k : Nat} {S : XS} (h : JI k S) {m : Nat} {con : Int64} {wr sp : Bool} {seed : Int64} (hm : m < S.nm) (hid : idN con < 16) (hru : ruN con = 0) (hu : S.tk.countP (isUns m wr) < 8) : JI k (S.w_tk (S.tk ++ [newT m con wr sp seed S.time])) := by
  obtain ⟨h1, h2, h3, h4⟩ := h
  have hIT : ∀ t ∈ S.tk ++ [newT m con wr sp seed S.time], IT S.nm t := by
    intro t ht
    rcases List.mem_append.mp ht with ht | ht
    · exact h1.tk t ht
    · rw [List.mem_singleton.mp ht]; exact IT_new hm hid hru wr sp seed S.time
  have hb : Bd (S.w_tk (S.tk ++ [newT m con wr sp seed S.time])) := ⟨h1.bd.nm, h1.bd.ns, h1.bd.lim, h1.bd.pol, h1.bd.time, h1.bd.db, h1.bd.moved, h1.bd.pages, h1.bd.mpat, h1.bd.spat, h1.bd.delay, h1.bd.way, h1.bd.mem, h1.bd.sw, h1.bd.sr, h1.bd.rnum, h1.bd.lat, h1.bd.uw, h1.bd.ur, h1.bd.la, h1.bd.lr, h1.bd.lb, h1.bd.lg, h1.bd.rgt, h1.bd.rowT, fun e he => (hIT e he).rs⟩
  refine ⟨⟨hb, h1.tb, hIT, h1.rw, h1.uw, h1.ur, h1.pw, ?_, ?_, h1.tg, h1.rc, h1.db, h1.mo, h1.cb, h1.ch, h1.ib, h1.ou, h1.mv⟩, ⟨?_, ?_, ?_, h2.b, h2.r, h2.mh, h2.sh⟩, ⟨h3.n, h3.e, h3.l, h3.p, h3.q⟩, h4.1, ?_⟩
  · intro m' hm'
    exact (h1.em m' hm').ask (fun _ => rfl) rfl
  · intro m' hm' id
    have h0 := h1.nc m' hm' id
    show NCc m' id (S.row (5 * m')) (S.row (5 * m' + 2)) S.uw (S.tk ++ [newT m con wr sp seed S.time])
    unfold NCc at *
    rw [List.countP_append, List.countP_cons, List.countP_nil]
    have : isAns m' true id (newT m con wr sp seed S.time) = false := by
      unfold isAns
      rw [show (newT m con wr sp seed S.time).sent = m1 from rfl, decide_eq_true rfl]
      simp
    rw [this]
    simp only [Bool.false_eq_true, if_false]
    omega
  · intro m' hm' hh
    obtain ⟨t, t1, t2⟩ := h2.a0 m' hm' hh
    exact ⟨t, find_app t1, t2⟩
  · intro m' hm' hh
    obtain ⟨t, t1, t2⟩ := h2.a3 m' hm' hh
    exact ⟨t, find_app t1, t2⟩
  · intro m' hm' hh
    obtain ⟨t, t1, t2⟩ := h2.d m' hm' hh
    exact ⟨t, find_app t1, t2⟩
  · intro m' wr'
    show (S.tk ++ [newT m con wr sp seed S.time]).countP (isUns m' wr') ≤ 8
    rw [List.countP_append, List.countP_cons, List.countP_nil]
    have h5 := h4.2 m' wr'
    by_cases e : m = m' ∧ wr = wr'
    · obtain ⟨rfl, rfl⟩ := e
      split <;> omega
    · have : isUns m' wr' (newT m con wr sp seed S.time) = false := by
        cases hx : isUns m' wr' (newT m con wr sp seed S.time) with
        | false => rfl
        | true => exact absurd ⟨(isUns_iff.mp hx).1, (isUns_iff.mp hx).2.1⟩ e
      rw [this]
      simp only [Bool.false_eq_true, if_false]
      omega
/-- a ticket's object begins -/
theorem c_rqstart {Γ : gm_T} {φ : ph_T} {y : Nat} (ho : Γ y = .inr 6) (hf : φ.2.2 y 0 = some (y + 1)) (hb : CBl Γ φ (y + 1)) (con : Int64) (wr : Bool) (time : Int32) :
    ∃ φ', f_Request_start Γ φ y con (bI wr) time = some ((), φ') ∧ φ'.1 y 1 = bI wr ∧ φ'.1 y 2 = time ∧ φ'.1 y 3 = m1 ∧ φ'.1 y 4 = m1 ∧ φ'.1 y 5 = nI 0 ∧ φ'.2.1 (y + 1) 0 = con ∧ φ'.1 (y + 1) 3 = nI 0 ∧ Fr y (y + 2) φ φ' ∧ φ'.2.2 = φ.2.2 := by
  unfold f_Request_start f_Burst_start
  rw [if_pos ho, hf, Option.bind_some, if_pos hb.o, if_pos hb.o, if_pos (by decide), if_pos (by decide), Option.bind_some, if_pos (bI_or _)]
  refine ⟨_, rfl, ?_, ?_, ?_, ?_, ?_, ?_, ?_, ?_, rfl⟩
  · rw [uI_s, uI_s, uI_s, uI_s, uI_s, vz_ne _ (by decide), vz_ne _ (by decide), vz_ne _ (by decide), vz_ne _ (by decide), vz_same]
  · rw [uI_s, uI_s, uI_s, uI_s, uI_s, vz_ne _ (by decide), vz_ne _ (by decide), vz_ne _ (by decide), vz_same]
  · rw [uI_s, uI_s, uI_s, uI_s, uI_s, vz_ne _ (by decide), vz_ne _ (by decide), vz_same]; rfl
  · rw [uI_s, uI_s, uI_s, uI_s, uI_s, vz_ne _ (by decide), vz_same]; rfl
  · rw [uI_s, vz_same]; rfl
  · rw [uI_2, uI_2, uI_2, uI_2, uI_2, uI_2, uI_2, uI_2, uI_2, uI_2, uL_s, vz_same]
  · rw [uI_1, if_neg (by omega), uI_1, if_neg (by omega), uI_1, if_neg (by omega), uI_1, if_neg (by omega), uI_1, if_neg (by omega), uI_s, uI_s, uI_s, vz_ne _ (by decide), vz_ne _ (by decide), vz_same]; rfl
  · exact fr_uI (fr_uI (fr_uI (fr_uI (fr_uI (fr_uI (fr_uI (fr_uI (fr_uI (fr_uI (fr_uL (Fr.refl _ _ _) (by omega) _ _) (by omega) _ _) (by omega) _ _) (by omega) _ _) (by omega) _ _) (by omega) _ _) (by omega) _ _) (by omega) _ _) (by omega) _ _) (by omega) _ _) (by omega) _ _
theorem c_request {Γ : gm_T} {φ : ph_T} {b : Nat} {S : XS} (h : CV Γ φ b S) {m hw : Nat} {con seed : Int64} {wr : Bool} (hm : m < S.nm) (hhw : hw < 32768) (hle : S.tk.length < 64) (hu : S.tk.countP (isUns m wr) < 8) :
    ∃ φ', f_Bus_request_L71 Γ φ b (nI m) (nI hw) seed con (bI wr) = some (.inl (nI S.tk.length), φ') ∧ CV Γ φ' b (S.w_tk (S.tk ++ [newT m con wr (decide (hw / 1024 % 2 = 1)) seed S.time])) ∧ Fr b (tAd b S.nm S.ns + 256) φ φ' := by
  obtain ⟨g1, g2, g3, g4⟩ := h.reg
  have n4 := h.lay.nm4
  have n5 := h.lay.ns4
  have hbq : b + 35 ≤ bQ b S.nm S.ns := by unfold bQ; omega
  have hA := h.ma m hm
  have hmi := mA_in (b := b) (ns := S.ns) hm
  have hr := c_hasRoomM hA (by omega) wr
  have htl := tix_len S.tk m wr
  rw [decide_eq_true (show (tix S.tk m wr).length < 64 by omega), decide_eq_true hu, Bool.and_self] at hr
  obtain ⟨o1, o2, o3⟩ := h.tk.o S.tk.length hle
  generalize hy : tAd b S.nm S.ns + 4 * S.tk.length = y at *
  obtain ⟨φ1, a1, a2, a3, a4, a5, a6, a7, a8, a9, a10⟩ := c_rqstart o1 o2 o3 con wr (nI S.time)
  generalize hsp : decide (hw / 1024 % 2 = 1) = sp
  have o3' : CBl Γ φ1 (y + 1) := o3.up (by rw [a10])
  have hfill : ∃ φ2, (∀ X : ph_T → Option ((Int32 ⊕ String) × ph_T), (if bI wr = 0 then X φ1 else if (nI hw &&& (1024 : Int32)) = 0 then Option.bind (f_Burst_fillWrite Γ φ1 (y + 1) seed (0 : Int32)) (fun q => X q.2) else Option.bind (f_Burst_fillWrite Γ φ1 (y + 1) seed (1 : Int32)) (fun q => X q.2)) = X φ2) ∧ Fr (y + 2) (y + 4) φ1 φ2 ∧ φ2.2.2 = φ1.2.2 ∧ (wr = true → ∀ j, j < leN con → φ2.2.1 (y + 2) j = gdat con j (lcgN (j + 1) seed) ∧ φ2.1 (y + 3) j = grst con j sp (lcgN (j + 1) seed)) := by
    cases wr with
    | false => exact ⟨φ1, fun X => if_pos rfl, Fr.refl _ _ _, rfl, fun e => by cases e⟩
    | true =>
      obtain ⟨φ2, b1, b2, b3, b4⟩ := c_fill (seed := seed) (sp := sp) o3' a7
      refine ⟨φ2, fun X => ?_, b3, b4, fun _ => b2⟩
      rw [if_neg (by decide), show (1024 : Int32) = nI (2 ^ 10) from rfl, bit_if (by omega) (by decide)]
      by_cases e : hw / 2 ^ 10 % 2 = 0
      · have es : sp = false := by rw [← hsp]; exact decide_eq_false (by omega)
        rw [es] at b1
        rw [if_pos e, show (0 : Int32) = bI false from rfl, b1]; rfl
      · have es : sp = true := by rw [← hsp]; exact decide_eq_true (by omega)
        rw [es] at b1
        rw [if_neg e, show (1 : Int32) = bI true from rfl, b1]; rfl
  obtain ⟨φ2, b1, b2, b3, b4⟩ := hfill
  have f12 : Fr y (y + 4) φ φ2 := (a9.mono (by omega) (by omega)).trans (b2.mono (by omega) (by omega))
  have hA2 : CMa Γ φ2 (mAd b S.nm S.ns m) (tAd b S.nm S.ns) S.tk m (S.mpat m) (S.early m) := hA.sm (f12.sm (by omega))
  have hw2 : φ2.1 y 1 = bI wr := by rw [b2.i (by omega)]; exact a2
  obtain ⟨φ3, c1, c2, c3⟩ := c_enqueue (con := con) (sp := sp) (seed := seed) (time := S.time) hA2 hle hu (by rw [hy]; exact o1) (by rw [hy]; exact hw2) (by omega)
  rw [hy] at c1
  have e8 : φ3.1 b 8 = nI S.tk.length := by rw [c3.i (by omega), f12.i (by omega)]; exact h.tc
  have e9 : φ3.1 b 9 = nI S.time := by rw [c3.i (by omega), f12.i (by omega)]; exact h.ti
  have f4 : Fr b (b + 1) φ3 (uI φ3 b 8 (nI (S.tk.length + 1))) := fr_uI (Fr.refl _ _ _) (by omega) _ _
  have fall : Fr b (tAd b S.nm S.ns + 256) φ (uI φ3 b 8 (nI (S.tk.length + 1))) := (f12.mono (by omega) (by omega)).trans ((c3.mono (by omega) (by omega)).trans (f4.mono (by omega) (by omega)))
  have smB : ∀ lo hi, (hi ≤ y ∨ y + 4 ≤ lo) → (hi ≤ mAd b S.nm S.ns m ∨ mAd b S.nm S.ns m + 4 ≤ lo) → b + 1 ≤ lo → Sm lo hi φ (uI φ3 b 8 (nI (S.tk.length + 1))) := fun lo hi q1 q2 q3 => ((f12.sm q1).trans (c3.sm q2)).trans (f4.sm (by omega))
  refine ⟨uI φ3 b 8 (nI (S.tk.length + 1)), ?_, ?_, fall⟩
  · have h71 : f_Bus_request_L71 Γ φ b (nI m) (nI hw) seed con (bI wr) = (if bI wr = 0 then f_Bus_request_L158 Γ φ1 b (nI m) (some y) else if (nI hw &&& (1024 : Int32)) = 0 then Option.bind (f_Burst_fillWrite Γ φ1 (y + 1) seed (0 : Int32)) (fun q => f_Bus_request_L158 Γ q.2 b (nI m) (some y)) else Option.bind (f_Burst_fillWrite Γ φ1 (y + 1) seed (1 : Int32)) (fun q => f_Bus_request_L158 Γ q.2 b (nI m) (some y))) := by
      unfold f_Bus_request_L71 f_Bus_request_L155
      rw [if_pos h.lay.o, h.tc, if_neg (by rw [show (64 : Int32) = nI 64 from rfl, zI_le (by omega) (by omega)]; omega), h.lay.f2, Option.bind_some, h.lay.g2, Option.bind_some, zix (by omega), Option.bind_some, h.lay.ma m hm, Option.bind_some, if_pos hA.o, hr, Option.bind_some, if_neg (bt_ne _), h.lay.f7, Option.bind_some, h.lay.g7, Option.bind_some, h.tc, zix (by omega), Option.bind_some, h.lay.tk S.tk.length hle, Option.bind_some, hy, if_pos o1, h.ti, a1, Option.bind_some]
      rw [show φ1.2.2 y 0 = some (y + 1) from by rw [a10]; exact o2]
      simp only [Option.bind_some, o3.o, if_true]
    rw [h71, b1 (fun ψ => f_Bus_request_L158 Γ ψ b (nI m) (some y))]
    have hl2 : φ2.2.2 b 2 = some (bQ b S.nm S.ns) := by rw [b3, a10]; exact h.lay.f2
    have hl3 : φ2.2.2 (bQ b S.nm S.ns) m = some (mAd b S.nm S.ns m) := by rw [b3, a10]; exact h.lay.ma m hm
    show f_Bus_request_L158 Γ φ2 b (nI m) (some y) = _
    unfold f_Bus_request_L158
    rw [if_pos h.lay.o, hl2, Option.bind_some, h.lay.g2, Option.bind_some, zix (by omega), Option.bind_some, hl3, Option.bind_some, if_pos hA.o, c1, Option.bind_some, e8, zI_1, zI_add, uI_s, vz_same, zI_sub (by omega), Nat.add_sub_cancel]
  · have hoth : ∀ m', m' ≠ m → (∀ wr', tix (S.tk ++ [newT m con wr sp seed S.time]) m' wr' = tix S.tk m' wr') ∧ (∀ wr', nSent (S.tk ++ [newT m con wr sp seed S.time]) m' wr' = nSent S.tk m' wr') ∧ nFed (S.tk ++ [newT m con wr sp seed S.time]) m' = nFed S.tk m' ∧ nOpn (S.tk ++ [newT m con wr sp seed S.time]) m' = nOpn S.tk m' := by
      intro m' hne
      have hk : ∀ wr', isKey m' wr' (newT m con wr sp seed S.time) = false := by
        intro wr'
        rw [key_new, decide_eq_false (Ne.symm hne)]; rfl
      refine ⟨fun wr' => ?_, fun wr' => ?_, ?_, ?_⟩
      · rw [tix_app, hk]; simp
      · unfold nSent; rw [List.countP_append, List.countP_cons, List.countP_nil, hk]; simp
      · unfold nFed; rw [List.countP_append, List.countP_cons, List.countP_nil, hk]; simp
      · unfold nOpn; rw [List.countP_append, List.countP_cons, List.countP_nil, show (newT m con wr sp seed S.time).m = m from rfl, decide_eq_false (Ne.symm hne)]; simp
    refine ⟨?_, ?_, ?_, ?_, ?_, ?_, ?_, h.tko.add rfl (leN_pos con), ?_, ?_, ?_⟩
    · have e2 : ∀ q, (q < mAd b S.nm S.ns m ∨ mAd b S.nm S.ns m + 4 ≤ q) → (uI φ3 b 8 (nI (S.tk.length + 1))).2.2 q = φ.2.2 q := by
        intro q hq
        rw [uI_3, c3.r hq, b3, a10]
      have hb4 : b < mAd b S.nm S.ns m := by omega
      exact h.lay.up (e2 _ (by omega)) (e2 _ (by omega)) (e2 _ (by omega)) (e2 _ (by omega)) (e2 _ (by omega)) (e2 _ (by omega)) (e2 _ (by omega))
    · rw [uI_s, vz_same]
      show _ = nI (S.tk ++ [_]).length
      rw [List.length_append]; rfl
    · rw [uI_s, vz_ne _ (by decide)]; exact e9
    · exact h.mem.sm (smB _ _ (by omega) (by omega) (by omega))
    · exact (h.sw.sm (smB _ _ (by omega) (by omega) (by omega))).cg rfl rfl rfl rfl rfl rfl rfl rfl rfl rfl rfl rfl rfl rfl rfl rfl
    · intro m' hm'
      have hm' : m' < S.nm := hm'
      have hmi' := mA_in (b := b) (ns := S.ns) hm'
      by_cases e : m' = m
      · subst e
        exact c2.sm (f4.sm (by omega))
      · have := mA_m (b := b) (nm := S.nm) (ns := S.ns) e
        obtain ⟨q1, q2, q3, q4⟩ := hoth m' e
        exact ((h.ma m' hm').sm (smB _ _ (by omega) (by omega) (by omega))).cg q1 q2 q3 q4
    · refine ⟨?_, ?_, ?_⟩
      · intro t ht
        obtain ⟨p1, p2, p3⟩ := h.tk.o t ht
        have e2 : ∀ q, tAd b S.nm S.ns ≤ q → (uI φ3 b 8 (nI (S.tk.length + 1))).2.2 q = φ.2.2 q := by
          intro q hq
          rw [uI_3, c3.r (by omega), b3, a10]
        exact ⟨p1, by rw [e2 _ (by show tAd b S.nm S.ns ≤ tAd b S.nm S.ns + 4 * t; omega)]; exact p2, p3.up (e2 _ (by show tAd b S.nm S.ns ≤ tAd b S.nm S.ns + 4 * t + 1; omega))⟩
      · show (S.tk ++ [_]).length ≤ 64
        rw [List.length_append, List.length_singleton]; omega
      · intro t x hx
        show ETk _ (tAd b S.nm S.ns + 4 * t) x
        by_cases e : t < S.tk.length
        · have hx' : S.tk[t]? = some x := by rw [← List.getElem?_append_left e]; exact hx
          exact (h.tk.e t x hx').sm (smB _ _ (by omega) (by omega) (by omega))
        · have htl2 : t = S.tk.length := by
            have := (List.getElem?_eq_some_iff.mp hx).1
            have : t < (S.tk ++ [newT m con wr sp seed S.time]).length := this
            rw [List.length_append, List.length_singleton] at this
            omega
          subst htl2
          have hx2 : x = newT m con wr sp seed S.time := by
            have hx : (S.tk ++ [newT m con wr sp seed S.time])[S.tk.length]? = some x := hx
            rw [List.getElem?_append_right (Nat.le_refl _), Nat.sub_self] at hx
            simpa using hx.symm
          subst hx2
          rw [hy]
          have s3 : Sm y (y + 4) φ2 (uI φ3 b 8 (nI (S.tk.length + 1))) := (c3.sm (by omega)).trans (f4.sm (by omega))
          have i2 : ∀ k, φ2.1 y k = φ1.1 y k := fun k => by rw [b2.i (by omega)]
          refine ETk.sm ?_ s3
          refine ⟨hw2, ?_, ?_, ?_, ?_, ?_, ?_, ?_, ?_⟩
          · rw [i2]; exact a3
          · rw [i2]; exact a4
          · rw [i2]; exact a5
          · rw [i2]; exact a6
          · rw [b2.l (by omega)]; exact a7
          · rw [b2.i (by omega)]; exact a8
          · exact b4
          · intro _ k hk
            exact absurd hk (Nat.not_lt_zero k)
    · intro p hp
      have hp : okP S.nm S.ns p := hp
      have := pA_in (b := b) n4.2 n5.2 hp
      have := pA_m (b := b) n4.2 n5.2 hp hm
      obtain ⟨hd, h'⟩ := h.po p hp
      exact ⟨hd, h'.sm (smB (pAd b S.nm S.ns p) (pAd b S.nm S.ns p + 7) (by omega) (by omega) (by omega))⟩
    · intro p hp
      have hp : okP S.nm S.ns p := hp
      have := pA_in (b := b) n4.2 n5.2 hp
      have := pA_m (b := b) n4.2 n5.2 hp hm
      exact (h.mo p hp).sm (smB (pAd b S.nm S.ns p + 7) (pAd b S.nm S.ns p + 7 + 104) (by omega) (by omega) (by omega))
    · intro s hs
      have hs : s < S.ns := hs
      have := sA_in (b := b) (nm := S.nm) hs
      exact ((h.sl s hs).sm (smB _ _ (by omega) (by omega) (by omega))).cg rfl rfl rfl rfl rfl rfl (fun i hi => hi) (fun i hi => hi) rfl
