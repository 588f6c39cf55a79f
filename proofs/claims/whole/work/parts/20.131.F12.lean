/-! THE FACE: tickets are forgotten -/
theorem c_dropM {Γ : gm_T} {φ : ph_T} {a tb m : Nat} {l : List TK} {pt : Nat → Nat} {ea : Bool} (h : CMa Γ φ a tb l m pt ea) :
    ∃ φ', f_Master_dropRequests Γ φ a = some ((), φ') ∧ CMa Γ φ' a tb [] m pt ea ∧ Fr a (a + 1) φ φ' ∧ φ'.2.2 = φ.2.2 := by
  unfold f_Master_dropRequests
  rw [if_pos h.o]
  have f : Fr a (a + 1) φ (uI (uI (uI (uI (uI (uI φ a 4 (0 : Int32)) a 5 (0 : Int32)) a 6 (0 : Int32)) a 7 (0 : Int32)) a 8 (0 : Int32)) a 9 (0 : Int32)) := fr_uI (fr_uI (fr_uI (fr_uI (fr_uI (fr_uI (Fr.refl _ _ _) (by omega) _ _) (by omega) _ _) (by omega) _ _) (by omega) _ _) (by omega) _ _) (by omega) _ _
  refine ⟨_, rfl, ⟨h.o, h.f0, h.f2, h.f3, h.g0, h.g2, h.g3, ?_, ?_, ?_, ?_, ?_, ?_, ?_, ?_, ?_, ?_⟩, f, rfl⟩
  · rw [f.i (by omega)]; exact h.pt
  · rw [uI_s, uI_s, uI_s, uI_s, uI_s, uI_s, vz_ne _ (by decide), vz_ne _ (by decide), vz_ne _ (by decide), vz_ne _ (by decide), vz_ne _ (by decide), vz_ne _ (by decide)]
    exact h.ea
  · intro i t ht; cases ht
  · intro i t ht; cases ht
  · rw [uI_s, uI_s, uI_s, uI_s, uI_s, uI_s, vz_ne _ (by decide), vz_ne _ (by decide), vz_ne _ (by decide), vz_ne _ (by decide), vz_ne _ (by decide), vz_same]; rfl
  · rw [uI_s, uI_s, uI_s, uI_s, uI_s, uI_s, vz_ne _ (by decide), vz_ne _ (by decide), vz_ne _ (by decide), vz_ne _ (by decide), vz_same]; rfl
  · rw [uI_s, uI_s, uI_s, uI_s, uI_s, uI_s, vz_ne _ (by decide), vz_ne _ (by decide), vz_ne _ (by decide), vz_same]; rfl
  · rw [uI_s, uI_s, uI_s, uI_s, uI_s, uI_s, vz_ne _ (by decide), vz_ne _ (by decide), vz_same]; rfl
  · rw [uI_s, uI_s, uI_s, uI_s, uI_s, uI_s, vz_ne _ (by decide), vz_same]; rfl
  · rw [uI_s, uI_s, uI_s, uI_s, uI_s, uI_s, vz_same]; rfl
def pMs (b nm ns : Nat) (y : Nat) : Prop := ∃ m, m < nm ∧ y = mAd b nm ns m
theorem c_dropT_L {Γ : gm_T} {b nm ns : Nat} {l : List TK} {pt : Nat → Nat → Nat} {ea : Nat → Bool} : ∀ (d i fu : Nat) (φ : ph_T), i + d = nm → d < fu → BuL Γ φ b nm ns → (∀ m, i ≤ m → m < nm → CMa Γ φ (mAd b nm ns m) (tAd b nm ns) l m (pt m) (ea m)) → (∀ m, m < i → CMa Γ φ (mAd b nm ns m) (tAd b nm ns) [] m (pt m) (ea m)) →
    ∃ φ', f_Bus_dropTickets_L2 Γ fu φ b (nI i) = some ((), uI φ' b 8 (0 : Int32)) ∧ FrP (pMs b nm ns) φ φ' ∧ φ'.2.2 = φ.2.2 ∧ ∀ m, m < nm → CMa Γ φ' (mAd b nm ns m) (tAd b nm ns) [] m (pt m) (ea m) := by
  intro d
  induction d with
  | zero =>
    intro i fu φ hd hfu hl h1 h2
    have n4 := hl.nm4
    match fu, hfu with
    | fu + 1, _ =>
      refine ⟨φ, ?_, FrP.refl _ _, rfl, fun m hm => h2 m (by omega)⟩
      rw [f_Bus_dropTickets_L2, if_pos hl.o, hl.f2, Option.bind_some, hl.g2, Option.bind_some, if_pos (by rw [zI_le (by omega) (by omega)]; omega)]
  | succ d ih =>
    intro i fu φ hd hfu hl h1 h2
    have n4 := hl.nm4
    match fu, hfu with
    | fu + 1, hfu =>
      have hM := h1 i (Nat.le_refl _) (by omega)
      obtain ⟨φ1, a1, a2, a3, a4⟩ := c_dropM hM
      have hoth : ∀ m, m ≠ i → mAd b nm ns m + 4 ≤ mAd b nm ns i ∨ mAd b nm ns i + 1 ≤ mAd b nm ns m := by
        intro m hm
        have := mA_m (b := b) (nm := nm) (ns := ns) hm
        omega
      have hl1 : BuL Γ φ1 b nm ns := hl.up (by rw [a4]) (by rw [a4]) (by rw [a4]) (by rw [a4]) (by rw [a4]) (by rw [a4]) (by rw [a4])
      obtain ⟨φ2, b1, b2, b3, b4⟩ := ih (i + 1) fu φ1 (by omega) (by omega) hl1 (fun m hm1 hm2 => (h1 m (by omega) hm2).sm (a3.sm (by have := hoth m (by omega); omega))) (fun m hm => by
        by_cases e : m = i
        · subst e; exact a2
        · exact (h2 m (by omega)).sm (a3.sm (by have := hoth m e; omega)))
      refine ⟨φ2, ?_, (a3.toP (fun y hy1 hy2 => ⟨i, by omega, by omega⟩)).trans b2, b3.trans a4, b4⟩
      rw [f_Bus_dropTickets_L2, if_pos hl.o, hl.f2, Option.bind_some, hl.g2, Option.bind_some, if_neg (by rw [zI_le (by omega) (by omega)]; omega), Option.bind_some, zix (by omega), Option.bind_some, hl.ma i (by omega), Option.bind_some, if_pos hM.o, a1, Option.bind_some, show nI i + (1 : Int32) = nI (i + 1) from by rw [zI_1, zI_add]]
      exact b1
theorem TkO_nil : TkO [] := ⟨fun m wr i t e h _ => (by cases h), fun m i t e h _ => (by cases h)⟩
theorem c_dropT {Γ : gm_T} {φ : ph_T} {b : Nat} {S : XS} (h : CV Γ φ b S) : ∃ φ', f_Bus_dropTickets Γ φ b = some ((), φ') ∧ CV Γ φ' b (S.w_tk []) ∧ Fr b (tAd b S.nm S.ns + 256) φ φ' := by
  obtain ⟨g1, g2, g3, g4⟩ := h.reg
  have n4 := h.lay.nm4
  have n5 := h.lay.ns4
  have hbq : b + 35 ≤ bQ b S.nm S.ns := by unfold bQ; omega
  obtain ⟨φ1, a1, a2, a3, a4⟩ := c_dropT_L (l := S.tk) (pt := S.mpat) (ea := S.early) S.nm 0 jF φ (by omega) (by unfold jF; omega) h.lay (fun m _ hm => h.ma m hm) (fun m hm => by omega)
  have f1 : Fr b (b + 1) φ1 (uI φ1 b 8 (0 : Int32)) := fr_uI (Fr.refl _ _ _) (by omega) _ _
  have nP : ∀ y, y < bQ b S.nm S.ns + 2 → ¬ pMs b S.nm S.ns y := by
    rintro y hy ⟨m, hm, rfl⟩
    have := mA_in (b := b) (ns := S.ns) hm
    omega
  have nP2 : ∀ y, sAd b S.nm S.ns 0 - 2 ≤ y → ¬ pMs b S.nm S.ns y := by
    rintro y hy ⟨m, hm, rfl⟩
    have := mA_in (b := b) (ns := S.ns) hm
    omega
  have smA : ∀ lo hi, (b + 1 ≤ lo ∧ hi ≤ bQ b S.nm S.ns + 2) ∨ sAd b S.nm S.ns 0 - 2 ≤ lo → b + 1 ≤ lo → Sm lo hi φ (uI φ1 b 8 (0 : Int32)) := by
    intro lo hi hh hb
    refine (a2.sm (fun y h1 h2 => ?_)).trans (f1.sm (by omega))
    rcases hh with hh | hh
    · exact nP y (by omega)
    · exact nP2 y (by omega)
  refine ⟨_, a1, ?_, ?_⟩
  · refine ⟨?_, ?_, ?_, ?_, ?_, ?_, ?_, TkO_nil, ?_, ?_, ?_⟩
    · exact h.lay.up (by rw [uI_3, a3]) (by rw [uI_3, a3]) (by rw [uI_3, a3]) (by rw [uI_3, a3]) (by rw [uI_3, a3]) (by rw [uI_3, a3]) (by rw [uI_3, a3])
    · rw [uI_s, vz_same]; rfl
    · rw [uI_s, vz_ne _ (by decide), (a2 b (nP b (by omega))).1]; exact h.ti
    · exact h.mem.sm (smA _ _ (by omega) (by omega))
    · exact (h.sw.sm (smA _ _ (by omega) (by omega))).cg rfl rfl rfl rfl rfl rfl rfl rfl rfl rfl rfl rfl rfl rfl rfl rfl
    · intro m hm
      have hm : m < S.nm := hm
      have := mA_in (b := b) (ns := S.ns) hm
      exact (a4 m hm).sm (f1.sm (by show mAd b S.nm S.ns m + 4 ≤ b ∨ b + 1 ≤ mAd b S.nm S.ns m; omega))
    · have ht := h.tk.sm (smA (tAd b S.nm S.ns) (tAd b S.nm S.ns + 256) (by omega) (by omega))
      exact ⟨ht.o, Nat.zero_le _, fun t x hx => by cases hx⟩
    · intro p hp
      have hp : okP S.nm S.ns p := hp
      have := pA_in (b := b) n4.2 n5.2 hp
      obtain ⟨hd, h'⟩ := h.po p hp
      refine ⟨hd, h'.sm ?_⟩
      show Sm (pAd b S.nm S.ns p) (pAd b S.nm S.ns p + 7) φ _
      refine (a2.sm ?_).trans (f1.sm (by omega))
      rintro y hy1 hy2 ⟨m, hm, rfl⟩
      have := pA_m (b := b) n4.2 n5.2 hp hm
      omega
    · intro p hp
      have hp : okP S.nm S.ns p := hp
      have := pA_in (b := b) n4.2 n5.2 hp
      refine (h.mo p hp).sm ?_
      show Sm (pAd b S.nm S.ns p + 7) (pAd b S.nm S.ns p + 7 + 104) φ _
      refine (a2.sm ?_).trans (f1.sm (by omega))
      rintro y hy1 hy2 ⟨m, hm, rfl⟩
      have := pA_m (b := b) n4.2 n5.2 hp hm
      omega
    · intro s hs
      have hs : s < S.ns := hs
      have := sA_in (b := b) (nm := S.nm) hs
      exact ((h.sl s hs).sm (smA _ _ (by omega) (by omega))).cg rfl rfl rfl rfl rfl rfl (fun i hi => hi) (fun i hi => hi) rfl
  · refine (FrP.toFr a2 ?_).trans (f1.mono (by omega) (by omega))
    rintro y ⟨m, hm, rfl⟩
    have := mA_in (b := b) (ns := S.ns) hm
    omega
/-- all is done: nothing is on its way -/
theorem JI.forget {k : Nat} {S : XS} (h : JI k S) (ho : S.opn = 0) : JI k (S.w_tk []) := by
  obtain ⟨h1, h2, h3, h4⟩ := h
  have hd : ∀ t ∈ S.tk, t.done ≠ m1 := by
    intro t ht hh
    have := List.countP_eq_zero.mp ho t ht
    exact this (decide_eq_true hh)
  have hs : ∀ t ∈ S.tk, t.sent ≠ m1 := fun t ht hh => hd t ht ((h1.tk t ht).sd hh)
  have hN : ∀ m, m < S.nm → S.row (5 * m) = [] ∧ S.uw.filter (isM m) = [] ∧ S.row (5 * m + 2) = [] := fun m hm => NCc.none (h1.nc m hm) hd
  have hE : ∀ m, m < S.nm → S.row (5 * m + 1) = [] ∧ S.tk.find? (isUnf m) = none := by
    intro m hm
    obtain ⟨n1, n2, n3⟩ := hN m hm
    have he := h1.em m hm
    rw [n1, n2] at he
    refine ⟨?_, he.fed hs⟩
    unfold EMc at he
    have hz : S.tk.flatMap (hS m) = [] := by
      rw [List.flatMap_eq_nil_iff]
      intro t ht
      unfold hS
      rw [if_neg (fun hh => hs t ht hh.2.2)]
    rw [hz] at he
    have := (List.append_eq_nil_iff.mp (show fl (S.row (5 * m + 1)) ++ S.tk.flatMap (hU m) = [] from he)).1
    unfold fl at this
    simpa using this
  have hb : Bd (S.w_tk []) := ⟨h1.bd.nm, h1.bd.ns, h1.bd.lim, h1.bd.pol, h1.bd.time, h1.bd.db, h1.bd.moved, h1.bd.pages, h1.bd.mpat, h1.bd.spat, h1.bd.delay, h1.bd.way, h1.bd.mem, h1.bd.sw, h1.bd.sr, h1.bd.rnum, h1.bd.lat, h1.bd.uw, h1.bd.ur, h1.bd.la, h1.bd.lr, h1.bd.lb, h1.bd.lg, h1.bd.rgt, h1.bd.rowT, fun e he => by cases he⟩
  refine ⟨⟨hb, h1.tb, ?_, h1.rw, h1.uw, h1.ur, h1.pw, ?_, ?_, h1.tg, h1.rc, h1.db, h1.mo, h1.cb, h1.ch, h1.ib, h1.ou, h1.mv⟩, ⟨?_, ?_, ?_, h2.b, h2.r, h2.mh, h2.sh⟩, ⟨h3.n, h3.e, h3.l, h3.p, h3.q⟩, h4.1, fun m wr => Nat.zero_le _⟩
  · intro t ht; cases ht
  · intro m hm
    obtain ⟨n1, n2, n3⟩ := hN m hm
    show EMc m (S.row (5 * m + 1)) (S.row (5 * m)) (S.uw.filter (isM m)) []
    rw [(hE m hm).1, n1, n2]
    rfl
  · intro m hm id
    obtain ⟨n1, n2, n3⟩ := hN m hm
    show NCc m id (S.row (5 * m)) (S.row (5 * m + 2)) S.uw []
    rw [n1, n3]
    unfold NCc
    have : S.uw.countP (pMid m id) = 0 := by
      rw [List.countP_eq_zero]
      intro u hu hh
      have hm2 := (pMid_iff.mp hh).1
      have : u ∈ S.uw.filter (isM m) := List.mem_filter.mpr ⟨hu, by unfold isM; exact decide_eq_true hm2⟩
      rw [n2] at this
      cases this
    rw [this]
    rfl
  · intro m hm hh
    obtain ⟨t, t1, t2⟩ := h2.a0 m hm hh
    exact absurd (isUns_iff.mp (find_mem t1).2).2.2 (hs t (find_mem t1).1)
  · intro m hm hh
    obtain ⟨t, t1, t2⟩ := h2.a3 m hm hh
    exact absurd (isUns_iff.mp (find_mem t1).2).2.2 (hs t (find_mem t1).1)
  · intro m hm hh
    obtain ⟨t, t1, t2⟩ := h2.d m hm hh
    rw [(hE m hm).2] at t1
    cases t1
theorem VTk_nil {mas len siz kin wri alo spa urg adr idd ask sen don bea res : aI} {see dat : aL} : VTk mas len siz kin wri alo spa urg adr idd ask sen don bea res see dat [] := by
  refine ⟨Nat.zero_le _, ?_, ?_, ?_, ?_, ?_, ?_, ?_, ?_, ?_, ?_, ?_, ?_, ?_, ?_, ?_, ?_, ?_, ?_, ?_⟩
  all_goals (intro t e he; cases he)
theorem q_forget {Γ : gm_T} {φ : ph_T} {b : Nat} {S : XS} {k : Nat} (h : CV Γ φ b S) (hJ : JI k S) : Face Γ φ b S k (f_Bus_forget Γ φ b) (fun φ1 r => f_Ref_forget Γ φ1 r) ISE ISE ISE := by
  have hopn : S.opn ≤ 64 := Nat.le_trans List.countP_le_length h.tk.le
  have ho := c_open h hJ.tkm
  by_cases hz : S.opn = 0
  · obtain ⟨φ', a1, a2, a3⟩ := c_dropT h
    refine Face.do (S' := S.w_tk []) (nI S.tk.length) (φ' := φ') ?_ a2 a3 (hJ.forget hz) rfl rfl ?_
    · unfold f_Bus_forget
      rw [if_pos h.lay.o, ho, Option.bind_some, if_pos (by rw [hz]; show nI 0 ≤ 0; decide), a1, h.tc]
      rfl
    · intro φ1 r hr hh he φ0 e0 hr0
      have f2 : RFr r [0] φ1 (uI φ1 r 15 (0 : Int32)) := by repeat (first | exact RFr.refl _ _ _ | refine RFr.uI ?_ (by decide) _ _ | refine RFr.uL ?_ (by decide) _ _ | refine rfr_uO ?_ (by decide) _ _)
      refine ⟨_, ?_, ?_, fun j hj => by rw [f2.i 30 (by decide)]; exact hh j hj, f2.fr (by decide)⟩
      · show f_Ref_forget Γ φ0 r = _
        unfold f_Ref_forget f_Ref_forget_L13
        rw [if_pos hr.rl.o, r_open hr0, Option.bind_some, if_pos (by rw [hz]; show nI 0 ≤ 0; decide), if_pos hr.rl.o, if_pos hr.rl.o, if_pos (er_0 _ _), zI_0, ← e0, hr.sc.tk]
        rfl
      · have hsc := hr.sc
        refine ⟨(RL.up hr.rl (congrFun f2.1 r)), ?_, (by rw [f2.i 1 (by decide)]; exact hr.pg), (by rw [f2.i 2 (by decide)]; exact hr.mp), (by rw [f2.i 3 (by decide)]; exact hr.sp), (by rw [f2.i 4 (by decide)]; exact hr.ea), (by rw [f2.i 5 (by decide)]; exact hr.de), (by rw [f2.i 6 (by decide)]; exact hr.wa), (by rw [f2.i 7 (by decide), f2.i 8 (by decide)]; exact hr.me), VTk_nil, (by rw [f2.i 26 (by decide), f2.i 27 (by decide), f2.l 28 (by decide), f2.i 29 (by decide)]; exact hr.wi), (by rw [f2.i 31 (by decide)]; exact hr.tr), (by rw [f2.l 32 (by decide), f2.i 33 (by decide), f2.i 34 (by decide), f2.i 35 (by decide)]; exact hr.row), (by rw [f2.i 36 (by decide), f2.i 37 (by decide), f2.i 38 (by decide), f2.i 39 (by decide)]; exact hr.uw), (by rw [f2.i 40 (by decide), f2.i 41 (by decide), f2.i 42 (by decide)]; exact hr.ur), (by rw [f2.i 43 (by decide), f2.i 44 (by decide), f2.i 45 (by decide), f2.i 46 (by decide), f2.i 47 (by decide)]; exact ⟨hr.la.haw, hr.la.har, hr.la.hb, hr.la.hg, hr.la.hinn⟩), (by rw [f2.i 48 (by decide), f2.i 49 (by decide), f2.i 50 (by decide), f2.l 51 (by decide), f2.i 52 (by decide), f2.i 53 (by decide), f2.i 54 (by decide), f2.l 55 (by decide), f2.i 56 (by decide)]; exact hr.sw), (by rw [f2.i 57 (by decide), f2.i 58 (by decide), f2.i 59 (by decide), f2.l 60 (by decide), f2.i 61 (by decide), f2.i 62 (by decide), f2.i 63 (by decide), f2.l 64 (by decide), f2.i 65 (by decide)]; exact hr.sr), (by rw [f2.i 66 (by decide), f2.i 67 (by decide), f2.i 68 (by decide), f2.i 69 (by decide)]; exact ⟨hr.ch.hnums, hr.ch.hlat, hr.ch.hchb, hr.ch.hchr⟩), (by rw [f2.i 70 (by decide), f2.i 71 (by decide)]; exact hr.rg), (by unfold maOf; rw [f2.i 72 (by decide), f2.l 73 (by decide), f2.i 74 (by decide), f2.i 75 (by decide), f2.i 76 (by decide), f2.i 77 (by decide), f2.i 78 (by decide), f2.i 79 (by decide), f2.i 80 (by decide), f2.i 81 (by decide), f2.l 82 (by decide), f2.i 83 (by decide), f2.i 84 (by decide), f2.i 85 (by decide), f2.l 86 (by decide), f2.i 87 (by decide)]; exact hr.mo), (by rw [f2.i 88 (by decide), f2.i 89 (by decide), f2.l 90 (by decide), f2.i 91 (by decide)]; exact hr.wt)⟩
        rw [uI_s]
        refine ⟨?_, ?_, ?_, ?_, ?_, ?_, vz_same _ _ _, ?_, ?_, ?_, ?_⟩
        · rw [vz_ne _ (by decide)]; exact hsc.nm
        · rw [vz_ne _ (by decide)]; exact hsc.ns
        · rw [vz_ne _ (by decide)]; exact hsc.lim
        · rw [vz_ne _ (by decide)]; exact hsc.pol
        · rw [vz_ne _ (by decide)]; exact hsc.whole
        · rw [vz_ne _ (by decide)]; exact hsc.time
        · rw [vz_ne _ (by decide)]; exact hsc.wm
        · rw [vz_ne _ (by decide)]; exact hsc.rm
        · rw [vz_ne _ (by decide)]; exact hsc.db
        · rw [vz_ne _ (by decide)]; exact he
  · refine Face.bad h hJ 1 0 (by decide) (by decide) ?_ (fun φ1 r hr => ⟨0, ?_⟩)
    · unfold f_Bus_forget
      rw [if_pos h.lay.o, ho, Option.bind_some, if_neg (by show ¬ nI S.opn ≤ 0; rw [zI_0, zI_le (by omega) (by omega)]; omega)]
      rfl
    · show f_Ref_forget Γ φ1 r = _
      unfold f_Ref_forget f_Ref_forget_L13
      rw [if_pos hr.rl.o, r_open hr, Option.bind_some, if_neg (by show ¬ nI S.opn ≤ 0; rw [zI_0, zI_le (by omega) (by omega)]; omega), if_pos hr.rl.o, if_pos hr.rl.o, if_neg (er_1 _ _)]
      rfl
