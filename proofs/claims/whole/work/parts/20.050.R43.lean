/-! THE REFERENCE's slaves: a beat for writing comes -/
theorem z4 : (4 : Int32) = nI 4 := rfl
theorem z16 : (16 : Int32) = nI 16 := rfl
theorem z255 : (255 : Int32) = nI 255 := rfl
def lackP (e : WE) : Bool := decide (e.got < leN e.con)
def WE.beat (e : WE) (c : Int64) (rr : Int32) : WE := (((e.w_got (e.got + 1)).w_dat (va_up e.dat e.got c)).w_rst (va_up e.rst e.got rr))
theorem VCh.swSet {nums lat chb chr : aI} {S : XS} (h : VCh nums lat chb chr S) {s i : Nat} {e e' : WE} (he : (S.sw s)[i]? = some e) (hp : e'.place = e.place) : VCh nums lat chb chr (S.w_sw (va_up S.sw s ((S.sw s).set i e'))) := by
  refine VCh.sw h rfl rfl rfl rfl (fun q k x hq _ hx => ?_) (fun q k x hq _ hx => ⟨x, hx, rfl⟩)
  show ∃ e'', (va_up S.sw s ((S.sw s).set i e') q)[k]? = some e'' ∧ e''.place = x.place
  rw [vz_at]
  split
  · rename_i hqs
    subst hqs
    by_cases hk : i = k
    · subst hk
      rw [List.getElem?_set_self (llt he)]
      rw [he] at hx
      cases hx
      exact ⟨_, rfl, hp⟩
    · rw [List.getElem?_set_ne hk]
      exact ⟨x, hx, rfl⟩
  · exact ⟨x, hx, rfl⟩
def XS.swAt (S : XS) (s i : Nat) (e : WE) : XS := S.w_sw (va_up S.sw s ((S.sw s).set i e))
/-- the arrays after the beat is laid down -/
def bcφ (φ : ph_T) (r p g : Nat) (c : Int64) (rr : Int32) : ph_T := uI (uI (uL φ (r + 55) (16 * p + g) c) (r + 56) (16 * p + g) (nI (rSt rr))) (r + 52) p (nI (g + 1))
theorem r_bcV {Γ : gm_T} {φ : ph_T} {r : Nat} {S : XS} (h : RV Γ φ r S) {s i : Nat} {e : WE} (hs : s < 4) (he : (S.sw s)[i]? = some e) (hl : e.got < leN e.con) (c : Int64) (rr : Int32) (x : Nat) (don' : aI) (d1 : ∀ p, p ≠ e.place → don' p = φ.1 (r + 53) p) (d2 : don' e.place = if e.got + 1 = leN e.con then nI x else m1) :
    VSw (φ.1 (r + 48)) (φ.1 (r + 49)) (φ.1 (r + 50)) (φ.2.1 (r + 51)) (va_up (φ.1 (r + 52)) e.place (nI (e.got + 1))) don' (φ.1 (r + 54)) (va_up (φ.2.1 (r + 55)) (16 * e.place + e.got) c) (va_up (φ.1 (r + 56)) (16 * e.place + e.got) (nI (rSt rr))) (va_up S.sw s ((S.sw s).set i ((((e.beat c rr)).w_since (x)).w_resp ((φ.1 (r + 54) e.place).toBitVec.toNat)))) := by
  have hle := leN_le e.con
  refine VSw.upd h.sw hs he rfl rfl (fun p hp => ⟨vz_ne _ hp, d1 p hp, rfl⟩) (vz_same _ _ _) d2 (fun _ => ?_) (fun p k hp hk => ⟨vz_ne _ (by omega), vz_ne _ (by omega)⟩) (fun k hk hk6 => ?_)
  · show _ = nI (φ.1 (r + 54) e.place).toBitVec.toNat
    apply zI_inj
    rw [zI_bv]
    simp
  · have hk' : k < e.got + 1 := hk
    by_cases hkg : k = e.got
    · subst hkg
      rw [vz_same, vz_same]
      show c = va_up e.dat e.got c e.got ∧ nI (rSt rr) = nI (rSt (va_up e.rst e.got rr e.got))
      rw [vz_same, vz_same]
      exact ⟨rfl, rfl⟩
    · rw [vz_ne _ (show 16 * e.place + k ≠ 16 * e.place + e.got by omega), vz_ne _ (show 16 * e.place + k ≠ 16 * e.place + e.got by omega)]
      show _ = va_up e.dat e.got c k ∧ _ = nI (rSt (va_up e.rst e.got rr k))
      rw [vz_ne _ hkg, vz_ne _ hkg]
      exact h.sw.hdat s i e hs he k (by omega) hk6
theorem stN_c {e e' : WE} (h1 : e'.con = e.con) (h2 : e'.dat = e.dat) (h3 : e'.rst = e.rst) : ∀ k mem, stN e' k mem = stN e k mem := by
  intro k
  induction k with
  | zero => intro mem; rfl
  | succ k ih => intro mem; rw [stN, stN, ih, h1, h2, h3]
theorem rgN_c {e e' : WE} (h1 : e'.con = e.con) (h3 : e'.rst = e.rst) : ∀ k g, rgN e' k g = rgN e k g := by
  intro k
  induction k with
  | zero => intro g; rfl
  | succ k ih => intro g; rw [rgN, rgN, ih, h1, h3]
theorem doWrite_sw (S : XS) (s i : Nat) (e : WE) (x v : Nat) : ((S.swAt s i ((e.w_since (x)).w_resp (v))).doWrite s ((e.w_since (x)).w_resp (v))) = ((S.doWrite s e).1.w_sw (va_up S.sw s ((S.sw s).set i ((e.w_since (x)).w_resp (v)))), (S.doWrite s e).2) := by
  rw [doWrite_st, doWrite_st]
  rw [stN_c (e := e) (e' := ((e.w_since (x)).w_resp (v))) rfl rfl rfl, rgN_c (e := e) (e' := ((e.w_since (x)).w_resp (v))) rfl rfl]
  have g1 : gEx (S.swAt s i ((e.w_since (x)).w_resp (v))) s ((e.w_since (x)).w_resp (v)) = gEx S s e := rfl
  have g2 : badW (S.swAt s i ((e.w_since (x)).w_resp (v))).spo ((e.w_since (x)).w_resp (v)) = badW S.spo e := rfl
  rw [g1, g2]
  show (if badW S.spo e = true then _ else if exN e.con = 1 ∧ decide (S.rgt s (idN e.con) = some (adN e.con, leN e.con * szN e.con)) = false then _ else _) = _
  have c1 : ∀ b, (S.swAt s i ((e.w_since (x)).w_resp (v))).w_rgt b = (S.w_rgt b).w_sw (va_up S.sw s ((S.sw s).set i ((e.w_since (x)).w_resp (v)))) := by
    intro b
    unfold XS.swAt
    funext k
    simp only [XS.w_rgt, XS.w_sw, XS.up]
    repeat' split
    all_goals first | rfl | omega
  have c2 : ∀ a b, (S.swAt s i ((e.w_since (x)).w_resp (v))).mr a b = (S.mr a b).w_sw (va_up S.sw s ((S.sw s).set i ((e.w_since (x)).w_resp (v)))) := by
    intro a b
    unfold XS.swAt XS.mr
    funext k
    simp only [XS.w_rgt, XS.w_mem, XS.w_sw, XS.up]
    repeat' split
    all_goals first | rfl | omega
  split
  · rw [c1]; rfl
  · split
    · rw [c1]; rfl
    · rw [c2]; rfl
def XS.bc (S : XS) (s i : Nat) (e : WE) (c : Int64) (rr : Int32) : XS := if e.got + 1 = leN e.con then (S.doWrite s (e.beat c rr)).1.w_sw (va_up S.sw s ((S.sw s).set i ((((e.beat c rr)).w_since (S.time)).w_resp ((S.doWrite s (e.beat c rr)).2)))) else S.swAt s i (e.beat c rr)
theorem bc_hd {Γ : gm_T} {φ : ph_T} {r : Nat} {S : XS} (h : RV Γ φ r S) {s k : Nat} {e : WE} (hs : s < 4) (he : (S.sw s)[k]? = some e) (c : Int64) (rr : Int32) (fu : Nat) (hg : e.got = leN e.con) : f_Ref_beatCame_L3 Γ (fu + 1) φ r (nI s) c rr (nI k) = f_Ref_beatCame_L3 Γ fu φ r (nI s) c rr (nI (k + 1)) := by
  have h4 := h.sw.hle s hs
  have hil := llt he
  have hat := h.sw.hat s k e hs he
  have hent := h.sw.hent s k e hs he
  rw [f_Ref_beatCame_L3, if_pos h.rl.o, z4, zI_mul, zI_add]
  repeat (first | rw [Option.bind_some] | rw [rf_59 h.rl] | rw [rg_59 h.rl] | rw [rf_61 h.rl] | rw [rg_61 h.rl] | rw [rf_62 h.rl] | rw [rg_62 h.rl] | rw [rf_63 h.rl] | rw [rg_63 h.rl] | rw [rf_65 h.rl] | rw [rg_65 h.rl] | rw [rf_66 h.rl] | rw [rg_66 h.rl] | rw [zix (show 4 * s + k < 16 by omega)] | rw [hat.1] | rw [zix (show e.place < 16 by omega)] | rw [hent.1] | rw [e_Ref_lengthOf] | rw [hent.2.1] | rw [if_pos (show nI e.got = nI (leN e.con) by rw [hg])])
  rw [zI_1, zI_add]
theorem bc_go {Γ : gm_T} {φ : ph_T} {r : Nat} {S : XS} (h : RV Γ φ r S) {s k : Nat} {e : WE} (hs : s < 4) (he : (S.sw s)[k]? = some e) (c : Int64) (rr : Int32) (fu : Nat) (hg : e.got < leN e.con) : f_Ref_beatCame_L3 Γ (fu + 1) φ r (nI s) c rr (nI k) =
    if e.got + 1 = leN e.con then Option.bind (f_Ref_doWrite Γ (uI (bcφ φ r e.place e.got c rr) (r + 53) e.place (nI S.time)) r (nI s) (nI e.place)) (fun q => some ((), q.2)) else some ((), bcφ φ r e.place e.got c rr) := by
  have h4 := h.sw.hle s hs
  have hil := llt he
  have hat := h.sw.hat s k e hs he
  have hent := h.sw.hent s k e hs he
  have hle := leN_le e.con
  rw [f_Ref_beatCame_L3, if_pos h.rl.o, z4, z16, z255, zI_mul, zI_add]
  repeat (first | rw [Option.bind_some] | rw [rf_59 h.rl] | rw [rg_59 h.rl] | rw [rf_61 h.rl] | rw [rg_61 h.rl] | rw [rf_62 h.rl] | rw [rg_62 h.rl] | rw [rf_63 h.rl] | rw [rg_63 h.rl] | rw [rf_65 h.rl] | rw [rg_65 h.rl] | rw [rf_66 h.rl] | rw [rg_66 h.rl] | rw [zix (show 4 * s + k < 16 by omega)] | rw [hat.1] | rw [zix (show e.place < 16 by omega)] | rw [hent.1] | rw [e_Ref_lengthOf] | rw [hent.2.1] | rw [if_neg (show ¬ nI e.got = nI (leN e.con) by rw [zI_eq (by omega) (by omega)]; omega)] | rw [zI_mul] | rw [zI_add] | rw [zix (show 16 * e.place + e.got < 256 by omega)])
  unfold f_Ref_beatCame_L152
  dsimp only
  rw [zI_1]
  simp (disch := first | assumption | omega) only [uI_s, uI_d, uI_2, uI_3, uL_1, uL_s, uL_d, uL_3, hent.2.1, hent.1, zI_add, vz_same, rf_63 h.rl, rg_63 h.rl, Option.bind_some, h.sc.time, zix (show e.place < 16 by omega), rSt_eq]
  by_cases hq : e.got + 1 = leN e.con
  · rw [if_pos (show nI (e.got + 1) = nI (leN e.con) by rw [hq]), if_pos hq]
    rfl
  · rw [if_neg (show ¬ nI (e.got + 1) = nI (leN e.con) by rw [zI_eq (by omega) (by omega)]; exact hq), if_neg hq]
    rfl
theorem r_bc3 {Γ : gm_T} {φ : ph_T} {r : Nat} {S : XS} (h : RV Γ φ r S) {s i : Nat} {e : WE} (hs : s < 4) (hB : ∀ x ∈ S.sw s, x.got ≤ leN x.con) (hi : (S.sw s).findIdx? lackP = some i) (he : (S.sw s)[i]? = some e) (c : Int64) (rr : Int32) : ∀ d k fu, k + d = i → d < fu →
    f_Ref_beatCame_L3 Γ fu φ r (nI s) c rr (nI k) = if e.got + 1 = leN e.con then Option.bind (f_Ref_doWrite Γ (uI (bcφ φ r e.place e.got c rr) (r + 53) e.place (nI S.time)) r (nI s) (nI e.place)) (fun q => some ((), q.2)) else some ((), bcφ φ r e.place e.got c rr) := by
  have h4 := h.sw.hle s hs
  have hil := llt he
  intro d
  induction d with
  | zero =>
    intro k fu hd hfu
    match fu, hfu with
    | fu + 1, _ =>
      have hk : k = i := by omega
      subst hk
      obtain ⟨e2, he2, _, hp⟩ := fi_some hi
      rw [he] at he2
      cases he2
      exact bc_go h hs he c rr fu (by simpa [lackP] using hp)
  | succ d ih =>
    intro k fu hd hfu
    match fu, hfu with
    | fu + 1, hfu =>
      obtain ⟨x, hx⟩ := lget (show k < (S.sw s).length by omega)
      have hnp : lackP x = false := by
        have := (List.findIdx?_eq_some_iff_getElem.mp hi).2.2 k (by omega)
        have hx' := (List.getElem?_eq_some_iff.mp hx).2
        rw [hx'] at this
        simpa using this
      have hb := hB x (lmem hx)
      have hxg : x.got = leN x.con := by
        have : ¬ x.got < leN x.con := by simpa [lackP] using hnp
        omega
      rw [bc_hd h hs hx c rr fu hxg]
      exact ih (k + 1) fu (by omega) (by omega)
theorem r_beatCame {Γ : gm_T} {φ : ph_T} {r : Nat} {S : XS} (h : RV Γ φ r S) {s i : Nat} {e : WE} (hs : s < 4) (hB : ∀ x ∈ S.sw s, x.got ≤ leN x.con ∧ ruN x.con = 0) (hR : ∀ j q, S.rgt s j = some q → q.1 < 65536 ∧ q.2 < 129) (hi : (S.sw s).findIdx? lackP = some i) (he : (S.sw s)[i]? = some e) (c : Int64) (rr : Int32) :
    ∃ φ', f_Ref_beatCame Γ φ r (nI s) c rr = some ((), φ') ∧ RV Γ φ' r (S.bc s i e c rr) ∧ RFr r [7, 52, 53, 54, 55, 56, 70] φ φ' := by
  have h4 := h.sw.hle s hs
  have hil := llt he
  have hat := h.sw.hat s i e hs he
  have hent := h.sw.hent s i e hs he
  have hle := leN_le e.con
  obtain ⟨e2, he2, _, hp⟩ := fi_some hi
  rw [he] at he2
  cases he2
  have hl : e.got < leN e.con := by simpa [lackP] using hp
  have hL := r_bc3 h hs (fun x hx => (hB x hx).1) hi he c rr i 0 jF (Nat.zero_add _) (by unfold jF; omega)
  have f1 : RFr r [52, 55, 56] φ (bcφ φ r e.place e.got c rr) := by unfold bcφ; repeat (first | exact RFr.refl _ _ _ | refine RFr.uI ?_ (by decide) _ _ | refine RFr.uL ?_ (by decide) _ _ | refine rfr_uO ?_ (by decide) _ _)
  have hst : f_Ref_beatCame Γ φ r (nI s) c rr = if e.got + 1 = leN e.con then Option.bind (f_Ref_doWrite Γ (uI (bcφ φ r e.place e.got c rr) (r + 53) e.place (nI S.time)) r (nI s) (nI e.place)) (fun q => some ((), q.2)) else some ((), bcφ φ r e.place e.got c rr) := by
    unfold f_Ref_beatCame
    exact hL
  rw [hst]
  unfold XS.bc
  by_cases hq : e.got + 1 = leN e.con
  · rw [if_pos hq, if_pos hq]
    have f2 : RFr r [52, 53, 55, 56] φ (uI (bcφ φ r e.place e.got c rr) (r + 53) e.place (nI S.time)) := by unfold bcφ; repeat (first | exact RFr.refl _ _ _ | refine RFr.uI ?_ (by decide) _ _ | refine RFr.uL ?_ (by decide) _ _ | refine rfr_uO ?_ (by decide) _ _)
    have hv := r_bcV h hs he hl c rr S.time (va_up (φ.1 (r + 53)) e.place (nI S.time)) (fun p hp => vz_ne _ hp) (by rw [vz_same, if_pos hq])
    have hRV : RV Γ (uI (bcφ φ r e.place e.got c rr) (r + 53) e.place (nI S.time)) r (S.swAt s i ((((e.beat c rr)).w_since (S.time)).w_resp ((φ.1 (r + 54) e.place).toBitVec.toNat))) := by
      refine ⟨(RL.up h.rl (congrFun f2.1 r)), (by rw [f2.o (by decide)]; exact ⟨h.sc.nm, h.sc.ns, h.sc.lim, h.sc.pol, h.sc.whole, h.sc.time, h.sc.tk, h.sc.wm, h.sc.rm, h.sc.db, h.sc.er⟩), (by rw [f2.i 1 (by decide)]; exact h.pg), (by rw [f2.i 2 (by decide)]; exact h.mp), (by rw [f2.i 3 (by decide)]; exact h.sp), (by rw [f2.i 4 (by decide)]; exact h.ea), (by rw [f2.i 5 (by decide)]; exact h.de), (by rw [f2.i 6 (by decide)]; exact h.wa), (by rw [f2.i 7 (by decide), f2.i 8 (by decide)]; exact h.me), (by rw [f2.i 9 (by decide), f2.i 10 (by decide), f2.i 11 (by decide), f2.i 12 (by decide), f2.i 13 (by decide), f2.i 14 (by decide), f2.i 15 (by decide), f2.i 16 (by decide), f2.i 17 (by decide), f2.i 18 (by decide), f2.i 20 (by decide), f2.i 21 (by decide), f2.i 22 (by decide), f2.i 23 (by decide), f2.i 24 (by decide), f2.l 19 (by decide), f2.l 25 (by decide)]; exact h.tk), (by rw [f2.i 26 (by decide), f2.i 27 (by decide), f2.l 28 (by decide), f2.i 29 (by decide)]; exact h.wi), (by rw [f2.i 31 (by decide)]; exact h.tr), (by rw [f2.l 32 (by decide), f2.i 33 (by decide), f2.i 34 (by decide), f2.i 35 (by decide)]; exact h.row), (by rw [f2.i 36 (by decide), f2.i 37 (by decide), f2.i 38 (by decide), f2.i 39 (by decide)]; exact h.uw), (by rw [f2.i 40 (by decide), f2.i 41 (by decide), f2.i 42 (by decide)]; exact h.ur), (by rw [f2.i 43 (by decide), f2.i 44 (by decide), f2.i 45 (by decide), f2.i 46 (by decide), f2.i 47 (by decide)]; exact ⟨h.la.haw, h.la.har, h.la.hb, h.la.hg, h.la.hinn⟩), (by unfold bcφ; simp (disch := first | assumption | omega) only [uI_s, uI_d, uI_2, uI_3, uL_1, uL_s, uL_d, uL_3]; exact hv), (by rw [f2.i 57 (by decide), f2.i 58 (by decide), f2.i 59 (by decide), f2.l 60 (by decide), f2.i 61 (by decide), f2.i 62 (by decide), f2.i 63 (by decide), f2.l 64 (by decide), f2.i 65 (by decide)]; exact h.sr), (by rw [f2.i 66 (by decide), f2.i 67 (by decide), f2.i 68 (by decide), f2.i 69 (by decide)]; exact VCh.swSet h.ch he rfl), (by rw [f2.i 70 (by decide), f2.i 71 (by decide)]; exact h.rg), (by unfold maOf; rw [f2.i 72 (by decide), f2.l 73 (by decide), f2.i 74 (by decide), f2.i 75 (by decide), f2.i 76 (by decide), f2.i 77 (by decide), f2.i 78 (by decide), f2.i 79 (by decide), f2.i 80 (by decide), f2.i 81 (by decide), f2.l 82 (by decide), f2.i 83 (by decide), f2.i 84 (by decide), f2.i 85 (by decide), f2.l 86 (by decide), f2.i 87 (by decide)]; exact h.mo), (by rw [f2.i 88 (by decide), f2.i 89 (by decide), f2.l 90 (by decide), f2.i 91 (by decide)]; exact h.wt)⟩
    obtain ⟨φ', a1, a2, a3⟩ := r_doWrite hRV (i := i) (e := ((((e.beat c rr)).w_since (S.time)).w_resp ((φ.1 (r + 54) e.place).toBitVec.toNat))) hs (by
      show (va_up S.sw s _ s)[i]? = _
      rw [vz_same, List.getElem?_set_self hil]) hq (hB e (lmem he)).2 hR
    have a1' : f_Ref_doWrite Γ (uI (bcφ φ r e.place e.got c rr) (r + 53) e.place (nI S.time)) r (nI s) (nI e.place) = some ((), φ') := a1
    rw [a1', Option.bind_some]
    refine ⟨φ', rfl, ?_, (f2.mono (by decide)).trans (a3.mono (by decide))⟩
    rw [doWrite_sw S s i (e.beat c rr) S.time (φ.1 (r + 54) e.place).toBitVec.toNat] at a2
    have hfin : ((S.doWrite s (e.beat c rr)).1.w_sw (va_up S.sw s ((S.sw s).set i ((((e.beat c rr)).w_since (S.time)).w_resp ((φ.1 (r + 54) e.place).toBitVec.toNat))))).wRs s i ((((e.beat c rr)).w_since (S.time)).w_resp ((φ.1 (r + 54) e.place).toBitVec.toNat)) (S.doWrite s (e.beat c rr)).2 = (S.doWrite s (e.beat c rr)).1.w_sw (va_up S.sw s ((S.sw s).set i ((((e.beat c rr)).w_since (S.time)).w_resp ((S.doWrite s (e.beat c rr)).2)))) := by
      unfold XS.wRs
      rw [XS.sw_w_sw, XS.w_sw_w_sw, vz_va, vz_same, List.set_set]
    have a2' := a2
    simp only at a2'
    rw [hfin] at a2'
    exact a2'
  · rw [if_neg hq, if_neg hq]
    have hv := r_bcV h hs he hl c rr e.since (φ.1 (r + 53)) (fun p hp => rfl) (by rw [hent.2.2.1, if_neg (by omega), if_neg hq])
    have hv2 : VSw (φ.1 (r + 48)) (φ.1 (r + 49)) (φ.1 (r + 50)) (φ.2.1 (r + 51)) (va_up (φ.1 (r + 52)) e.place (nI (e.got + 1))) (φ.1 (r + 53)) (φ.1 (r + 54)) (va_up (φ.2.1 (r + 55)) (16 * e.place + e.got) c) (va_up (φ.1 (r + 56)) (16 * e.place + e.got) (nI (rSt rr))) (va_up S.sw s ((S.sw s).set i (e.beat c rr))) := by
      have := VSw.upd hv (s := s) (i := i) (e := ((((e.beat c rr)).w_since (e.since)).w_resp ((φ.1 (r + 54) e.place).toBitVec.toNat))) (e' := e.beat c rr) hs (by rw [vz_same, List.getElem?_set_self hil]) rfl rfl (fun p hp => ⟨rfl, rfl, rfl⟩) (vz_same _ _ _) (by
        show φ.1 (r + 53) e.place = if e.got + 1 = leN e.con then _ else m1
        rw [hent.2.2.1, if_neg (by omega), if_neg hq]) (fun hc => absurd hc hq) (fun p k hp hk => ⟨rfl, rfl⟩) (hv.hdat s i ((((e.beat c rr)).w_since (e.since)).w_resp ((φ.1 (r + 54) e.place).toBitVec.toNat)) hs (by rw [vz_same, List.getElem?_set_self hil]))
      rw [vz_va, vz_same, List.set_set] at this
      exact this
    refine ⟨_, rfl, ?_, f1.mono (by decide)⟩
    refine ⟨(RL.up h.rl (congrFun f1.1 r)), (by rw [f1.o (by decide)]; exact ⟨h.sc.nm, h.sc.ns, h.sc.lim, h.sc.pol, h.sc.whole, h.sc.time, h.sc.tk, h.sc.wm, h.sc.rm, h.sc.db, h.sc.er⟩), (by rw [f1.i 1 (by decide)]; exact h.pg), (by rw [f1.i 2 (by decide)]; exact h.mp), (by rw [f1.i 3 (by decide)]; exact h.sp), (by rw [f1.i 4 (by decide)]; exact h.ea), (by rw [f1.i 5 (by decide)]; exact h.de), (by rw [f1.i 6 (by decide)]; exact h.wa), (by rw [f1.i 7 (by decide), f1.i 8 (by decide)]; exact h.me), (by rw [f1.i 9 (by decide), f1.i 10 (by decide), f1.i 11 (by decide), f1.i 12 (by decide), f1.i 13 (by decide), f1.i 14 (by decide), f1.i 15 (by decide), f1.i 16 (by decide), f1.i 17 (by decide), f1.i 18 (by decide), f1.i 20 (by decide), f1.i 21 (by decide), f1.i 22 (by decide), f1.i 23 (by decide), f1.i 24 (by decide), f1.l 19 (by decide), f1.l 25 (by decide)]; exact h.tk), (by rw [f1.i 26 (by decide), f1.i 27 (by decide), f1.l 28 (by decide), f1.i 29 (by decide)]; exact h.wi), (by rw [f1.i 31 (by decide)]; exact h.tr), (by rw [f1.l 32 (by decide), f1.i 33 (by decide), f1.i 34 (by decide), f1.i 35 (by decide)]; exact h.row), (by rw [f1.i 36 (by decide), f1.i 37 (by decide), f1.i 38 (by decide), f1.i 39 (by decide)]; exact h.uw), (by rw [f1.i 40 (by decide), f1.i 41 (by decide), f1.i 42 (by decide)]; exact h.ur), (by rw [f1.i 43 (by decide), f1.i 44 (by decide), f1.i 45 (by decide), f1.i 46 (by decide), f1.i 47 (by decide)]; exact ⟨h.la.haw, h.la.har, h.la.hb, h.la.hg, h.la.hinn⟩), (by unfold bcφ; simp (disch := first | assumption | omega) only [uI_s, uI_d, uI_2, uI_3, uL_1, uL_s, uL_d, uL_3]; exact hv2), (by rw [f1.i 57 (by decide), f1.i 58 (by decide), f1.i 59 (by decide), f1.l 60 (by decide), f1.i 61 (by decide), f1.i 62 (by decide), f1.i 63 (by decide), f1.l 64 (by decide), f1.i 65 (by decide)]; exact h.sr), (by rw [f1.i 66 (by decide), f1.i 67 (by decide), f1.i 68 (by decide), f1.i 69 (by decide)]; exact VCh.swSet h.ch he rfl), (by rw [f1.i 70 (by decide), f1.i 71 (by decide)]; exact h.rg), (by unfold maOf; rw [f1.i 72 (by decide), f1.l 73 (by decide), f1.i 74 (by decide), f1.i 75 (by decide), f1.i 76 (by decide), f1.i 77 (by decide), f1.i 78 (by decide), f1.i 79 (by decide), f1.i 80 (by decide), f1.i 81 (by decide), f1.l 82 (by decide), f1.i 83 (by decide), f1.i 84 (by decide), f1.i 85 (by decide), f1.l 86 (by decide), f1.i 87 (by decide)]; exact h.mo), (by rw [f1.i 88 (by decide), f1.i 89 (by decide), f1.l 90 (by decide), f1.i 91 (by decide)]; exact h.wt)⟩
