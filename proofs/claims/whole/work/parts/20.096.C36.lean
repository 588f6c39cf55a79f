/-! THE CLASS: all ports are told and looked at -/
theorem CV.cg {Γ : gm_T} {φ : ph_T} {b : Nat} {S T : XS} (h : CV Γ φ b S) (e_nm : T.nm = S.nm) (e_ns : T.ns = S.ns) (e_lim : T.lim = S.lim) (e_pol : T.pol = S.pol) (e_whole : T.whole = S.whole) (e_time : T.time = S.time) (e_dbeat : T.dbeat = S.dbeat) (e_moved : T.moved = S.moved) (e_pages : T.pages = S.pages) (e_mpat : T.mpat = S.mpat) (e_spat : T.spat = S.spat) (e_early : T.early = S.early) (e_delay : T.delay = S.delay) (e_way : T.way = S.way) (e_mem : T.mem = S.mem) (e_spo : T.spo = S.spo) (e_tk : T.tk = S.tk) (e_wi : T.wi = S.wi) (e_tr : T.tr = S.tr) (e_row : T.row = S.row) (e_uw : T.uw = S.uw) (e_ur : T.ur = S.ur) (e_la : T.la = S.la) (e_lr : T.lr = S.lr) (e_lb : T.lb = S.lb) (e_lg : T.lg = S.lg) (e_inb : T.inb = S.inb) (e_sw : T.sw = S.sw) (e_sr : T.sr = S.sr) (e_lat : T.lat = S.lat) (e_chb : T.chb = S.chb) (e_chr : T.chr = S.chr) (e_rgt : T.rgt = S.rgt) (e_mon : T.mon = S.mon) : CV Γ φ b T := by
  refine ⟨?_, ?_, ?_, ?_, ?_, ?_, ?_, ?_, ?_, ?_, ?_⟩
  · rw [e_nm, e_ns]; exact h.lay
  · rw [e_tk]; exact h.tc
  · rw [e_time]; exact h.ti
  · rw [e_mem, e_spo]; exact h.mem
  · exact h.sw.cg e_nm e_ns e_lim e_pol e_whole e_dbeat e_moved e_pages e_row e_uw e_ur e_la e_lr e_lb e_lg e_inb
  · rw [e_nm, e_ns, e_tk, e_mpat, e_early]; exact h.ma
  · rw [e_nm, e_ns, e_tk]; exact h.tk
  · rw [e_tk]; exact h.tko
  · rw [e_nm, e_ns, e_wi, e_tr]; exact h.po
  · rw [e_nm, e_ns, e_mon]; exact h.mo
  · rw [e_nm, e_ns]
    intro s hs
    exact (h.sl s hs).cg (congrFun e_sw s) (congrFun e_sr s) (congrFun e_spat s) (congrFun e_rgt s) (congrFun e_delay s) (congrFun e_way s) (fun i hi => by rw [← e_chb]; exact hi) (fun i hi => by rw [← e_chr]; exact hi) (congrFun e_lat s)
def XS.shP (S : XS) (k j : Nat) : XS := (((S.w_wi (fun p => if p < k then S.showM p else if 4 ≤ p ∧ p < 4 + j then S.showS (p - 4) else S.wi p)).w_mon (fun p => if p < k then (S.mon p).look (S.showM p) else if 4 ≤ p ∧ p < 4 + j then (S.mon p).look (S.showS (p - 4)) else S.mon p)).w_chb (fun s => if s < j then S.chB' s else S.chb s)).w_chr (fun s => if s < j then S.chR' s else S.chr s)
theorem shP_0 (S : XS) : S.shP 0 0 = S := by
  unfold XS.shP
  have e1 : (fun p => if p < 0 then S.showM p else if 4 ≤ p ∧ p < 4 + 0 then S.showS (p - 4) else S.wi p) = S.wi := by
    funext p; rw [if_neg (by omega), if_neg (by omega)]
  have e2 : (fun p => if p < 0 then (S.mon p).look (S.showM p) else if 4 ≤ p ∧ p < 4 + 0 then (S.mon p).look (S.showS (p - 4)) else S.mon p) = S.mon := by
    funext p; rw [if_neg (by omega), if_neg (by omega)]
  have e3 : (fun s => if s < 0 then S.chB' s else S.chb s) = S.chb := by
    funext p; rw [if_neg (by omega)]
  have e4 : (fun s => if s < 0 then S.chR' s else S.chr s) = S.chr := by
    funext p; rw [if_neg (by omega)]
  rw [e1, e2, e3, e4, XS.w_wi_self, XS.w_mon_self, XS.w_chb_self, XS.w_chr_self]
/-- what showing needs of a state for the class -/
def ShC (S : XS) : Prop := (Bd S) ∧ (∀ m, m < S.nm → ∀ c, c = 2 ∨ c = 4 → hdW (S.wi m) c = true → S.row (5 * m + c) ≠ []) ∧ (∀ s, s < S.ns → ∀ c, c = 0 ∨ c = 1 ∨ c = 3 → hdW (S.wi (4 + s)) c = true → S.row (5 * (4 + s) + c) ≠ []) ∧ (∀ s, s < S.ns → ∀ e ∈ S.sr s, ∀ q, S.lat s = some q → (q.1 < e.since ↔ q.2 < e.num)) ∧ (∀ p, p < 8 → ∀ e ∈ (S.mon p).rs, e.n < leN e.con)
theorem ShC.bd {S : XS} (h : ShC S) : Bd S := h.1
theorem ShC.rm {S : XS} (h : ShC S) : ∀ m, m < S.nm → ∀ c, c = 2 ∨ c = 4 → hdW (S.wi m) c = true → S.row (5 * m + c) ≠ [] := h.2.1
theorem ShC.rs {S : XS} (h : ShC S) : ∀ s, s < S.ns → ∀ c, c = 0 ∨ c = 1 ∨ c = 3 → hdW (S.wi (4 + s)) c = true → S.row (5 * (4 + s) + c) ≠ [] := h.2.2.1
theorem ShC.lt {S : XS} (h : ShC S) : ∀ s, s < S.ns → ∀ e ∈ S.sr s, ∀ q, S.lat s = some q → (q.1 < e.since ↔ q.2 < e.num) := h.2.2.2.1
theorem ShC.mo {S : XS} (h : ShC S) : ∀ p, p < 8 → ∀ e ∈ (S.mon p).rs, e.n < leN e.con := h.2.2.2.2
theorem shP_bd {S : XS} (hB : Bd S) (k j : Nat) : Bd (S.shP k j) := ⟨hB.nm, hB.ns, hB.lim, hB.pol, hB.time, hB.db, hB.moved, hB.pages, hB.mpat, hB.spat, hB.delay, hB.way, hB.mem, hB.sw, hB.sr, hB.rnum, hB.lat, hB.uw, hB.ur, hB.la, hB.lr, hB.lb, hB.lg, hB.rgt, hB.rowT, hB.tk⟩
theorem c_sh25 {Γ : gm_T} {b : Nat} {S : XS} (hS : ShC S) (K : ph_T → Nat → Int32 → Int32 → Int32 → Int32 → Option (Int32 × ph_T)) (x1 x2 x3 x4 : Int32) : ∀ (d k fu : Nat) (φ : ph_T), k + d = S.nm → d < fu → CV Γ φ b (S.shP k 0) →
    ∃ φ', f_Bus_runTicks_L25 Γ K fu φ b x1 x2 x3 x4 (nI k) = f_Bus_runTicks_L111 Γ K jF φ' b x1 x2 x3 x4 (nI 0) ∧ CV Γ φ' b (S.shP S.nm 0) ∧ Fr b (tAd b S.nm S.ns + 256) φ φ' := by
  have hB := hS.bd
  have n4 := hB.nm
  intro d
  induction d with
  | zero =>
    intro k fu φ hd hfu h
    match fu, hfu with
    | fu + 1, _ =>
      have hk : k = S.nm := by omega
      subst hk
      refine ⟨φ, ?_, h, Fr.refl _ _ _⟩
      have hg : gA Γ (bQ b S.nm S.ns) 8 = some S.nm := h.lay.g2
      have hf : φ.2.2 b 2 = some (bQ b S.nm S.ns) := h.lay.f2
      rw [f_Bus_runTicks_L25, if_pos h.lay.o, hf, Option.bind_some, hg, Option.bind_some, if_pos (Int32.le_refl _)]
      rfl
  | succ d ih =>
    intro k fu φ hd hfu h
    match fu, hfu with
    | fu + 1, hfu =>
      have hw : (S.shP k 0).wi k = S.wi k := by
        show (if k < k then _ else if 4 ≤ k ∧ k < 4 + 0 then _ else S.wi k) = _
        rw [if_neg (by omega), if_neg (by omega)]
      have hm : (S.shP k 0).mon k = S.mon k := by
        show (if k < k then _ else if 4 ≤ k ∧ k < 4 + 0 then _ else S.mon k) = _
        rw [if_neg (by omega), if_neg (by omega)]
      have hsm : (S.shP k 0).showM k = S.showM k := showM_wi S _ k hw
      obtain ⟨φ1, a1, a2, a4⟩ := c_showM h (shP_bd hB k 0) (show k < S.nm by omega) (by rw [hw]; exact hS.rm k (by omega)) (by rw [hm]; exact hS.mo k (by omega)) K x1 x2 x3 x4 fu
      rw [hsm, hm] at a2
      have a3 : CV Γ φ1 b (S.shP (k + 1) 0) := by
        refine a2.cg rfl rfl rfl rfl rfl rfl rfl rfl rfl rfl rfl rfl rfl rfl rfl rfl rfl ?_ rfl rfl rfl rfl rfl rfl rfl rfl rfl rfl rfl rfl rfl rfl rfl ?_
        · show (fun p => if p < k + 1 then S.showM p else if 4 ≤ p ∧ p < 4 + 0 then S.showS (p - 4) else S.wi p) = va_up (fun p => if p < k then S.showM p else if 4 ≤ p ∧ p < 4 + 0 then S.showS (p - 4) else S.wi p) k (S.showM k)
          funext p
          rw [vz_at]
          by_cases e : p = k
          · subst e; rw [if_pos (by omega), if_pos rfl]
          · rw [if_neg e]
            by_cases e2 : p < k
            · rw [if_pos (by omega), if_pos e2]
            · rw [if_neg (by omega), if_neg e2]
        · show (fun p => if p < k + 1 then (S.mon p).look (S.showM p) else if 4 ≤ p ∧ p < 4 + 0 then (S.mon p).look (S.showS (p - 4)) else S.mon p) = va_up (fun p => if p < k then (S.mon p).look (S.showM p) else if 4 ≤ p ∧ p < 4 + 0 then (S.mon p).look (S.showS (p - 4)) else S.mon p) k ((S.mon k).look (S.showM k))
          funext p
          rw [vz_at]
          by_cases e : p = k
          · subst e; rw [if_pos (by omega), if_pos rfl]
          · rw [if_neg e]
            by_cases e2 : p < k
            · rw [if_pos (by omega), if_pos e2]
            · rw [if_neg (by omega), if_neg e2]
      obtain ⟨φ2, b1, b2, b3⟩ := ih (k + 1) fu φ1 (by omega) (by omega) a3
      have a4' : Fr b (tAd b S.nm S.ns + 256) φ φ1 := a4
      exact ⟨φ2, a1.trans b1, b2, a4'.trans b3⟩
theorem c_sh111 {Γ : gm_T} {b : Nat} {S : XS} (hS : ShC S) (K : ph_T → Nat → Int32 → Int32 → Int32 → Int32 → Option (Int32 × ph_T)) (x1 x2 x3 x4 : Int32) : ∀ (d k fu : Nat) (φ : ph_T), k + d = S.ns → d < fu → CV Γ φ b (S.shP S.nm k) →
    ∃ φ' fu', f_Bus_runTicks_L111 Γ K fu φ b x1 x2 x3 x4 (nI k) = f_Bus_runTicks_L111 Γ K (fu' + 1) φ' b x1 x2 x3 x4 (nI S.ns) ∧ CV Γ φ' b (S.shP S.nm S.ns) ∧ Fr b (tAd b S.nm S.ns + 256) φ φ' := by
  have hB := hS.bd
  have n4 := hB.nm
  have n5 := hB.ns
  intro d
  induction d with
  | zero =>
    intro k fu φ hd hfu h
    match fu, hfu with
    | fu + 1, _ =>
      have hk : k = S.ns := by omega
      subst hk
      exact ⟨φ, fu, rfl, h, Fr.refl _ _ _⟩
  | succ d ih =>
    intro k fu φ hd hfu h
    match fu, hfu with
    | fu + 1, hfu =>
      have hw : (S.shP S.nm k).wi (4 + k) = S.wi (4 + k) := by
        show (if 4 + k < S.nm then _ else if 4 ≤ 4 + k ∧ 4 + k < 4 + k then _ else S.wi (4 + k)) = _
        rw [if_neg (by omega), if_neg (by omega)]
      have hm : (S.shP S.nm k).mon (4 + k) = S.mon (4 + k) := by
        show (if 4 + k < S.nm then _ else if 4 ≤ 4 + k ∧ 4 + k < 4 + k then _ else S.mon (4 + k)) = _
        rw [if_neg (by omega), if_neg (by omega)]
      have hcb : (S.shP S.nm k).chb k = S.chb k := by
        show (if k < k then _ else S.chb k) = _
        rw [if_neg (by omega)]
      have hcr : (S.shP S.nm k).chr k = S.chr k := by
        show (if k < k then _ else S.chr k) = _
        rw [if_neg (by omega)]
      obtain ⟨s1, s2, s3⟩ := shS_wi S (fun p => if p < S.nm then S.showM p else if 4 ≤ p ∧ p < 4 + k then S.showS (p - 4) else S.wi p) (fun s => if s < k then S.chB' s else S.chb s) (fun s => if s < k then S.chR' s else S.chr s) k hw hcb hcr
      have s1' : (S.shP S.nm k).showS k = S.showS k := s1
      have s2' : (S.shP S.nm k).chB' k = S.chB' k := s2
      have s3' : (S.shP S.nm k).chR' k = S.chR' k := s3
      obtain ⟨φ1, a1, a2, a4⟩ := c_showS h (shP_bd hB S.nm k) (show k < S.ns by omega) (by rw [hw]; exact hS.rs k (by omega)) (hS.lt k (by omega)) (by rw [hm]; exact hS.mo (4 + k) (by omega)) K x1 x2 x3 x4 fu
      rw [s1', s2', s3', hm] at a2
      have a3 : CV Γ φ1 b (S.shP S.nm (k + 1)) := by
        refine a2.cg rfl rfl rfl rfl rfl rfl rfl rfl rfl rfl rfl rfl rfl rfl rfl rfl rfl ?_ rfl rfl rfl rfl rfl rfl rfl rfl rfl rfl rfl rfl ?_ ?_ rfl ?_
        · show (fun p => if p < S.nm then S.showM p else if 4 ≤ p ∧ p < 4 + (k + 1) then S.showS (p - 4) else S.wi p) = va_up (fun p => if p < S.nm then S.showM p else if 4 ≤ p ∧ p < 4 + k then S.showS (p - 4) else S.wi p) (4 + k) (S.showS k)
          funext p
          rw [vz_at]
          by_cases e : p = 4 + k
          · subst e; rw [if_neg (by omega), if_pos (by omega), if_pos rfl, show 4 + k - 4 = k by omega]
          · rw [if_neg e]
            by_cases e2 : p < S.nm
            · rw [if_pos e2, if_pos e2]
            · rw [if_neg e2, if_neg e2]
              by_cases e3 : 4 ≤ p ∧ p < 4 + k
              · rw [if_pos (by omega), if_pos e3]
              · rw [if_neg (by omega), if_neg e3]
        · show (fun s => if s < k + 1 then S.chB' s else S.chb s) = va_up (fun s => if s < k then S.chB' s else S.chb s) k (S.chB' k)
          funext p
          rw [vz_at]
          by_cases e : p = k
          · subst e; rw [if_pos (by omega), if_pos rfl]
          · rw [if_neg e]
            by_cases e2 : p < k
            · rw [if_pos (by omega), if_pos e2]
            · rw [if_neg (by omega), if_neg e2]
        · show (fun s => if s < k + 1 then S.chR' s else S.chr s) = va_up (fun s => if s < k then S.chR' s else S.chr s) k (S.chR' k)
          funext p
          rw [vz_at]
          by_cases e : p = k
          · subst e; rw [if_pos (by omega), if_pos rfl]
          · rw [if_neg e]
            by_cases e2 : p < k
            · rw [if_pos (by omega), if_pos e2]
            · rw [if_neg (by omega), if_neg e2]
        · show (fun p => if p < S.nm then (S.mon p).look (S.showM p) else if 4 ≤ p ∧ p < 4 + (k + 1) then (S.mon p).look (S.showS (p - 4)) else S.mon p) = va_up (fun p => if p < S.nm then (S.mon p).look (S.showM p) else if 4 ≤ p ∧ p < 4 + k then (S.mon p).look (S.showS (p - 4)) else S.mon p) (4 + k) ((S.mon (4 + k)).look (S.showS k))
          funext p
          rw [vz_at]
          by_cases e : p = 4 + k
          · subst e; rw [if_neg (by omega), if_pos (by omega), if_pos rfl, show 4 + k - 4 = k by omega]
          · rw [if_neg e]
            by_cases e2 : p < S.nm
            · rw [if_pos e2, if_pos e2]
            · rw [if_neg e2, if_neg e2]
              by_cases e3 : 4 ≤ p ∧ p < 4 + k
              · rw [if_pos (by omega), if_pos e3]
              · rw [if_neg (by omega), if_neg e3]
      obtain ⟨φ2, fu2, b1, b2, b3⟩ := ih (k + 1) fu φ1 (by omega) (by omega) a3
      have a4' : Fr b (tAd b S.nm S.ns + 256) φ φ1 := a4
      exact ⟨φ2, fu2, a1.trans b1, b2, a4'.trans b3⟩
/-- all shown: as the reference has it -/
theorem CV.toSh {Γ : gm_T} {φ : ph_T} {b : Nat} {S : XS} (hB : Bd S) (h : CV Γ φ b (S.shP S.nm S.ns)) : CV Γ φ b S.sh := by
  have n4 := hB.nm
  have n5 := hB.ns
  have e1 : (fun p => if p < S.nm then (S.mon p).look (S.showM p) else if 4 ≤ p ∧ p < 4 + S.ns then (S.mon p).look (S.showS (p - 4)) else S.mon p) = (fun p => if p < 8 ∧ S.isP p = true then (S.mon p).look (S.shW p) else S.mon p) := by
    funext p
    unfold XS.isP XS.shW
    by_cases h1 : p < S.nm
    · rw [if_pos h1, if_neg (show ¬ 4 ≤ p by omega), if_pos h1, if_pos ⟨by omega, by simpa using h1⟩]
    · rw [if_neg h1]
      by_cases h2 : 4 ≤ p ∧ p < 4 + S.ns
      · rw [if_pos h2, if_pos h2.1, if_neg h1, if_pos h2, if_pos ⟨by omega, by simp; omega⟩]
      · rw [if_neg h2]
        by_cases h3 : 4 ≤ p
        · rw [if_pos h3, if_neg (fun hh => by have := hh.2; simp at this; omega)]
        · rw [if_neg h3, if_neg (fun hh => by have := hh.2; simp at this; omega)]
  exact h.cg rfl rfl rfl rfl rfl rfl rfl rfl rfl rfl rfl rfl rfl rfl rfl rfl rfl rfl rfl rfl rfl rfl rfl rfl rfl rfl rfl rfl rfl rfl rfl rfl rfl e1.symm
