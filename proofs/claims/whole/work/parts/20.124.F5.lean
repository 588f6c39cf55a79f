/-! THE FACE: what is set, the class's side -/
def smP (T S : XS) : Prop := T.nm = S.nm ∧ T.ns = S.ns ∧ T.time = S.time ∧ T.mpat = S.mpat ∧ T.spat = S.spat ∧ T.early = S.early ∧ T.delay = S.delay ∧ T.way = S.way ∧ T.mem = S.mem ∧ T.spo = S.spo ∧ T.tk = S.tk ∧ T.wi = S.wi ∧ T.tr = S.tr ∧ T.sw = S.sw ∧ T.sr = S.sr ∧ T.lat = S.lat ∧ T.chb = S.chb ∧ T.chr = S.chr ∧ T.rgt = S.rgt ∧ T.mon = S.mon
theorem CV.swG {Γ : gm_T} {φ φ' : ph_T} {b : Nat} {S T : XS} (h : CV Γ φ b S) (f : Fr (b + 4) (bQ b S.nm S.ns) φ φ') (h1 : CSw Γ φ' (b + 4) T) (e : smP T S) : CV Γ φ' b T := by
  obtain ⟨e_nm, e_ns, e_time, e_mpat, e_spat, e_early, e_delay, e_way, e_mem, e_spo, e_tk, e_wi, e_tr, e_sw, e_sr, e_lat, e_chb, e_chr, e_rgt, e_mon⟩ := e
  obtain ⟨g1, g2, g3, g4⟩ := h.reg
  have n4 := h.lay.nm4
  have n5 := h.lay.ns4
  refine ⟨?_, ?_, ?_, ?_, h1, ?_, ?_, ?_, ?_, ?_, ?_⟩
  · rw [e_nm, e_ns]
    exact h.lay.up (f.r (by omega)) (f.r (by omega)) (f.r (by omega)) (f.r (by omega)) (f.r (by omega)) (f.r (by omega)) (f.r (by omega))
  · rw [e_tk, f.i (by omega)]; exact h.tc
  · rw [e_time, f.i (by omega)]; exact h.ti
  · rw [e_mem, e_spo]; exact h.mem.sm (f.sm (by omega))
  · rw [e_nm, e_ns, e_tk, e_mpat, e_early]
    intro m hm
    have := mA_in (b := b) (ns := S.ns) hm
    exact (h.ma m hm).sm (f.sm (by omega))
  · rw [e_nm, e_ns, e_tk]; exact h.tk.sm (f.sm (by omega))
  · rw [e_tk]; exact h.tko
  · rw [e_nm, e_ns, e_wi, e_tr]
    intro p hp
    have := pA_in (b := b) n4.2 n5.2 hp
    obtain ⟨hd, h'⟩ := h.po p hp
    exact ⟨hd, h'.sm (f.sm (by omega))⟩
  · rw [e_nm, e_ns, e_mon]
    intro p hp
    have := pA_in (b := b) n4.2 n5.2 hp
    exact (h.mo p hp).sm (f.sm (by omega))
  · rw [e_nm, e_ns]
    intro s hs
    have := sA_in (b := b) (nm := S.nm) hs
    exact ((h.sl s hs).sm (f.sm (by omega))).cg (congrFun e_sw s) (congrFun e_sr s) (congrFun e_spat s) (congrFun e_rgt s) (congrFun e_delay s) (congrFun e_way s) (fun i hi => by rw [← e_chb]; exact hi) (fun i hi => by rw [← e_chr]; exact hi) (congrFun e_lat s)
theorem mA_m {b nm ns m m' : Nat} (hne : m' ≠ m) : mAd b nm ns m' + 115 ≤ mAd b nm ns m ∨ mAd b nm ns m + 115 ≤ mAd b nm ns m' := by unfold mAd; omega
/-- a master's settings -/
theorem CV.maG {Γ : gm_T} {φ φ' : ph_T} {b m : Nat} {S : XS} {mp : Nat → Nat} {ea : Bool} (h : CV Γ φ b S) (hm : m < S.nm) (f : Fr (mAd b S.nm S.ns m) (mAd b S.nm S.ns m + 2) φ φ') (h1 : CMa Γ φ' (mAd b S.nm S.ns m) (tAd b S.nm S.ns) S.tk m mp ea) : CV Γ φ' b ((S.w_mpat (va_up S.mpat m mp)).w_early (va_up S.early m ea)) := by
  obtain ⟨g1, g2, g3, g4⟩ := h.reg
  have n4 := h.lay.nm4
  have n5 := h.lay.ns4
  have hb : b + 35 ≤ bQ b S.nm S.ns := by unfold bQ; omega
  have hmi := mA_in (b := b) (ns := S.ns) hm
  refine ⟨?_, ?_, ?_, ?_, ?_, ?_, ?_, h.tko, ?_, ?_, ?_⟩
  · exact h.lay.up (f.r (by omega)) (f.r (by omega)) (f.r (by omega)) (f.r (by omega)) (f.r (by omega)) (f.r (by omega)) (f.r (by omega))
  · rw [f.i (by omega)]; exact h.tc
  · rw [f.i (by omega)]; exact h.ti
  · exact h.mem.sm (f.sm (by omega))
  · exact (h.sw.sm (f.sm (by omega))).cg rfl rfl rfl rfl rfl rfl rfl rfl rfl rfl rfl rfl rfl rfl rfl rfl
  · intro m' hm'
    have hm' : m' < S.nm := hm'
    show CMa Γ φ' (mAd b S.nm S.ns m') (tAd b S.nm S.ns) S.tk m' (va_up S.mpat m mp m') (va_up S.early m ea m')
    by_cases e : m' = m
    · subst e; rw [vz_same, vz_same]; exact h1
    · rw [vz_ne _ e, vz_ne _ e]
      have := mA_m (b := b) (nm := S.nm) (ns := S.ns) e
      exact (h.ma m' hm').sm (f.sm (by omega))
  · exact h.tk.sm (f.sm (by show tAd b S.nm S.ns + 256 ≤ _ ∨ _ ≤ tAd b S.nm S.ns; omega))
  · intro p hp
    have hp : okP S.nm S.ns p := hp
    have := pA_in (b := b) n4.2 n5.2 hp
    have := pA_m (b := b) n4.2 n5.2 hp hm
    obtain ⟨hd, h'⟩ := h.po p hp
    exact ⟨hd, h'.sm (f.sm (by show pAd b S.nm S.ns p + 7 ≤ _ ∨ _ ≤ pAd b S.nm S.ns p; omega))⟩
  · intro p hp
    have hp : okP S.nm S.ns p := hp
    have := pA_in (b := b) n4.2 n5.2 hp
    have := pA_m (b := b) n4.2 n5.2 hp hm
    exact (h.mo p hp).sm (f.sm (by show pAd b S.nm S.ns p + 7 + 104 ≤ _ ∨ _ ≤ pAd b S.nm S.ns p + 7; omega))
  · intro s hs
    have hs : s < S.ns := hs
    have := sA_in (b := b) (nm := S.nm) hs
    exact ((h.sl s hs).sm (f.sm (by omega))).cg rfl rfl rfl rfl rfl rfl (fun i hi => hi) (fun i hi => hi) rfl
theorem sA_s {b nm ns s s' : Nat} (hne : s' ≠ s) : sAd b nm ns s' + 143 ≤ sAd b nm ns s ∨ sAd b nm ns s + 143 ≤ sAd b nm ns s' := by unfold sAd; omega
/-- a slave's settings -/
theorem CV.slG {Γ : gm_T} {φ φ' : ph_T} {b s : Nat} {S : XS} {sp : Nat → Nat} {d w : Nat} (h : CV Γ φ b S) (hs : s < S.ns) (f : Fr (sAd b S.nm S.ns s) (sAd b S.nm S.ns s + 32) φ φ') (h1 : CSl Γ φ' (sAd b S.nm S.ns s) (b + 1) (((S.w_spat (va_up S.spat s sp)).w_delay (va_up S.delay s d)).w_way (va_up S.way s w)) s) : CV Γ φ' b (((S.w_spat (va_up S.spat s sp)).w_delay (va_up S.delay s d)).w_way (va_up S.way s w)) := by
  obtain ⟨g1, g2, g3, g4⟩ := h.reg
  have n4 := h.lay.nm4
  have n5 := h.lay.ns4
  have hb : b + 35 ≤ bQ b S.nm S.ns := by unfold bQ; omega
  have hsi := sA_in (b := b) (nm := S.nm) hs
  refine ⟨?_, ?_, ?_, ?_, ?_, ?_, ?_, h.tko, ?_, ?_, ?_⟩
  · exact h.lay.up (f.r (by omega)) (f.r (by omega)) (f.r (by omega)) (f.r (by omega)) (f.r (by omega)) (f.r (by omega)) (f.r (by omega))
  · rw [f.i (by omega)]; exact h.tc
  · rw [f.i (by omega)]; exact h.ti
  · exact h.mem.sm (f.sm (by omega))
  · exact (h.sw.sm (f.sm (by omega))).cg rfl rfl rfl rfl rfl rfl rfl rfl rfl rfl rfl rfl rfl rfl rfl rfl
  · intro m' hm'
    have hm' : m' < S.nm := hm'
    have := mA_in (b := b) (ns := S.ns) hm'
    exact (h.ma m' hm').sm (f.sm (by show mAd b S.nm S.ns m' + 4 ≤ _ ∨ _ ≤ mAd b S.nm S.ns m'; omega))
  · exact h.tk.sm (f.sm (by show tAd b S.nm S.ns + 256 ≤ _ ∨ _ ≤ tAd b S.nm S.ns; omega))
  · intro p hp
    have hp : okP S.nm S.ns p := hp
    have := pA_in (b := b) n4.2 n5.2 hp
    have := pA_s (b := b) n4.2 n5.2 hp hs
    obtain ⟨hd, h'⟩ := h.po p hp
    exact ⟨hd, h'.sm (f.sm (by show pAd b S.nm S.ns p + 7 ≤ _ ∨ _ ≤ pAd b S.nm S.ns p; omega))⟩
  · intro p hp
    have hp : okP S.nm S.ns p := hp
    have := pA_in (b := b) n4.2 n5.2 hp
    have := pA_s (b := b) n4.2 n5.2 hp hs
    exact (h.mo p hp).sm (f.sm (by show pAd b S.nm S.ns p + 7 + 104 ≤ _ ∨ _ ≤ pAd b S.nm S.ns p + 7; omega))
  · intro s' hs'
    have hs' : s' < S.ns := hs'
    by_cases e : s' = s
    · subst e; exact h1
    · have := sA_s (b := b) (nm := S.nm) (ns := S.ns) e
      refine ((h.sl s' hs').sm (f.sm (by omega))).cg rfl rfl ?_ rfl ?_ ?_ (fun i hi => hi) (fun i hi => hi) rfl
      · exact vz_ne _ e
      · exact vz_ne _ e
      · exact vz_ne _ e
/-- memory -/
theorem CV.memG {Γ : gm_T} {φ φ' : ph_T} {b : Nat} {S : XS} {mem : Nat → Nat} {spo : Nat → Bool} (h : CV Γ φ b S) (f : Fr (b + 1) (b + 4) φ φ') (h1 : CMem Γ φ' (b + 1) mem spo) : CV Γ φ' b ((S.w_mem mem).w_spo spo) := by
  obtain ⟨g1, g2, g3, g4⟩ := h.reg
  have n4 := h.lay.nm4
  have n5 := h.lay.ns4
  have hb : b + 35 ≤ bQ b S.nm S.ns := by unfold bQ; omega
  refine ⟨?_, ?_, ?_, h1, ?_, ?_, ?_, h.tko, ?_, ?_, ?_⟩
  · exact h.lay.up (f.r (by omega)) (f.r (by omega)) (f.r (by omega)) (f.r (by omega)) (f.r (by omega)) (f.r (by omega)) (f.r (by omega))
  · rw [f.i (by omega)]; exact h.tc
  · rw [f.i (by omega)]; exact h.ti
  · exact (h.sw.sm (f.sm (by omega))).cg rfl rfl rfl rfl rfl rfl rfl rfl rfl rfl rfl rfl rfl rfl rfl rfl
  · intro m' hm'
    have hm' : m' < S.nm := hm'
    have := mA_in (b := b) (ns := S.ns) hm'
    exact (h.ma m' hm').sm (f.sm (by show mAd b S.nm S.ns m' + 4 ≤ _ ∨ _ ≤ mAd b S.nm S.ns m'; omega))
  · exact h.tk.sm (f.sm (by show tAd b S.nm S.ns + 256 ≤ _ ∨ _ ≤ tAd b S.nm S.ns; omega))
  · intro p hp
    have hp : okP S.nm S.ns p := hp
    have := pA_in (b := b) n4.2 n5.2 hp
    obtain ⟨hd, h'⟩ := h.po p hp
    exact ⟨hd, h'.sm (f.sm (by show pAd b S.nm S.ns p + 7 ≤ _ ∨ _ ≤ pAd b S.nm S.ns p; omega))⟩
  · intro p hp
    have hp : okP S.nm S.ns p := hp
    have := pA_in (b := b) n4.2 n5.2 hp
    exact (h.mo p hp).sm (f.sm (by show pAd b S.nm S.ns p + 7 + 104 ≤ _ ∨ _ ≤ pAd b S.nm S.ns p + 7; omega))
  · intro s' hs'
    have hs' : s' < S.ns := hs'
    have := sA_in (b := b) (nm := S.nm) hs'
    exact ((h.sl s' hs').sm (f.sm (by omega))).cg rfl rfl rfl rfl rfl rfl (fun i hi => hi) (fun i hi => hi) rfl
/-- a setting: what stands between ticks stays -/
theorem JI.cr {k : Nat} {S T : XS} (h : JI k S) (hc : Cr T (60 * T.time)) (hj : HJ T) (ho : OrS T 0) (ht : T.time = S.time) (hu : UN T) : JI k T := ⟨hc, hj, ho, by rw [ht]; exact h.2.2.2.1, hu⟩
theorem and16 (x : Int32) : x &&& (65535 : Int32) = nI (toN x % 65536) := by
  rw [← nI_toN x, show (65535 : Int32) = nI (2 ^ 16 - 1) from rfl, zI_and, Nat.and_two_pow_sub_one_eq_mod, nI_toN]
/-- the class's answer where a call is refused -/
theorem Face.bad {α : Type} {Γ : gm_T} {φ : ph_T} {b : Nat} {S : XS} {k : Nat} {fB : Option ((α ⊕ String) × ph_T)} {fR : ph_T → Nat → Option (α × ph_T)} {E1 E2 E3 : String} (h : CV Γ φ b S) (hJ : JI k S) (cd : Nat) (an : α) (hc : cd < nE E1 E2 E3) (hz : cd ≠ 0) (h1 : fB = some (rsX cd an E1 E2 E3, φ)) (h2 : ∀ φ1 r, RV Γ φ1 r S → ∃ v, fR φ1 r = some (v, uI φ1 r 0 (nI cd))) : Face Γ φ b S k fB fR E1 E2 E3 :=
  Face.get h hJ cd an hc h1 (fun φ1 r hr => by obtain ⟨v, hv⟩ := h2 φ1 r hr; exact ⟨v, hv, fun e => absurd e hz⟩)
/-- .. and where it is done -/
theorem Face.do {α : Type} {Γ : gm_T} {φ φ' : ph_T} {b : Nat} {S S' : XS} {k : Nat} {fB : Option ((α ⊕ String) × ph_T)} {fR : ph_T → Nat → Option (α × ph_T)} {E1 E2 E3 : String} (an : α) (h1 : fB = some (.inl an, φ')) (h2 : CV Γ φ' b S') (h3 : Fr b (tAd b S.nm S.ns + 256) φ φ') (h4 : JI k S') (e1 : S'.nm = S.nm) (e2 : S'.ns = S.ns) (h5 : ∀ φ1 r, RV Γ φ1 r (S.w_err 0) → He φ1 r S → φ1.1 r 0 = nI 0 → ∀ φ0, φ1 = uI φ0 r 0 (nI 0) → RV Γ φ0 r S → ∃ φ2, fR φ0 r = some (an, φ2) ∧ RV Γ φ2 r (S'.w_err 0) ∧ He φ2 r S' ∧ Fr r (r + 92) φ1 φ2) : Face Γ φ b S k fB fR E1 E2 E3 := by
  refine ⟨0, an, φ', S', nE_pos _ _ _, h1, h2, h3, h4, e1, e2, ?_⟩
  intro φ1 r hr hh
  obtain ⟨b1, b2⟩ := r_errUp hr 0
  obtain ⟨φ2, c1, c2, c3, c4⟩ := h5 _ r b1 (fun j hj => by rw [b2.i 30 (by decide)]; exact hh j hj) (erz_at _ _ _) φ1 rfl hr
  exact ⟨an, φ2, c1, fun _ => rfl, c2, c3, (b2.fr (by decide)).trans c4⟩
