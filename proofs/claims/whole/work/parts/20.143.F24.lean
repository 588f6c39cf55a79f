/-! ALL IS CLEARED: the class -/
def XS.clr (S : XS) : XS := (((((((((((((((((((((((((((((((((S.w_pol (1)).w_whole (false)).w_time (0)).w_dbeat (0)).w_moved (0)).w_pages (fun p => p % S.ns)).w_mpat (fun _ _ => 65535)).w_spat (fun _ _ => 65535)).w_early (fun _ => false)).w_delay (fun _ => 0)).w_way (fun _ => 0)).w_mem (fun _ => 0)).w_spo (fun _ => false)).w_tk ([])).w_wi (fun _ => WI0)).w_tr (fun _ _ => 0)).w_row (fun _ => [])).w_uw ([])).w_ur ([])).w_la (fun _ => none)).w_lr (fun _ => none)).w_lb (fun _ => none)).w_lg (fun _ => none)).w_inb (fun _ => false)).w_sw (fun _ => [])).w_sr (fun _ => [])).w_rnum (fun _ => 0)).w_lat (fun _ => none)).w_chb (fun _ => none)).w_chr (fun _ => none)).w_rgt (fun _ _ => none)).w_mon (fun p => (S.mon p).beg)).w_err (0))
theorem XS.clr_sw (S : XS) : SwT S.clr S.nm S.ns S.lim := ⟨rfl, rfl, rfl, rfl, rfl, rfl, rfl, fun _ => rfl, fun _ => rfl, rfl, rfl, fun _ => rfl, fun _ => rfl, fun _ => rfl, fun _ => rfl, fun _ => rfl⟩
/-- the loop over the masters -/
theorem c_clL16 {Γ : gm_T} {b nm ns : Nat} {l : List TK} : ∀ (d i fu : Nat) (φ : ph_T) (pt : Nat → Nat → Nat) (ea : Nat → Bool) (x : Nat → WI) (hd : Nat → Nat → Bool) (tr : Nat → Nat → Int32) (o : Nat → MO), i + d = nm → d < fu → BuL Γ φ b nm ns →
    (∀ m, m < nm → CMa Γ φ (mAd b nm ns m) (tAd b nm ns) l m (pt m) (ea m)) → (∀ m, m < nm → CPt Γ φ (pAd b nm ns m) (x m) (hd m) (tr m)) → (∀ m, m < nm → CMo Γ φ (pAd b nm ns m + 7) (o m)) →
    (∀ m, m < i → CMa Γ φ (mAd b nm ns m) (tAd b nm ns) l m (fun _ => 65535) false ∧ CPt Γ φ (pAd b nm ns m) WI0 (fun _ => false) (fun _ => 0) ∧ CMo Γ φ (pAd b nm ns m + 7) MO0) →
    ∃ φ', f_Bus_clear_L16 Γ fu φ b (nI i) = f_Bus_clear_L51 Γ jF φ' b (nI 0) ∧ Fr (bQ b nm ns + 2) (bQ b nm ns + 2 + 115 * nm) φ φ' ∧ BuL Γ φ' b nm ns ∧ ∀ m, m < nm → CMa Γ φ' (mAd b nm ns m) (tAd b nm ns) l m (fun _ => 65535) false ∧ CPt Γ φ' (pAd b nm ns m) WI0 (fun _ => false) (fun _ => 0) ∧ CMo Γ φ' (pAd b nm ns m + 7) MO0 := by
  intro d
  induction d with
  | zero =>
    intro i fu φ pt ea x hd tr o hdd hfu hL h1 h2 h3 h4
    match fu, hfu with
    | fu + 1, _ =>
      have n4 := hL.nm4
      refine ⟨φ, ?_, Fr.refl _ _ _, hL, fun m hm => h4 m (by omega)⟩
      rw [f_Bus_clear_L16, if_pos hL.o, hL.f2, Option.bind_some, hL.g2, Option.bind_some, if_pos (by rw [zI_le (by omega) (by omega)]; omega)]
      rfl
  | succ d ih =>
    intro i fu φ pt ea x hd tr o hdd hfu hL h1 h2 h3 h4
    match fu, hfu with
    | fu + 1, hfu =>
      have n4 := hL.nm4
      have n5 := hL.ns4
      have hi : i < nm := by omega
      have g1 := bQ_0 b nm ns
      have g2 := sA_0 b nm ns
      have g3 := (rA_0 b nm ns).1
      have g4 := (rA_0 b nm ns).2
      have em : ∀ m, mAd b nm ns m = bQ b nm ns + 2 + 115 * m := fun m => rfl
      have ep : ∀ m, m < nm → pAd b nm ns m = bQ b nm ns + 6 + 115 * m := fun m hm => by
        unfold pAd mAd; rw [if_pos (by omega)]; omega
      obtain ⟨φ1, a1, a2, a3⟩ := c_maset (h1 i hi)
      have hep := ep i hi
      have hem := em i
      have f1 : Fr (bQ b nm ns + 2 + 115 * i) (bQ b nm ns + 2 + 115 * i + 2) φ φ1 := by rw [← hem]; exact a3
      have hP := (h2 i hi).sm (f1.sm (by omega))
      have hM := (h3 i hi).sm (f1.sm (by omega))
      obtain ⟨φ2, b1, b2, b3, b4⟩ := c_preset hP hM
      have f2 : Fr (bQ b nm ns + 6 + 115 * i) (bQ b nm ns + 6 + 115 * i + 111) φ1 φ2 := by rw [← hep]; exact b4
      have hL1 : BuL Γ φ1 b nm ns := hL.up (f1.r (by omega)) (f1.r (by omega)) (f1.r (by omega)) (f1.r (by omega)) (f1.r (by omega)) (f1.r (by omega)) (f1.r (by omega))
      have hL2 : BuL Γ φ2 b nm ns := hL1.up (f2.r (by omega)) (f2.r (by omega)) (f2.r (by omega)) (f2.r (by omega)) (f2.r (by omega)) (f2.r (by omega)) (f2.r (by omega))
      have hA : ∀ m, CMa Γ φ2 (mAd b nm ns m) (tAd b nm ns) l m (if m = i then fun _ => 65535 else pt m) (if m = i then false else ea m) ∨ ¬ m < nm := by
        intro m
        by_cases hm : m < nm
        · left
          by_cases e : m = i
          · subst e
            rw [if_pos rfl, if_pos rfl]
            exact a2.sm (f2.sm (by omega))
          · rw [if_neg e, if_neg e]
            have := em m
            exact ((h1 m hm).sm (f1.sm (by omega))).sm (f2.sm (by omega))
        · right; exact hm
      have hB : ∀ m, m < nm → m ≠ i → Sm (pAd b nm ns m) (pAd b nm ns m + 111) φ φ2 := by
        intro m hm e
        have := ep m hm
        exact (f1.sm (by omega)).trans (f2.sm (by omega))
      obtain ⟨φ', c1, c2, c3, c4⟩ := ih (i + 1) fu φ2 (fun m => if m = i then fun _ => 65535 else pt m) (fun m => if m = i then false else ea m) (fun m => if m = i then WI0 else x m) (fun m => if m = i then fun _ => false else hd m) (fun m => if m = i then fun _ => 0 else tr m) (fun m => if m = i then MO0 else o m) (by omega) (by omega) hL2
        (fun m hm => (hA m).resolve_right (fun hn => hn hm))
        (fun m hm => by
          show CPt Γ φ2 (pAd b nm ns m) (if m = i then WI0 else x m) (if m = i then fun _ => false else hd m) (if m = i then fun _ => 0 else tr m)
          by_cases e : m = i
          · subst e
            rw [if_pos rfl, if_pos rfl, if_pos rfl]
            exact b2
          · rw [if_neg e, if_neg e, if_neg e]
            exact (h2 m hm).sm ((hB m hm e).mono (by omega) (by omega)))
        (fun m hm => by
          show CMo Γ φ2 (pAd b nm ns m + 7) (if m = i then MO0 else o m)
          by_cases e : m = i
          · subst e
            rw [if_pos rfl]
            exact b3
          · rw [if_neg e]
            exact (h3 m hm).sm ((hB m hm e).mono (by omega) (by omega)))
        (fun m hm => by
          by_cases e : m = i
          · subst e
            exact ⟨a2.sm (f2.sm (by omega)), b2, b3⟩
          · obtain ⟨k1, k2, k3⟩ := h4 m (by omega)
            have := em m
            exact ⟨(k1.sm (f1.sm (by omega))).sm (f2.sm (by omega)), k2.sm ((hB m (by omega) e).mono (by omega) (by omega)), k3.sm ((hB m (by omega) e).mono (by omega) (by omega))⟩)
      refine ⟨φ', ?_, (f1.mono (by omega) (by omega)).trans ((f2.mono (by omega) (by omega)).trans c2), c3, c4⟩
      rw [f_Bus_clear_L16, if_pos hL.o, hL.f2, Option.bind_some, hL.g2, Option.bind_some, if_neg (by rw [zI_le (by omega) (by omega)]; omega), Option.bind_some, zix (by omega), Option.bind_some, hL.ma i hi, Option.bind_some, if_pos (h1 i hi).o, a1, Option.bind_some]
      show (Option.bind (φ1.2.2 b 4) _) = _
      rw [hL1.f4, Option.bind_some, hL.g4, Option.bind_some, zix (by omega), Option.bind_some]
      show (Option.bind (φ1.2.2 (bQ b nm ns + 1) i) _) = _
      rw [hL1.mp i hi, Option.bind_some, if_pos hP.o]
      show (Option.bind (f_Port_reset Γ φ1 _) _) = _
      rw [b1, Option.bind_some, show nI i + (1 : Int32) = nI (i + 1) from by rw [zI_1, zI_add]]
      exact c1
/-- the loop over the slaves -/
theorem c_clL51 {Γ : gm_T} {b nm ns : Nat} {S T : XS} (t1 : ∀ s, T.sw s = []) (t2 : ∀ s, T.sr s = []) (t3 : ∀ s c, T.spat s c = 65535) (t4 : ∀ s j, T.rgt s j = none) (t5 : ∀ s, T.delay s = 0) (t6 : ∀ s, T.way s = 0) (t7 : ∀ s, T.chb s = none) (t8 : ∀ s, T.chr s = none) (t9 : ∀ s, T.lat s = none) : ∀ (d i fu : Nat) (φ : ph_T) (x : Nat → WI) (hd : Nat → Nat → Bool) (tr : Nat → Nat → Int32) (o : Nat → MO), i + d = ns → d < fu → BuL Γ φ b nm ns →
    (∀ s, i ≤ s → s < ns → CSl Γ φ (sAd b nm ns s) (b + 1) S s) → (∀ s, i ≤ s → s < ns → CPt Γ φ (pAd b nm ns (4 + s)) (x s) (hd s) (tr s)) → (∀ s, i ≤ s → s < ns → CMo Γ φ (pAd b nm ns (4 + s) + 7) (o s)) →
    (∀ s, s < i → CSl Γ φ (sAd b nm ns s) (b + 1) T s ∧ CPt Γ φ (pAd b nm ns (4 + s)) WI0 (fun _ => false) (fun _ => 0) ∧ CMo Γ φ (pAd b nm ns (4 + s) + 7) MO0) →
    ∃ φ', f_Bus_clear_L51 Γ fu φ b (nI i) = f_Bus_clear_L86 Γ jF φ' b (nI 0) ∧ Fr (sAd b nm ns 0) (sAd b nm ns 0 + 143 * ns) φ φ' ∧ BuL Γ φ' b nm ns ∧ ∀ s, s < ns → CSl Γ φ' (sAd b nm ns s) (b + 1) T s ∧ CPt Γ φ' (pAd b nm ns (4 + s)) WI0 (fun _ => false) (fun _ => 0) ∧ CMo Γ φ' (pAd b nm ns (4 + s) + 7) MO0 := by
  intro d
  induction d with
  | zero =>
    intro i fu φ x hd tr o hdd hfu hL h1 h2 h3 h4
    match fu, hfu with
    | fu + 1, _ =>
      have n5 := hL.ns4
      refine ⟨φ, ?_, Fr.refl _ _ _, hL, fun m hm => h4 m (by omega)⟩
      rw [f_Bus_clear_L51, if_pos hL.o, hL.f3, Option.bind_some, hL.g3, Option.bind_some, if_pos (by rw [zI_le (by omega) (by omega)]; omega)]
      rfl
  | succ d ih =>
    intro i fu φ x hd tr o hdd hfu hL h1 h2 h3 h4
    match fu, hfu with
    | fu + 1, hfu =>
      have n4 := hL.nm4
      have n5 := hL.ns4
      have hi : i < ns := by omega
      have g1 := bQ_0 b nm ns
      have g2 := sA_0 b nm ns
      have g3 : rAd b nm ns = sAd b nm ns 0 + 143 * ns := by unfold rAd sAd; omega
      have g4 := (rA_0 b nm ns).2
      have em : ∀ s, sAd b nm ns s = sAd b nm ns 0 + 143 * s := fun m => by unfold sAd; omega
      have ep : ∀ s, s < ns → pAd b nm ns (4 + s) = sAd b nm ns 0 + 143 * s + 32 := fun m hm => by
        unfold pAd sAd; rw [if_neg (by omega), if_pos (by omega)]; omega
      obtain ⟨φ1, a1, a2, a3⟩ := c_slreset (T := T) (h1 i (Nat.le_refl _) hi) (t1 i) (t2 i) (fun c _ => t3 i c) (t4 i) (t5 i) (t6 i) (t7 i) (t8 i) (t9 i)
      have hep := ep i hi
      have hem := em i
      have f1 : Fr (sAd b nm ns 0 + 143 * i) (sAd b nm ns 0 + 143 * i + 32) φ φ1 := by rw [← hem]; exact a3
      have hP := (h2 i (Nat.le_refl _) hi).sm (f1.sm (by omega))
      have hM := (h3 i (Nat.le_refl _) hi).sm (f1.sm (by omega))
      obtain ⟨φ2, b1, b2, b3, b4⟩ := c_preset hP hM
      have f2 : Fr (sAd b nm ns 0 + 143 * i + 32) (sAd b nm ns 0 + 143 * i + 143) φ1 φ2 := by rw [hep] at b4; exact b4
      have hL1 : BuL Γ φ1 b nm ns := hL.up (f1.r (by omega)) (f1.r (by omega)) (f1.r (by omega)) (f1.r (by omega)) (f1.r (by omega)) (f1.r (by omega)) (f1.r (by omega))
      have hL2 : BuL Γ φ2 b nm ns := hL1.up (f2.r (by omega)) (f2.r (by omega)) (f2.r (by omega)) (f2.r (by omega)) (f2.r (by omega)) (f2.r (by omega)) (f2.r (by omega))
      have hB : ∀ s, s < ns → s ≠ i → Sm (sAd b nm ns s) (sAd b nm ns s + 143) φ φ2 := by
        intro m hm e
        have := em m
        exact (f1.sm (by omega)).trans (f2.sm (by omega))
      obtain ⟨φ', c1, c2, c3, c4⟩ := ih (i + 1) fu φ2 x hd tr o (by omega) (by omega) hL2
        (fun m hm0 hm => (h1 m (by omega) hm).sm ((hB m hm (by omega)).mono (by omega) (by omega)))
        (fun m hm0 hm => (h2 m (by omega) hm).sm ((hB m hm (by omega)).mono (by have := ep m hm; have := em m; omega) (by have := ep m hm; have := em m; omega)))
        (fun m hm0 hm => (h3 m (by omega) hm).sm ((hB m hm (by omega)).mono (by have := ep m hm; have := em m; omega) (by have := ep m hm; have := em m; omega)))
        (fun m hm => by
          by_cases e : m = i
          · subst e
            exact ⟨a2.sm (f2.sm (by omega)), b2, b3⟩
          · obtain ⟨k1, k2, k3⟩ := h4 m (by omega)
            have := em m
            have := ep m (by omega)
            have hs := hB m (by omega) e
            exact ⟨k1.sm (hs.mono (by omega) (by omega)), k2.sm (hs.mono (by omega) (by omega)), k3.sm (hs.mono (by omega) (by omega))⟩)
      refine ⟨φ', ?_, (f1.mono (by omega) (by omega)).trans ((f2.mono (by omega) (by omega)).trans c2), c3, c4⟩
      rw [f_Bus_clear_L51, if_pos hL.o, hL.f3, Option.bind_some, hL.g3, Option.bind_some, if_neg (by rw [zI_le (by omega) (by omega)]; omega), Option.bind_some, zix (by omega), Option.bind_some, hL.sl i hi, Option.bind_some, if_pos (h1 i (Nat.le_refl _) hi).o, a1, Option.bind_some]
      show (Option.bind (φ1.2.2 b 5) _) = _
      rw [hL1.f5, Option.bind_some, hL.g5, Option.bind_some, zix (by omega), Option.bind_some]
      show (Option.bind (φ1.2.2 (sAd b nm ns 0 - 1) i) _) = _
      rw [hL1.sp i hi, Option.bind_some, if_pos hP.o]
      show (Option.bind (f_Port_reset Γ φ1 _) _) = _
      rw [b1, Option.bind_some, show nI i + (1 : Int32) = nI (i + 1) from by rw [zI_1, zI_add]]
      exact c1
