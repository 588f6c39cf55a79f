theorem r_data_1 {Γ : gm_T} {φ : ph_T} {r : Nat} {S : XS} (h : RV Γ φ r S) {t m : Nat} {e : TK} (hm : m < 4) (he : S.tk[t]? = some e) (hp : isUnf m e = true) :
    ∃ φ', f_Ref_showData_L73 Γ φ r (nI (5 * m + 1)) (nI t) = some ((), φ') ∧ RV Γ φ' r (S.setW m 1 ⟨true, e.dat e.beats, e.rst e.beats⟩) ∧ RFr r [26, 28, 29] φ φ' := by
  have ht := h.tk.lt he
  have hb := h.tk.hbd t e he
  unfold isUnf at hp
  simp only [Bool.and_eq_true, decide_eq_true_eq] at hp
  have hle := leN_le e.con
  have hg := h.tk.hgen t e he hp.1.2 0 (by omega)
  rw [Nat.add_zero, Nat.zero_add, lcgN_1] at hg
  have hba := baN_lt e.con (k := e.beats) (by omega)
  have hla := laN_lt (baN e.con e.beats) (szN_cases e.con)
  unfold f_Ref_showData_L73 f_Ref_showData_L78
  rw [if_neg (show ¬ ((1 : Int32) = 0) by decide)]
  simp (disch := first | assumption | omega) only [h.rl.o, rf_26 h.rl, rg_26 h.rl, rf_30 h.rl, rg_30 h.rl, Option.bind_some, if_true, zix, r_burstOf h he, h.tk.hbea t e he, e_Ref_sizeOf]
  rw [e_Ref_beatAt Γ φ e.con (k := e.beats) (by omega) (ru_kind hb.2.2.2)]
  simp only [Option.bind_some]
  rw [e_Ref_lanesOf Γ φ (by omega) (szN_cases e.con)]
  simp (disch := first | assumption | omega) only [h.rl.o, rf_26 h.rl, rg_26 h.rl, rf_30 h.rl, rg_30 h.rl, Option.bind_some, zix, h.tk.hsee t e he]
  rw [zI_0, r_data_L h he _ _ _ 8 0 _ jF (by omega) hla (by unfold jF; omega)]
  rw [spF_and _ hla]
  unfold f_Ref_showData_L199 f_Ref_showData_L236
  rw [e_maskOf Γ φ (by omega)]
  simp (disch := first | assumption | omega) only [h.rl.o, rf_17 h.rl, rg_17 h.rl, rf_30 h.rl, rg_30 h.rl, Option.bind_some, if_true, zix, h.tk.hbea t e he, h.tk.hlen t e he]
  have h1 := leN_pos e.con
  simp (disch := first | assumption | omega) only [↓zm1, zI_ne_m, zI_m_ne, zI_lit, zI_le, zI_eq, zI_mul, zI_lt, zI_modn, zI_div, zI_sub, zI_add, zN_mod]
  have hst : (if e.sp = true then laN (baN e.con e.beats) (szN e.con) &&& uN (lcg e.seed) / 2 ^ 56 else laN (baN e.con e.beats) (szN e.con)) < 256 := by
    split
    · exact Nat.lt_of_le_of_lt Nat.and_le_left hla
    · exact hla
  have hr : ∀ b : Bool, b = decide (e.beats = leN e.con - 1) → nI (if e.sp = true then laN (baN e.con e.beats) (szN e.con) &&& uN (lcg e.seed) / 2 ^ 56 else laN (baN e.con e.beats) (szN e.con)) ||| nI (if b = true then 256 else 0) = e.rst e.beats := by
    intro b hbb
    rw [zI_or, or_256 hst, hg.2]
    unfold grst
    subst hbb
    simp
  have hd : (e.seed * 6364136223846793005 + 1442695040888963407 &&& mskL (laN (baN e.con e.beats) (szN e.con))) = e.dat e.beats := by rw [hg.1, gdat, lcg]
  have hl2 : e.seed * 6364136223846793005 + 1442695040888963407 = lcg e.seed := rfl
  rw [hl2] at hd ⊢
  obtain ⟨φ', e1, e2, e3⟩ := r_show h (p := m) (k := 1) (by omega) (by omega) true (e.dat e.beats) (e.rst e.beats)
  have e1' : f_Ref_show Γ φ r (nI (5 * m + 1)) (nI 1) (e.dat e.beats) (e.rst e.beats) = some ((), φ') := e1
  refine ⟨φ', ?_, e2, e3⟩
  by_cases hc : e.beats = leN e.con - 1
  · rw [if_pos hc]
    have := hr true (by simp [hc])
    simp only [if_true] at this
    rw [this, hd, e1']
    rfl
  · rw [if_neg hc]
    have := hr false (by simp [hc])
    simp only [Bool.false_eq_true, if_false] at this
    rw [this, hd, e1']
    rfl
