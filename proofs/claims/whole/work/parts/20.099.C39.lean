/-! THE CLASS: a slave's transfer -/
def smS (T S : XS) : Prop := T.nm = S.nm ∧ T.ns = S.ns ∧ T.lim = S.lim ∧ T.pol = S.pol ∧ T.whole = S.whole ∧ T.time = S.time ∧ T.dbeat = S.dbeat ∧ T.moved = S.moved ∧ T.pages = S.pages ∧ T.mpat = S.mpat ∧ T.spat = S.spat ∧ T.early = S.early ∧ T.delay = S.delay ∧ T.way = S.way ∧ T.spo = S.spo ∧ T.tk = S.tk ∧ T.wi = S.wi ∧ T.tr = S.tr ∧ T.uw = S.uw ∧ T.ur = S.ur ∧ T.la = S.la ∧ T.lr = S.lr ∧ T.lb = S.lb ∧ T.lg = S.lg ∧ T.inb = S.inb ∧ T.mon = S.mon
theorem dw_all (S : XS) (s : Nat) (e : WE) : smS (S.doWrite s e).1 S := by
  rw [doWrite_st]
  repeat' split
  all_goals exact ⟨rfl, rfl, rfl, rfl, rfl, rfl, rfl, rfl, rfl, rfl, rfl, rfl, rfl, rfl, rfl, rfl, rfl, rfl, rfl, rfl, rfl, rfl, rfl, rfl, rfl, rfl⟩
theorem pS_all (S : XS) (s c : Nat) : smS (S.passS s c) S := by
  unfold XS.passS
  simp only
  repeat' split
  all_goals first
    | exact ⟨rfl, rfl, rfl, rfl, rfl, rfl, rfl, rfl, rfl, rfl, rfl, rfl, rfl, rfl, rfl, rfl, rfl, rfl, rfl, rfl, rfl, rfl, rfl, rfl, rfl, rfl⟩
    | exact dw_all (S.drop (5 * (4 + s) + 1)) s _
    | skip
  · exact dw_all (S.drop _) s _
theorem pS_nm (S : XS) (s c : Nat) : (S.passS s c).nm = S.nm := (pS_all S s c).1
theorem pS_ns (S : XS) (s c : Nat) : (S.passS s c).ns = S.ns := (pS_all S s c).2.1
theorem pS_lim (S : XS) (s c : Nat) : (S.passS s c).lim = S.lim := (pS_all S s c).2.2.1
theorem pS_pol (S : XS) (s c : Nat) : (S.passS s c).pol = S.pol := (pS_all S s c).2.2.2.1
theorem pS_whole (S : XS) (s c : Nat) : (S.passS s c).whole = S.whole := (pS_all S s c).2.2.2.2.1
theorem pS_time (S : XS) (s c : Nat) : (S.passS s c).time = S.time := (pS_all S s c).2.2.2.2.2.1
theorem pS_dbeat (S : XS) (s c : Nat) : (S.passS s c).dbeat = S.dbeat := (pS_all S s c).2.2.2.2.2.2.1
theorem pS_moved (S : XS) (s c : Nat) : (S.passS s c).moved = S.moved := (pS_all S s c).2.2.2.2.2.2.2.1
theorem pS_pages (S : XS) (s c : Nat) : (S.passS s c).pages = S.pages := (pS_all S s c).2.2.2.2.2.2.2.2.1
theorem pS_mpat (S : XS) (s c : Nat) : (S.passS s c).mpat = S.mpat := (pS_all S s c).2.2.2.2.2.2.2.2.2.1
theorem pS_spat (S : XS) (s c : Nat) : (S.passS s c).spat = S.spat := (pS_all S s c).2.2.2.2.2.2.2.2.2.2.1
theorem pS_early (S : XS) (s c : Nat) : (S.passS s c).early = S.early := (pS_all S s c).2.2.2.2.2.2.2.2.2.2.2.1
theorem pS_delay (S : XS) (s c : Nat) : (S.passS s c).delay = S.delay := (pS_all S s c).2.2.2.2.2.2.2.2.2.2.2.2.1
theorem pS_way (S : XS) (s c : Nat) : (S.passS s c).way = S.way := (pS_all S s c).2.2.2.2.2.2.2.2.2.2.2.2.2.1
theorem pS_spo (S : XS) (s c : Nat) : (S.passS s c).spo = S.spo := (pS_all S s c).2.2.2.2.2.2.2.2.2.2.2.2.2.2.1
theorem pS_tk (S : XS) (s c : Nat) : (S.passS s c).tk = S.tk := (pS_all S s c).2.2.2.2.2.2.2.2.2.2.2.2.2.2.2.1
theorem pS_wi (S : XS) (s c : Nat) : (S.passS s c).wi = S.wi := (pS_all S s c).2.2.2.2.2.2.2.2.2.2.2.2.2.2.2.2.1
theorem pS_tr (S : XS) (s c : Nat) : (S.passS s c).tr = S.tr := (pS_all S s c).2.2.2.2.2.2.2.2.2.2.2.2.2.2.2.2.2.1
theorem pS_uw (S : XS) (s c : Nat) : (S.passS s c).uw = S.uw := (pS_all S s c).2.2.2.2.2.2.2.2.2.2.2.2.2.2.2.2.2.2.1
theorem pS_ur (S : XS) (s c : Nat) : (S.passS s c).ur = S.ur := (pS_all S s c).2.2.2.2.2.2.2.2.2.2.2.2.2.2.2.2.2.2.2.1
theorem pS_la (S : XS) (s c : Nat) : (S.passS s c).la = S.la := (pS_all S s c).2.2.2.2.2.2.2.2.2.2.2.2.2.2.2.2.2.2.2.2.1
theorem pS_lr (S : XS) (s c : Nat) : (S.passS s c).lr = S.lr := (pS_all S s c).2.2.2.2.2.2.2.2.2.2.2.2.2.2.2.2.2.2.2.2.2.1
theorem pS_lb (S : XS) (s c : Nat) : (S.passS s c).lb = S.lb := (pS_all S s c).2.2.2.2.2.2.2.2.2.2.2.2.2.2.2.2.2.2.2.2.2.2.1
theorem pS_lg (S : XS) (s c : Nat) : (S.passS s c).lg = S.lg := (pS_all S s c).2.2.2.2.2.2.2.2.2.2.2.2.2.2.2.2.2.2.2.2.2.2.2.1
theorem pS_inb (S : XS) (s c : Nat) : (S.passS s c).inb = S.inb := (pS_all S s c).2.2.2.2.2.2.2.2.2.2.2.2.2.2.2.2.2.2.2.2.2.2.2.2.1
theorem pS_mon (S : XS) (s c : Nat) : (S.passS s c).mon = S.mon := (pS_all S s c).2.2.2.2.2.2.2.2.2.2.2.2.2.2.2.2.2.2.2.2.2.2.2.2.2
theorem dw_row (S : XS) (s : Nat) (e : WE) : (S.doWrite s e).1.row = S.row := by
  rw [doWrite_st]
  repeat' split
  all_goals rfl
theorem dw_rgt (S : XS) (s s' : Nat) (hne : s' ≠ s) (e : WE) : (S.doWrite s e).1.rgt s' = S.rgt s' := by
  rw [doWrite_st]
  split
  · exact vz_ne _ hne
  · split
    · exact vz_ne _ hne
    · exact vz_ne _ hne
theorem pS_row (S : XS) {s c : Nat} (hc : c < 5) : (S.passS s c).row = (if c = 2 ∨ c = 4 then S.put (5 * (4 + s) + c) ⟨if c = 2 then 0 else ((S.wi (4 + s)).w c).c, ((S.wi (4 + s)).w c).r, S.time⟩ else S.drop (5 * (4 + s) + c)).row := by
  have hc5 : c = 0 ∨ c = 1 ∨ c = 2 ∨ c = 3 ∨ c = 4 := by omega
  rcases hc5 with rfl | rfl | rfl | rfl | rfl
  · rfl
  · unfold XS.passS
    simp only
    repeat' split
    all_goals first
      | omega
      | rfl
      | exact dw_row (S.drop (5 * (4 + s) + 1)) s _
      | (exfalso; simp_all)
  · rfl
  · rfl
  · rfl
theorem pS_ne (S : XS) {s c s' : Nat} (hne : s' ≠ s) : (S.passS s c).sw s' = S.sw s' ∧ (S.passS s c).sr s' = S.sr s' ∧ (S.passS s c).rgt s' = S.rgt s' ∧ (S.passS s c).chb s' = S.chb s' ∧ (S.passS s c).chr s' = S.chr s' ∧ (S.passS s c).lat s' = S.lat s' := by
  unfold XS.passS
  simp only
  split
  · exact ⟨vz_ne _ hne, rfl, rfl, rfl, rfl, rfl⟩
  · split
    · split
      · exact ⟨rfl, rfl, rfl, rfl, rfl, rfl⟩
      · split
        · rename_i e he hl
          obtain ⟨o1, o2, o3, o4, o5, o6, o7⟩ := doWrite_oth (S.drop (5 * (4 + s) + c)) s (((e.w_got (e.got + 1)).w_dat (va_up e.dat e.got ((S.wi (4 + s)).w c).c)).w_rst (va_up e.rst e.got ((S.wi (4 + s)).w c).r))
          exact ⟨vz_ne _ hne, congrFun o1 s', dw_rgt (S.drop (5 * (4 + s) + c)) s s' hne _, congrFun o5 s', congrFun o6 s', congrFun o7 s'⟩
        · exact ⟨vz_ne _ hne, rfl, rfl, rfl, rfl, rfl⟩
    · split
      · exact ⟨vz_ne _ hne, rfl, rfl, vz_ne _ hne, rfl, rfl⟩
      · split
        · exact ⟨rfl, vz_ne _ hne, vz_ne _ hne, rfl, rfl, rfl⟩
        · exact ⟨rfl, vz_ne _ hne, rfl, rfl, vz_ne _ hne, vz_ne _ hne⟩
