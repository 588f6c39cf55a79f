theorem r_burstOf {Γ : gm_T} {φ : ph_T} {r : Nat} {S : XS} (h : RV Γ φ r S) {t : Nat} {e : TK} (he : S.tk[t]? = some e) : f_Ref_burstOf Γ φ r (nI t) = some (e.con, φ) := by
  have hb := h.tk.hbd t e he
  have ht := h.tk.lt he
  have h1 := idN_lt e.con
  have h2 := adN_lt e.con
  have h3 := leN_le e.con
  have h30 := leN_pos e.con
  have h4 : seN e.con < 4 := Nat.mod_lt _ (by omega)
  have h5 := kiN_lt e.con
  have h6 := exN_lt e.con
  have h7 := urN_lt e.con
  have hc := con_parts hb.2.2.1
  unfold f_Ref_burstOf f_Ref_burstOf_L70
  simp only [show (Int32.toInt64 (22 : Int32) &&& 63) = nL 22 from by decide, show (Int32.toInt64 (26 : Int32) &&& 63) = nL 26 from by decide, show (Int32.toInt64 (28 : Int32) &&& 63) = nL 28 from by decide, show (Int32.toInt64 (31 : Int32) &&& 63) = nL 31 from by decide]
  simp (disch := first | assumption | omega) only [h.rl.o, rf_17 h.rl, rg_17 h.rl, rf_18 h.rl, rg_18 h.rl, rf_19 h.rl, rg_19 h.rl, rf_21 h.rl, rg_21 h.rl, rf_23 h.rl, rg_23 h.rl, rf_24 h.rl, rg_24 h.rl, rf_25 h.rl, rg_25 h.rl, Option.bind_some, if_true, zix]
  simp (disch := first | assumption | omega) only [h.tk.hidd t e he, h.tk.hadr t e he, h.tk.hlen t e he, h.tk.hsiz t e he, h.tk.hkin t e he, h.tk.halo t e he, h.tk.hurg t e he, ↓zm1, zI_ne_m, zI_m_ne, zI_lit, zI_le, zI_eq, zI_mul, zI_lt, zI_modn, zI_div, zI_sub, zI_add, zN_mod, nI_L, zL_lit, nL_add, nL_mul, nL_sub, nL_shl]
  have hx : exN e.con = 0 ∨ exN e.con = 1 := by omega
  have key : ∀ v, v = uN e.con → some (nL v, φ) = some (e.con, φ) := fun v hv => by rw [hv, nL_uN]
  rcases hx with hx | hx
  · rw [if_pos hx]
    refine key _ ?_
    clear key
    generalize idN e.con = x1 at *
    generalize adN e.con = x2 at *
    generalize leN e.con = x3 at *
    generalize seN e.con = x4 at *
    generalize kiN e.con = x5 at *
    generalize exN e.con = x6 at *
    generalize urN e.con = x7 at *
    generalize uN e.con = x8 at *
    clear hb h
    omega
  · rw [if_neg (by omega)]
    refine key _ ?_
    clear key
    generalize idN e.con = x1 at *
    generalize adN e.con = x2 at *
    generalize leN e.con = x3 at *
    generalize seN e.con = x4 at *
    generalize kiN e.con = x5 at *
    generalize exN e.con = x6 at *
    generalize urN e.con = x7 at *
    generalize uN e.con = x8 at *
    clear hb h
    omega
