/-! THE LAW's BEGINNING: two objects and an array; then its loop. LawF is what is left: of functions alone. -/
def celF (L : Nat) (xs : Nat → Int32) (k : Int32) : Option Int32 := if nI L ≤ k then some 0 else Option.bind (ix k L) fun j => some (xs j)
def g0 : gm_T := fun _ => .inr 13
def φ0 : ph_T := (fun _ _ => 0, fun _ _ => 0, fun _ _ => none)
def lawS (L : Nat) (xs : Nat → Int32) (z : Nat) : Option (mq_T (Nat × Nat)) :=
  Option.bind (celF L xs 0) fun c0 =>
  Option.bind (celF L xs 1) fun c1 =>
  Option.bind (celF L xs 2) fun c2 =>
  mN g0 φ0 z 11 fun Γ1 φ1 n1 =>
  mB (f_Bus_init Γ1 φ1 n1 z c0 c1 c2) fun _ Γ2 φ2 n2 =>
  mN Γ2 φ2 n2 12 fun Γ3 φ3 n3 =>
  mB (f_Ref_init Γ3 φ3 n3 n2 c0 c1 c2) fun _ Γ4 φ4 n4 =>
  mR Γ4 φ4 n4 1 1 fun Γ5 φ5 n5 =>
  some ((n2, n4), (Γ5, φ5, n5), (0, 0))
def LawF : Prop := ∀ (z L : Nat) (xs : Nat → Int32), L ≤ 3587 → ∃ q, lawS L xs z = some q ∧ q.2.2.1 ≤ 600000 ∧ q.2.2.2 ≤ 7289000 ∧ ∃ φ', f_Law_law_L53 q.2.1.1 L xs 514 q.2.1.2.1 z q.1.1 q.1.2 3 = some (1, φ')
/-- what the law's walk owes -/
def LawOk : Prop := ∀ (w : jw_T), jok w → jw_L w ≤ 3587 → J w M_Law_law 0 (jents [.ref (jw_b w)] 8) [] (pic g0 φ0) (jw_z w) true 601024 7293000 (fun r _ _ _ => r = .inl (some (.int 1)))
theorem p_cell {w : jw_T} (hw : jok w) {L : Nat} {xs : Nat → Int32} (hL : jw_L w = L) (hxs : jw_xs w = xs) {h : jh_T} {n : Nat} {k v : Int32} (H : celF L xs k = some v) : jc w M_Law_cell [.ref (jw_b w), .int k] h n true 0 0 (fun r h' n' x' => r = .inl (some (.int v)) ∧ h' = h ∧ n' = n ∧ x' = true) := by
  refine jc.of (by simp only [jent_r, jent_i, jent_l, jent_a, jent_0]; exact Nat.le_of_ble_eq_true rfl) ?_
  have hls : jents [.ref (jw_b w), .int k] (jm_nL M_Law_cell) = [some (.ref (jw_b w)), some (.int k)] := by simp only [jents, jent_r, jent_i, jent_l, jent_a, jent_0]; rfl
  rw [hls]
  clear hls
  unfold celF at H
  refine J_iload_n d_Law_cell_0 rfl ?_
  refine J_aload_n d_Law_cell_1 rfl ?_
  refine J_slen (v := nI L) d_Law_cell_2 (by rw [hL]) ?_
  refine J_icmp_ge (tgt := 12) d_Law_cell_3 (by decide) ?_ ?_
  · intro c5
    rw [if_pos c5] at H
    refine J_iconst (v := 0) d_Law_cell_12 (by decide) ?_
    have H := Option.some.inj H
    subst H
    exact J_iret (st := []) d_Law_cell_13 rfl rfl ⟨rfl, rfl, rfl, rfl⟩
  · intro c5
    rw [if_neg c5] at H
    refine J_aload_n d_Law_cell_6 rfl ?_
    refine J_iload_n d_Law_cell_7 rfl ?_
    obtain ⟨k4, hk4, H⟩ := Option.bind_eq_some_iff.mp H
    refine J_sldx hL hxs k4 d_Law_cell_8 (ix_some hk4) ?_
    refine J_goto (tgt := 13) d_Law_cell_9 (by decide) ?_
    have H := Option.some.inj H
    subst H
    exact J_iret (st := []) d_Law_cell_13 rfl rfl ⟨rfl, rfl, rfl, rfl⟩
theorem J_newO {w : jw_T} {M : jm_T} {pc : Nat} {ls : jl_T} {st : List Value} {Γ : gm_T} {φ : ph_T} {n : Nat} {kc ks : Nat} {Q : jr_T → jh_T → Nat → Bool → Prop} {idx ci : Nat} {C : String} {T : u_T} (hc : jcf w ci C T (fN ci) (fty ci)) (hcl : Cond.classLink (jm_own M) idx C ∈ jw_Ts w) (hins : Cond.instantiable C (fN ci) ∈ jw_Ts w) (hini : Cond.initialized C ∈ jw_Ts w) (d : decode (jm_cod M) pc = .ok (.new idx, 3)) (hdv : (List.range (fN ci)).all (fun j => okty (fty ci j)) = true)
    (kk : J w M (pc + 3) ls (.ref n :: st) (pic (va_up Γ n (.inr ci)) (m0 φ n)) (n + 1) true kc ks Q) : J w M pc ls st (pic Γ φ) n true (kc + 1) (ks + fN ci) Q := by
  refine J_new (xx := true) (fs := (List.range (fN ci)).map (pf (m0 φ n) n ci)) hc hcl hins hini d (fun j hj => ?_) ?_
  · rw [dv_ok hdv j hj]
    unfold vp_V
    rw [List.getD_eq_getElem?_getD, flds_at hj]
    rfl
  · rw [pic_new (φ := φ) (g := .inr ci) (e := .inr (ci, (List.range (fN ci)).map (pf (m0 φ n) n ci))) rfl]
    exact kk
set_option maxRecDepth 100000 in
set_option maxHeartbeats 8000000 in
theorem lawOk (hF : LawF) : LawOk := by
  intro w hw hL
  obtain ⟨q, hq, hc, hs, φ', hf⟩ := hF (jw_z w) (jw_L w) (jw_xs w) hL
  unfold lawS at hq
  obtain ⟨c0, hc0, hq⟩ := Option.bind_eq_some_iff.mp hq
  obtain ⟨c1, hc1, hq⟩ := Option.bind_eq_some_iff.mp hq
  obtain ⟨c2, hc2, hq⟩ := Option.bind_eq_some_iff.mp hq
  have z0 : gz w g0 (jw_z w) := ⟨fun a => ⟨fun ci h1 h2 => by cases h1; omega, fun t N h1 => by cases h1⟩, Nat.le_refl _⟩
  obtain ⟨q1, hq1, e1⟩ := mA_some hq
  obtain ⟨v2, Γ2, φ2, n2, k2, s2, q2, hb, hq2, e2⟩ := mB_some hq1
  obtain ⟨q3, hq3, e3⟩ := mA_some hq2
  obtain ⟨v4, Γ4, φ4, n4, k4, s4, q4, hr, hq4, e4⟩ := mB_some hq3
  unfold mR at hq4
  rw [if_neg (by decide)] at hq4
  obtain ⟨q5, hq5, e5⟩ := mA_some hq4
  have e6 := Option.some.inj hq5
  subst e6
  subst e5
  subst e4
  subst e3
  subst e2
  subst e1
  have hc' : 1 + (k2 + (1 + (k4 + (1 + 0)))) ≤ 600000 := hc
  have hs' : 10 + (s2 + (102 + (s4 + (1 + 0)))) ≤ 7289000 := hs
  clear hc hs hq hq1 hq2 hq3 hq4 hq5
  have hls : jents [.ref (jw_b w)] 8 = [some (.ref (jw_b w)), none, none, none, none, none, none, none] := by simp only [jents, jent_r, jent_i, jent_l, jent_a, jent_0]; rfl
  rw [hls]
  clear hls
  refine J.more (kc := (k2 + ((k4 + (514 + 1)) + 1)) + 1) (ks := (s2 + ((s4 + (6 * 514 + 1)) + fN 12)) + fN 11) (by omega) (by show (s2 + ((s4 + (6 * 514 + 1)) + 102)) + 10 ≤ 7293000; omega) ?_
  refine J_newO (cf_Bus hw) (tb1 hw (i := 25) (by decide +kernel)) (tb1 hw (i := 26) (by decide +kernel)) (tb1 hw (i := 1) (by decide +kernel)) d_Law_law_0 dv_Bus ?_
  have z1 := z0.obj (ci := 11)
  refine J_dup d_Law_law_3 rfl ?_
  refine J_aload_n d_Law_law_4 rfl ?_
  refine J_iconst (v := 0) d_Law_law_5 (by decide) ?_
  refine J.kk (Nat.zero_add _) (Nat.zero_add _) ?_
  refine J_callS (kc' := 0) (ks' := 0) (as := [.ref (jw_b w), .int 0]) (st := [.ref (jw_z w), .ref (jw_z w)]) (mf_Law_cell hw) (ms_Law_102 hw) d_Law_law_6 ln_Law_cell (by decide) (by exact Nat.le_of_ble_eq_true rfl) rfl (p_cell hw rfl rfl hc0) ?_ (fun E9 h9 n9 x9 e9 => by cases e9.1)
  intro v9 h9 n9 x9 e9
  obtain ⟨e91, e92, e93, e94⟩ := e9
  cases e91
  subst e92
  subst e94
  subst e93
  show J _ _ _ _ (_ :: _) _ _ _ _ _ _
  refine J_aload_n d_Law_law_9 rfl ?_
  refine J_iconst (v := 1) d_Law_law_10 (by decide) ?_
  refine J.kk (Nat.zero_add _) (Nat.zero_add _) ?_
  refine J_callS (kc' := 0) (ks' := 0) (as := [.ref (jw_b w), .int 1]) (st := [.int c0, .ref (jw_z w), .ref (jw_z w)]) (mf_Law_cell hw) (ms_Law_102 hw) d_Law_law_11 ln_Law_cell (by decide) (by exact Nat.le_of_ble_eq_true rfl) rfl (p_cell hw rfl rfl hc1) ?_ (fun E9 h9 n9 x9 e9 => by cases e9.1)
  intro v9 h9 n9 x9 e9
  obtain ⟨e91, e92, e93, e94⟩ := e9
  cases e91
  subst e92
  subst e94
  subst e93
  show J _ _ _ _ (_ :: _) _ _ _ _ _ _
  refine J_aload_n d_Law_law_14 rfl ?_
  refine J_iconst (v := 2) d_Law_law_15 (by decide) ?_
  refine J.kk (Nat.zero_add _) (Nat.zero_add _) ?_
  refine J_callS (kc' := 0) (ks' := 0) (as := [.ref (jw_b w), .int 2]) (st := [.int c1, .int c0, .ref (jw_z w), .ref (jw_z w)]) (mf_Law_cell hw) (ms_Law_102 hw) d_Law_law_16 ln_Law_cell (by decide) (by exact Nat.le_of_ble_eq_true rfl) rfl (p_cell hw rfl rfl hc2) ?_ (fun E9 h9 n9 x9 e9 => by cases e9.1)
  intro v9 h9 n9 x9 e9
  obtain ⟨e91, e92, e93, e94⟩ := e9
  cases e91
  subst e92
  subst e94
  subst e93
  show J _ _ _ _ (_ :: _) _ _ _ _ _ _
  refine J_callI (kc := (k4 + (514 + 1)) + 1) (ks := (s4 + (6 * 514 + 1)) + fN 12) (kc' := k2) (ks' := s2) (a := jw_z w) (as := [.int c0, .int c1, .int c2]) (st := [.ref (jw_z w)]) (mf_Bus_init hw) rfl rfl (mi_Law_108 hw) rfl (tb1 hw (i := 29) rfl) d_Law_law_19 ln_Bus_init (by decide) (by exact Nat.le_of_ble_eq_true rfl) rfl (p_Bus_init hw z1 hb) ?_ (fun E9 h9 n9 x9 e9 => by cases e9.1)
  intro v9 h9 n9 x9 e9
  obtain ⟨e91, e92, e93, e94, z2⟩ := e9
  cases e91
  subst e92
  have e95 : n2 = n9 := e93.symm
  subst e95
  subst e94
  show J _ _ _ _ [.ref (jw_z w)] (pic Γ2 φ2) n2 true _ _ _
  have z2 : gz w Γ2 n2 := z2
  refine J_astore_n d_Law_law_22 (Nat.le_of_ble_eq_true rfl) ?_
  refine J.ls (ls' := [some (.ref (jw_b w)), some (.ref (jw_z w)), none, none, none, none, none, none]) rfl ?_
  refine J_newO (cf_Ref hw) (tb6 hw (i := 217) (by decide +kernel)) (tb6 hw (i := 218) (by decide +kernel)) (tb1 hw (i := 15) (by decide +kernel)) d_Law_law_23 dv_Ref ?_
  have z3 := z2.obj (ci := 12)
  refine J_dup d_Law_law_26 rfl ?_
  refine J_aload_n d_Law_law_27 rfl ?_
  refine J_iconst (v := 0) d_Law_law_28 (by decide) ?_
  refine J.kk (Nat.zero_add _) (Nat.zero_add _) ?_
  refine J_callS (kc' := 0) (ks' := 0) (as := [.ref (jw_b w), .int 0]) (st := [.ref n2, .ref n2]) (mf_Law_cell hw) (ms_Law_102 hw) d_Law_law_29 ln_Law_cell (by decide) (by exact Nat.le_of_ble_eq_true rfl) rfl (p_cell hw rfl rfl hc0) ?_ (fun E9 h9 n9 x9 e9 => by cases e9.1)
  intro v9 h9 n9 x9 e9
  obtain ⟨e91, e92, e93, e94⟩ := e9
  cases e91
  subst e92
  subst e94
  subst e93
  show J _ _ _ _ (_ :: _) _ _ _ _ _ _
  refine J_aload_n d_Law_law_32 rfl ?_
  refine J_iconst (v := 1) d_Law_law_33 (by decide) ?_
  refine J.kk (Nat.zero_add _) (Nat.zero_add _) ?_
  refine J_callS (kc' := 0) (ks' := 0) (as := [.ref (jw_b w), .int 1]) (st := [.int c0, .ref n2, .ref n2]) (mf_Law_cell hw) (ms_Law_102 hw) d_Law_law_34 ln_Law_cell (by decide) (by exact Nat.le_of_ble_eq_true rfl) rfl (p_cell hw rfl rfl hc1) ?_ (fun E9 h9 n9 x9 e9 => by cases e9.1)
  intro v9 h9 n9 x9 e9
  obtain ⟨e91, e92, e93, e94⟩ := e9
  cases e91
  subst e92
  subst e94
  subst e93
  show J _ _ _ _ (_ :: _) _ _ _ _ _ _
  refine J_aload_n d_Law_law_37 rfl ?_
  refine J_iconst (v := 2) d_Law_law_38 (by decide) ?_
  refine J.kk (Nat.zero_add _) (Nat.zero_add _) ?_
  refine J_callS (kc' := 0) (ks' := 0) (as := [.ref (jw_b w), .int 2]) (st := [.int c1, .int c0, .ref n2, .ref n2]) (mf_Law_cell hw) (ms_Law_102 hw) d_Law_law_39 ln_Law_cell (by decide) (by exact Nat.le_of_ble_eq_true rfl) rfl (p_cell hw rfl rfl hc2) ?_ (fun E9 h9 n9 x9 e9 => by cases e9.1)
  intro v9 h9 n9 x9 e9
  obtain ⟨e91, e92, e93, e94⟩ := e9
  cases e91
  subst e92
  subst e94
  subst e93
  show J _ _ _ _ (_ :: _) _ _ _ _ _ _
  refine J_callI (kc := 514 + 1) (ks := 6 * 514 + 1) (kc' := k4) (ks' := s4) (a := n2) (as := [.int c0, .int c1, .int c2]) (st := [.ref n2]) (mf_Ref_init hw) rfl rfl (mi_Law_113 hw) rfl (tb6 hw (i := 221) rfl) d_Law_law_42 ln_Ref_init (by decide) (by exact Nat.le_of_ble_eq_true rfl) rfl (p_Ref_init hw z3 hr) ?_ (fun E9 h9 n9 x9 e9 => by cases e9.1)
  intro v9 h9 n9 x9 e9
  obtain ⟨e91, e92, e93, e94, z4⟩ := e9
  cases e91
  subst e92
  have e95 : n4 = n9 := e93.symm
  subst e95
  subst e94
  show J _ _ _ _ [.ref n2] (pic Γ4 φ4) n4 true _ _ _
  have z4 : gz w Γ4 n4 := z4
  refine J_astore_n d_Law_law_45 (Nat.le_of_ble_eq_true rfl) ?_
  refine J.ls (ls' := [some (.ref (jw_b w)), some (.ref (jw_z w)), some (.ref n2), none, none, none, none, none]) rfl ?_
  refine J_iconst (v := 1) d_Law_law_46 (by decide) ?_
  refine J_newa (xx := true) (t := 1) (N := 1) (ty := .long) (y := (1, .inr (.inl (fun _ => 0)))) (jty_at hw rfl) rfl (fun C h9 => by cases h9) (tb1 hw (i := 55) (by decide +kernel)) d_Law_law_47 (fun cA => rfl) (by decide) (by decide) (by decide) ?_
  rw [pic_new (φ := φ4) (g := .inl (1, 1)) (by simp [pcell, pa, m0, va_up_self])]
  have z5 : gz w (va_up Γ4 n4 (.inl (1, 1))) (n4 + 1) := z4.arr (by decide)
  refine J_astore_n d_Law_law_49 (Nat.le_of_ble_eq_true rfl) ?_
  refine J.ls (ls' := [some (.ref (jw_b w)), some (.ref (jw_z w)), some (.ref n2), some (.ref n4), none, none, none, none]) rfl ?_
  refine J_iconst (v := 3) d_Law_law_50 (by decide) ?_
  refine J_istore d_Law_law_51 (Nat.le_of_ble_eq_true rfl) ?_
  refine J.ls (ls' := [some (.ref (jw_b w)), some (.ref (jw_z w)), some (.ref n2), some (.ref n4), some (.int 3), none, none, none]) rfl ?_
  have h9 := p_Law_law_L53 hw z5.1 (L := jw_L w) (xs := jw_xs w) rfl rfl 514 (x := true) hf
  exact J.mono (fun r h n x hq9 => hq9.1) h9
