theorem ln_Ref_goR : (parseMethodDescriptor y_Ref_goR.desc).map (fun q => q.parameters.length) = some 2 := by decide +kernel
def f_Ref_goR_L46 (Γ : gm_T)  (φ : ph_T) : Option (Unit × ph_T) :=
  some ((), φ)
set_option maxRecDepth 100000 in
set_option maxHeartbeats 4000000 in
theorem p_Ref_goR_L46 {w : jw_T} (hw : jok w) {Γ : gm_T} {n : Nat} (hG : gd w Γ n)  {x : Bool} {φ : ph_T} {q : Unit × ph_T} (H : f_Ref_goR_L46 Γ  φ  = some q) : J w M_Ref_goR 46 [none, none, none, none] [] (pic Γ φ) n x 0 0 (fq Γ n (.inl none) q.2) := by
  unfold f_Ref_goR_L46 at H
  have H := Option.some.inj H
  subst H
  exact J_vret (st := []) d_Ref_goR_46 rfl ⟨rfl, rfl, rfl⟩
def f_Ref_goR (Γ : gm_T) (φ : ph_T) (this : Nat) (p0 : Int32) (p1 : Int32) : Option (Unit × ph_T) :=
  @ite _ (Γ this = .inr 12) _ (
  Option.bind (f_Ref_monitoredRead Γ φ this p0 p1) fun q2 =>
  if q2.1 = (-1 : Int32) then
    f_Ref_goR_L46 Γ  q2.2 
  else
    Option.bind (q2.2.2.2 this 97) fun a3 =>
    Option.bind (gA Γ a3 0) fun N4 =>
    Option.bind (ix q2.1 N4) fun k5 =>
    Option.bind (gA Γ a3 0) fun N6 =>
    Option.bind (ix q2.1 N6) fun k7 =>
    Option.bind (gA Γ a3 0) fun N8 =>
    Option.bind (ix q2.1 N8) fun k9 =>
    Option.bind (q2.2.2.2 this 96) fun a10 =>
    Option.bind (gA Γ a10 1) fun N11 =>
    Option.bind (ix q2.1 N11) fun k12 =>
    Option.bind (f_Ref_lengthOf Γ (uI q2.2 a3 k7 ((q2.2.1 a3 k5) + (1 : Int32))) (q2.2.2.1 a10 k12)) fun q13 =>
    if ((uI q2.2 a3 k7 ((q2.2.1 a3 k5) + (1 : Int32))).1 a3 k9) = q13.1 then
      Option.bind (f_Ref_dropRead Γ q13.2 this p0 q2.1) fun q14 =>
      f_Ref_goR_L46 Γ  q14.2 
    else
      f_Ref_goR_L46 Γ  q13.2 
  ) none
set_option maxRecDepth 100000 in
set_option maxHeartbeats 4000000 in
theorem p_Ref_goR {w : jw_T} (hw : jok w) {Γ : gm_T} {n : Nat} (hG : gd w Γ n) {x : Bool} {φ : ph_T} {this : Nat} {p0 : Int32} {p1 : Int32} {q : Unit × ph_T} (H : f_Ref_goR Γ φ this p0 p1 = some q) : jc w M_Ref_goR [.ref this, .int p0, .int p1] (pic Γ φ) n x 0 0 (fq Γ n (.inl none) q.2) := by
  refine jc.of (by simp only [jent_r, jent_i, jent_l, jent_a, jent_0]; exact Nat.le_of_ble_eq_true rfl) ?_
  have hls : jents [.ref this, .int p0, .int p1] (jm_nL M_Ref_goR) = [some (.ref this), some (.int p0), some (.int p1), none] := by simp only [jents, jent_r, jent_i, jent_l, jent_a, jent_0]; rfl
  rw [hls]
  clear hls
  unfold f_Ref_goR at H
  refine J_aload_n d_Ref_goR_0 rfl ?_
  refine J_iload_n d_Ref_goR_1 rfl ?_
  refine J_iload_n d_Ref_goR_2 rfl ?_
  have g1 : Γ this = .inr 12 := by
    apply Classical.byContradiction
    intro q9
    rw [if_neg q9] at H
    cases H
  rw [if_pos g1] at H
  obtain ⟨q2, hq2, H⟩ := Option.bind_eq_some_iff.mp H
  refine J_callV (kc := 0) (ks := 0) (kc' := 0) (ks' := 0) (a := this) (ci := 12) (as := [.int p0, .int p1]) (st := []) (mf_Ref_monitoredRead hw) (mv_Ref_425 hw) d_Ref_goR_3 ln_Ref_monitoredRead (by decide) (by first | exact Nat.le_of_ble_eq_true rfl | (simp only [List.map_cons, List.map_nil, List.sum_cons, List.sum_nil, va_rf_cat]; exact Nat.le_of_ble_eq_true rfl)) rfl ((hG _).1 _ g1 (by decide)).1 ((hG _).1 _ g1 (by decide)).2 (by unfold pic; rw [g1]; rfl) (jcl_at hw rfl) rfl (p_Ref_monitoredRead hw hG hq2) ?_ (fun E h' n' x' e1 => by cases e1.1)
  intro v9 h9 n9 x9 e9
  obtain ⟨e91, e92, e93⟩ := e9
  cases e91
  subst e92
  subst e93
  clear x
  rename Bool => x
  show J _ _ _ _ (_ :: _) _ _ _ _ _ _
  refine J_istore_n d_Ref_goR_6 (Nat.le_of_ble_eq_true rfl) ?_
  refine J.ls (ls' := [some (.ref this), some (.int p0), some (.int p1), some (.int q2.1)]) rfl ?_
  refine J_iload_n d_Ref_goR_7 rfl ?_
  refine J_iconst (v := -1) d_Ref_goR_8 (by decide) ?_
  refine J_icmp_eq (tgt := 46) d_Ref_goR_9 (by decide) ?_ ?_
  · intro c16
    rw [if_pos c16] at H
    refine J.drop [false, false, false, false] rfl ?_
    exact p_Ref_goR_L46 hw hG  H
  · intro c16
    rw [if_neg c16] at H
    refine J_aload_n d_Ref_goR_12 rfl ?_
    refine F_getR (ci := 12) (k := 97) hG (cf_Ref hw) (fl_Ref_271 hw) (by decide) (by decide) rfl d_Ref_goR_13 g1 ?_
    refine J_iload_n d_Ref_goR_16 rfl ?_
    refine J_dup2 d_Ref_goR_17 rfl (va_rf_cat _) ?_
    obtain ⟨a3, ha3, H⟩ := Option.bind_eq_some_iff.mp H
    rw [j_rf ha3]
    obtain ⟨N4, hN4, H⟩ := Option.bind_eq_some_iff.mp H
    obtain ⟨k5, hk5, H⟩ := Option.bind_eq_some_iff.mp H
    refine F_iald k5 hw hG d_Ref_goR_18 (gA_some hN4) (ix_some hk5) ?_
    refine J_iconst (v := 1) d_Ref_goR_19 (by decide) ?_
    refine J_iadd d_Ref_goR_20 ?_
    obtain ⟨N6, hN6, H⟩ := Option.bind_eq_some_iff.mp H
    obtain ⟨k7, hk7, H⟩ := Option.bind_eq_some_iff.mp H
    refine F_iast k7 hw hG d_Ref_goR_21 (gA_some hN6) (ix_some hk7) ?_
    refine J_aload_n d_Ref_goR_22 rfl ?_
    refine F_getR (ci := 12) (k := 97) hG (cf_Ref hw) (fl_Ref_271 hw) (by decide) (by decide) rfl d_Ref_goR_23 g1 ?_
    show J _ _ _ _ (va_rf (q2.2.2.2 this 97) :: _) _ _ _ _ _ _
    refine J_iload_n d_Ref_goR_26 rfl ?_
    try rw [j_rf ha3]
    obtain ⟨N8, hN8, H⟩ := Option.bind_eq_some_iff.mp H
    obtain ⟨k9, hk9, H⟩ := Option.bind_eq_some_iff.mp H
    refine F_iald k9 hw hG d_Ref_goR_27 (gA_some hN8) (ix_some hk9) ?_
    refine J_aload_n d_Ref_goR_28 rfl ?_
    refine F_getR (ci := 12) (k := 96) hG (cf_Ref hw) (fl_Ref_268 hw) (by decide) (by decide) rfl d_Ref_goR_29 g1 ?_
    show J _ _ _ _ (va_rf (q2.2.2.2 this 96) :: _) _ _ _ _ _ _
    refine J_iload_n d_Ref_goR_32 rfl ?_
    obtain ⟨a10, ha10, H⟩ := Option.bind_eq_some_iff.mp H
    rw [j_rf ha10]
    obtain ⟨N11, hN11, H⟩ := Option.bind_eq_some_iff.mp H
    obtain ⟨k12, hk12, H⟩ := Option.bind_eq_some_iff.mp H
    refine F_lald k12 hw hG d_Ref_goR_33 (gA_some hN11) (ix_some hk12) ?_
    show J _ _ _ _ (.long (q2.2.2.1 a10 k12) :: _) _ _ _ _ _ _
    obtain ⟨q13, hq13, H⟩ := Option.bind_eq_some_iff.mp H
    refine J_callS (kc := 0) (ks := 0) (kc' := 0) (ks' := 0) (as := [.long (q2.2.2.1 a10 k12)]) (st := [.int ((uI q2.2 a3 k7 ((q2.2.1 a3 k5) + (1 : Int32))).1 a3 k9)]) (mf_Ref_lengthOf hw) (ms_Ref_321 hw) d_Ref_goR_34 ln_Ref_lengthOf (by decide) (by first | exact Nat.le_of_ble_eq_true rfl | (simp only [List.map_cons, List.map_nil, List.sum_cons, List.sum_nil, va_rf_cat]; exact Nat.le_of_ble_eq_true rfl)) rfl (p_Ref_lengthOf hw hG hq13) ?_ (fun E h' n' x' e1 => by cases e1.1)
    intro v9 h9 n9 x9 e9
    obtain ⟨e91, e92, e93⟩ := e9
    cases e91
    subst e92
    subst e93
    clear x
    rename Bool => x
    show J _ _ _ _ (_ :: _) _ _ _ _ _ _
    refine J_icmp_ne (tgt := 46) d_Ref_goR_37 (by decide) ?_ ?_
    · intro c15
      rw [if_neg c15] at H
      refine J.drop [false, false, false, false] rfl ?_
      exact p_Ref_goR_L46 hw hG  H
    · intro c15
      rw [if_pos c15] at H
      refine J_aload_n d_Ref_goR_40 rfl ?_
      refine J_iload_n d_Ref_goR_41 rfl ?_
      refine J_iload_n d_Ref_goR_42 rfl ?_
      obtain ⟨q14, hq14, H⟩ := Option.bind_eq_some_iff.mp H
      refine J_callV (kc := 0) (ks := 0) (kc' := 0) (ks' := 0) (a := this) (ci := 12) (as := [.int p0, .int q2.1]) (st := []) (mf_Ref_dropRead hw) (mv_Ref_431 hw) d_Ref_goR_43 ln_Ref_dropRead (by decide) (by first | exact Nat.le_of_ble_eq_true rfl | (simp only [List.map_cons, List.map_nil, List.sum_cons, List.sum_nil, va_rf_cat]; exact Nat.le_of_ble_eq_true rfl)) rfl ((hG _).1 _ g1 (by decide)).1 ((hG _).1 _ g1 (by decide)).2 (by unfold pic; rw [g1]; rfl) (jcl_at hw rfl) rfl (p_Ref_dropRead hw hG hq14) ?_ (fun E h' n' x' e1 => by cases e1.1)
      intro v9 h9 n9 x9 e9
      obtain ⟨e91, e92, e93⟩ := e9
      cases e91
      subst e92
      subst e93
      clear x
      rename Bool => x
      show J _ _ _ _ [] _ _ _ _ _ _
      refine J.drop [false, false, false, false] rfl ?_
      exact p_Ref_goR_L46 hw hG  H
theorem ln_Ref_goAr : (parseMethodDescriptor y_Ref_goAr.desc).map (fun q => q.parameters.length) = some 2 := by decide +kernel
def f_Ref_goAr (Γ : gm_T) (φ : ph_T) (this : Nat) (p0 : Int32) (p1 : Int64) : Option (Unit × ph_T) :=
  @ite _ (Γ this = .inr 12) _ (
  Option.bind (φ.2.2 this 90) fun a2 =>
  Option.bind (gA Γ a2 0) fun N3 =>
  Option.bind (ix p0 N3) fun k4 =>
  if (φ.1 a2 k4) = (16 : Int32) then
    Option.bind (f_Ref_breakAt Γ φ this p0 (12 : Int32) (3 : Int32)) fun q19 =>
    some ((), q19.2)
  else
    Option.bind (gA Γ a2 0) fun N5 =>
    Option.bind (ix p0 N5) fun k6 =>
    Option.bind (φ.2.2 this 96) fun a7 =>
    Option.bind (gA Γ a7 1) fun N8 =>
    Option.bind (ix (((16 : Int32) * p0) + (φ.1 a2 k6)) N8) fun k9 =>
    Option.bind (gA Γ a2 0) fun N10 =>
    Option.bind (ix p0 N10) fun k11 =>
    Option.bind (φ.2.2 this 97) fun a12 =>
    Option.bind (gA Γ a12 0) fun N13 =>
    Option.bind (ix (((16 : Int32) * p0) + (φ.1 a2 k11)) N13) fun k14 =>
    Option.bind (gA Γ a2 0) fun N15 =>
    Option.bind (ix p0 N15) fun k16 =>
    Option.bind (gA Γ a2 0) fun N17 =>
    Option.bind (ix p0 N17) fun k18 =>
    some ((), (uI (uI (uL φ a7 k9 p1) a12 k14 (0 : Int32)) a2 k18 (((uI (uL φ a7 k9 p1) a12 k14 (0 : Int32)).1 a2 k16) + (1 : Int32))))
  ) none
set_option maxRecDepth 100000 in
set_option maxHeartbeats 4000000 in
theorem p_Ref_goAr {w : jw_T} (hw : jok w) {Γ : gm_T} {n : Nat} (hG : gd w Γ n) {x : Bool} {φ : ph_T} {this : Nat} {p0 : Int32} {p1 : Int64} {q : Unit × ph_T} (H : f_Ref_goAr Γ φ this p0 p1 = some q) : jc w M_Ref_goAr [.ref this, .int p0, .long p1] (pic Γ φ) n x 0 0 (fq Γ n (.inl none) q.2) := by
  refine jc.of (by simp only [jent_r, jent_i, jent_l, jent_a, jent_0]; exact Nat.le_of_ble_eq_true rfl) ?_
  have hls : jents [.ref this, .int p0, .long p1] (jm_nL M_Ref_goAr) = [some (.ref this), some (.int p0), some (.long p1), none] := by simp only [jents, jent_r, jent_i, jent_l, jent_a, jent_0]; rfl
  rw [hls]
  clear hls
  unfold f_Ref_goAr at H
  refine J_aload_n d_Ref_goAr_0 rfl ?_
  have g1 : Γ this = .inr 12 := by
    apply Classical.byContradiction
    intro q9
    rw [if_neg q9] at H
    cases H
  rw [if_pos g1] at H
  refine F_getR (ci := 12) (k := 90) hG (cf_Ref hw) (fl_Ref_250 hw) (by decide) (by decide) rfl d_Ref_goAr_1 g1 ?_
  refine J_iload_n d_Ref_goAr_4 rfl ?_
  obtain ⟨a2, ha2, H⟩ := Option.bind_eq_some_iff.mp H
  rw [j_rf ha2]
  obtain ⟨N3, hN3, H⟩ := Option.bind_eq_some_iff.mp H
  obtain ⟨k4, hk4, H⟩ := Option.bind_eq_some_iff.mp H
  refine F_iald k4 hw hG d_Ref_goAr_5 (gA_some hN3) (ix_some hk4) ?_
  refine J_bipush (v := 16) d_Ref_goAr_6 (by decide) ?_
  refine J_icmp_ne (tgt := 20) d_Ref_goAr_8 (by decide) ?_ ?_
  · intro c20
    rw [if_neg c20] at H
    refine J_aload_n d_Ref_goAr_20 rfl ?_
    refine F_getR (ci := 12) (k := 96) hG (cf_Ref hw) (fl_Ref_268 hw) (by decide) (by decide) rfl d_Ref_goAr_21 g1 ?_
    refine J_bipush (v := 16) d_Ref_goAr_24 (by decide) ?_
    refine J_iload_n d_Ref_goAr_26 rfl ?_
    refine J_imul d_Ref_goAr_27 ?_
    refine J_aload_n d_Ref_goAr_28 rfl ?_
    refine F_getR (ci := 12) (k := 90) hG (cf_Ref hw) (fl_Ref_250 hw) (by decide) (by decide) rfl d_Ref_goAr_29 g1 ?_
    refine J_iload_n d_Ref_goAr_32 rfl ?_
    try rw [j_rf ha2]
    obtain ⟨N5, hN5, H⟩ := Option.bind_eq_some_iff.mp H
    obtain ⟨k6, hk6, H⟩ := Option.bind_eq_some_iff.mp H
    refine F_iald k6 hw hG d_Ref_goAr_33 (gA_some hN5) (ix_some hk6) ?_
    refine J_iadd d_Ref_goAr_34 ?_
    refine J_lload_n d_Ref_goAr_35 rfl ?_
    obtain ⟨a7, ha7, H⟩ := Option.bind_eq_some_iff.mp H
    rw [j_rf ha7]
    obtain ⟨N8, hN8, H⟩ := Option.bind_eq_some_iff.mp H
    obtain ⟨k9, hk9, H⟩ := Option.bind_eq_some_iff.mp H
    refine F_last k9 hw hG d_Ref_goAr_36 (gA_some hN8) (ix_some hk9) ?_
    refine J_aload_n d_Ref_goAr_37 rfl ?_
    refine F_getR (ci := 12) (k := 97) hG (cf_Ref hw) (fl_Ref_271 hw) (by decide) (by decide) rfl d_Ref_goAr_38 g1 ?_
    show J _ _ _ _ (va_rf (φ.2.2 this 97) :: _) _ _ _ _ _ _
    refine J_bipush (v := 16) d_Ref_goAr_41 (by decide) ?_
    refine J_iload_n d_Ref_goAr_43 rfl ?_
    refine J_imul d_Ref_goAr_44 ?_
    refine J_aload_n d_Ref_goAr_45 rfl ?_
    refine F_getR (ci := 12) (k := 90) hG (cf_Ref hw) (fl_Ref_250 hw) (by decide) (by decide) rfl d_Ref_goAr_46 g1 ?_
    show J _ _ _ _ (va_rf (φ.2.2 this 90) :: _) _ _ _ _ _ _
    refine J_iload_n d_Ref_goAr_49 rfl ?_
    try rw [j_rf ha2]
    obtain ⟨N10, hN10, H⟩ := Option.bind_eq_some_iff.mp H
    obtain ⟨k11, hk11, H⟩ := Option.bind_eq_some_iff.mp H
    refine F_iald k11 hw hG d_Ref_goAr_50 (gA_some hN10) (ix_some hk11) ?_
    show J _ _ _ _ (.int (φ.1 a2 k11) :: _) _ _ _ _ _ _
    refine J_iadd d_Ref_goAr_51 ?_
    refine J_iconst (v := 0) d_Ref_goAr_52 (by decide) ?_
    obtain ⟨a12, ha12, H⟩ := Option.bind_eq_some_iff.mp H
    rw [j_rf ha12]
    obtain ⟨N13, hN13, H⟩ := Option.bind_eq_some_iff.mp H
    obtain ⟨k14, hk14, H⟩ := Option.bind_eq_some_iff.mp H
    refine F_iast k14 hw hG d_Ref_goAr_53 (gA_some hN13) (ix_some hk14) ?_
    refine J_aload_n d_Ref_goAr_54 rfl ?_
    refine F_getR (ci := 12) (k := 90) hG (cf_Ref hw) (fl_Ref_250 hw) (by decide) (by decide) rfl d_Ref_goAr_55 g1 ?_
    show J _ _ _ _ (va_rf (φ.2.2 this 90) :: _) _ _ _ _ _ _
    refine J_iload_n d_Ref_goAr_58 rfl ?_
    refine J_dup2 d_Ref_goAr_59 rfl (va_rf_cat _) ?_
    try rw [j_rf ha2]
    obtain ⟨N15, hN15, H⟩ := Option.bind_eq_some_iff.mp H
    obtain ⟨k16, hk16, H⟩ := Option.bind_eq_some_iff.mp H
    refine F_iald k16 hw hG d_Ref_goAr_60 (gA_some hN15) (ix_some hk16) ?_
    refine J_iconst (v := 1) d_Ref_goAr_61 (by decide) ?_
    refine J_iadd d_Ref_goAr_62 ?_
    obtain ⟨N17, hN17, H⟩ := Option.bind_eq_some_iff.mp H
    obtain ⟨k18, hk18, H⟩ := Option.bind_eq_some_iff.mp H
    refine F_iast k18 hw hG d_Ref_goAr_63 (gA_some hN17) (ix_some hk18) ?_
    have H := Option.some.inj H
    subst H
    exact J_vret (st := []) d_Ref_goAr_64 rfl ⟨rfl, rfl, rfl⟩
  · intro c20
    rw [if_pos c20] at H
    refine J_aload_n d_Ref_goAr_11 rfl ?_
    refine J_iload_n d_Ref_goAr_12 rfl ?_
    refine J_bipush (v := 12) d_Ref_goAr_13 (by decide) ?_
    refine J_iconst (v := 3) d_Ref_goAr_15 (by decide) ?_
    obtain ⟨q19, hq19, H⟩ := Option.bind_eq_some_iff.mp H
    refine J_callV (kc := 0) (ks := 0) (kc' := 0) (ks' := 0) (a := this) (ci := 12) (as := [.int p0, .int (12 : Int32), .int (3 : Int32)]) (st := []) (mf_Ref_breakAt hw) (mv_Ref_415 hw) d_Ref_goAr_16 ln_Ref_breakAt (by decide) (by first | exact Nat.le_of_ble_eq_true rfl | (simp only [List.map_cons, List.map_nil, List.sum_cons, List.sum_nil, va_rf_cat]; exact Nat.le_of_ble_eq_true rfl)) rfl ((hG _).1 _ g1 (by decide)).1 ((hG _).1 _ g1 (by decide)).2 (by unfold pic; rw [g1]; rfl) (jcl_at hw rfl) rfl (p_Ref_breakAt hw hG hq19) ?_ (fun E h' n' x' e1 => by cases e1.1)
    intro v9 h9 n9 x9 e9
    obtain ⟨e91, e92, e93⟩ := e9
    cases e91
    subst e92
    subst e93
    clear x
    rename Bool => x
    show J _ _ _ _ [] _ _ _ _ _ _
    have H := Option.some.inj H
    subst H
    exact J_vret (st := []) d_Ref_goAr_19 rfl ⟨rfl, rfl, rfl⟩
theorem ln_Ref_newWrite : (parseMethodDescriptor y_Ref_newWrite.desc).map (fun q => q.parameters.length) = some 2 := by decide +kernel
def f_Ref_newWrite (Γ : gm_T) (φ : ph_T) (this : Nat) (p0 : Int32) (p1 : Int32) : Option (Int32 × ph_T) :=
  @ite _ (Γ this = .inr 12) _ (
  Option.bind (φ.2.2 this 89) fun a2 =>
  Option.bind (gA Γ a2 0) fun N3 =>
  Option.bind (ix p0 N3) fun k4 =>
  if (φ.1 a2 k4) = (16 : Int32) then
    Option.bind (f_Ref_breakAt Γ φ this p0 (12 : Int32) p1) fun q22 =>
    some ((-1 : Int32), q22.2)
  else
    Option.bind (gA Γ a2 0) fun N5 =>
    Option.bind (ix p0 N5) fun k6 =>
    Option.bind (φ.2.2 this 91) fun a7 =>
    Option.bind (gA Γ a7 2) fun N8 =>
    Option.bind (ix (((16 : Int32) * p0) + (φ.1 a2 k6)) N8) fun k9 =>
    @ite _ ((0 : Int32) = 0 ∨ (0 : Int32) = 1) _ (
    Option.bind (φ.2.2 this 93) fun a11 =>
    Option.bind (gA Γ a11 0) fun N12 =>
    Option.bind (ix (((16 : Int32) * p0) + (φ.1 a2 k6)) N12) fun k13 =>
    Option.bind (φ.2.2 this 94) fun a14 =>
    Option.bind (gA Γ a14 2) fun N15 =>
    Option.bind (ix (((16 : Int32) * p0) + (φ.1 a2 k6)) N15) fun k16 =>
    @ite _ ((0 : Int32) = 0 ∨ (0 : Int32) = 1) _ (
    Option.bind (gA Γ a2 0) fun N18 =>
    Option.bind (ix p0 N18) fun k19 =>
    Option.bind (gA Γ a2 0) fun N20 =>
    Option.bind (ix p0 N20) fun k21 =>
    some ((((16 : Int32) * p0) + (φ.1 a2 k6)), (uI (uI (uI (uI φ a7 k9 (0 : Int32)) a11 k13 (0 : Int32)) a14 k16 (0 : Int32)) a2 k21 (((uI (uI (uI φ a7 k9 (0 : Int32)) a11 k13 (0 : Int32)) a14 k16 (0 : Int32)).1 a2 k19) + (1 : Int32))))
    ) none
    ) none
  ) none
set_option maxRecDepth 100000 in
set_option maxHeartbeats 4000000 in
theorem p_Ref_newWrite {w : jw_T} (hw : jok w) {Γ : gm_T} {n : Nat} (hG : gd w Γ n) {x : Bool} {φ : ph_T} {this : Nat} {p0 : Int32} {p1 : Int32} {q : Int32 × ph_T} (H : f_Ref_newWrite Γ φ this p0 p1 = some q) : jc w M_Ref_newWrite [.ref this, .int p0, .int p1] (pic Γ φ) n x 0 0 (fq Γ n (.inl (some (.int q.1))) q.2) := by
  refine jc.of (by simp only [jent_r, jent_i, jent_l, jent_a, jent_0]; exact Nat.le_of_ble_eq_true rfl) ?_
  have hls : jents [.ref this, .int p0, .int p1] (jm_nL M_Ref_newWrite) = [some (.ref this), some (.int p0), some (.int p1), none] := by simp only [jents, jent_r, jent_i, jent_l, jent_a, jent_0]; rfl
  rw [hls]
  clear hls
  unfold f_Ref_newWrite at H
  refine J_aload_n d_Ref_newWrite_0 rfl ?_
  have g1 : Γ this = .inr 12 := by
    apply Classical.byContradiction
    intro q9
    rw [if_neg q9] at H
    cases H
  rw [if_pos g1] at H
  refine F_getR (ci := 12) (k := 89) hG (cf_Ref hw) (fl_Ref_247 hw) (by decide) (by decide) rfl d_Ref_newWrite_1 g1 ?_
  refine J_iload_n d_Ref_newWrite_4 rfl ?_
  obtain ⟨a2, ha2, H⟩ := Option.bind_eq_some_iff.mp H
  rw [j_rf ha2]
  obtain ⟨N3, hN3, H⟩ := Option.bind_eq_some_iff.mp H
  obtain ⟨k4, hk4, H⟩ := Option.bind_eq_some_iff.mp H
  refine F_iald k4 hw hG d_Ref_newWrite_5 (gA_some hN3) (ix_some hk4) ?_
  refine J_bipush (v := 16) d_Ref_newWrite_6 (by decide) ?_
  refine J_icmp_ne (tgt := 21) d_Ref_newWrite_8 (by decide) ?_ ?_
  · intro c23
    rw [if_neg c23] at H
    refine J_bipush (v := 16) d_Ref_newWrite_21 (by decide) ?_
    refine J_iload_n d_Ref_newWrite_23 rfl ?_
    refine J_imul d_Ref_newWrite_24 ?_
    refine J_aload_n d_Ref_newWrite_25 rfl ?_
    refine F_getR (ci := 12) (k := 89) hG (cf_Ref hw) (fl_Ref_247 hw) (by decide) (by decide) rfl d_Ref_newWrite_26 g1 ?_
    refine J_iload_n d_Ref_newWrite_29 rfl ?_
    try rw [j_rf ha2]
    obtain ⟨N5, hN5, H⟩ := Option.bind_eq_some_iff.mp H
    obtain ⟨k6, hk6, H⟩ := Option.bind_eq_some_iff.mp H
    refine F_iald k6 hw hG d_Ref_newWrite_30 (gA_some hN5) (ix_some hk6) ?_
    refine J_iadd d_Ref_newWrite_31 ?_
    refine J_istore_n d_Ref_newWrite_32 (Nat.le_of_ble_eq_true rfl) ?_
    refine J.ls (ls' := [some (.ref this), some (.int p0), some (.int p1), some (.int (((16 : Int32) * p0) + (φ.1 a2 k6)))]) rfl ?_
    refine J_aload_n d_Ref_newWrite_33 rfl ?_
    refine F_getR (ci := 12) (k := 91) hG (cf_Ref hw) (fl_Ref_253 hw) (by decide) (by decide) rfl d_Ref_newWrite_34 g1 ?_
    refine J_iload_n d_Ref_newWrite_37 rfl ?_
    refine J_iconst (v := 0) d_Ref_newWrite_38 (by decide) ?_
    obtain ⟨a7, ha7, H⟩ := Option.bind_eq_some_iff.mp H
    rw [j_rf ha7]
    obtain ⟨N8, hN8, H⟩ := Option.bind_eq_some_iff.mp H
    obtain ⟨k9, hk9, H⟩ := Option.bind_eq_some_iff.mp H
    have z10 : (0 : Int32) = 0 ∨ (0 : Int32) = 1 := by
      apply Classical.byContradiction
      intro q9
      rw [if_neg q9] at H
      cases H
    rw [if_pos z10] at H
    refine F_zast k9 hw hG d_Ref_newWrite_39 (gA_some hN8) (ix_some hk9) z10 ?_
    refine J_aload_n d_Ref_newWrite_40 rfl ?_
    refine F_getR (ci := 12) (k := 93) hG (cf_Ref hw) (fl_Ref_259 hw) (by decide) (by decide) rfl d_Ref_newWrite_41 g1 ?_
    show J _ _ _ _ (va_rf (φ.2.2 this 93) :: _) _ _ _ _ _ _
    refine J_iload_n d_Ref_newWrite_44 rfl ?_
    refine J_iconst (v := 0) d_Ref_newWrite_45 (by decide) ?_
    obtain ⟨a11, ha11, H⟩ := Option.bind_eq_some_iff.mp H
    rw [j_rf ha11]
    obtain ⟨N12, hN12, H⟩ := Option.bind_eq_some_iff.mp H
    obtain ⟨k13, hk13, H⟩ := Option.bind_eq_some_iff.mp H
    refine F_iast k13 hw hG d_Ref_newWrite_46 (gA_some hN12) (ix_some hk13) ?_
    refine J_aload_n d_Ref_newWrite_47 rfl ?_
    refine F_getR (ci := 12) (k := 94) hG (cf_Ref hw) (fl_Ref_262 hw) (by decide) (by decide) rfl d_Ref_newWrite_48 g1 ?_
    show J _ _ _ _ (va_rf (φ.2.2 this 94) :: _) _ _ _ _ _ _
    refine J_iload_n d_Ref_newWrite_51 rfl ?_
    refine J_iconst (v := 0) d_Ref_newWrite_52 (by decide) ?_
    obtain ⟨a14, ha14, H⟩ := Option.bind_eq_some_iff.mp H
    rw [j_rf ha14]
    obtain ⟨N15, hN15, H⟩ := Option.bind_eq_some_iff.mp H
    obtain ⟨k16, hk16, H⟩ := Option.bind_eq_some_iff.mp H
    have z17 : (0 : Int32) = 0 ∨ (0 : Int32) = 1 := by
      apply Classical.byContradiction
      intro q9
      rw [if_neg q9] at H
      cases H
    rw [if_pos z17] at H
    refine F_zast k16 hw hG d_Ref_newWrite_53 (gA_some hN15) (ix_some hk16) z17 ?_
    refine J_aload_n d_Ref_newWrite_54 rfl ?_
    refine F_getR (ci := 12) (k := 89) hG (cf_Ref hw) (fl_Ref_247 hw) (by decide) (by decide) rfl d_Ref_newWrite_55 g1 ?_
    show J _ _ _ _ (va_rf (φ.2.2 this 89) :: _) _ _ _ _ _ _
    refine J_iload_n d_Ref_newWrite_58 rfl ?_
    refine J_dup2 d_Ref_newWrite_59 rfl (va_rf_cat _) ?_
    try rw [j_rf ha2]
    obtain ⟨N18, hN18, H⟩ := Option.bind_eq_some_iff.mp H
    obtain ⟨k19, hk19, H⟩ := Option.bind_eq_some_iff.mp H
    refine F_iald k19 hw hG d_Ref_newWrite_60 (gA_some hN18) (ix_some hk19) ?_
    refine J_iconst (v := 1) d_Ref_newWrite_61 (by decide) ?_
    refine J_iadd d_Ref_newWrite_62 ?_
    obtain ⟨N20, hN20, H⟩ := Option.bind_eq_some_iff.mp H
    obtain ⟨k21, hk21, H⟩ := Option.bind_eq_some_iff.mp H
    refine F_iast k21 hw hG d_Ref_newWrite_63 (gA_some hN20) (ix_some hk21) ?_
    refine J_iload_n d_Ref_newWrite_64 rfl ?_
    have H := Option.some.inj H
    subst H
    exact J_iret (st := []) d_Ref_newWrite_65 rfl rfl ⟨rfl, rfl, rfl⟩
  · intro c23
    rw [if_pos c23] at H
    refine J_aload_n d_Ref_newWrite_11 rfl ?_
    refine J_iload_n d_Ref_newWrite_12 rfl ?_
    refine J_bipush (v := 12) d_Ref_newWrite_13 (by decide) ?_
    refine J_iload_n d_Ref_newWrite_15 rfl ?_
    obtain ⟨q22, hq22, H⟩ := Option.bind_eq_some_iff.mp H
    refine J_callV (kc := 0) (ks := 0) (kc' := 0) (ks' := 0) (a := this) (ci := 12) (as := [.int p0, .int (12 : Int32), .int p1]) (st := []) (mf_Ref_breakAt hw) (mv_Ref_415 hw) d_Ref_newWrite_16 ln_Ref_breakAt (by decide) (by first | exact Nat.le_of_ble_eq_true rfl | (simp only [List.map_cons, List.map_nil, List.sum_cons, List.sum_nil, va_rf_cat]; exact Nat.le_of_ble_eq_true rfl)) rfl ((hG _).1 _ g1 (by decide)).1 ((hG _).1 _ g1 (by decide)).2 (by unfold pic; rw [g1]; rfl) (jcl_at hw rfl) rfl (p_Ref_breakAt hw hG hq22) ?_ (fun E h' n' x' e1 => by cases e1.1)
    intro v9 h9 n9 x9 e9
    obtain ⟨e91, e92, e93⟩ := e9
    cases e91
    subst e92
    subst e93
    clear x
    rename Bool => x
    show J _ _ _ _ [] _ _ _ _ _ _
    refine J_iconst (v := -1) d_Ref_newWrite_19 (by decide) ?_
    have H := Option.some.inj H
    subst H
    exact J_iret (st := []) d_Ref_newWrite_20 rfl rfl ⟨rfl, rfl, rfl⟩
theorem ln_Ref_checkBeat : (parseMethodDescriptor y_Ref_checkBeat.desc).map (fun q => q.parameters.length) = some 4 := by decide +kernel
def f_Ref_checkBeat_L129 (Γ : gm_T)  (φ : ph_T) : Option (Unit × ph_T) :=
  some ((), φ)
set_option maxRecDepth 100000 in
set_option maxHeartbeats 4000000 in
theorem p_Ref_checkBeat_L129 {w : jw_T} (hw : jok w) {Γ : gm_T} {n : Nat} (hG : gd w Γ n)  {x : Bool} {φ : ph_T} {q : Unit × ph_T} (H : f_Ref_checkBeat_L129 Γ  φ  = some q) : J w M_Ref_checkBeat 129 [none, none, none, none, none, none, none, none] [] (pic Γ φ) n x 0 0 (fq Γ n (.inl none) q.2) := by
  unfold f_Ref_checkBeat_L129 at H
  have H := Option.some.inj H
  subst H
  exact J_vret (st := []) d_Ref_checkBeat_129 rfl ⟨rfl, rfl, rfl⟩
def f_Ref_checkBeat_L73 (Γ : gm_T)  (φ : ph_T) (x0 : Nat) (x1 : Int32) (x2 : Int32) (x3 : Int32) (x4 : Int32) : Option (Unit × ph_T) :=
  @ite _ (Γ x0 = .inr 12) _ (
  Option.bind (φ.2.2 x0 92) fun a2 =>
  Option.bind (gA Γ a2 1) fun N3 =>
  Option.bind (ix x2 N3) fun k4 =>
  Option.bind (f_Ref_beatAt Γ φ (φ.2.1 a2 k4) x3) fun q5 =>
  Option.bind (q5.2.2.2 x0 92) fun a6 =>
  Option.bind (gA Γ a6 1) fun N7 =>
  Option.bind (ix x2 N7) fun k8 =>
  Option.bind (f_Ref_sizeOf Γ q5.2 (q5.2.2.1 a6 k8)) fun q9 =>
  Option.bind (f_Ref_lanesOf Γ q9.2 q5.1 q9.1) fun q10 =>
  Option.bind (q10.2.2.2 x0 95) fun a11 =>
  Option.bind (gA Γ a11 0) fun N12 =>
  Option.bind (ix (((16 : Int32) * x2) + x3) N12) fun k13 =>
  if (((q10.2.1 a11 k13) &&& (255 : Int32)) &&& (q10.1 ^^^ (-1 : Int32))) = 0 then
    f_Ref_checkBeat_L129 Γ  q10.2 
  else
    Option.bind (f_Ref_breakAt Γ q10.2 x0 x1 (8 : Int32) x4) fun q14 =>
    f_Ref_checkBeat_L129 Γ  q14.2 
  ) none
set_option maxRecDepth 100000 in
set_option maxHeartbeats 4000000 in
theorem p_Ref_checkBeat_L73 {w : jw_T} (hw : jok w) {Γ : gm_T} {n : Nat} (hG : gd w Γ n)  {x : Bool} {φ : ph_T} {x0 : Nat} {x1 : Int32} {x2 : Int32} {x3 : Int32} {x4 : Int32} {q : Unit × ph_T} (H : f_Ref_checkBeat_L73 Γ  φ x0 x1 x2 x3 x4 = some q) : J w M_Ref_checkBeat 73 [some (.ref x0), some (.int x1), some (.int x2), some (.int x3), some (.int x4), none, none, none] [] (pic Γ φ) n x 0 0 (fq Γ n (.inl none) q.2) := by
  unfold f_Ref_checkBeat_L73 at H
  refine J_aload_n d_Ref_checkBeat_73 rfl ?_
  have g1 : Γ x0 = .inr 12 := by
    apply Classical.byContradiction
    intro q9
    rw [if_neg q9] at H
    cases H
  rw [if_pos g1] at H
  refine F_getR (ci := 12) (k := 92) hG (cf_Ref hw) (fl_Ref_256 hw) (by decide) (by decide) rfl d_Ref_checkBeat_74 g1 ?_
  refine J_iload_n d_Ref_checkBeat_77 rfl ?_
  obtain ⟨a2, ha2, H⟩ := Option.bind_eq_some_iff.mp H
  rw [j_rf ha2]
  obtain ⟨N3, hN3, H⟩ := Option.bind_eq_some_iff.mp H
  obtain ⟨k4, hk4, H⟩ := Option.bind_eq_some_iff.mp H
  refine F_lald k4 hw hG d_Ref_checkBeat_78 (gA_some hN3) (ix_some hk4) ?_
  refine J_iload_n d_Ref_checkBeat_79 rfl ?_
  obtain ⟨q5, hq5, H⟩ := Option.bind_eq_some_iff.mp H
  refine J_callS (kc := 0) (ks := 0) (kc' := 0) (ks' := 0) (as := [.long (φ.2.1 a2 k4), .int x3]) (st := []) (mf_Ref_beatAt hw) (ms_Ref_366 hw) d_Ref_checkBeat_80 ln_Ref_beatAt (by decide) (by first | exact Nat.le_of_ble_eq_true rfl | (simp only [List.map_cons, List.map_nil, List.sum_cons, List.sum_nil, va_rf_cat]; exact Nat.le_of_ble_eq_true rfl)) rfl (p_Ref_beatAt hw hG hq5) ?_ (fun E h' n' x' e1 => by cases e1.1)
  intro v9 h9 n9 x9 e9
  obtain ⟨e91, e92, e93⟩ := e9
  cases e91
  subst e92
  subst e93
  clear x
  rename Bool => x
  show J _ _ _ _ (_ :: _) _ _ _ _ _ _
  refine J_aload_n d_Ref_checkBeat_83 rfl ?_
  refine F_getR (ci := 12) (k := 92) hG (cf_Ref hw) (fl_Ref_256 hw) (by decide) (by decide) rfl d_Ref_checkBeat_84 g1 ?_
  refine J_iload_n d_Ref_checkBeat_87 rfl ?_
  obtain ⟨a6, ha6, H⟩ := Option.bind_eq_some_iff.mp H
  rw [j_rf ha6]
  obtain ⟨N7, hN7, H⟩ := Option.bind_eq_some_iff.mp H
  obtain ⟨k8, hk8, H⟩ := Option.bind_eq_some_iff.mp H
  refine F_lald k8 hw hG d_Ref_checkBeat_88 (gA_some hN7) (ix_some hk8) ?_
  obtain ⟨q9, hq9, H⟩ := Option.bind_eq_some_iff.mp H
  refine J_callS (kc := 0) (ks := 0) (kc' := 0) (ks' := 0) (as := [.long (q5.2.2.1 a6 k8)]) (st := [.int q5.1]) (mf_Ref_sizeOf hw) (ms_Ref_318 hw) d_Ref_checkBeat_89 ln_Ref_sizeOf (by decide) (by first | exact Nat.le_of_ble_eq_true rfl | (simp only [List.map_cons, List.map_nil, List.sum_cons, List.sum_nil, va_rf_cat]; exact Nat.le_of_ble_eq_true rfl)) rfl (p_Ref_sizeOf hw hG hq9) ?_ (fun E h' n' x' e1 => by cases e1.1)
  intro v9 h9 n9 x9 e9
  obtain ⟨e91, e92, e93⟩ := e9
  cases e91
  subst e92
  subst e93
  clear x
  rename Bool => x
  show J _ _ _ _ (_ :: _) _ _ _ _ _ _
  obtain ⟨q10, hq10, H⟩ := Option.bind_eq_some_iff.mp H
  refine J_callS (kc := 0) (ks := 0) (kc' := 0) (ks' := 0) (as := [.int q5.1, .int q9.1]) (st := []) (mf_Ref_lanesOf hw) (ms_Ref_370 hw) d_Ref_checkBeat_92 ln_Ref_lanesOf (by decide) (by first | exact Nat.le_of_ble_eq_true rfl | (simp only [List.map_cons, List.map_nil, List.sum_cons, List.sum_nil, va_rf_cat]; exact Nat.le_of_ble_eq_true rfl)) rfl (p_Ref_lanesOf hw hG hq10) ?_ (fun E h' n' x' e1 => by cases e1.1)
  intro v9 h9 n9 x9 e9
  obtain ⟨e91, e92, e93⟩ := e9
  cases e91
  subst e92
  subst e93
  clear x
  rename Bool => x
  show J _ _ _ _ (_ :: _) _ _ _ _ _ _
  refine J_istore d_Ref_checkBeat_95 (Nat.le_of_ble_eq_true rfl) ?_
  refine J.ls (ls' := [some (.ref x0), some (.int x1), some (.int x2), some (.int x3), some (.int x4), none, none, some (.int q10.1)]) rfl ?_
  refine J_aload_n d_Ref_checkBeat_97 rfl ?_
  refine F_getR (ci := 12) (k := 95) hG (cf_Ref hw) (fl_Ref_265 hw) (by decide) (by decide) rfl d_Ref_checkBeat_98 g1 ?_
  refine J_bipush (v := 16) d_Ref_checkBeat_101 (by decide) ?_
  refine J_iload_n d_Ref_checkBeat_103 rfl ?_
  refine J_imul d_Ref_checkBeat_104 ?_
  refine J_iload_n d_Ref_checkBeat_105 rfl ?_
  refine J_iadd d_Ref_checkBeat_106 ?_
  obtain ⟨a11, ha11, H⟩ := Option.bind_eq_some_iff.mp H
  rw [j_rf ha11]
  obtain ⟨N12, hN12, H⟩ := Option.bind_eq_some_iff.mp H
  obtain ⟨k13, hk13, H⟩ := Option.bind_eq_some_iff.mp H
  refine F_iald k13 hw hG d_Ref_checkBeat_107 (gA_some hN12) (ix_some hk13) ?_
  refine J_sipush (v := 255) d_Ref_checkBeat_108 (by decide) ?_
  refine J_iand d_Ref_checkBeat_111 ?_
  refine J_iload d_Ref_checkBeat_112 rfl ?_
  refine J_iconst (v := -1) d_Ref_checkBeat_114 (by decide) ?_
  refine J_ixor d_Ref_checkBeat_115 ?_
  refine J_iand d_Ref_checkBeat_116 ?_
  refine J_if_eq (tgt := 129) d_Ref_checkBeat_117 (by decide) ?_ ?_
  · intro c15
    rw [if_pos c15] at H
    refine J.drop [false, false, false, false, false, false, false, false] rfl ?_
    exact p_Ref_checkBeat_L129 hw hG  H
  · intro c15
    rw [if_neg c15] at H
    refine J_aload_n d_Ref_checkBeat_120 rfl ?_
    refine J_iload_n d_Ref_checkBeat_121 rfl ?_
    refine J_bipush (v := 8) d_Ref_checkBeat_122 (by decide) ?_
    refine J_iload d_Ref_checkBeat_124 rfl ?_
    obtain ⟨q14, hq14, H⟩ := Option.bind_eq_some_iff.mp H
    refine J_callV (kc := 0) (ks := 0) (kc' := 0) (ks' := 0) (a := x0) (ci := 12) (as := [.int x1, .int (8 : Int32), .int x4]) (st := []) (mf_Ref_breakAt hw) (mv_Ref_415 hw) d_Ref_checkBeat_126 ln_Ref_breakAt (by decide) (by first | exact Nat.le_of_ble_eq_true rfl | (simp only [List.map_cons, List.map_nil, List.sum_cons, List.sum_nil, va_rf_cat]; exact Nat.le_of_ble_eq_true rfl)) rfl ((hG _).1 _ g1 (by decide)).1 ((hG _).1 _ g1 (by decide)).2 (by unfold pic; rw [g1]; rfl) (jcl_at hw rfl) rfl (p_Ref_breakAt hw hG hq14) ?_ (fun E h' n' x' e1 => by cases e1.1)
    intro v9 h9 n9 x9 e9
    obtain ⟨e91, e92, e93⟩ := e9
    cases e91
    subst e92
    subst e93
    clear x
    rename Bool => x
    show J _ _ _ _ [] _ _ _ _ _ _
    refine J.drop [false, false, false, false, false, false, false, false] rfl ?_
    exact p_Ref_checkBeat_L129 hw hG  H
def f_Ref_checkBeat_L63 (Γ : gm_T)  (φ : ph_T) (x0 : Nat) (x1 : Int32) (x4 : Int32) : Option (Unit × ph_T) :=
  @ite _ (Γ x0 = .inr 12) _ (
  Option.bind (f_Ref_breakAt Γ φ x0 x1 (7 : Int32) x4) fun q17 =>
  some ((), q17.2)
  ) none
set_option maxRecDepth 100000 in
set_option maxHeartbeats 4000000 in
theorem p_Ref_checkBeat_L63 {w : jw_T} (hw : jok w) {Γ : gm_T} {n : Nat} (hG : gd w Γ n)  {x : Bool} {φ : ph_T} {x0 : Nat} {x1 : Int32} {x4 : Int32} {q : Unit × ph_T} (H : f_Ref_checkBeat_L63 Γ  φ x0 x1 x4 = some q) : J w M_Ref_checkBeat 63 [some (.ref x0), some (.int x1), none, none, some (.int x4), none, none, none] [] (pic Γ φ) n x 0 0 (fq Γ n (.inl none) q.2) := by
  unfold f_Ref_checkBeat_L63 at H
  refine J_aload_n d_Ref_checkBeat_63 rfl ?_
  refine J_iload_n d_Ref_checkBeat_64 rfl ?_
  refine J_bipush (v := 7) d_Ref_checkBeat_65 (by decide) ?_
  refine J_iload d_Ref_checkBeat_67 rfl ?_
  have g16 : Γ x0 = .inr 12 := by
    apply Classical.byContradiction
    intro q9
    rw [if_neg q9] at H
    cases H
  rw [if_pos g16] at H
  obtain ⟨q17, hq17, H⟩ := Option.bind_eq_some_iff.mp H
  refine J_callV (kc := 0) (ks := 0) (kc' := 0) (ks' := 0) (a := x0) (ci := 12) (as := [.int x1, .int (7 : Int32), .int x4]) (st := []) (mf_Ref_breakAt hw) (mv_Ref_415 hw) d_Ref_checkBeat_69 ln_Ref_breakAt (by decide) (by first | exact Nat.le_of_ble_eq_true rfl | (simp only [List.map_cons, List.map_nil, List.sum_cons, List.sum_nil, va_rf_cat]; exact Nat.le_of_ble_eq_true rfl)) rfl ((hG _).1 _ g16 (by decide)).1 ((hG _).1 _ g16 (by decide)).2 (by unfold pic; rw [g16]; rfl) (jcl_at hw rfl) rfl (p_Ref_breakAt hw hG hq17) ?_ (fun E h' n' x' e1 => by cases e1.1)
  intro v9 h9 n9 x9 e9
  obtain ⟨e91, e92, e93⟩ := e9
  cases e91
  subst e92
  subst e93
  clear x
  rename Bool => x
  show J _ _ _ _ [] _ _ _ _ _ _
  have H := Option.some.inj H
  subst H
  exact J_vret (st := []) d_Ref_checkBeat_72 rfl ⟨rfl, rfl, rfl⟩
def f_Ref_checkBeat_L34 (Γ : gm_T)  (φ : ph_T) (x0 : Nat) (x1 : Int32) (x2 : Int32) (x3 : Int32) (x4 : Int32) (x5 : Int32) (y0 : Int32) : Option (Unit × ph_T) :=
  if x3 = (x5 - (1 : Int32)) then
    if y0 = 0 then
      f_Ref_checkBeat_L63 Γ  φ x0 x1 x4
    else
      f_Ref_checkBeat_L73 Γ  φ x0 x1 x2 x3 x4
  else
    if y0 = 0 then
      if x3 < x5 then
        f_Ref_checkBeat_L73 Γ  φ x0 x1 x2 x3 x4
      else
        f_Ref_checkBeat_L63 Γ  φ x0 x1 x4
    else
      f_Ref_checkBeat_L63 Γ  φ x0 x1 x4
set_option maxRecDepth 100000 in
set_option maxHeartbeats 4000000 in
theorem p_Ref_checkBeat_L34 {w : jw_T} (hw : jok w) {Γ : gm_T} {n : Nat} (hG : gd w Γ n)  {x : Bool} {φ : ph_T} {x0 : Nat} {x1 : Int32} {x2 : Int32} {x3 : Int32} {x4 : Int32} {x5 : Int32} {y0 : Int32} {q : Unit × ph_T} (H : f_Ref_checkBeat_L34 Γ  φ x0 x1 x2 x3 x4 x5 y0 = some q) : J w M_Ref_checkBeat 34 [some (.ref x0), some (.int x1), some (.int x2), some (.int x3), some (.int x4), some (.int x5), none, none] [.int y0] (pic Γ φ) n x 0 0 (fq Γ n (.inl none) q.2) := by
  unfold f_Ref_checkBeat_L34 at H
  refine J_istore d_Ref_checkBeat_34 (Nat.le_of_ble_eq_true rfl) ?_
  refine J.ls (ls' := [some (.ref x0), some (.int x1), some (.int x2), some (.int x3), some (.int x4), some (.int x5), some (.int y0), none]) rfl ?_
  refine J_iload_n d_Ref_checkBeat_36 rfl ?_
  refine J_iload d_Ref_checkBeat_37 rfl ?_
  refine J_iconst (v := 1) d_Ref_checkBeat_39 (by decide) ?_
  refine J_isub d_Ref_checkBeat_40 ?_
  refine J_icmp_ne (tgt := 52) d_Ref_checkBeat_41 (by decide) ?_ ?_
  · intro c21
    rw [if_neg c21] at H
    refine J_iload d_Ref_checkBeat_52 rfl ?_
    refine J_if_ne (tgt := 63) d_Ref_checkBeat_54 (by decide) ?_ ?_
    · intro c19
      rw [if_neg c19] at H
      refine J.drop [true, true, false, false, true, false, false, false] rfl ?_
      exact p_Ref_checkBeat_L63 hw hG  H
    · intro c19
      rw [if_pos c19] at H
      refine J_iload_n d_Ref_checkBeat_57 rfl ?_
      refine J_iload d_Ref_checkBeat_58 rfl ?_
      refine J_icmp_lt (tgt := 73) d_Ref_checkBeat_60 (by decide) ?_ ?_
      · intro c18
        rw [if_pos c18] at H
        refine J.drop [true, true, true, true, true, false, false, false] rfl ?_
        exact p_Ref_checkBeat_L73 hw hG  H
      · intro c18
        rw [if_neg c18] at H
        refine J.drop [true, true, false, false, true, false, false, false] rfl ?_
        exact p_Ref_checkBeat_L63 hw hG  H
  · intro c21
    rw [if_pos c21] at H
    refine J_iload d_Ref_checkBeat_44 rfl ?_
    refine J_if_ne (tgt := 73) d_Ref_checkBeat_46 (by decide) ?_ ?_
    · intro c20
      rw [if_neg c20] at H
      refine J.drop [true, true, true, true, true, false, false, false] rfl ?_
      exact p_Ref_checkBeat_L73 hw hG  H
    · intro c20
      rw [if_pos c20] at H
      refine J_goto (tgt := 63) d_Ref_checkBeat_49 (by decide) ?_
      refine J.drop [true, true, false, false, true, false, false, false] rfl ?_
      exact p_Ref_checkBeat_L63 hw hG  H
def f_Ref_checkBeat (Γ : gm_T) (φ : ph_T) (this : Nat) (p0 : Int32) (p1 : Int32) (p2 : Int32) (p3 : Int32) : Option (Unit × ph_T) :=
  @ite _ (Γ this = .inr 12) _ (
  Option.bind (φ.2.2 this 92) fun a23 =>
  Option.bind (gA Γ a23 1) fun N24 =>
  Option.bind (ix p1 N24) fun k25 =>
  Option.bind (f_Ref_lengthOf Γ φ (φ.2.1 a23 k25)) fun q26 =>
  Option.bind (q26.2.2.2 this 95) fun a27 =>
  Option.bind (gA Γ a27 0) fun N28 =>
  Option.bind (ix (((16 : Int32) * p1) + p2) N28) fun k29 =>
  if ((q26.2.1 a27 k29) &&& (256 : Int32)) = 0 then
    f_Ref_checkBeat_L34 Γ  q26.2 this p0 p1 p2 p3 q26.1 (0 : Int32)
  else
    f_Ref_checkBeat_L34 Γ  q26.2 this p0 p1 p2 p3 q26.1 (1 : Int32)
  ) none
set_option maxRecDepth 100000 in
set_option maxHeartbeats 4000000 in
theorem p_Ref_checkBeat {w : jw_T} (hw : jok w) {Γ : gm_T} {n : Nat} (hG : gd w Γ n) {x : Bool} {φ : ph_T} {this : Nat} {p0 : Int32} {p1 : Int32} {p2 : Int32} {p3 : Int32} {q : Unit × ph_T} (H : f_Ref_checkBeat Γ φ this p0 p1 p2 p3 = some q) : jc w M_Ref_checkBeat [.ref this, .int p0, .int p1, .int p2, .int p3] (pic Γ φ) n x 0 0 (fq Γ n (.inl none) q.2) := by
  refine jc.of (by simp only [jent_r, jent_i, jent_l, jent_a, jent_0]; exact Nat.le_of_ble_eq_true rfl) ?_
  have hls : jents [.ref this, .int p0, .int p1, .int p2, .int p3] (jm_nL M_Ref_checkBeat) = [some (.ref this), some (.int p0), some (.int p1), some (.int p2), some (.int p3), none, none, none] := by simp only [jents, jent_r, jent_i, jent_l, jent_a, jent_0]; rfl
  rw [hls]
  clear hls
  unfold f_Ref_checkBeat at H
  refine J_aload_n d_Ref_checkBeat_0 rfl ?_
  have g22 : Γ this = .inr 12 := by
    apply Classical.byContradiction
    intro q9
    rw [if_neg q9] at H
    cases H
  rw [if_pos g22] at H
  refine F_getR (ci := 12) (k := 92) hG (cf_Ref hw) (fl_Ref_256 hw) (by decide) (by decide) rfl d_Ref_checkBeat_1 g22 ?_
  refine J_iload_n d_Ref_checkBeat_4 rfl ?_
  obtain ⟨a23, ha23, H⟩ := Option.bind_eq_some_iff.mp H
  rw [j_rf ha23]
  obtain ⟨N24, hN24, H⟩ := Option.bind_eq_some_iff.mp H
  obtain ⟨k25, hk25, H⟩ := Option.bind_eq_some_iff.mp H
  refine F_lald k25 hw hG d_Ref_checkBeat_5 (gA_some hN24) (ix_some hk25) ?_
  obtain ⟨q26, hq26, H⟩ := Option.bind_eq_some_iff.mp H
  refine J_callS (kc := 0) (ks := 0) (kc' := 0) (ks' := 0) (as := [.long (φ.2.1 a23 k25)]) (st := []) (mf_Ref_lengthOf hw) (ms_Ref_321 hw) d_Ref_checkBeat_6 ln_Ref_lengthOf (by decide) (by first | exact Nat.le_of_ble_eq_true rfl | (simp only [List.map_cons, List.map_nil, List.sum_cons, List.sum_nil, va_rf_cat]; exact Nat.le_of_ble_eq_true rfl)) rfl (p_Ref_lengthOf hw hG hq26) ?_ (fun E h' n' x' e1 => by cases e1.1)
  intro v9 h9 n9 x9 e9
  obtain ⟨e91, e92, e93⟩ := e9
  cases e91
  subst e92
  subst e93
  clear x
  rename Bool => x
  show J _ _ _ _ (_ :: _) _ _ _ _ _ _
  refine J_istore d_Ref_checkBeat_9 (Nat.le_of_ble_eq_true rfl) ?_
  refine J.ls (ls' := [some (.ref this), some (.int p0), some (.int p1), some (.int p2), some (.int p3), some (.int q26.1), none, none]) rfl ?_
  refine J_aload_n d_Ref_checkBeat_11 rfl ?_
  refine F_getR (ci := 12) (k := 95) hG (cf_Ref hw) (fl_Ref_265 hw) (by decide) (by decide) rfl d_Ref_checkBeat_12 g22 ?_
  refine J_bipush (v := 16) d_Ref_checkBeat_15 (by decide) ?_
  refine J_iload_n d_Ref_checkBeat_17 rfl ?_
  refine J_imul d_Ref_checkBeat_18 ?_
  refine J_iload_n d_Ref_checkBeat_19 rfl ?_
  refine J_iadd d_Ref_checkBeat_20 ?_
  obtain ⟨a27, ha27, H⟩ := Option.bind_eq_some_iff.mp H
  rw [j_rf ha27]
  obtain ⟨N28, hN28, H⟩ := Option.bind_eq_some_iff.mp H
  obtain ⟨k29, hk29, H⟩ := Option.bind_eq_some_iff.mp H
  refine F_iald k29 hw hG d_Ref_checkBeat_21 (gA_some hN28) (ix_some hk29) ?_
  refine J_sipush (v := 256) d_Ref_checkBeat_22 (by decide) ?_
  refine J_iand d_Ref_checkBeat_25 ?_
  refine J_if_eq (tgt := 33) d_Ref_checkBeat_26 (by decide) ?_ ?_
  · intro c30
    rw [if_pos c30] at H
    refine J_iconst (v := 0) d_Ref_checkBeat_33 (by decide) ?_
    refine J.drop [true, true, true, true, true, true, false, false] rfl ?_
    exact p_Ref_checkBeat_L34 hw hG  H
  · intro c30
    rw [if_neg c30] at H
    refine J_iconst (v := 1) d_Ref_checkBeat_29 (by decide) ?_
    refine J_goto (tgt := 34) d_Ref_checkBeat_30 (by decide) ?_
    refine J.drop [true, true, true, true, true, true, false, false] rfl ?_
    exact p_Ref_checkBeat_L34 hw hG  H
