theorem ln_Line_remove : (parseMethodDescriptor y_Line_remove.desc).map (fun q => q.parameters.length) = some 1 := by decide +kernel
def f_Line_remove_L24 (Γ : gm_T)  : Nat → ph_T → Nat → Option Nat → Int32 → Option (Unit × ph_T)
  | 0, _, _, _, _ => none
  | fu + 1, φ, x0, x2, x3 =>
    @ite _ (Γ x0 = .inr 1) _ (
    if (φ.1 x0 1) ≤ x3 then
      Option.bind x2 fun b2 =>
      Option.bind (φ.2.2 x0 0) fun a3 =>
      Option.bind (gA Γ a3 5) fun N4 =>
      Option.bind (ix ((uI φ x0 1 ((φ.1 x0 1) - (1 : Int32))).1 x0 1) N4) fun k5 =>
      @ite _ (Γ b2 = .inr 0) _ (
      some ((), (uR (uI φ x0 1 ((φ.1 x0 1) - (1 : Int32))) a3 k5 (some b2)))
      ) none
    else
      Option.bind (φ.2.2 x0 0) fun a7 =>
      Option.bind (gA Γ a7 5) fun N8 =>
      Option.bind (ix x3 N8) fun k9 =>
      Option.bind (φ.2.2 a7 k9) fun b10 =>
      Option.bind (gA Γ a7 5) fun N11 =>
      Option.bind (ix (x3 - (1 : Int32)) N11) fun k12 =>
      @ite _ (Γ b10 = .inr 0) _ (
      (f_Line_remove_L24 Γ  fu) (uR φ a7 k12 (some b10)) x0 x2 (x3 + (1 : Int32))
      ) none
    ) none
set_option maxRecDepth 100000 in
set_option maxHeartbeats 4000000 in
theorem p_Line_remove_L24 {w : jw_T} (hw : jok w) {Γ : gm_T} {n : Nat} (hG : gd w Γ n)  : ∀ (fu : Nat) {x : Bool} {φ : ph_T} {x0 : Nat} {x2 : Option Nat} {x3 : Int32} {q : Unit × ph_T}, f_Line_remove_L24 Γ  fu φ x0 x2 x3 = some q → J w M_Line_remove 24 [some (.ref x0), none, some (va_rf x2), some (.int x3)] [] (pic Γ φ) n x 0 0 (fq Γ n (.inl none) q.2) := by
  intro fu
  induction fu with
  | zero =>
    intro x φ x0 x2 x3 q H
    cases H
  | succ fu ih =>
    intro x φ x0 x2 x3 q H
    unfold f_Line_remove_L24 at H
    refine J_iload_n d_Line_remove_24 rfl ?_
    refine J_aload_n d_Line_remove_25 rfl ?_
    have g1 : Γ x0 = .inr 1 := by
      apply Classical.byContradiction
      intro q9
      rw [if_neg q9] at H
      cases H
    rw [if_pos g1] at H
    refine F_getI (ci := 1) (k := 1) hG (cf_Line hw) (fl_Line_18 hw) (by decide) (by decide) rfl d_Line_remove_26 g1 ?_
    refine J_icmp_ge (tgt := 52) d_Line_remove_29 (by decide) ?_ ?_
    · intro c14
      rw [if_pos c14] at H
      refine J_aload_n d_Line_remove_52 rfl ?_
      refine J_dup d_Line_remove_53 rfl ?_
      refine F_getI (ci := 1) (k := 1) hG (cf_Line hw) (fl_Line_18 hw) (by decide) (by decide) rfl d_Line_remove_54 g1 ?_
      refine J_iconst (v := 1) d_Line_remove_57 (by decide) ?_
      refine J_isub d_Line_remove_58 ?_
      refine F_putI (ci := 1) (k := 1) hG (cf_Line hw) (fl_Line_18 hw) (by decide) (by decide) rfl d_Line_remove_59 rfl rfl rfl g1 ?_
      refine J_aload_n d_Line_remove_62 rfl ?_
      refine F_getR (ci := 1) (k := 0) hG (cf_Line hw) (fl_Line_11 hw) (by decide) (by decide) rfl d_Line_remove_63 g1 ?_
      show J _ _ _ _ (va_rf (φ.2.2 x0 0) :: _) _ _ _ _ _ _
      refine J_aload_n d_Line_remove_66 rfl ?_
      refine F_getI (ci := 1) (k := 1) hG (cf_Line hw) (fl_Line_18 hw) (by decide) (by decide) rfl d_Line_remove_67 g1 ?_
      refine J_aload_nO d_Line_remove_70 rfl ?_
      obtain ⟨b2, hb2, H⟩ := Option.bind_eq_some_iff.mp H
      rw [j_rf hb2]
      obtain ⟨a3, ha3, H⟩ := Option.bind_eq_some_iff.mp H
      rw [j_rf ha3]
      obtain ⟨N4, hN4, H⟩ := Option.bind_eq_some_iff.mp H
      obtain ⟨k5, hk5, H⟩ := Option.bind_eq_some_iff.mp H
      have g6 : Γ b2 = .inr 0 := by
        apply Classical.byContradiction
        intro q9
        rw [if_neg q9] at H
        cases H
      rw [if_pos g6] at H
      refine F_aast k5 hw hG (t := 5) (ci := 0) (r := ("BusCrossbar$Burst", T_Burst, 8)) rfl (by decide) rfl (by decide) d_Line_remove_71 (gA_some hN4) g6 (ix_some hk5) ?_
      have H := Option.some.inj H
      subst H
      exact J_vret (st := []) d_Line_remove_72 rfl ⟨rfl, rfl, rfl⟩
    · intro c14
      rw [if_neg c14] at H
      refine J_aload_n d_Line_remove_32 rfl ?_
      refine F_getR (ci := 1) (k := 0) hG (cf_Line hw) (fl_Line_11 hw) (by decide) (by decide) rfl d_Line_remove_33 g1 ?_
      refine J_iload_n d_Line_remove_36 rfl ?_
      refine J_iconst (v := 1) d_Line_remove_37 (by decide) ?_
      refine J_isub d_Line_remove_38 ?_
      refine J_aload_n d_Line_remove_39 rfl ?_
      refine F_getR (ci := 1) (k := 0) hG (cf_Line hw) (fl_Line_11 hw) (by decide) (by decide) rfl d_Line_remove_40 g1 ?_
      refine J_iload_n d_Line_remove_43 rfl ?_
      obtain ⟨a7, ha7, H⟩ := Option.bind_eq_some_iff.mp H
      rw [j_rf ha7]
      obtain ⟨N8, hN8, H⟩ := Option.bind_eq_some_iff.mp H
      obtain ⟨k9, hk9, H⟩ := Option.bind_eq_some_iff.mp H
      refine F_aald k9 hw hG (t := 5) rfl (by decide) d_Line_remove_44 (gA_some hN8) (ix_some hk9) ?_
      obtain ⟨b10, hb10, H⟩ := Option.bind_eq_some_iff.mp H
      rw [j_rf hb10]
      obtain ⟨N11, hN11, H⟩ := Option.bind_eq_some_iff.mp H
      obtain ⟨k12, hk12, H⟩ := Option.bind_eq_some_iff.mp H
      have g13 : Γ b10 = .inr 0 := by
        apply Classical.byContradiction
        intro q9
        rw [if_neg q9] at H
        cases H
      rw [if_pos g13] at H
      refine F_aast k12 hw hG (t := 5) (ci := 0) (r := ("BusCrossbar$Burst", T_Burst, 8)) rfl (by decide) rfl (by decide) d_Line_remove_45 (gA_some hN11) g13 (ix_some hk12) ?_
      refine J_iinc (v := x3 + 1) d_Line_remove_46 rfl (by rw [show Int32.ofInt 1 = (1 : Int32) from by decide]) ?_
      refine J.ls (ls' := [some (.ref x0), none, some (va_rf x2), some (.int (x3 + (1 : Int32)))]) (jst1_o (i := 2) (r := x2) rfl) ?_
      refine J_goto (tgt := 24) d_Line_remove_49 (by decide) ?_
      refine J.drop [true, false, true, true] rfl ?_
      exact ih H
def f_Line_remove_L12 (Γ : gm_T)  (φ : ph_T) : Option (Unit × ph_T) :=
  some ((), φ)
set_option maxRecDepth 100000 in
set_option maxHeartbeats 4000000 in
theorem p_Line_remove_L12 {w : jw_T} (hw : jok w) {Γ : gm_T} {n : Nat} (hG : gd w Γ n)  {x : Bool} {φ : ph_T} {q : Unit × ph_T} (H : f_Line_remove_L12 Γ  φ  = some q) : J w M_Line_remove 12 [none, none, none, none] [] (pic Γ φ) n x 0 0 (fq Γ n (.inl none) q.2) := by
  unfold f_Line_remove_L12 at H
  have H := Option.some.inj H
  subst H
  exact J_vret (st := []) d_Line_remove_12 rfl ⟨rfl, rfl, rfl⟩
def f_Line_remove (Γ : gm_T) (φ : ph_T) (this : Nat) (p0 : Int32) : Option (Unit × ph_T) :=
  if p0 < 0 then
    f_Line_remove_L12 Γ  φ 
  else
    @ite _ (Γ this = .inr 1) _ (
    if p0 < (φ.1 this 1) then
      Option.bind (φ.2.2 this 0) fun a16 =>
      Option.bind (gA Γ a16 5) fun N17 =>
      Option.bind (ix p0 N17) fun k18 =>
      f_Line_remove_L24 Γ  jF φ this (φ.2.2 a16 k18) (p0 + (1 : Int32))
    else
      f_Line_remove_L12 Γ  φ 
    ) none
set_option maxRecDepth 100000 in
set_option maxHeartbeats 4000000 in
theorem p_Line_remove {w : jw_T} (hw : jok w) {Γ : gm_T} {n : Nat} (hG : gd w Γ n) {x : Bool} {φ : ph_T} {this : Nat} {p0 : Int32} {q : Unit × ph_T} (H : f_Line_remove Γ φ this p0 = some q) : jc w M_Line_remove [.ref this, .int p0] (pic Γ φ) n x 0 0 (fq Γ n (.inl none) q.2) := by
  refine jc.of (by simp only [jent_r, jent_i, jent_l, jent_a, jent_0]; exact Nat.le_of_ble_eq_true rfl) ?_
  have hls : jents [.ref this, .int p0] (jm_nL M_Line_remove) = [some (.ref this), some (.int p0), none, none] := by simp only [jents, jent_r, jent_i, jent_l, jent_a, jent_0]; rfl
  rw [hls]
  clear hls
  unfold f_Line_remove at H
  refine J_iload_n d_Line_remove_0 rfl ?_
  refine J_if_lt (tgt := 12) d_Line_remove_1 (by decide) ?_ ?_
  · intro c20
    rw [if_pos c20] at H
    refine J.drop [false, false, false, false] rfl ?_
    exact p_Line_remove_L12 hw hG  H
  · intro c20
    rw [if_neg c20] at H
    refine J_iload_n d_Line_remove_4 rfl ?_
    refine J_aload_n d_Line_remove_5 rfl ?_
    have g15 : Γ this = .inr 1 := by
      apply Classical.byContradiction
      intro q9
      rw [if_neg q9] at H
      cases H
    rw [if_pos g15] at H
    refine F_getI (ci := 1) (k := 1) hG (cf_Line hw) (fl_Line_18 hw) (by decide) (by decide) rfl d_Line_remove_6 g15 ?_
    refine J_icmp_lt (tgt := 13) d_Line_remove_9 (by decide) ?_ ?_
    · intro c19
      rw [if_pos c19] at H
      refine J_aload_n d_Line_remove_13 rfl ?_
      refine F_getR (ci := 1) (k := 0) hG (cf_Line hw) (fl_Line_11 hw) (by decide) (by decide) rfl d_Line_remove_14 g15 ?_
      refine J_iload_n d_Line_remove_17 rfl ?_
      obtain ⟨a16, ha16, H⟩ := Option.bind_eq_some_iff.mp H
      rw [j_rf ha16]
      obtain ⟨N17, hN17, H⟩ := Option.bind_eq_some_iff.mp H
      obtain ⟨k18, hk18, H⟩ := Option.bind_eq_some_iff.mp H
      refine F_aald k18 hw hG (t := 5) rfl (by decide) d_Line_remove_18 (gA_some hN17) (ix_some hk18) ?_
      refine J_astore_nO d_Line_remove_19 (Nat.le_of_ble_eq_true rfl) ?_
      refine J.ls (ls' := [some (.ref this), some (.int p0), some (va_rf (φ.2.2 a16 k18)), none]) rfl ?_
      refine J_iload_n d_Line_remove_20 rfl ?_
      refine J_iconst (v := 1) d_Line_remove_21 (by decide) ?_
      refine J_iadd d_Line_remove_22 ?_
      refine J_istore_n d_Line_remove_23 (Nat.le_of_ble_eq_true rfl) ?_
      refine J.ls (ls' := [some (.ref this), some (.int p0), some (va_rf (φ.2.2 a16 k18)), some (.int (p0 + (1 : Int32)))]) (jst1_o (i := 2) (r := (φ.2.2 a16 k18)) rfl) ?_
      refine J.drop [true, false, true, true] rfl ?_
      exact p_Line_remove_L24 hw hG  _ H
    · intro c19
      rw [if_neg c19] at H
      refine J.drop [false, false, false, false] rfl ?_
      exact p_Line_remove_L12 hw hG  H
theorem ln_Monitor_takeReadBeat : (parseMethodDescriptor y_Monitor_takeReadBeat.desc).map (fun q => q.parameters.length) = some 1 := by decide +kernel
def f_Monitor_takeReadBeat_L58 (Γ : gm_T)  (φ : ph_T) : Option (Unit × ph_T) :=
  some ((), φ)
set_option maxRecDepth 100000 in
set_option maxHeartbeats 4000000 in
theorem p_Monitor_takeReadBeat_L58 {w : jw_T} (hw : jok w) {Γ : gm_T} {n : Nat} (hG : gd w Γ n)  {x : Bool} {φ : ph_T} {q : Unit × ph_T} (H : f_Monitor_takeReadBeat_L58 Γ  φ  = some q) : J w M_Monitor_takeReadBeat 58 [none, none, none, none] [] (pic Γ φ) n x 0 0 (fq Γ n (.inl none) q.2) := by
  unfold f_Monitor_takeReadBeat_L58 at H
  have H := Option.some.inj H
  subst H
  exact J_vret (st := []) d_Monitor_takeReadBeat_58 rfl ⟨rfl, rfl, rfl⟩
def f_Monitor_takeReadBeat (Γ : gm_T) (φ : ph_T) (this : Nat) (p0 : Int32) : Option (Unit × ph_T) :=
  @ite _ (Γ this = .inr 4) _ (
  Option.bind (f_Bus_restId Γ φ p0) fun q2 =>
  Option.bind (φ.2.2 this 1) fun a3 =>
  @ite _ (Γ a3 = .inr 1) _ (
  Option.bind (f_Line_firstWithId Γ q2.2 a3 q2.1) fun q5 =>
  Option.bind (q5.2.2.2 this 1) fun a6 =>
  @ite _ (Γ a6 = .inr 1) _ (
  Option.bind (f_Line_at Γ q5.2 a6 q5.1) fun q8 =>
  if q8.1 = none then
    some ((), q8.2)
  else
    Option.bind q8.1 fun a9 =>
    @ite _ (Γ a9 = .inr 0) _ (
    Option.bind (f_Burst_lengthOf Γ (uI q8.2 a9 3 ((q8.2.1 a9 3) + (1 : Int32))) (q8.2.2.1 a9 0)) fun q11 =>
    if ((uI q8.2 a9 3 ((q8.2.1 a9 3) + (1 : Int32))).1 a9 3) < q11.1 then
      f_Monitor_takeReadBeat_L58 Γ  q11.2 
    else
      Option.bind (q11.2.2.2 this 1) fun a12 =>
      @ite _ (Γ a12 = .inr 1) _ (
      Option.bind (f_Line_remove Γ q11.2 a12 q5.1) fun q14 =>
      f_Monitor_takeReadBeat_L58 Γ  q14.2 
      ) none
    ) none
  ) none
  ) none
  ) none
set_option maxRecDepth 100000 in
set_option maxHeartbeats 4000000 in
theorem p_Monitor_takeReadBeat {w : jw_T} (hw : jok w) {Γ : gm_T} {n : Nat} (hG : gd w Γ n) {x : Bool} {φ : ph_T} {this : Nat} {p0 : Int32} {q : Unit × ph_T} (H : f_Monitor_takeReadBeat Γ φ this p0 = some q) : jc w M_Monitor_takeReadBeat [.ref this, .int p0] (pic Γ φ) n x 0 0 (fq Γ n (.inl none) q.2) := by
  refine jc.of (by simp only [jent_r, jent_i, jent_l, jent_a, jent_0]; exact Nat.le_of_ble_eq_true rfl) ?_
  have hls : jents [.ref this, .int p0] (jm_nL M_Monitor_takeReadBeat) = [some (.ref this), some (.int p0), none, none] := by simp only [jents, jent_r, jent_i, jent_l, jent_a, jent_0]; rfl
  rw [hls]
  clear hls
  unfold f_Monitor_takeReadBeat at H
  refine J_aload_n d_Monitor_takeReadBeat_0 rfl ?_
  have g1 : Γ this = .inr 4 := by
    apply Classical.byContradiction
    intro q9
    rw [if_neg q9] at H
    cases H
  rw [if_pos g1] at H
  refine F_getR (ci := 4) (k := 1) hG (cf_Monitor hw) (fl_Monitor_20 hw) (by decide) (by decide) rfl d_Monitor_takeReadBeat_1 g1 ?_
  refine J_iload_n d_Monitor_takeReadBeat_4 rfl ?_
  obtain ⟨q2, hq2, H⟩ := Option.bind_eq_some_iff.mp H
  refine J_callS (kc := 0) (ks := 0) (kc' := 0) (ks' := 0) (as := [.int p0]) (st := [va_rf (φ.2.2 this 1)]) (mf_Bus_restId hw) (ms_Monitor_110 hw) d_Monitor_takeReadBeat_5 ln_Bus_restId (by decide) (by first | exact Nat.le_of_ble_eq_true rfl | (simp only [List.map_cons, List.map_nil, List.sum_cons, List.sum_nil, va_rf_cat]; exact Nat.le_of_ble_eq_true rfl)) rfl (p_Bus_restId hw hG hq2) ?_ (fun E h' n' x' e1 => by cases e1.1)
  intro v9 h9 n9 x9 e9
  obtain ⟨e91, e92, e93⟩ := e9
  cases e91
  subst e92
  subst e93
  clear x
  rename Bool => x
  show J _ _ _ _ (_ :: _) _ _ _ _ _ _
  obtain ⟨a3, ha3, H⟩ := Option.bind_eq_some_iff.mp H
  rw [j_rf ha3]
  have g4 : Γ a3 = .inr 1 := by
    apply Classical.byContradiction
    intro q9
    rw [if_neg q9] at H
    cases H
  rw [if_pos g4] at H
  obtain ⟨q5, hq5, H⟩ := Option.bind_eq_some_iff.mp H
  refine J_callV (kc := 0) (ks := 0) (kc' := 0) (ks' := 0) (a := a3) (ci := 1) (as := [.int q2.1]) (st := []) (mf_Line_firstWithId hw) (mv_Monitor_124 hw) d_Monitor_takeReadBeat_8 ln_Line_firstWithId (by decide) (by first | exact Nat.le_of_ble_eq_true rfl | (simp only [List.map_cons, List.map_nil, List.sum_cons, List.sum_nil, va_rf_cat]; exact Nat.le_of_ble_eq_true rfl)) rfl ((hG _).1 _ g4 (by decide)).1 ((hG _).1 _ g4 (by decide)).2 (by unfold pic; rw [g4]; rfl) (jcl_at hw rfl) rfl (p_Line_firstWithId hw hG hq5) ?_ (fun E h' n' x' e1 => by cases e1.1)
  intro v9 h9 n9 x9 e9
  obtain ⟨e91, e92, e93⟩ := e9
  cases e91
  subst e92
  subst e93
  clear x
  rename Bool => x
  show J _ _ _ _ (_ :: _) _ _ _ _ _ _
  refine J_istore_n d_Monitor_takeReadBeat_11 (Nat.le_of_ble_eq_true rfl) ?_
  refine J.ls (ls' := [some (.ref this), some (.int p0), some (.int q5.1), none]) rfl ?_
  refine J_aload_n d_Monitor_takeReadBeat_12 rfl ?_
  refine F_getR (ci := 4) (k := 1) hG (cf_Monitor hw) (fl_Monitor_20 hw) (by decide) (by decide) rfl d_Monitor_takeReadBeat_13 g1 ?_
  refine J_iload_n d_Monitor_takeReadBeat_16 rfl ?_
  obtain ⟨a6, ha6, H⟩ := Option.bind_eq_some_iff.mp H
  rw [j_rf ha6]
  have g7 : Γ a6 = .inr 1 := by
    apply Classical.byContradiction
    intro q9
    rw [if_neg q9] at H
    cases H
  rw [if_pos g7] at H
  obtain ⟨q8, hq8, H⟩ := Option.bind_eq_some_iff.mp H
  refine J_callV (kc := 0) (ks := 0) (kc' := 0) (ks' := 0) (a := a6) (ci := 1) (as := [.int q5.1]) (st := []) (mf_Line_at hw) (mv_Monitor_116 hw) d_Monitor_takeReadBeat_17 ln_Line_at (by decide) (by first | exact Nat.le_of_ble_eq_true rfl | (simp only [List.map_cons, List.map_nil, List.sum_cons, List.sum_nil, va_rf_cat]; exact Nat.le_of_ble_eq_true rfl)) rfl ((hG _).1 _ g7 (by decide)).1 ((hG _).1 _ g7 (by decide)).2 (by unfold pic; rw [g7]; rfl) (jcl_at hw rfl) rfl (p_Line_at hw hG hq8) ?_ (fun E h' n' x' e1 => by cases e1.1)
  intro v9 h9 n9 x9 e9
  obtain ⟨e91, e92, e93⟩ := e9
  cases e91
  subst e92
  subst e93
  clear x
  rename Bool => x
  show J _ _ _ _ (_ :: _) _ _ _ _ _ _
  refine J_astore_nO d_Monitor_takeReadBeat_20 (Nat.le_of_ble_eq_true rfl) ?_
  refine J.ls (ls' := [some (.ref this), some (.int p0), some (.int q5.1), some (va_rf q8.1)]) rfl ?_
  refine J_aload_nO d_Monitor_takeReadBeat_21 rfl ?_
  refine J_ifnonnullO (r := q8.1) (tgt := 26) d_Monitor_takeReadBeat_22 (by decide) ?_ ?_
  · intro c16
    rw [if_neg c16] at H
    refine J_aload_nO d_Monitor_takeReadBeat_26 rfl ?_
    refine J_dup d_Monitor_takeReadBeat_27 (va_rf_cat _) ?_
    obtain ⟨a9, ha9, H⟩ := Option.bind_eq_some_iff.mp H
    rw [j_rf ha9]
    have g10 : Γ a9 = .inr 0 := by
      apply Classical.byContradiction
      intro q9
      rw [if_neg q9] at H
      cases H
    rw [if_pos g10] at H
    refine F_getI (ci := 0) (k := 3) hG (cf_Burst hw) (fl_Monitor_127 hw) (by decide) (by decide) rfl d_Monitor_takeReadBeat_28 g10 ?_
    refine J_iconst (v := 1) d_Monitor_takeReadBeat_31 (by decide) ?_
    refine J_iadd d_Monitor_takeReadBeat_32 ?_
    refine F_putI (ci := 0) (k := 3) hG (cf_Burst hw) (fl_Monitor_127 hw) (by decide) (by decide) rfl d_Monitor_takeReadBeat_33 rfl rfl rfl g10 ?_
    refine J_aload_n d_Monitor_takeReadBeat_36 rfl ?_
    refine F_getI (ci := 0) (k := 3) hG (cf_Burst hw) (fl_Monitor_127 hw) (by decide) (by decide) rfl d_Monitor_takeReadBeat_37 g10 ?_
    refine J_aload_n d_Monitor_takeReadBeat_40 rfl ?_
    refine F_getL (ci := 0) (k := 0) hG (cf_Burst hw) (fl_Monitor_130 hw) (by decide) (by decide) rfl d_Monitor_takeReadBeat_41 g10 ?_
    show J _ _ _ _ (.long (q8.2.2.1 a9 0) :: _) _ _ _ _ _ _
    obtain ⟨q11, hq11, H⟩ := Option.bind_eq_some_iff.mp H
    refine J_callS (kc := 0) (ks := 0) (kc' := 0) (ks' := 0) (as := [.long (q8.2.2.1 a9 0)]) (st := [.int ((uI q8.2 a9 3 ((q8.2.1 a9 3) + (1 : Int32))).1 a9 3)]) (mf_Burst_lengthOf hw) (ms_Monitor_134 hw) d_Monitor_takeReadBeat_44 ln_Burst_lengthOf (by decide) (by first | exact Nat.le_of_ble_eq_true rfl | (simp only [List.map_cons, List.map_nil, List.sum_cons, List.sum_nil, va_rf_cat]; exact Nat.le_of_ble_eq_true rfl)) rfl (p_Burst_lengthOf hw hG hq11) ?_ (fun E h' n' x' e1 => by cases e1.1)
    intro v9 h9 n9 x9 e9
    obtain ⟨e91, e92, e93⟩ := e9
    cases e91
    subst e92
    subst e93
    clear x
    rename Bool => x
    show J _ _ _ _ (_ :: _) _ _ _ _ _ _
    refine J_icmp_lt (tgt := 58) d_Monitor_takeReadBeat_47 (by decide) ?_ ?_
    · intro c15
      rw [if_pos c15] at H
      refine J.drop [false, false, false, false] rfl ?_
      exact p_Monitor_takeReadBeat_L58 hw hG  H
    · intro c15
      rw [if_neg c15] at H
      refine J_aload_n d_Monitor_takeReadBeat_50 rfl ?_
      refine F_getR (ci := 4) (k := 1) hG (cf_Monitor hw) (fl_Monitor_20 hw) (by decide) (by decide) rfl d_Monitor_takeReadBeat_51 g1 ?_
      refine J_iload_n d_Monitor_takeReadBeat_54 rfl ?_
      obtain ⟨a12, ha12, H⟩ := Option.bind_eq_some_iff.mp H
      rw [j_rf ha12]
      have g13 : Γ a12 = .inr 1 := by
        apply Classical.byContradiction
        intro q9
        rw [if_neg q9] at H
        cases H
      rw [if_pos g13] at H
      obtain ⟨q14, hq14, H⟩ := Option.bind_eq_some_iff.mp H
      refine J_callV (kc := 0) (ks := 0) (kc' := 0) (ks' := 0) (a := a12) (ci := 1) (as := [.int q5.1]) (st := []) (mf_Line_remove hw) (mv_Monitor_147 hw) d_Monitor_takeReadBeat_55 ln_Line_remove (by decide) (by first | exact Nat.le_of_ble_eq_true rfl | (simp only [List.map_cons, List.map_nil, List.sum_cons, List.sum_nil, va_rf_cat]; exact Nat.le_of_ble_eq_true rfl)) rfl ((hG _).1 _ g13 (by decide)).1 ((hG _).1 _ g13 (by decide)).2 (by unfold pic; rw [g13]; rfl) (jcl_at hw rfl) rfl (p_Line_remove hw hG hq14) ?_ (fun E h' n' x' e1 => by cases e1.1)
      intro v9 h9 n9 x9 e9
      obtain ⟨e91, e92, e93⟩ := e9
      cases e91
      subst e92
      subst e93
      clear x
      rename Bool => x
      show J _ _ _ _ [] _ _ _ _ _ _
      refine J.drop [false, false, false, false] rfl ?_
      exact p_Monitor_takeReadBeat_L58 hw hG  H
  · intro c16
    rw [if_pos c16] at H
    have H := Option.some.inj H
    subst H
    exact J_vret (st := []) d_Monitor_takeReadBeat_25 rfl ⟨rfl, rfl, rfl⟩
theorem ln_Monitor_takeAnswers : (parseMethodDescriptor y_Monitor_takeAnswers.desc).map (fun q => q.parameters.length) = some 1 := by decide +kernel
def f_Monitor_takeAnswers_L49 (Γ : gm_T)  (φ : ph_T) : Option (Unit × ph_T) :=
  some ((), φ)
set_option maxRecDepth 100000 in
set_option maxHeartbeats 4000000 in
theorem p_Monitor_takeAnswers_L49 {w : jw_T} (hw : jok w) {Γ : gm_T} {n : Nat} (hG : gd w Γ n)  {x : Bool} {φ : ph_T} {q : Unit × ph_T} (H : f_Monitor_takeAnswers_L49 Γ  φ  = some q) : J w M_Monitor_takeAnswers 49 [none, none] [] (pic Γ φ) n x 0 0 (fq Γ n (.inl none) q.2) := by
  unfold f_Monitor_takeAnswers_L49 at H
  have H := Option.some.inj H
  subst H
  exact J_vret (st := []) d_Monitor_takeAnswers_49 rfl ⟨rfl, rfl, rfl⟩
def f_Monitor_takeAnswers_L31 (Γ : gm_T)  (φ : ph_T) (x0 : Nat) (x1 : Option Nat) : Option (Unit × ph_T) :=
  Option.bind x1 fun a1 =>
  @ite _ (Γ a1 = .inr 5) _ (
  Option.bind (f_Port_moves Γ φ a1 (4 : Int32)) fun q3 =>
  if q3.1 = 0 then
    f_Monitor_takeAnswers_L49 Γ  q3.2 
  else
    Option.bind (q3.2.2.2 a1 4) fun a4 =>
    Option.bind (gA Γ a4 0) fun N5 =>
    Option.bind (ix (4 : Int32) N5) fun k6 =>
    @ite _ (Γ x0 = .inr 4) _ (
    Option.bind (f_Monitor_takeReadBeat Γ q3.2 x0 (q3.2.1 a4 k6)) fun q8 =>
    f_Monitor_takeAnswers_L49 Γ  q8.2 
    ) none
  ) none
set_option maxRecDepth 100000 in
set_option maxHeartbeats 4000000 in
theorem p_Monitor_takeAnswers_L31 {w : jw_T} (hw : jok w) {Γ : gm_T} {n : Nat} (hG : gd w Γ n)  {x : Bool} {φ : ph_T} {x0 : Nat} {x1 : Option Nat} {q : Unit × ph_T} (H : f_Monitor_takeAnswers_L31 Γ  φ x0 x1 = some q) : J w M_Monitor_takeAnswers 31 [some (.ref x0), some (va_rf x1)] [] (pic Γ φ) n x 0 0 (fq Γ n (.inl none) q.2) := by
  unfold f_Monitor_takeAnswers_L31 at H
  refine J_aload_nO d_Monitor_takeAnswers_31 rfl ?_
  refine J_iconst (v := 4) d_Monitor_takeAnswers_32 (by decide) ?_
  obtain ⟨a1, ha1, H⟩ := Option.bind_eq_some_iff.mp H
  rw [j_rf ha1]
  have g2 : Γ a1 = .inr 5 := by
    apply Classical.byContradiction
    intro q9
    rw [if_neg q9] at H
    cases H
  rw [if_pos g2] at H
  obtain ⟨q3, hq3, H⟩ := Option.bind_eq_some_iff.mp H
  refine J_callV (kc := 0) (ks := 0) (kc' := 0) (ks' := 0) (a := a1) (ci := 5) (as := [.int (4 : Int32)]) (st := []) (mf_Port_moves hw) (mv_Monitor_63 hw) d_Monitor_takeAnswers_33 ln_Port_moves (by decide) (by first | exact Nat.le_of_ble_eq_true rfl | (simp only [List.map_cons, List.map_nil, List.sum_cons, List.sum_nil, va_rf_cat]; exact Nat.le_of_ble_eq_true rfl)) rfl ((hG _).1 _ g2 (by decide)).1 ((hG _).1 _ g2 (by decide)).2 (by unfold pic; rw [g2]; rfl) (jcl_at hw rfl) rfl (p_Port_moves hw hG hq3) ?_ (fun E h' n' x' e1 => by cases e1.1)
  intro v9 h9 n9 x9 e9
  obtain ⟨e91, e92, e93⟩ := e9
  cases e91
  subst e92
  subst e93
  clear x
  rename Bool => x
  show J _ _ _ _ (_ :: _) _ _ _ _ _ _
  refine J_if_eq (tgt := 49) d_Monitor_takeAnswers_36 (by decide) ?_ ?_
  · intro c9
    rw [if_pos c9] at H
    refine J.drop [false, false] rfl ?_
    exact p_Monitor_takeAnswers_L49 hw hG  H
  · intro c9
    rw [if_neg c9] at H
    refine J_aload_n d_Monitor_takeAnswers_39 rfl ?_
    refine J_aload_n d_Monitor_takeAnswers_40 rfl ?_
    refine F_getR (ci := 5) (k := 4) hG (cf_Port hw) (fl_Monitor_80 hw) (by decide) (by decide) rfl d_Monitor_takeAnswers_41 g2 ?_
    refine J_iconst (v := 4) d_Monitor_takeAnswers_44 (by decide) ?_
    obtain ⟨a4, ha4, H⟩ := Option.bind_eq_some_iff.mp H
    rw [j_rf ha4]
    obtain ⟨N5, hN5, H⟩ := Option.bind_eq_some_iff.mp H
    obtain ⟨k6, hk6, H⟩ := Option.bind_eq_some_iff.mp H
    refine F_iald k6 hw hG d_Monitor_takeAnswers_45 (gA_some hN5) (ix_some hk6) ?_
    have g7 : Γ x0 = .inr 4 := by
      apply Classical.byContradiction
      intro q9
      rw [if_neg q9] at H
      cases H
    rw [if_pos g7] at H
    obtain ⟨q8, hq8, H⟩ := Option.bind_eq_some_iff.mp H
    refine J_callV (kc := 0) (ks := 0) (kc' := 0) (ks' := 0) (a := x0) (ci := 4) (as := [.int (q3.2.1 a4 k6)]) (st := []) (mf_Monitor_takeReadBeat hw) (mv_Monitor_150 hw) d_Monitor_takeAnswers_46 ln_Monitor_takeReadBeat (by decide) (by first | exact Nat.le_of_ble_eq_true rfl | (simp only [List.map_cons, List.map_nil, List.sum_cons, List.sum_nil, va_rf_cat]; exact Nat.le_of_ble_eq_true rfl)) rfl ((hG _).1 _ g7 (by decide)).1 ((hG _).1 _ g7 (by decide)).2 (by unfold pic; rw [g7]; rfl) (jcl_at hw rfl) rfl (p_Monitor_takeReadBeat hw hG hq8) ?_ (fun E h' n' x' e1 => by cases e1.1)
    intro v9 h9 n9 x9 e9
    obtain ⟨e91, e92, e93⟩ := e9
    cases e91
    subst e92
    subst e93
    clear x
    rename Bool => x
    show J _ _ _ _ [] _ _ _ _ _ _
    refine J.drop [false, false] rfl ?_
    exact p_Monitor_takeAnswers_L49 hw hG  H
def f_Monitor_takeAnswers (Γ : gm_T) (φ : ph_T) (this : Nat) (p0 : Option Nat) : Option (Unit × ph_T) :=
  Option.bind p0 fun a10 =>
  @ite _ (Γ a10 = .inr 5) _ (
  Option.bind (f_Port_moves Γ φ a10 (2 : Int32)) fun q12 =>
  if q12.1 = 0 then
    f_Monitor_takeAnswers_L31 Γ  q12.2 this (some a10)
  else
    @ite _ (Γ this = .inr 4) _ (
    Option.bind (q12.2.2.2 a10 4) fun a14 =>
    Option.bind (gA Γ a14 0) fun N15 =>
    Option.bind (ix (2 : Int32) N15) fun k16 =>
    Option.bind (f_Bus_restId Γ q12.2 (q12.2.1 a14 k16)) fun q17 =>
    Option.bind (q12.2.2.2 this 0) fun a18 =>
    @ite _ (Γ a18 = .inr 1) _ (
    Option.bind (f_Line_firstAnswerable Γ q17.2 a18 q17.1) fun q20 =>
    Option.bind (f_Line_remove Γ q20.2 a18 q20.1) fun q21 =>
    f_Monitor_takeAnswers_L31 Γ  q21.2 this (some a10)
    ) none
    ) none
  ) none
set_option maxRecDepth 100000 in
set_option maxHeartbeats 4000000 in
theorem p_Monitor_takeAnswers {w : jw_T} (hw : jok w) {Γ : gm_T} {n : Nat} (hG : gd w Γ n) {x : Bool} {φ : ph_T} {this : Nat} {p0 : Option Nat} {q : Unit × ph_T} (H : f_Monitor_takeAnswers Γ φ this p0 = some q) : jc w M_Monitor_takeAnswers [.ref this, va_rf p0] (pic Γ φ) n x 0 0 (fq Γ n (.inl none) q.2) := by
  refine jc.of (by simp only [jent_r, jent_i, jent_l, jent_a, jent_0]; exact Nat.le_of_ble_eq_true rfl) ?_
  have hls : jents [.ref this, va_rf p0] (jm_nL M_Monitor_takeAnswers) = [some (.ref this), some (va_rf p0)] := by simp only [jents, jent_r, jent_i, jent_l, jent_a, jent_0]; rfl
  rw [hls]
  clear hls
  unfold f_Monitor_takeAnswers at H
  refine J_aload_nO d_Monitor_takeAnswers_0 rfl ?_
  refine J_iconst (v := 2) d_Monitor_takeAnswers_1 (by decide) ?_
  obtain ⟨a10, ha10, H⟩ := Option.bind_eq_some_iff.mp H
  rw [j_rf ha10]
  have g11 : Γ a10 = .inr 5 := by
    apply Classical.byContradiction
    intro q9
    rw [if_neg q9] at H
    cases H
  rw [if_pos g11] at H
  obtain ⟨q12, hq12, H⟩ := Option.bind_eq_some_iff.mp H
  refine J_callV (kc := 0) (ks := 0) (kc' := 0) (ks' := 0) (a := a10) (ci := 5) (as := [.int (2 : Int32)]) (st := []) (mf_Port_moves hw) (mv_Monitor_63 hw) d_Monitor_takeAnswers_2 ln_Port_moves (by decide) (by first | exact Nat.le_of_ble_eq_true rfl | (simp only [List.map_cons, List.map_nil, List.sum_cons, List.sum_nil, va_rf_cat]; exact Nat.le_of_ble_eq_true rfl)) rfl ((hG _).1 _ g11 (by decide)).1 ((hG _).1 _ g11 (by decide)).2 (by unfold pic; rw [g11]; rfl) (jcl_at hw rfl) rfl (p_Port_moves hw hG hq12) ?_ (fun E h' n' x' e1 => by cases e1.1)
  intro v9 h9 n9 x9 e9
  obtain ⟨e91, e92, e93⟩ := e9
  cases e91
  subst e92
  subst e93
  clear x
  rename Bool => x
  show J _ _ _ _ (_ :: _) _ _ _ _ _ _
  refine J_if_eq (tgt := 31) d_Monitor_takeAnswers_5 (by decide) ?_ ?_
  · intro c22
    rw [if_pos c22] at H
    refine J.drop [true, true] rfl ?_
    exact p_Monitor_takeAnswers_L31 hw hG  H
  · intro c22
    rw [if_neg c22] at H
    refine J_aload_n d_Monitor_takeAnswers_8 rfl ?_
    have g13 : Γ this = .inr 4 := by
      apply Classical.byContradiction
      intro q9
      rw [if_neg q9] at H
      cases H
    rw [if_pos g13] at H
    refine F_getR (ci := 4) (k := 0) hG (cf_Monitor hw) (fl_Monitor_14 hw) (by decide) (by decide) rfl d_Monitor_takeAnswers_9 g13 ?_
    refine J_aload_n d_Monitor_takeAnswers_12 rfl ?_
    refine F_getR (ci := 4) (k := 0) hG (cf_Monitor hw) (fl_Monitor_14 hw) (by decide) (by decide) rfl d_Monitor_takeAnswers_13 g13 ?_
    refine J_aload_n d_Monitor_takeAnswers_16 rfl ?_
    refine F_getR (ci := 5) (k := 4) hG (cf_Port hw) (fl_Monitor_80 hw) (by decide) (by decide) rfl d_Monitor_takeAnswers_17 g11 ?_
    refine J_iconst (v := 2) d_Monitor_takeAnswers_20 (by decide) ?_
    obtain ⟨a14, ha14, H⟩ := Option.bind_eq_some_iff.mp H
    rw [j_rf ha14]
    obtain ⟨N15, hN15, H⟩ := Option.bind_eq_some_iff.mp H
    obtain ⟨k16, hk16, H⟩ := Option.bind_eq_some_iff.mp H
    refine F_iald k16 hw hG d_Monitor_takeAnswers_21 (gA_some hN15) (ix_some hk16) ?_
    obtain ⟨q17, hq17, H⟩ := Option.bind_eq_some_iff.mp H
    refine J_callS (kc := 0) (ks := 0) (kc' := 0) (ks' := 0) (as := [.int (q12.2.1 a14 k16)]) (st := [va_rf (q12.2.2.2 this 0), va_rf (q12.2.2.2 this 0)]) (mf_Bus_restId hw) (ms_Monitor_110 hw) d_Monitor_takeAnswers_22 ln_Bus_restId (by decide) (by first | exact Nat.le_of_ble_eq_true rfl | (simp only [List.map_cons, List.map_nil, List.sum_cons, List.sum_nil, va_rf_cat]; exact Nat.le_of_ble_eq_true rfl)) rfl (p_Bus_restId hw hG hq17) ?_ (fun E h' n' x' e1 => by cases e1.1)
    intro v9 h9 n9 x9 e9
    obtain ⟨e91, e92, e93⟩ := e9
    cases e91
    subst e92
    subst e93
    clear x
    rename Bool => x
    show J _ _ _ _ (_ :: _) _ _ _ _ _ _
    obtain ⟨a18, ha18, H⟩ := Option.bind_eq_some_iff.mp H
    rw [j_rf ha18]
    have g19 : Γ a18 = .inr 1 := by
      apply Classical.byContradiction
      intro q9
      rw [if_neg q9] at H
      cases H
    rw [if_pos g19] at H
    obtain ⟨q20, hq20, H⟩ := Option.bind_eq_some_iff.mp H
    refine J_callV (kc := 0) (ks := 0) (kc' := 0) (ks' := 0) (a := a18) (ci := 1) (as := [.int q17.1]) (st := [.ref a18]) (mf_Line_firstAnswerable hw) (mv_Monitor_113 hw) d_Monitor_takeAnswers_25 ln_Line_firstAnswerable (by decide) (by first | exact Nat.le_of_ble_eq_true rfl | (simp only [List.map_cons, List.map_nil, List.sum_cons, List.sum_nil, va_rf_cat]; exact Nat.le_of_ble_eq_true rfl)) rfl ((hG _).1 _ g19 (by decide)).1 ((hG _).1 _ g19 (by decide)).2 (by unfold pic; rw [g19]; rfl) (jcl_at hw rfl) rfl (p_Line_firstAnswerable hw hG hq20) ?_ (fun E h' n' x' e1 => by cases e1.1)
    intro v9 h9 n9 x9 e9
    obtain ⟨e91, e92, e93⟩ := e9
    cases e91
    subst e92
    subst e93
    clear x
    rename Bool => x
    show J _ _ _ _ (_ :: _) _ _ _ _ _ _
    obtain ⟨q21, hq21, H⟩ := Option.bind_eq_some_iff.mp H
    refine J_callV (kc := 0) (ks := 0) (kc' := 0) (ks' := 0) (a := a18) (ci := 1) (as := [.int q20.1]) (st := []) (mf_Line_remove hw) (mv_Monitor_147 hw) d_Monitor_takeAnswers_28 ln_Line_remove (by decide) (by first | exact Nat.le_of_ble_eq_true rfl | (simp only [List.map_cons, List.map_nil, List.sum_cons, List.sum_nil, va_rf_cat]; exact Nat.le_of_ble_eq_true rfl)) rfl ((hG _).1 _ g19 (by decide)).1 ((hG _).1 _ g19 (by decide)).2 (by unfold pic; rw [g19]; rfl) (jcl_at hw rfl) rfl (p_Line_remove hw hG hq21) ?_ (fun E h' n' x' e1 => by cases e1.1)
    intro v9 h9 n9 x9 e9
    obtain ⟨e91, e92, e93⟩ := e9
    cases e91
    subst e92
    subst e93
    clear x
    rename Bool => x
    show J _ _ _ _ [] _ _ _ _ _ _
    refine J.drop [true, true] rfl ?_
    exact p_Monitor_takeAnswers_L31 hw hG  H
theorem ln_Line_hasRoom : (parseMethodDescriptor y_Line_hasRoom.desc).map (fun q => q.parameters.length) = some 0 := by decide +kernel
def f_Line_hasRoom_L17 (Γ : gm_T)  (φ : ph_T) (y0 : Int32) : Option (Int32 × ph_T) :=
  @ite _ (y0 = 0 ∨ y0 = 1) _ (
  some (y0, φ)
  ) none
set_option maxRecDepth 100000 in
set_option maxHeartbeats 4000000 in
theorem p_Line_hasRoom_L17 {w : jw_T} (hw : jok w) {Γ : gm_T} {n : Nat} (hG : gd w Γ n)  {x : Bool} {φ : ph_T} {y0 : Int32} {q : Int32 × ph_T} (H : f_Line_hasRoom_L17 Γ  φ y0 = some q) : J w M_Line_hasRoom 17 [none] [.int y0] (pic Γ φ) n x 0 0 (fq Γ n (.inl (some (.int q.1))) q.2) := by
  unfold f_Line_hasRoom_L17 at H
  have z1 : y0 = 0 ∨ y0 = 1 := by
    apply Classical.byContradiction
    intro q9
    rw [if_neg q9] at H
    cases H
  rw [if_pos z1] at H
  have H := Option.some.inj H
  subst H
  exact J_iret (st := []) d_Line_hasRoom_17 rfl (narrow_z z1).1 ⟨rfl, rfl, rfl⟩
def f_Line_hasRoom (Γ : gm_T) (φ : ph_T) (this : Nat) : Option (Int32 × ph_T) :=
  @ite _ (Γ this = .inr 1) _ (
  Option.bind (φ.2.2 this 0) fun a3 =>
  Option.bind (gA Γ a3 5) fun N4 =>
  if (nI N4) ≤ (φ.1 this 1) then
    f_Line_hasRoom_L17 Γ  φ (0 : Int32)
  else
    f_Line_hasRoom_L17 Γ  φ (1 : Int32)
  ) none
set_option maxRecDepth 100000 in
set_option maxHeartbeats 4000000 in
theorem p_Line_hasRoom {w : jw_T} (hw : jok w) {Γ : gm_T} {n : Nat} (hG : gd w Γ n) {x : Bool} {φ : ph_T} {this : Nat} {q : Int32 × ph_T} (H : f_Line_hasRoom Γ φ this = some q) : jc w M_Line_hasRoom [.ref this] (pic Γ φ) n x 0 0 (fq Γ n (.inl (some (.int q.1))) q.2) := by
  refine jc.of (by simp only [jent_r, jent_i, jent_l, jent_a, jent_0]; exact Nat.le_of_ble_eq_true rfl) ?_
  have hls : jents [.ref this] (jm_nL M_Line_hasRoom) = [some (.ref this)] := by simp only [jents, jent_r, jent_i, jent_l, jent_a, jent_0]; rfl
  rw [hls]
  clear hls
  unfold f_Line_hasRoom at H
  refine J_aload_n d_Line_hasRoom_0 rfl ?_
  have g2 : Γ this = .inr 1 := by
    apply Classical.byContradiction
    intro q9
    rw [if_neg q9] at H
    cases H
  rw [if_pos g2] at H
  refine F_getI (ci := 1) (k := 1) hG (cf_Line hw) (fl_Line_18 hw) (by decide) (by decide) rfl d_Line_hasRoom_1 g2 ?_
  refine J_aload_n d_Line_hasRoom_4 rfl ?_
  refine F_getR (ci := 1) (k := 0) hG (cf_Line hw) (fl_Line_11 hw) (by decide) (by decide) rfl d_Line_hasRoom_5 g2 ?_
  obtain ⟨a3, ha3, H⟩ := Option.bind_eq_some_iff.mp H
  rw [j_rf ha3]
  obtain ⟨N4, hN4, H⟩ := Option.bind_eq_some_iff.mp H
  refine F_alen hw hG (t := 5) rfl d_Line_hasRoom_8 (gA_some hN4) ?_
  refine J_icmp_ge (tgt := 16) d_Line_hasRoom_9 (by decide) ?_ ?_
  · intro c5
    rw [if_pos c5] at H
    refine J_iconst (v := 0) d_Line_hasRoom_16 (by decide) ?_
    refine J.drop [false] rfl ?_
    exact p_Line_hasRoom_L17 hw hG  H
  · intro c5
    rw [if_neg c5] at H
    refine J_iconst (v := 1) d_Line_hasRoom_12 (by decide) ?_
    refine J_goto (tgt := 17) d_Line_hasRoom_13 (by decide) ?_
    refine J.drop [false] rfl ?_
    exact p_Line_hasRoom_L17 hw hG  H
theorem ln_Line_add : (parseMethodDescriptor y_Line_add.desc).map (fun q => q.parameters.length) = some 1 := by decide +kernel
def f_Line_add (Γ : gm_T) (φ : ph_T) (this : Nat) (p0 : Int64) : Option (Option Nat × ph_T) :=
  @ite _ (Γ this = .inr 1) _ (
  Option.bind (f_Line_hasRoom Γ φ this) fun q2 =>
  if q2.1 = 0 then
    some (none, q2.2)
  else
    Option.bind (q2.2.2.2 this 0) fun a3 =>
    Option.bind (gA Γ a3 5) fun N4 =>
    Option.bind (ix (q2.2.1 this 1) N4) fun k5 =>
    Option.bind (q2.2.2.2 a3 k5) fun a6 =>
    @ite _ (Γ a6 = .inr 0) _ (
    Option.bind (f_Burst_start Γ q2.2 a6 p0) fun q8 =>
    some ((some a6), (uI q8.2 this 1 ((q8.2.1 this 1) + (1 : Int32))))
    ) none
  ) none
set_option maxRecDepth 100000 in
set_option maxHeartbeats 4000000 in
theorem p_Line_add {w : jw_T} (hw : jok w) {Γ : gm_T} {n : Nat} (hG : gd w Γ n) {x : Bool} {φ : ph_T} {this : Nat} {p0 : Int64} {q : Option Nat × ph_T} (H : f_Line_add Γ φ this p0 = some q) : jc w M_Line_add [.ref this, .long p0] (pic Γ φ) n x 0 0 (fq Γ n (.inl (some (va_rf q.1))) q.2) := by
  refine jc.of (by simp only [jent_r, jent_i, jent_l, jent_a, jent_0]; exact Nat.le_of_ble_eq_true rfl) ?_
  have hls : jents [.ref this, .long p0] (jm_nL M_Line_add) = [some (.ref this), some (.long p0), none, none] := by simp only [jents, jent_r, jent_i, jent_l, jent_a, jent_0]; rfl
  rw [hls]
  clear hls
  unfold f_Line_add at H
  refine J_aload_n d_Line_add_0 rfl ?_
  have g1 : Γ this = .inr 1 := by
    apply Classical.byContradiction
    intro q9
    rw [if_neg q9] at H
    cases H
  rw [if_pos g1] at H
  obtain ⟨q2, hq2, H⟩ := Option.bind_eq_some_iff.mp H
  refine J_callV (kc := 0) (ks := 0) (kc' := 0) (ks' := 0) (a := this) (ci := 1) (as := []) (st := []) (mf_Line_hasRoom hw) (mv_Line_22 hw) d_Line_add_1 ln_Line_hasRoom (by decide) (by first | exact Nat.le_of_ble_eq_true rfl | (simp only [List.map_cons, List.map_nil, List.sum_cons, List.sum_nil, va_rf_cat]; exact Nat.le_of_ble_eq_true rfl)) rfl ((hG _).1 _ g1 (by decide)).1 ((hG _).1 _ g1 (by decide)).2 (by unfold pic; rw [g1]; rfl) (jcl_at hw rfl) rfl (p_Line_hasRoom hw hG hq2) ?_ (fun E h' n' x' e1 => by cases e1.1)
  intro v9 h9 n9 x9 e9
  obtain ⟨e91, e92, e93⟩ := e9
  cases e91
  subst e92
  subst e93
  clear x
  rename Bool => x
  show J _ _ _ _ (_ :: _) _ _ _ _ _ _
  refine J_if_ne (tgt := 9) d_Line_add_4 (by decide) ?_ ?_
  · intro c9
    rw [if_neg c9] at H
    refine J_aload_n d_Line_add_9 rfl ?_
    refine F_getR (ci := 1) (k := 0) hG (cf_Line hw) (fl_Line_11 hw) (by decide) (by decide) rfl d_Line_add_10 g1 ?_
    refine J_aload_n d_Line_add_13 rfl ?_
    refine F_getI (ci := 1) (k := 1) hG (cf_Line hw) (fl_Line_18 hw) (by decide) (by decide) rfl d_Line_add_14 g1 ?_
    obtain ⟨a3, ha3, H⟩ := Option.bind_eq_some_iff.mp H
    rw [j_rf ha3]
    obtain ⟨N4, hN4, H⟩ := Option.bind_eq_some_iff.mp H
    obtain ⟨k5, hk5, H⟩ := Option.bind_eq_some_iff.mp H
    refine F_aald k5 hw hG (t := 5) rfl (by decide) d_Line_add_17 (gA_some hN4) (ix_some hk5) ?_
    refine J_astore_nO d_Line_add_18 (Nat.le_of_ble_eq_true rfl) ?_
    refine J.ls (ls' := [some (.ref this), some (.long p0), none, some (va_rf (q2.2.2.2 a3 k5))]) rfl ?_
    refine J_aload_nO d_Line_add_19 rfl ?_
    refine J_lload_n d_Line_add_20 rfl ?_
    obtain ⟨a6, ha6, H⟩ := Option.bind_eq_some_iff.mp H
    rw [j_rf ha6]
    have g7 : Γ a6 = .inr 0 := by
      apply Classical.byContradiction
      intro q9
      rw [if_neg q9] at H
      cases H
    rw [if_pos g7] at H
    obtain ⟨q8, hq8, H⟩ := Option.bind_eq_some_iff.mp H
    refine J_callV (kc := 0) (ks := 0) (kc' := 0) (ks' := 0) (a := a6) (ci := 0) (as := [.long p0]) (st := []) (mf_Burst_start hw) (mv_Line_26 hw) d_Line_add_21 ln_Burst_start (by decide) (by first | exact Nat.le_of_ble_eq_true rfl | (simp only [List.map_cons, List.map_nil, List.sum_cons, List.sum_nil, va_rf_cat]; exact Nat.le_of_ble_eq_true rfl)) rfl ((hG _).1 _ g7 (by decide)).1 ((hG _).1 _ g7 (by decide)).2 (by unfold pic; rw [g7]; rfl) (jcl_at hw rfl) rfl (p_Burst_start hw hG hq8) ?_ (fun E h' n' x' e1 => by cases e1.1)
    intro v9 h9 n9 x9 e9
    obtain ⟨e91, e92, e93⟩ := e9
    cases e91
    subst e92
    subst e93
    clear x
    rename Bool => x
    show J _ _ _ _ [] _ _ _ _ _ _
    refine J_aload_n d_Line_add_24 rfl ?_
    refine J_dup d_Line_add_25 rfl ?_
    refine F_getI (ci := 1) (k := 1) hG (cf_Line hw) (fl_Line_18 hw) (by decide) (by decide) rfl d_Line_add_26 g1 ?_
    refine J_iconst (v := 1) d_Line_add_29 (by decide) ?_
    refine J_iadd d_Line_add_30 ?_
    refine F_putI (ci := 1) (k := 1) hG (cf_Line hw) (fl_Line_18 hw) (by decide) (by decide) rfl d_Line_add_31 rfl rfl rfl g1 ?_
    refine J_aload_n d_Line_add_34 rfl ?_
    have H := Option.some.inj H
    subst H
    exact J_aret (st := []) d_Line_add_35 rfl (Or.inl ⟨_, rfl⟩) (by first | exact Or.inr ⟨_, rfl⟩ | (generalize (some a6) = r9; cases r9; exact Or.inl rfl; exact Or.inr ⟨_, rfl⟩)) ⟨rfl, rfl, rfl⟩
  · intro c9
    rw [if_pos c9] at H
    refine J_null d_Line_add_7 ?_
    show J _ _ _ _ (va_rf none :: _) _ _ _ _ _ _
    have H := Option.some.inj H
    subst H
    exact J_aret (st := []) d_Line_add_8 rfl (Or.inl ⟨_, rfl⟩) (by first | exact Or.inr ⟨_, rfl⟩ | (generalize none = r9; cases r9; exact Or.inl rfl; exact Or.inr ⟨_, rfl⟩)) ⟨rfl, rfl, rfl⟩
theorem ln_Line_firstUnaddressed : (parseMethodDescriptor y_Line_firstUnaddressed.desc).map (fun q => q.parameters.length) = some 0 := by decide +kernel
def f_Line_firstUnaddressed_L2 (Γ : gm_T)  : Nat → ph_T → Nat → Int32 → Option (Int32 × ph_T)
  | 0, _, _, _ => none
  | fu + 1, φ, x0, x1 =>
    @ite _ (Γ x0 = .inr 1) _ (
    if (φ.1 x0 1) ≤ x1 then
      some ((-1 : Int32), φ)
    else
      Option.bind (φ.2.2 x0 0) fun a2 =>
      Option.bind (gA Γ a2 5) fun N3 =>
      Option.bind (ix x1 N3) fun k4 =>
      Option.bind (φ.2.2 a2 k4) fun a5 =>
      @ite _ (Γ a5 = .inr 0) _ (
      if (φ.1 a5 1) = 0 then
        some (x1, φ)
      else
        (f_Line_firstUnaddressed_L2 Γ  fu) φ x0 (x1 + (1 : Int32))
      ) none
    ) none
set_option maxRecDepth 100000 in
set_option maxHeartbeats 4000000 in
theorem p_Line_firstUnaddressed_L2 {w : jw_T} (hw : jok w) {Γ : gm_T} {n : Nat} (hG : gd w Γ n)  : ∀ (fu : Nat) {x : Bool} {φ : ph_T} {x0 : Nat} {x1 : Int32} {q : Int32 × ph_T}, f_Line_firstUnaddressed_L2 Γ  fu φ x0 x1 = some q → J w M_Line_firstUnaddressed 2 [some (.ref x0), some (.int x1)] [] (pic Γ φ) n x 0 0 (fq Γ n (.inl (some (.int q.1))) q.2) := by
  intro fu
  induction fu with
  | zero =>
    intro x φ x0 x1 q H
    cases H
  | succ fu ih =>
    intro x φ x0 x1 q H
    unfold f_Line_firstUnaddressed_L2 at H
    refine J_iload_n d_Line_firstUnaddressed_2 rfl ?_
    refine J_aload_n d_Line_firstUnaddressed_3 rfl ?_
    have g1 : Γ x0 = .inr 1 := by
      apply Classical.byContradiction
      intro q9
      rw [if_neg q9] at H
      cases H
    rw [if_pos g1] at H
    refine F_getI (ci := 1) (k := 1) hG (cf_Line hw) (fl_Line_18 hw) (by decide) (by decide) rfl d_Line_firstUnaddressed_4 g1 ?_
    refine J_icmp_ge (tgt := 30) d_Line_firstUnaddressed_7 (by decide) ?_ ?_
    · intro c8
      rw [if_pos c8] at H
      refine J_iconst (v := -1) d_Line_firstUnaddressed_30 (by decide) ?_
      have H := Option.some.inj H
      subst H
      exact J_iret (st := []) d_Line_firstUnaddressed_31 rfl rfl ⟨rfl, rfl, rfl⟩
    · intro c8
      rw [if_neg c8] at H
      refine J_aload_n d_Line_firstUnaddressed_10 rfl ?_
      refine F_getR (ci := 1) (k := 0) hG (cf_Line hw) (fl_Line_11 hw) (by decide) (by decide) rfl d_Line_firstUnaddressed_11 g1 ?_
      refine J_iload_n d_Line_firstUnaddressed_14 rfl ?_
      obtain ⟨a2, ha2, H⟩ := Option.bind_eq_some_iff.mp H
      rw [j_rf ha2]
      obtain ⟨N3, hN3, H⟩ := Option.bind_eq_some_iff.mp H
      obtain ⟨k4, hk4, H⟩ := Option.bind_eq_some_iff.mp H
      refine F_aald k4 hw hG (t := 5) rfl (by decide) d_Line_firstUnaddressed_15 (gA_some hN3) (ix_some hk4) ?_
      obtain ⟨a5, ha5, H⟩ := Option.bind_eq_some_iff.mp H
      rw [j_rf ha5]
      have g6 : Γ a5 = .inr 0 := by
        apply Classical.byContradiction
        intro q9
        rw [if_neg q9] at H
        cases H
      rw [if_pos g6] at H
      refine F_getI (ci := 0) (k := 1) hG (cf_Burst hw) (fl_Line_38 hw) (by decide) (by decide) rfl d_Line_firstUnaddressed_16 g6 ?_
      refine J_if_ne (tgt := 24) d_Line_firstUnaddressed_19 (by decide) ?_ ?_
      · intro c7
        rw [if_neg c7] at H
        refine J_iinc (v := x1 + 1) d_Line_firstUnaddressed_24 rfl (by rw [show Int32.ofInt 1 = (1 : Int32) from by decide]) ?_
        refine J.ls (ls' := [some (.ref x0), some (.int (x1 + (1 : Int32)))]) rfl ?_
        refine J_goto (tgt := 2) d_Line_firstUnaddressed_27 (by decide) ?_
        refine J.drop [true, true] rfl ?_
        exact ih H
      · intro c7
        rw [if_pos c7] at H
        refine J_iload_n d_Line_firstUnaddressed_22 rfl ?_
        have H := Option.some.inj H
        subst H
        exact J_iret (st := []) d_Line_firstUnaddressed_23 rfl rfl ⟨rfl, rfl, rfl⟩
def f_Line_firstUnaddressed (Γ : gm_T) (φ : ph_T) (this : Nat) : Option (Int32 × ph_T) :=
  f_Line_firstUnaddressed_L2 Γ  jF φ this (0 : Int32)
set_option maxRecDepth 100000 in
set_option maxHeartbeats 4000000 in
theorem p_Line_firstUnaddressed {w : jw_T} (hw : jok w) {Γ : gm_T} {n : Nat} (hG : gd w Γ n) {x : Bool} {φ : ph_T} {this : Nat} {q : Int32 × ph_T} (H : f_Line_firstUnaddressed Γ φ this = some q) : jc w M_Line_firstUnaddressed [.ref this] (pic Γ φ) n x 0 0 (fq Γ n (.inl (some (.int q.1))) q.2) := by
  refine jc.of (by simp only [jent_r, jent_i, jent_l, jent_a, jent_0]; exact Nat.le_of_ble_eq_true rfl) ?_
  have hls : jents [.ref this] (jm_nL M_Line_firstUnaddressed) = [some (.ref this), none] := by simp only [jents, jent_r, jent_i, jent_l, jent_a, jent_0]; rfl
  rw [hls]
  clear hls
  unfold f_Line_firstUnaddressed at H
  refine J_iconst (v := 0) d_Line_firstUnaddressed_0 (by decide) ?_
  refine J_istore_n d_Line_firstUnaddressed_1 (Nat.le_of_ble_eq_true rfl) ?_
  refine J.ls (ls' := [some (.ref this), some (.int (0 : Int32))]) rfl ?_
  refine J.drop [true, true] rfl ?_
  exact p_Line_firstUnaddressed_L2 hw hG  _ H
theorem ln_Monitor_brokenWriteBeat : (parseMethodDescriptor y_Monitor_brokenWriteBeat.desc).map (fun q => q.parameters.length) = some 2 := by decide +kernel
def f_Monitor_brokenWriteBeat_L89 (Γ : gm_T)  (φ : ph_T) (y0 : Int32) : Option (Int32 × ph_T) :=
  some (y0, φ)
set_option maxRecDepth 100000 in
set_option maxHeartbeats 4000000 in
theorem p_Monitor_brokenWriteBeat_L89 {w : jw_T} (hw : jok w) {Γ : gm_T} {n : Nat} (hG : gd w Γ n)  {x : Bool} {φ : ph_T} {y0 : Int32} {q : Int32 × ph_T} (H : f_Monitor_brokenWriteBeat_L89 Γ  φ y0 = some q) : J w M_Monitor_brokenWriteBeat 89 [none, none, none, none, none] [.int y0] (pic Γ φ) n x 0 0 (fq Γ n (.inl (some (.int q.1))) q.2) := by
  unfold f_Monitor_brokenWriteBeat_L89 at H
  have H := Option.some.inj H
  subst H
  exact J_iret (st := []) d_Monitor_brokenWriteBeat_89 rfl rfl ⟨rfl, rfl, rfl⟩
def f_Monitor_brokenWriteBeat_L57 (Γ : gm_T)  (φ : ph_T) : Option (Int32 × ph_T) :=
  some ((7 : Int32), φ)
set_option maxRecDepth 100000 in
set_option maxHeartbeats 4000000 in
theorem p_Monitor_brokenWriteBeat_L57 {w : jw_T} (hw : jok w) {Γ : gm_T} {n : Nat} (hG : gd w Γ n)  {x : Bool} {φ : ph_T} {q : Int32 × ph_T} (H : f_Monitor_brokenWriteBeat_L57 Γ  φ  = some q) : J w M_Monitor_brokenWriteBeat 57 [none, none, none, none, none] [] (pic Γ φ) n x 0 0 (fq Γ n (.inl (some (.int q.1))) q.2) := by
  unfold f_Monitor_brokenWriteBeat_L57 at H
  refine J_bipush (v := 7) d_Monitor_brokenWriteBeat_57 (by decide) ?_
  have H := Option.some.inj H
  subst H
  exact J_iret (st := []) d_Monitor_brokenWriteBeat_59 rfl rfl ⟨rfl, rfl, rfl⟩
def f_Monitor_brokenWriteBeat_L37 (Γ : gm_T)  (φ : ph_T) (x0 : Option Nat) (x1 : Int32) (x2 : Int32) (y0 : Int32) : Option (Int32 × ph_T) :=
  Option.bind (f_Bus_restLast Γ φ x2) fun q1 =>
  if y0 = q1.1 then
    Option.bind x0 fun a2 =>
    @ite _ (Γ a2 = .inr 0) _ (
    Option.bind (f_Burst_lengthOf Γ q1.2 (q1.2.2.1 a2 0)) fun q4 =>
    if x1 < q4.1 then
      Option.bind (f_Burst_beatLanes Γ q4.2 (q4.2.2.1 a2 0) x1) fun q5 =>
      if ((x2 &&& (255 : Int32)) &&& (q5.1 ^^^ (-1 : Int32))) = 0 then
        f_Monitor_brokenWriteBeat_L89 Γ  q5.2 (0 : Int32)
      else
        f_Monitor_brokenWriteBeat_L89 Γ  q5.2 (8 : Int32)
    else
      f_Monitor_brokenWriteBeat_L57 Γ  q4.2 
    ) none
  else
    f_Monitor_brokenWriteBeat_L57 Γ  q1.2 
set_option maxRecDepth 100000 in
set_option maxHeartbeats 4000000 in
theorem p_Monitor_brokenWriteBeat_L37 {w : jw_T} (hw : jok w) {Γ : gm_T} {n : Nat} (hG : gd w Γ n)  {x : Bool} {φ : ph_T} {x0 : Option Nat} {x1 : Int32} {x2 : Int32} {y0 : Int32} {q : Int32 × ph_T} (H : f_Monitor_brokenWriteBeat_L37 Γ  φ x0 x1 x2 y0 = some q) : J w M_Monitor_brokenWriteBeat 37 [some (va_rf x0), some (.int x1), some (.int x2), none, none] [.int y0] (pic Γ φ) n x 0 0 (fq Γ n (.inl (some (.int q.1))) q.2) := by
  unfold f_Monitor_brokenWriteBeat_L37 at H
  refine J_istore_n d_Monitor_brokenWriteBeat_37 (Nat.le_of_ble_eq_true rfl) ?_
  refine J.ls (ls' := [some (va_rf x0), some (.int x1), some (.int x2), some (.int y0), none]) rfl ?_
  refine J_iload_n d_Monitor_brokenWriteBeat_38 rfl ?_
  refine J_iload_n d_Monitor_brokenWriteBeat_39 rfl ?_
  obtain ⟨q1, hq1, H⟩ := Option.bind_eq_some_iff.mp H
  refine J_callS (kc := 0) (ks := 0) (kc' := 0) (ks' := 0) (as := [.int x2]) (st := [.int y0]) (mf_Bus_restLast hw) (ms_Monitor_137 hw) d_Monitor_brokenWriteBeat_40 ln_Bus_restLast (by decide) (by first | exact Nat.le_of_ble_eq_true rfl | (simp only [List.map_cons, List.map_nil, List.sum_cons, List.sum_nil, va_rf_cat]; exact Nat.le_of_ble_eq_true rfl)) rfl (p_Bus_restLast hw hG hq1) ?_ (fun E h' n' x' e1 => by cases e1.1)
  intro v9 h9 n9 x9 e9
  obtain ⟨e91, e92, e93⟩ := e9
  cases e91
  subst e92
  subst e93
  clear x
  rename Bool => x
  show J _ _ _ _ (_ :: _) _ _ _ _ _ _
  refine J_icmp_ne (tgt := 57) d_Monitor_brokenWriteBeat_43 (by decide) ?_ ?_
  · intro c8
    rw [if_neg c8] at H
    refine J.drop [false, false, false, false, false] rfl ?_
    exact p_Monitor_brokenWriteBeat_L57 hw hG  H
  · intro c8
    rw [if_pos c8] at H
    refine J_iload_n d_Monitor_brokenWriteBeat_46 rfl ?_
    refine J_aload_nO d_Monitor_brokenWriteBeat_47 rfl ?_
    obtain ⟨a2, ha2, H⟩ := Option.bind_eq_some_iff.mp H
    rw [j_rf ha2]
    have g3 : Γ a2 = .inr 0 := by
      apply Classical.byContradiction
      intro q9
      rw [if_neg q9] at H
      cases H
    rw [if_pos g3] at H
    refine F_getL (ci := 0) (k := 0) hG (cf_Burst hw) (fl_Monitor_130 hw) (by decide) (by decide) rfl d_Monitor_brokenWriteBeat_48 g3 ?_
    obtain ⟨q4, hq4, H⟩ := Option.bind_eq_some_iff.mp H
    refine J_callS (kc := 0) (ks := 0) (kc' := 0) (ks' := 0) (as := [.long (q1.2.2.1 a2 0)]) (st := [.int x1]) (mf_Burst_lengthOf hw) (ms_Monitor_134 hw) d_Monitor_brokenWriteBeat_51 ln_Burst_lengthOf (by decide) (by first | exact Nat.le_of_ble_eq_true rfl | (simp only [List.map_cons, List.map_nil, List.sum_cons, List.sum_nil, va_rf_cat]; exact Nat.le_of_ble_eq_true rfl)) rfl (p_Burst_lengthOf hw hG hq4) ?_ (fun E h' n' x' e1 => by cases e1.1)
    intro v9 h9 n9 x9 e9
    obtain ⟨e91, e92, e93⟩ := e9
    cases e91
    subst e92
    subst e93
    clear x
    rename Bool => x
    show J _ _ _ _ (_ :: _) _ _ _ _ _ _
    refine J_icmp_lt (tgt := 60) d_Monitor_brokenWriteBeat_54 (by decide) ?_ ?_
    · intro c7
      rw [if_pos c7] at H
      refine J_iload_n d_Monitor_brokenWriteBeat_60 rfl ?_
      refine J_sipush (v := 255) d_Monitor_brokenWriteBeat_61 (by decide) ?_
      refine J_iand d_Monitor_brokenWriteBeat_64 ?_
      refine J_istore d_Monitor_brokenWriteBeat_65 (Nat.le_of_ble_eq_true rfl) ?_
      refine J.ls (ls' := [some (.ref a2), some (.int x1), some (.int x2), some (.int y0), some (.int (x2 &&& (255 : Int32)))]) rfl ?_
      refine J_iload d_Monitor_brokenWriteBeat_67 rfl ?_
      refine J_aload_n d_Monitor_brokenWriteBeat_69 rfl ?_
      refine F_getL (ci := 0) (k := 0) hG (cf_Burst hw) (fl_Monitor_130 hw) (by decide) (by decide) rfl d_Monitor_brokenWriteBeat_70 g3 ?_
      refine J_iload_n d_Monitor_brokenWriteBeat_73 rfl ?_
      obtain ⟨q5, hq5, H⟩ := Option.bind_eq_some_iff.mp H
      refine J_callS (kc := 0) (ks := 0) (kc' := 0) (ks' := 0) (as := [.long (q4.2.2.1 a2 0), .int x1]) (st := [.int (x2 &&& (255 : Int32))]) (mf_Burst_beatLanes hw) (ms_Monitor_176 hw) d_Monitor_brokenWriteBeat_74 ln_Burst_beatLanes (by decide) (by first | exact Nat.le_of_ble_eq_true rfl | (simp only [List.map_cons, List.map_nil, List.sum_cons, List.sum_nil, va_rf_cat]; exact Nat.le_of_ble_eq_true rfl)) rfl (p_Burst_beatLanes hw hG hq5) ?_ (fun E h' n' x' e1 => by cases e1.1)
      intro v9 h9 n9 x9 e9
      obtain ⟨e91, e92, e93⟩ := e9
      cases e91
      subst e92
      subst e93
      clear x
      rename Bool => x
      show J _ _ _ _ (_ :: _) _ _ _ _ _ _
      refine J_iconst (v := -1) d_Monitor_brokenWriteBeat_77 (by decide) ?_
      refine J_ixor d_Monitor_brokenWriteBeat_78 ?_
      refine J_iand d_Monitor_brokenWriteBeat_79 ?_
      refine J_if_eq (tgt := 88) d_Monitor_brokenWriteBeat_80 (by decide) ?_ ?_
      · intro c6
        rw [if_pos c6] at H
        refine J_iconst (v := 0) d_Monitor_brokenWriteBeat_88 (by decide) ?_
        refine J.drop [false, false, false, false, false] rfl ?_
        exact p_Monitor_brokenWriteBeat_L89 hw hG  H
      · intro c6
        rw [if_neg c6] at H
        refine J_bipush (v := 8) d_Monitor_brokenWriteBeat_83 (by decide) ?_
        refine J_goto (tgt := 89) d_Monitor_brokenWriteBeat_85 (by decide) ?_
        refine J.drop [false, false, false, false, false] rfl ?_
        exact p_Monitor_brokenWriteBeat_L89 hw hG  H
    · intro c7
      rw [if_neg c7] at H
      refine J.drop [false, false, false, false, false] rfl ?_
      exact p_Monitor_brokenWriteBeat_L57 hw hG  H
def f_Monitor_brokenWriteBeat_L10 (Γ : gm_T)  (φ : ph_T) : Option (Int32 × ph_T) :=
  some ((0 : Int32), φ)
set_option maxRecDepth 100000 in
set_option maxHeartbeats 4000000 in
theorem p_Monitor_brokenWriteBeat_L10 {w : jw_T} (hw : jok w) {Γ : gm_T} {n : Nat} (hG : gd w Γ n)  {x : Bool} {φ : ph_T} {q : Int32 × ph_T} (H : f_Monitor_brokenWriteBeat_L10 Γ  φ  = some q) : J w M_Monitor_brokenWriteBeat 10 [none, none, none, none, none] [] (pic Γ φ) n x 0 0 (fq Γ n (.inl (some (.int q.1))) q.2) := by
  unfold f_Monitor_brokenWriteBeat_L10 at H
  refine J_iconst (v := 0) d_Monitor_brokenWriteBeat_10 (by decide) ?_
  have H := Option.some.inj H
  subst H
  exact J_iret (st := []) d_Monitor_brokenWriteBeat_11 rfl rfl ⟨rfl, rfl, rfl⟩
def f_Monitor_brokenWriteBeat (Γ : gm_T) (φ : ph_T) (p0 : Option Nat) (p1 : Int32) : Option (Int32 × ph_T) :=
  if p1 < 0 then
    f_Monitor_brokenWriteBeat_L10 Γ  φ 
  else
    if p1 < (16 : Int32) then
      Option.bind p0 fun a9 =>
      @ite _ (Γ a9 = .inr 0) _ (
      Option.bind (φ.2.2 a9 7) fun a11 =>
      Option.bind (gA Γ a11 0) fun N12 =>
      Option.bind (ix p1 N12) fun k13 =>
      Option.bind (f_Burst_lengthOf Γ φ (φ.2.1 a9 0)) fun q14 =>
      if p1 = (q14.1 - (1 : Int32)) then
        f_Monitor_brokenWriteBeat_L37 Γ  q14.2 (some a9) p1 (φ.1 a11 k13) (1 : Int32)
      else
        f_Monitor_brokenWriteBeat_L37 Γ  q14.2 (some a9) p1 (φ.1 a11 k13) (0 : Int32)
      ) none
    else
      f_Monitor_brokenWriteBeat_L10 Γ  φ 
set_option maxRecDepth 100000 in
set_option maxHeartbeats 4000000 in
theorem p_Monitor_brokenWriteBeat {w : jw_T} (hw : jok w) {Γ : gm_T} {n : Nat} (hG : gd w Γ n) {x : Bool} {φ : ph_T} {p0 : Option Nat} {p1 : Int32} {q : Int32 × ph_T} (H : f_Monitor_brokenWriteBeat Γ φ p0 p1 = some q) : jc w M_Monitor_brokenWriteBeat [va_rf p0, .int p1] (pic Γ φ) n x 0 0 (fq Γ n (.inl (some (.int q.1))) q.2) := by
  refine jc.of (by simp only [jent_r, jent_i, jent_l, jent_a, jent_0]; exact Nat.le_of_ble_eq_true rfl) ?_
  have hls : jents [va_rf p0, .int p1] (jm_nL M_Monitor_brokenWriteBeat) = [some (va_rf p0), some (.int p1), none, none, none] := by simp only [jents, jent_r, jent_i, jent_l, jent_a, jent_0]; rfl
  rw [hls]
  clear hls
  unfold f_Monitor_brokenWriteBeat at H
  refine J_iload_n d_Monitor_brokenWriteBeat_0 rfl ?_
  refine J_if_lt (tgt := 10) d_Monitor_brokenWriteBeat_1 (by decide) ?_ ?_
  · intro c17
    rw [if_pos c17] at H
    refine J.drop [false, false, false, false, false] rfl ?_
    exact p_Monitor_brokenWriteBeat_L10 hw hG  H
  · intro c17
    rw [if_neg c17] at H
    refine J_iload_n d_Monitor_brokenWriteBeat_4 rfl ?_
    refine J_bipush (v := 16) d_Monitor_brokenWriteBeat_5 (by decide) ?_
    refine J_icmp_lt (tgt := 12) d_Monitor_brokenWriteBeat_7 (by decide) ?_ ?_
    · intro c16
      rw [if_pos c16] at H
      refine J_aload_nO d_Monitor_brokenWriteBeat_12 rfl ?_
      obtain ⟨a9, ha9, H⟩ := Option.bind_eq_some_iff.mp H
      rw [j_rf ha9]
      have g10 : Γ a9 = .inr 0 := by
        apply Classical.byContradiction
        intro q9
        rw [if_neg q9] at H
        cases H
      rw [if_pos g10] at H
      refine F_getR (ci := 0) (k := 7) hG (cf_Burst hw) (fl_Monitor_175 hw) (by decide) (by decide) rfl d_Monitor_brokenWriteBeat_13 g10 ?_
      refine J_iload_n d_Monitor_brokenWriteBeat_16 rfl ?_
      obtain ⟨a11, ha11, H⟩ := Option.bind_eq_some_iff.mp H
      rw [j_rf ha11]
      obtain ⟨N12, hN12, H⟩ := Option.bind_eq_some_iff.mp H
      obtain ⟨k13, hk13, H⟩ := Option.bind_eq_some_iff.mp H
      refine F_iald k13 hw hG d_Monitor_brokenWriteBeat_17 (gA_some hN12) (ix_some hk13) ?_
      refine J_istore_n d_Monitor_brokenWriteBeat_18 (Nat.le_of_ble_eq_true rfl) ?_
      refine J.ls (ls' := [some (.ref a9), some (.int p1), some (.int (φ.1 a11 k13)), none, none]) rfl ?_
      refine J_iload_n d_Monitor_brokenWriteBeat_19 rfl ?_
      refine J_aload_n d_Monitor_brokenWriteBeat_20 rfl ?_
      refine F_getL (ci := 0) (k := 0) hG (cf_Burst hw) (fl_Monitor_130 hw) (by decide) (by decide) rfl d_Monitor_brokenWriteBeat_21 g10 ?_
      obtain ⟨q14, hq14, H⟩ := Option.bind_eq_some_iff.mp H
      refine J_callS (kc := 0) (ks := 0) (kc' := 0) (ks' := 0) (as := [.long (φ.2.1 a9 0)]) (st := [.int p1]) (mf_Burst_lengthOf hw) (ms_Monitor_134 hw) d_Monitor_brokenWriteBeat_24 ln_Burst_lengthOf (by decide) (by first | exact Nat.le_of_ble_eq_true rfl | (simp only [List.map_cons, List.map_nil, List.sum_cons, List.sum_nil, va_rf_cat]; exact Nat.le_of_ble_eq_true rfl)) rfl (p_Burst_lengthOf hw hG hq14) ?_ (fun E h' n' x' e1 => by cases e1.1)
      intro v9 h9 n9 x9 e9
      obtain ⟨e91, e92, e93⟩ := e9
      cases e91
      subst e92
      subst e93
      clear x
      rename Bool => x
      show J _ _ _ _ (_ :: _) _ _ _ _ _ _
      refine J_iconst (v := 1) d_Monitor_brokenWriteBeat_27 (by decide) ?_
      refine J_isub d_Monitor_brokenWriteBeat_28 ?_
      refine J_icmp_ne (tgt := 36) d_Monitor_brokenWriteBeat_29 (by decide) ?_ ?_
      · intro c15
        rw [if_neg c15] at H
        refine J_iconst (v := 0) d_Monitor_brokenWriteBeat_36 (by decide) ?_
        refine J.drop [true, true, true, false, false] rfl ?_
        exact p_Monitor_brokenWriteBeat_L37 hw hG  H
      · intro c15
        rw [if_pos c15] at H
        refine J_iconst (v := 1) d_Monitor_brokenWriteBeat_32 (by decide) ?_
        refine J_goto (tgt := 37) d_Monitor_brokenWriteBeat_33 (by decide) ?_
        refine J.drop [true, true, true, false, false] rfl ?_
        exact p_Monitor_brokenWriteBeat_L37 hw hG  H
    · intro c16
      rw [if_neg c16] at H
      refine J.drop [false, false, false, false, false] rfl ?_
      exact p_Monitor_brokenWriteBeat_L10 hw hG  H
theorem ln_Monitor_takeWriteAddress : (parseMethodDescriptor y_Monitor_takeWriteAddress.desc).map (fun q => q.parameters.length) = some 1 := by decide +kernel
def f_Monitor_takeWriteAddress_L79 (Γ : gm_T)  (φ : ph_T) (x4 : Int32) : Option (Int32 × ph_T) :=
  some (x4, φ)
set_option maxRecDepth 100000 in
set_option maxHeartbeats 4000000 in
theorem p_Monitor_takeWriteAddress_L79 {w : jw_T} (hw : jok w) {Γ : gm_T} {n : Nat} (hG : gd w Γ n)  {x : Bool} {φ : ph_T} {x4 : Int32} {q : Int32 × ph_T} (H : f_Monitor_takeWriteAddress_L79 Γ  φ x4 = some q) : J w M_Monitor_takeWriteAddress 79 [none, none, none, none, some (.int x4), none] [] (pic Γ φ) n x 0 0 (fq Γ n (.inl (some (.int q.1))) q.2) := by
  unfold f_Monitor_takeWriteAddress_L79 at H
  refine J_iload d_Monitor_takeWriteAddress_79 rfl ?_
  have H := Option.some.inj H
  subst H
  exact J_iret (st := []) d_Monitor_takeWriteAddress_81 rfl rfl ⟨rfl, rfl, rfl⟩
def f_Monitor_takeWriteAddress_L51 (Γ : gm_T)  : Nat → ph_T → Option Nat → Int32 → Int32 → Option (Int32 × ph_T)
  | 0, _, _, _, _ => none
  | fu + 1, φ, x3, x4, x5 =>
    Option.bind x3 fun a1 =>
    @ite _ (Γ a1 = .inr 0) _ (
    if (φ.1 a1 3) ≤ x5 then
      f_Monitor_takeWriteAddress_L79 Γ  φ x4
    else
      if x4 = 0 then
        Option.bind (f_Monitor_brokenWriteBeat Γ φ (some a1) x5) fun q3 =>
        (f_Monitor_takeWriteAddress_L51 Γ  fu) q3.2 (some a1) q3.1 (x5 + (1 : Int32))
      else
        f_Monitor_takeWriteAddress_L79 Γ  φ x4
    ) none
set_option maxRecDepth 100000 in
set_option maxHeartbeats 4000000 in
theorem p_Monitor_takeWriteAddress_L51 {w : jw_T} (hw : jok w) {Γ : gm_T} {n : Nat} (hG : gd w Γ n)  : ∀ (fu : Nat) {x : Bool} {φ : ph_T} {x3 : Option Nat} {x4 : Int32} {x5 : Int32} {q : Int32 × ph_T}, f_Monitor_takeWriteAddress_L51 Γ  fu φ x3 x4 x5 = some q → J w M_Monitor_takeWriteAddress 51 [none, none, none, some (va_rf x3), some (.int x4), some (.int x5)] [] (pic Γ φ) n x 0 0 (fq Γ n (.inl (some (.int q.1))) q.2) := by
  intro fu
  induction fu with
  | zero =>
    intro x φ x3 x4 x5 q H
    cases H
  | succ fu ih =>
    intro x φ x3 x4 x5 q H
    unfold f_Monitor_takeWriteAddress_L51 at H
    refine J_iload d_Monitor_takeWriteAddress_51 rfl ?_
    refine J_aload_nO d_Monitor_takeWriteAddress_53 rfl ?_
    obtain ⟨a1, ha1, H⟩ := Option.bind_eq_some_iff.mp H
    rw [j_rf ha1]
    have g2 : Γ a1 = .inr 0 := by
      apply Classical.byContradiction
      intro q9
      rw [if_neg q9] at H
      cases H
    rw [if_pos g2] at H
    refine F_getI (ci := 0) (k := 3) hG (cf_Burst hw) (fl_Monitor_127 hw) (by decide) (by decide) rfl d_Monitor_takeWriteAddress_54 g2 ?_
    refine J_icmp_ge (tgt := 79) d_Monitor_takeWriteAddress_57 (by decide) ?_ ?_
    · intro c5
      rw [if_pos c5] at H
      refine J.drop [false, false, false, false, true, false] rfl ?_
      exact p_Monitor_takeWriteAddress_L79 hw hG  H
    · intro c5
      rw [if_neg c5] at H
      refine J_iload d_Monitor_takeWriteAddress_60 rfl ?_
      refine J_if_ne (tgt := 79) d_Monitor_takeWriteAddress_62 (by decide) ?_ ?_
      · intro c4
        rw [if_neg c4] at H
        refine J.drop [false, false, false, false, true, false] rfl ?_
        exact p_Monitor_takeWriteAddress_L79 hw hG  H
      · intro c4
        rw [if_pos c4] at H
        refine J_aload_n d_Monitor_takeWriteAddress_65 rfl ?_
        refine J_iload d_Monitor_takeWriteAddress_66 rfl ?_
        obtain ⟨q3, hq3, H⟩ := Option.bind_eq_some_iff.mp H
        refine J_callS (kc := 0) (ks := 0) (kc' := 0) (ks' := 0) (as := [.ref a1, .int x5]) (st := []) (mf_Monitor_brokenWriteBeat hw) (ms_Monitor_161 hw) d_Monitor_takeWriteAddress_68 ln_Monitor_brokenWriteBeat (by decide) (by first | exact Nat.le_of_ble_eq_true rfl | (simp only [List.map_cons, List.map_nil, List.sum_cons, List.sum_nil, va_rf_cat]; exact Nat.le_of_ble_eq_true rfl)) rfl (p_Monitor_brokenWriteBeat hw hG hq3) ?_ (fun E h' n' x' e1 => by cases e1.1)
        intro v9 h9 n9 x9 e9
        obtain ⟨e91, e92, e93⟩ := e9
        cases e91
        subst e92
        subst e93
        clear x
        rename Bool => x
        show J _ _ _ _ (_ :: _) _ _ _ _ _ _
        refine J_istore d_Monitor_takeWriteAddress_71 (Nat.le_of_ble_eq_true rfl) ?_
        refine J.ls (ls' := [none, none, none, some (.ref a1), some (.int q3.1), some (.int x5)]) rfl ?_
        refine J_iinc (v := x5 + 1) d_Monitor_takeWriteAddress_73 rfl (by rw [show Int32.ofInt 1 = (1 : Int32) from by decide]) ?_
        refine J.ls (ls' := [none, none, none, some (.ref a1), some (.int q3.1), some (.int (x5 + (1 : Int32)))]) rfl ?_
        refine J_goto (tgt := 51) d_Monitor_takeWriteAddress_76 (by decide) ?_
        refine J.drop [false, false, false, true, true, true] rfl ?_
        exact ih H
def f_Monitor_takeWriteAddress_L28 (Γ : gm_T)  (φ : ph_T) (x1 : Int64) (x3 : Option Nat) : Option (Int32 × ph_T) :=
  if x3 = none then
    some ((12 : Int32), φ)
  else
    Option.bind x3 fun a6 =>
    @ite _ (Γ a6 = .inr 0) _ (
    @ite _ ((1 : Int32) = 0 ∨ (1 : Int32) = 1) _ (
    f_Monitor_takeWriteAddress_L51 Γ  jF (uI (uL φ a6 0 x1) a6 1 (1 : Int32)) (some a6) (0 : Int32) (0 : Int32)
    ) none
    ) none
set_option maxRecDepth 100000 in
set_option maxHeartbeats 4000000 in
theorem p_Monitor_takeWriteAddress_L28 {w : jw_T} (hw : jok w) {Γ : gm_T} {n : Nat} (hG : gd w Γ n)  {x : Bool} {φ : ph_T} {x1 : Int64} {x3 : Option Nat} {q : Int32 × ph_T} (H : f_Monitor_takeWriteAddress_L28 Γ  φ x1 x3 = some q) : J w M_Monitor_takeWriteAddress 28 [none, some (.long x1), none, some (va_rf x3), none, none] [] (pic Γ φ) n x 0 0 (fq Γ n (.inl (some (.int q.1))) q.2) := by
  unfold f_Monitor_takeWriteAddress_L28 at H
  refine J_aload_nO d_Monitor_takeWriteAddress_28 rfl ?_
  refine J_ifnonnullO (r := x3) (tgt := 35) d_Monitor_takeWriteAddress_29 (by decide) ?_ ?_
  · intro c9
    rw [if_neg c9] at H
    refine J_aload_nO d_Monitor_takeWriteAddress_35 rfl ?_
    refine J_lload_n d_Monitor_takeWriteAddress_36 rfl ?_
    obtain ⟨a6, ha6, H⟩ := Option.bind_eq_some_iff.mp H
    rw [j_rf ha6]
    have g7 : Γ a6 = .inr 0 := by
      apply Classical.byContradiction
      intro q9
      rw [if_neg q9] at H
      cases H
    rw [if_pos g7] at H
    refine F_putL (ci := 0) (k := 0) hG (cf_Burst hw) (fl_Monitor_130 hw) (by decide) (by decide) rfl d_Monitor_takeWriteAddress_37 rfl rfl rfl g7 ?_
    refine J_aload_n d_Monitor_takeWriteAddress_40 rfl ?_
    refine J_iconst (v := 1) d_Monitor_takeWriteAddress_41 (by decide) ?_
    have z8 : (1 : Int32) = 0 ∨ (1 : Int32) = 1 := by
      apply Classical.byContradiction
      intro q9
      rw [if_neg q9] at H
      cases H
    rw [if_pos z8] at H
    refine F_putI (ci := 0) (k := 1) hG (cf_Burst hw) (fl_Monitor_157 hw) (by decide) (by decide) rfl d_Monitor_takeWriteAddress_42 rfl (narrow_z z8).1 (narrow_z z8).2 g7 ?_
    refine J_iconst (v := 0) d_Monitor_takeWriteAddress_45 (by decide) ?_
    refine J_istore d_Monitor_takeWriteAddress_46 (Nat.le_of_ble_eq_true rfl) ?_
    refine J.ls (ls' := [none, some (.long x1), none, some (.ref a6), some (.int (0 : Int32)), none]) rfl ?_
    refine J_iconst (v := 0) d_Monitor_takeWriteAddress_48 (by decide) ?_
    refine J_istore d_Monitor_takeWriteAddress_49 (Nat.le_of_ble_eq_true rfl) ?_
    refine J.ls (ls' := [none, some (.long x1), none, some (.ref a6), some (.int (0 : Int32)), some (.int (0 : Int32))]) rfl ?_
    refine J.drop [false, false, false, true, true, true] rfl ?_
    exact p_Monitor_takeWriteAddress_L51 hw hG  _ H
  · intro c9
    rw [if_pos c9] at H
    refine J_bipush (v := 12) d_Monitor_takeWriteAddress_32 (by decide) ?_
    have H := Option.some.inj H
    subst H
    exact J_iret (st := []) d_Monitor_takeWriteAddress_34 rfl rfl ⟨rfl, rfl, rfl⟩
def f_Monitor_takeWriteAddress (Γ : gm_T) (φ : ph_T) (this : Nat) (p0 : Int64) : Option (Int32 × ph_T) :=
  @ite _ (Γ this = .inr 4) _ (
  Option.bind (φ.2.2 this 0) fun a11 =>
  @ite _ (Γ a11 = .inr 1) _ (
  Option.bind (f_Line_firstUnaddressed Γ φ a11) fun q13 =>
  Option.bind (f_Line_at Γ q13.2 a11 q13.1) fun q14 =>
  if q14.1 = none then
    Option.bind (q14.2.2.2 this 0) fun a15 =>
    @ite _ (Γ a15 = .inr 1) _ (
    Option.bind (f_Line_add Γ q14.2 a15 p0) fun q17 =>
    f_Monitor_takeWriteAddress_L28 Γ  q17.2 p0 q17.1
    ) none
  else
    f_Monitor_takeWriteAddress_L28 Γ  q14.2 p0 q14.1
  ) none
  ) none
set_option maxRecDepth 100000 in
set_option maxHeartbeats 4000000 in
theorem p_Monitor_takeWriteAddress {w : jw_T} (hw : jok w) {Γ : gm_T} {n : Nat} (hG : gd w Γ n) {x : Bool} {φ : ph_T} {this : Nat} {p0 : Int64} {q : Int32 × ph_T} (H : f_Monitor_takeWriteAddress Γ φ this p0 = some q) : jc w M_Monitor_takeWriteAddress [.ref this, .long p0] (pic Γ φ) n x 0 0 (fq Γ n (.inl (some (.int q.1))) q.2) := by
  refine jc.of (by simp only [jent_r, jent_i, jent_l, jent_a, jent_0]; exact Nat.le_of_ble_eq_true rfl) ?_
  have hls : jents [.ref this, .long p0] (jm_nL M_Monitor_takeWriteAddress) = [some (.ref this), some (.long p0), none, none, none, none] := by simp only [jents, jent_r, jent_i, jent_l, jent_a, jent_0]; rfl
  rw [hls]
  clear hls
  unfold f_Monitor_takeWriteAddress at H
  refine J_aload_n d_Monitor_takeWriteAddress_0 rfl ?_
  have g10 : Γ this = .inr 4 := by
    apply Classical.byContradiction
    intro q9
    rw [if_neg q9] at H
    cases H
  rw [if_pos g10] at H
  refine F_getR (ci := 4) (k := 0) hG (cf_Monitor hw) (fl_Monitor_14 hw) (by decide) (by decide) rfl d_Monitor_takeWriteAddress_1 g10 ?_
  refine J_aload_n d_Monitor_takeWriteAddress_4 rfl ?_
  refine F_getR (ci := 4) (k := 0) hG (cf_Monitor hw) (fl_Monitor_14 hw) (by decide) (by decide) rfl d_Monitor_takeWriteAddress_5 g10 ?_
  obtain ⟨a11, ha11, H⟩ := Option.bind_eq_some_iff.mp H
  rw [j_rf ha11]
  have g12 : Γ a11 = .inr 1 := by
    apply Classical.byContradiction
    intro q9
    rw [if_neg q9] at H
    cases H
  rw [if_pos g12] at H
  obtain ⟨q13, hq13, H⟩ := Option.bind_eq_some_iff.mp H
  refine J_callV (kc := 0) (ks := 0) (kc' := 0) (ks' := 0) (a := a11) (ci := 1) (as := []) (st := [.ref a11]) (mf_Line_firstUnaddressed hw) (mv_Monitor_153 hw) d_Monitor_takeWriteAddress_8 ln_Line_firstUnaddressed (by decide) (by first | exact Nat.le_of_ble_eq_true rfl | (simp only [List.map_cons, List.map_nil, List.sum_cons, List.sum_nil, va_rf_cat]; exact Nat.le_of_ble_eq_true rfl)) rfl ((hG _).1 _ g12 (by decide)).1 ((hG _).1 _ g12 (by decide)).2 (by unfold pic; rw [g12]; rfl) (jcl_at hw rfl) rfl (p_Line_firstUnaddressed hw hG hq13) ?_ (fun E h' n' x' e1 => by cases e1.1)
  intro v9 h9 n9 x9 e9
  obtain ⟨e91, e92, e93⟩ := e9
  cases e91
  subst e92
  subst e93
  clear x
  rename Bool => x
  show J _ _ _ _ (_ :: _) _ _ _ _ _ _
  obtain ⟨q14, hq14, H⟩ := Option.bind_eq_some_iff.mp H
  refine J_callV (kc := 0) (ks := 0) (kc' := 0) (ks' := 0) (a := a11) (ci := 1) (as := [.int q13.1]) (st := []) (mf_Line_at hw) (mv_Monitor_116 hw) d_Monitor_takeWriteAddress_11 ln_Line_at (by decide) (by first | exact Nat.le_of_ble_eq_true rfl | (simp only [List.map_cons, List.map_nil, List.sum_cons, List.sum_nil, va_rf_cat]; exact Nat.le_of_ble_eq_true rfl)) rfl ((hG _).1 _ g12 (by decide)).1 ((hG _).1 _ g12 (by decide)).2 (by unfold pic; rw [g12]; rfl) (jcl_at hw rfl) rfl (p_Line_at hw hG hq14) ?_ (fun E h' n' x' e1 => by cases e1.1)
  intro v9 h9 n9 x9 e9
  obtain ⟨e91, e92, e93⟩ := e9
  cases e91
  subst e92
  subst e93
  clear x
  rename Bool => x
  show J _ _ _ _ (_ :: _) _ _ _ _ _ _
  refine J_astore_nO d_Monitor_takeWriteAddress_14 (Nat.le_of_ble_eq_true rfl) ?_
  refine J.ls (ls' := [some (.ref this), some (.long p0), none, some (va_rf q14.1), none, none]) rfl ?_
  refine J_aload_nO d_Monitor_takeWriteAddress_15 rfl ?_
  refine J_ifnonnullO (r := q14.1) (tgt := 28) d_Monitor_takeWriteAddress_16 (by decide) ?_ ?_
  · intro c18
    rw [if_neg c18] at H
    refine J.drop [false, true, false, true, false, false] rfl ?_
    exact p_Monitor_takeWriteAddress_L28 hw hG  H
  · intro c18
    rw [if_pos c18] at H
    refine J_aload_n d_Monitor_takeWriteAddress_19 rfl ?_
    refine F_getR (ci := 4) (k := 0) hG (cf_Monitor hw) (fl_Monitor_14 hw) (by decide) (by decide) rfl d_Monitor_takeWriteAddress_20 g10 ?_
    refine J_lload_n d_Monitor_takeWriteAddress_23 rfl ?_
    obtain ⟨a15, ha15, H⟩ := Option.bind_eq_some_iff.mp H
    rw [j_rf ha15]
    have g16 : Γ a15 = .inr 1 := by
      apply Classical.byContradiction
      intro q9
      rw [if_neg q9] at H
      cases H
    rw [if_pos g16] at H
    obtain ⟨q17, hq17, H⟩ := Option.bind_eq_some_iff.mp H
    refine J_callV (kc := 0) (ks := 0) (kc' := 0) (ks' := 0) (a := a15) (ci := 1) (as := [.long p0]) (st := []) (mf_Line_add hw) (mv_Monitor_72 hw) d_Monitor_takeWriteAddress_24 ln_Line_add (by decide) (by first | exact Nat.le_of_ble_eq_true rfl | (simp only [List.map_cons, List.map_nil, List.sum_cons, List.sum_nil, va_rf_cat]; exact Nat.le_of_ble_eq_true rfl)) rfl ((hG _).1 _ g16 (by decide)).1 ((hG _).1 _ g16 (by decide)).2 (by unfold pic; rw [g16]; rfl) (jcl_at hw rfl) rfl (p_Line_add hw hG hq17) ?_ (fun E h' n' x' e1 => by cases e1.1)
    intro v9 h9 n9 x9 e9
    obtain ⟨e91, e92, e93⟩ := e9
    cases e91
    subst e92
    subst e93
    clear x
    rename Bool => x
    show J _ _ _ _ (_ :: _) _ _ _ _ _ _
    refine J_astore_nO d_Monitor_takeWriteAddress_27 (Nat.le_of_ble_eq_true rfl) ?_
    refine J.ls (ls' := [some (.ref this), some (.long p0), none, some (va_rf q17.1), none, none]) rfl ?_
    refine J.drop [false, true, false, true, false, false] rfl ?_
    exact p_Monitor_takeWriteAddress_L28 hw hG  H
theorem ln_Line_firstUnended : (parseMethodDescriptor y_Line_firstUnended.desc).map (fun q => q.parameters.length) = some 0 := by decide +kernel
def f_Line_firstUnended_L2 (Γ : gm_T)  : Nat → ph_T → Nat → Int32 → Option (Int32 × ph_T)
  | 0, _, _, _ => none
  | fu + 1, φ, x0, x1 =>
    @ite _ (Γ x0 = .inr 1) _ (
    if (φ.1 x0 1) ≤ x1 then
      some ((-1 : Int32), φ)
    else
      Option.bind (φ.2.2 x0 0) fun a2 =>
      Option.bind (gA Γ a2 5) fun N3 =>
      Option.bind (ix x1 N3) fun k4 =>
      Option.bind (φ.2.2 a2 k4) fun a5 =>
      @ite _ (Γ a5 = .inr 0) _ (
      if (φ.1 a5 2) = 0 then
        some (x1, φ)
      else
        (f_Line_firstUnended_L2 Γ  fu) φ x0 (x1 + (1 : Int32))
      ) none
    ) none
set_option maxRecDepth 100000 in
set_option maxHeartbeats 4000000 in
theorem p_Line_firstUnended_L2 {w : jw_T} (hw : jok w) {Γ : gm_T} {n : Nat} (hG : gd w Γ n)  : ∀ (fu : Nat) {x : Bool} {φ : ph_T} {x0 : Nat} {x1 : Int32} {q : Int32 × ph_T}, f_Line_firstUnended_L2 Γ  fu φ x0 x1 = some q → J w M_Line_firstUnended 2 [some (.ref x0), some (.int x1)] [] (pic Γ φ) n x 0 0 (fq Γ n (.inl (some (.int q.1))) q.2) := by
  intro fu
  induction fu with
  | zero =>
    intro x φ x0 x1 q H
    cases H
  | succ fu ih =>
    intro x φ x0 x1 q H
    unfold f_Line_firstUnended_L2 at H
    refine J_iload_n d_Line_firstUnended_2 rfl ?_
    refine J_aload_n d_Line_firstUnended_3 rfl ?_
    have g1 : Γ x0 = .inr 1 := by
      apply Classical.byContradiction
      intro q9
      rw [if_neg q9] at H
      cases H
    rw [if_pos g1] at H
    refine F_getI (ci := 1) (k := 1) hG (cf_Line hw) (fl_Line_18 hw) (by decide) (by decide) rfl d_Line_firstUnended_4 g1 ?_
    refine J_icmp_ge (tgt := 30) d_Line_firstUnended_7 (by decide) ?_ ?_
    · intro c8
      rw [if_pos c8] at H
      refine J_iconst (v := -1) d_Line_firstUnended_30 (by decide) ?_
      have H := Option.some.inj H
      subst H
      exact J_iret (st := []) d_Line_firstUnended_31 rfl rfl ⟨rfl, rfl, rfl⟩
    · intro c8
      rw [if_neg c8] at H
      refine J_aload_n d_Line_firstUnended_10 rfl ?_
      refine F_getR (ci := 1) (k := 0) hG (cf_Line hw) (fl_Line_11 hw) (by decide) (by decide) rfl d_Line_firstUnended_11 g1 ?_
      refine J_iload_n d_Line_firstUnended_14 rfl ?_
      obtain ⟨a2, ha2, H⟩ := Option.bind_eq_some_iff.mp H
      rw [j_rf ha2]
      obtain ⟨N3, hN3, H⟩ := Option.bind_eq_some_iff.mp H
      obtain ⟨k4, hk4, H⟩ := Option.bind_eq_some_iff.mp H
      refine F_aald k4 hw hG (t := 5) rfl (by decide) d_Line_firstUnended_15 (gA_some hN3) (ix_some hk4) ?_
      obtain ⟨a5, ha5, H⟩ := Option.bind_eq_some_iff.mp H
      rw [j_rf ha5]
      have g6 : Γ a5 = .inr 0 := by
        apply Classical.byContradiction
        intro q9
        rw [if_neg q9] at H
        cases H
      rw [if_pos g6] at H
      refine F_getI (ci := 0) (k := 2) hG (cf_Burst hw) (fl_Line_42 hw) (by decide) (by decide) rfl d_Line_firstUnended_16 g6 ?_
      refine J_if_ne (tgt := 24) d_Line_firstUnended_19 (by decide) ?_ ?_
      · intro c7
        rw [if_neg c7] at H
        refine J_iinc (v := x1 + 1) d_Line_firstUnended_24 rfl (by rw [show Int32.ofInt 1 = (1 : Int32) from by decide]) ?_
        refine J.ls (ls' := [some (.ref x0), some (.int (x1 + (1 : Int32)))]) rfl ?_
        refine J_goto (tgt := 2) d_Line_firstUnended_27 (by decide) ?_
        refine J.drop [true, true] rfl ?_
        exact ih H
      · intro c7
        rw [if_pos c7] at H
        refine J_iload_n d_Line_firstUnended_22 rfl ?_
        have H := Option.some.inj H
        subst H
        exact J_iret (st := []) d_Line_firstUnended_23 rfl rfl ⟨rfl, rfl, rfl⟩
def f_Line_firstUnended (Γ : gm_T) (φ : ph_T) (this : Nat) : Option (Int32 × ph_T) :=
  f_Line_firstUnended_L2 Γ  jF φ this (0 : Int32)
set_option maxRecDepth 100000 in
set_option maxHeartbeats 4000000 in
theorem p_Line_firstUnended {w : jw_T} (hw : jok w) {Γ : gm_T} {n : Nat} (hG : gd w Γ n) {x : Bool} {φ : ph_T} {this : Nat} {q : Int32 × ph_T} (H : f_Line_firstUnended Γ φ this = some q) : jc w M_Line_firstUnended [.ref this] (pic Γ φ) n x 0 0 (fq Γ n (.inl (some (.int q.1))) q.2) := by
  refine jc.of (by simp only [jent_r, jent_i, jent_l, jent_a, jent_0]; exact Nat.le_of_ble_eq_true rfl) ?_
  have hls : jents [.ref this] (jm_nL M_Line_firstUnended) = [some (.ref this), none] := by simp only [jents, jent_r, jent_i, jent_l, jent_a, jent_0]; rfl
  rw [hls]
  clear hls
  unfold f_Line_firstUnended at H
  refine J_iconst (v := 0) d_Line_firstUnended_0 (by decide) ?_
  refine J_istore_n d_Line_firstUnended_1 (Nat.le_of_ble_eq_true rfl) ?_
  refine J.ls (ls' := [some (.ref this), some (.int (0 : Int32))]) rfl ?_
  refine J.drop [true, true] rfl ?_
  exact p_Line_firstUnended_L2 hw hG  _ H
theorem ln_Burst_takeBeat : (parseMethodDescriptor y_Burst_takeBeat.desc).map (fun q => q.parameters.length) = some 2 := by decide +kernel
def f_Burst_takeBeat_L39 (Γ : gm_T)  (φ : ph_T) : Option (Unit × ph_T) :=
  some ((), φ)
set_option maxRecDepth 100000 in
set_option maxHeartbeats 4000000 in
theorem p_Burst_takeBeat_L39 {w : jw_T} (hw : jok w) {Γ : gm_T} {n : Nat} (hG : gd w Γ n)  {x : Bool} {φ : ph_T} {q : Unit × ph_T} (H : f_Burst_takeBeat_L39 Γ  φ  = some q) : J w M_Burst_takeBeat 39 [none, none, none, none] [] (pic Γ φ) n x 0 0 (fq Γ n (.inl none) q.2) := by
  unfold f_Burst_takeBeat_L39 at H
  have H := Option.some.inj H
  subst H
  exact J_vret (st := []) d_Burst_takeBeat_39 rfl ⟨rfl, rfl, rfl⟩
def f_Burst_takeBeat (Γ : gm_T) (φ : ph_T) (this : Nat) (p0 : Int64) (p1 : Int32) : Option (Unit × ph_T) :=
  @ite _ (Γ this = .inr 0) _ (
  if (16 : Int32) ≤ (φ.1 this 3) then
    f_Burst_takeBeat_L39 Γ  φ 
  else
    Option.bind (φ.2.2 this 6) fun a2 =>
    Option.bind (gA Γ a2 1) fun N3 =>
    Option.bind (ix (φ.1 this 3) N3) fun k4 =>
    Option.bind (φ.2.2 this 7) fun a5 =>
    Option.bind (gA Γ a5 0) fun N6 =>
    Option.bind (ix (φ.1 this 3) N6) fun k7 =>
    f_Burst_takeBeat_L39 Γ  (uI (uI (uL φ a2 k4 p0) a5 k7 p1) this 3 (((uI (uL φ a2 k4 p0) a5 k7 p1).1 this 3) + (1 : Int32))) 
  ) none
set_option maxRecDepth 100000 in
set_option maxHeartbeats 4000000 in
theorem p_Burst_takeBeat {w : jw_T} (hw : jok w) {Γ : gm_T} {n : Nat} (hG : gd w Γ n) {x : Bool} {φ : ph_T} {this : Nat} {p0 : Int64} {p1 : Int32} {q : Unit × ph_T} (H : f_Burst_takeBeat Γ φ this p0 p1 = some q) : jc w M_Burst_takeBeat [.ref this, .long p0, .int p1] (pic Γ φ) n x 0 0 (fq Γ n (.inl none) q.2) := by
  refine jc.of (by simp only [jent_r, jent_i, jent_l, jent_a, jent_0]; exact Nat.le_of_ble_eq_true rfl) ?_
  have hls : jents [.ref this, .long p0, .int p1] (jm_nL M_Burst_takeBeat) = [some (.ref this), some (.long p0), none, some (.int p1)] := by simp only [jents, jent_r, jent_i, jent_l, jent_a, jent_0]; rfl
  rw [hls]
  clear hls
  unfold f_Burst_takeBeat at H
  refine J_aload_n d_Burst_takeBeat_0 rfl ?_
  have g1 : Γ this = .inr 0 := by
    apply Classical.byContradiction
    intro q9
    rw [if_neg q9] at H
    cases H
  rw [if_pos g1] at H
  refine F_getI (ci := 0) (k := 3) hG (cf_Burst hw) (fl_Burst_30 hw) (by decide) (by decide) rfl d_Burst_takeBeat_1 g1 ?_
  refine J_bipush (v := 16) d_Burst_takeBeat_4 (by decide) ?_
  refine J_icmp_ge (tgt := 39) d_Burst_takeBeat_6 (by decide) ?_ ?_
  · intro c8
    rw [if_pos c8] at H
    refine J.drop [false, false, false, false] rfl ?_
    exact p_Burst_takeBeat_L39 hw hG  H
  · intro c8
    rw [if_neg c8] at H
    refine J_aload_n d_Burst_takeBeat_9 rfl ?_
    refine F_getR (ci := 0) (k := 6) hG (cf_Burst hw) (fl_Burst_9 hw) (by decide) (by decide) rfl d_Burst_takeBeat_10 g1 ?_
    refine J_aload_n d_Burst_takeBeat_13 rfl ?_
    refine F_getI (ci := 0) (k := 3) hG (cf_Burst hw) (fl_Burst_30 hw) (by decide) (by decide) rfl d_Burst_takeBeat_14 g1 ?_
    refine J_lload_n d_Burst_takeBeat_17 rfl ?_
    obtain ⟨a2, ha2, H⟩ := Option.bind_eq_some_iff.mp H
    rw [j_rf ha2]
    obtain ⟨N3, hN3, H⟩ := Option.bind_eq_some_iff.mp H
    obtain ⟨k4, hk4, H⟩ := Option.bind_eq_some_iff.mp H
    refine F_last k4 hw hG d_Burst_takeBeat_18 (gA_some hN3) (ix_some hk4) ?_
    refine J_aload_n d_Burst_takeBeat_19 rfl ?_
    refine F_getR (ci := 0) (k := 7) hG (cf_Burst hw) (fl_Burst_15 hw) (by decide) (by decide) rfl d_Burst_takeBeat_20 g1 ?_
    show J _ _ _ _ (va_rf (φ.2.2 this 7) :: _) _ _ _ _ _ _
    refine J_aload_n d_Burst_takeBeat_23 rfl ?_
    refine F_getI (ci := 0) (k := 3) hG (cf_Burst hw) (fl_Burst_30 hw) (by decide) (by decide) rfl d_Burst_takeBeat_24 g1 ?_
    show J _ _ _ _ (.int (φ.1 this 3) :: _) _ _ _ _ _ _
    refine J_iload_n d_Burst_takeBeat_27 rfl ?_
    obtain ⟨a5, ha5, H⟩ := Option.bind_eq_some_iff.mp H
    rw [j_rf ha5]
    obtain ⟨N6, hN6, H⟩ := Option.bind_eq_some_iff.mp H
    obtain ⟨k7, hk7, H⟩ := Option.bind_eq_some_iff.mp H
    refine F_iast k7 hw hG d_Burst_takeBeat_28 (gA_some hN6) (ix_some hk7) ?_
    refine J_aload_n d_Burst_takeBeat_29 rfl ?_
    refine J_dup d_Burst_takeBeat_30 rfl ?_
    refine F_getI (ci := 0) (k := 3) hG (cf_Burst hw) (fl_Burst_30 hw) (by decide) (by decide) rfl d_Burst_takeBeat_31 g1 ?_
    refine J_iconst (v := 1) d_Burst_takeBeat_34 (by decide) ?_
    refine J_iadd d_Burst_takeBeat_35 ?_
    refine F_putI (ci := 0) (k := 3) hG (cf_Burst hw) (fl_Burst_30 hw) (by decide) (by decide) rfl d_Burst_takeBeat_36 rfl rfl rfl g1 ?_
    refine J.drop [false, false, false, false] rfl ?_
    exact p_Burst_takeBeat_L39 hw hG  H
theorem ln_Monitor_takeWriteBeat : (parseMethodDescriptor y_Monitor_takeWriteBeat.desc).map (fun q => q.parameters.length) = some 1 := by decide +kernel
def f_Monitor_takeWriteBeat_L82 (Γ : gm_T)  (φ : ph_T) (y0 : Int32) : Option (Int32 × ph_T) :=
  some (y0, φ)
set_option maxRecDepth 100000 in
set_option maxHeartbeats 4000000 in
theorem p_Monitor_takeWriteBeat_L82 {w : jw_T} (hw : jok w) {Γ : gm_T} {n : Nat} (hG : gd w Γ n)  {x : Bool} {φ : ph_T} {y0 : Int32} {q : Int32 × ph_T} (H : f_Monitor_takeWriteBeat_L82 Γ  φ y0 = some q) : J w M_Monitor_takeWriteBeat 82 [none, none, none] [.int y0] (pic Γ φ) n x 0 0 (fq Γ n (.inl (some (.int q.1))) q.2) := by
  unfold f_Monitor_takeWriteBeat_L82 at H
  have H := Option.some.inj H
  subst H
  exact J_iret (st := []) d_Monitor_takeWriteBeat_82 rfl rfl ⟨rfl, rfl, rfl⟩
def f_Monitor_takeWriteBeat_L28 (Γ : gm_T)  (φ : ph_T) (x1 : Int32) (x2 : Option Nat) : Option (Int32 × ph_T) :=
  if x2 = none then
    some ((12 : Int32), φ)
  else
    Option.bind x2 fun a1 =>
    @ite _ (Γ a1 = .inr 0) _ (
    if (φ.1 a1 3) < (16 : Int32) then
      Option.bind (f_Burst_takeBeat Γ φ a1 (0 : Int64) x1) fun q3 =>
      Option.bind (f_Bus_restLast Γ q3.2 x1) fun q4 =>
      @ite _ (q4.1 = 0 ∨ q4.1 = 1) _ (
      if ((uI q4.2 a1 2 q4.1).1 a1 1) = 0 then
        f_Monitor_takeWriteBeat_L82 Γ  (uI q4.2 a1 2 q4.1) (0 : Int32)
      else
        Option.bind (f_Monitor_brokenWriteBeat Γ (uI q4.2 a1 2 q4.1) (some a1) (((uI q4.2 a1 2 q4.1).1 a1 3) - (1 : Int32))) fun q6 =>
        f_Monitor_takeWriteBeat_L82 Γ  q6.2 q6.1
      ) none
    else
      some ((7 : Int32), φ)
    ) none
set_option maxRecDepth 100000 in
set_option maxHeartbeats 4000000 in
theorem p_Monitor_takeWriteBeat_L28 {w : jw_T} (hw : jok w) {Γ : gm_T} {n : Nat} (hG : gd w Γ n)  {x : Bool} {φ : ph_T} {x1 : Int32} {x2 : Option Nat} {q : Int32 × ph_T} (H : f_Monitor_takeWriteBeat_L28 Γ  φ x1 x2 = some q) : J w M_Monitor_takeWriteBeat 28 [none, some (.int x1), some (va_rf x2)] [] (pic Γ φ) n x 0 0 (fq Γ n (.inl (some (.int q.1))) q.2) := by
  unfold f_Monitor_takeWriteBeat_L28 at H
  refine J_aload_nO d_Monitor_takeWriteBeat_28 rfl ?_
  refine J_ifnonnullO (r := x2) (tgt := 35) d_Monitor_takeWriteBeat_29 (by decide) ?_ ?_
  · intro c9
    rw [if_neg c9] at H
    refine J_aload_nO d_Monitor_takeWriteBeat_35 rfl ?_
    obtain ⟨a1, ha1, H⟩ := Option.bind_eq_some_iff.mp H
    rw [j_rf ha1]
    have g2 : Γ a1 = .inr 0 := by
      apply Classical.byContradiction
      intro q9
      rw [if_neg q9] at H
      cases H
    rw [if_pos g2] at H
    refine F_getI (ci := 0) (k := 3) hG (cf_Burst hw) (fl_Monitor_127 hw) (by decide) (by decide) rfl d_Monitor_takeWriteBeat_36 g2 ?_
    refine J_bipush (v := 16) d_Monitor_takeWriteBeat_39 (by decide) ?_
    refine J_icmp_lt (tgt := 47) d_Monitor_takeWriteBeat_41 (by decide) ?_ ?_
    · intro c8
      rw [if_pos c8] at H
      refine J_aload_n d_Monitor_takeWriteBeat_47 rfl ?_
      refine J_lconst (v := 0) d_Monitor_takeWriteBeat_48 (by decide) ?_
      refine J_iload_n d_Monitor_takeWriteBeat_49 rfl ?_
      obtain ⟨q3, hq3, H⟩ := Option.bind_eq_some_iff.mp H
      refine J_callV (kc := 0) (ks := 0) (kc' := 0) (ks' := 0) (a := a1) (ci := 0) (as := [.long (0 : Int64), .int x1]) (st := []) (mf_Burst_takeBeat hw) (mv_Monitor_168 hw) d_Monitor_takeWriteBeat_50 ln_Burst_takeBeat (by decide) (by first | exact Nat.le_of_ble_eq_true rfl | (simp only [List.map_cons, List.map_nil, List.sum_cons, List.sum_nil, va_rf_cat]; exact Nat.le_of_ble_eq_true rfl)) rfl ((hG _).1 _ g2 (by decide)).1 ((hG _).1 _ g2 (by decide)).2 (by unfold pic; rw [g2]; rfl) (jcl_at hw rfl) rfl (p_Burst_takeBeat hw hG hq3) ?_ (fun E h' n' x' e1 => by cases e1.1)
      intro v9 h9 n9 x9 e9
      obtain ⟨e91, e92, e93⟩ := e9
      cases e91
      subst e92
      subst e93
      clear x
      rename Bool => x
      show J _ _ _ _ [] _ _ _ _ _ _
      refine J_aload_n d_Monitor_takeWriteBeat_53 rfl ?_
      refine J_iload_n d_Monitor_takeWriteBeat_54 rfl ?_
      obtain ⟨q4, hq4, H⟩ := Option.bind_eq_some_iff.mp H
      refine J_callS (kc := 0) (ks := 0) (kc' := 0) (ks' := 0) (as := [.int x1]) (st := [.ref a1]) (mf_Bus_restLast hw) (ms_Monitor_137 hw) d_Monitor_takeWriteBeat_55 ln_Bus_restLast (by decide) (by first | exact Nat.le_of_ble_eq_true rfl | (simp only [List.map_cons, List.map_nil, List.sum_cons, List.sum_nil, va_rf_cat]; exact Nat.le_of_ble_eq_true rfl)) rfl (p_Bus_restLast hw hG hq4) ?_ (fun E h' n' x' e1 => by cases e1.1)
      intro v9 h9 n9 x9 e9
      obtain ⟨e91, e92, e93⟩ := e9
      cases e91
      subst e92
      subst e93
      clear x
      rename Bool => x
      show J _ _ _ _ (_ :: _) _ _ _ _ _ _
      have z5 : q4.1 = 0 ∨ q4.1 = 1 := by
        apply Classical.byContradiction
        intro q9
        rw [if_neg q9] at H
        cases H
      rw [if_pos z5] at H
      refine F_putI (ci := 0) (k := 2) hG (cf_Burst hw) (fl_Monitor_172 hw) (by decide) (by decide) rfl d_Monitor_takeWriteBeat_58 rfl (narrow_z z5).1 (narrow_z z5).2 g2 ?_
      refine J_aload_n d_Monitor_takeWriteBeat_61 rfl ?_
      refine F_getI (ci := 0) (k := 1) hG (cf_Burst hw) (fl_Monitor_157 hw) (by decide) (by decide) rfl d_Monitor_takeWriteBeat_62 g2 ?_
      refine J_if_eq (tgt := 81) d_Monitor_takeWriteBeat_65 (by decide) ?_ ?_
      · intro c7
        rw [if_pos c7] at H
        refine J_iconst (v := 0) d_Monitor_takeWriteBeat_81 (by decide) ?_
        refine J.drop [false, false, false] rfl ?_
        exact p_Monitor_takeWriteBeat_L82 hw hG  H
      · intro c7
        rw [if_neg c7] at H
        refine J_aload_n d_Monitor_takeWriteBeat_68 rfl ?_
        refine J_aload_n d_Monitor_takeWriteBeat_69 rfl ?_
        refine F_getI (ci := 0) (k := 3) hG (cf_Burst hw) (fl_Monitor_127 hw) (by decide) (by decide) rfl d_Monitor_takeWriteBeat_70 g2 ?_
        refine J_iconst (v := 1) d_Monitor_takeWriteBeat_73 (by decide) ?_
        refine J_isub d_Monitor_takeWriteBeat_74 ?_
        obtain ⟨q6, hq6, H⟩ := Option.bind_eq_some_iff.mp H
        refine J_callS (kc := 0) (ks := 0) (kc' := 0) (ks' := 0) (as := [.ref a1, .int (((uI q4.2 a1 2 q4.1).1 a1 3) - (1 : Int32))]) (st := []) (mf_Monitor_brokenWriteBeat hw) (ms_Monitor_161 hw) d_Monitor_takeWriteBeat_75 ln_Monitor_brokenWriteBeat (by decide) (by first | exact Nat.le_of_ble_eq_true rfl | (simp only [List.map_cons, List.map_nil, List.sum_cons, List.sum_nil, va_rf_cat]; exact Nat.le_of_ble_eq_true rfl)) rfl (p_Monitor_brokenWriteBeat hw hG hq6) ?_ (fun E h' n' x' e1 => by cases e1.1)
        intro v9 h9 n9 x9 e9
        obtain ⟨e91, e92, e93⟩ := e9
        cases e91
        subst e92
        subst e93
        clear x
        rename Bool => x
        show J _ _ _ _ (_ :: _) _ _ _ _ _ _
        refine J_goto (tgt := 82) d_Monitor_takeWriteBeat_78 (by decide) ?_
        refine J.drop [false, false, false] rfl ?_
        exact p_Monitor_takeWriteBeat_L82 hw hG  H
    · intro c8
      rw [if_neg c8] at H
      refine J_bipush (v := 7) d_Monitor_takeWriteBeat_44 (by decide) ?_
      have H := Option.some.inj H
      subst H
      exact J_iret (st := []) d_Monitor_takeWriteBeat_46 rfl rfl ⟨rfl, rfl, rfl⟩
  · intro c9
    rw [if_pos c9] at H
    refine J_bipush (v := 12) d_Monitor_takeWriteBeat_32 (by decide) ?_
    have H := Option.some.inj H
    subst H
    exact J_iret (st := []) d_Monitor_takeWriteBeat_34 rfl rfl ⟨rfl, rfl, rfl⟩
def f_Monitor_takeWriteBeat (Γ : gm_T) (φ : ph_T) (this : Nat) (p0 : Int32) : Option (Int32 × ph_T) :=
  @ite _ (Γ this = .inr 4) _ (
  Option.bind (φ.2.2 this 0) fun a11 =>
  @ite _ (Γ a11 = .inr 1) _ (
  Option.bind (f_Line_firstUnended Γ φ a11) fun q13 =>
  Option.bind (f_Line_at Γ q13.2 a11 q13.1) fun q14 =>
  if q14.1 = none then
    Option.bind (q14.2.2.2 this 0) fun a15 =>
    @ite _ (Γ a15 = .inr 1) _ (
    Option.bind (f_Line_add Γ q14.2 a15 (0 : Int64)) fun q17 =>
    f_Monitor_takeWriteBeat_L28 Γ  q17.2 p0 q17.1
    ) none
  else
    f_Monitor_takeWriteBeat_L28 Γ  q14.2 p0 q14.1
  ) none
  ) none
set_option maxRecDepth 100000 in
set_option maxHeartbeats 4000000 in
theorem p_Monitor_takeWriteBeat {w : jw_T} (hw : jok w) {Γ : gm_T} {n : Nat} (hG : gd w Γ n) {x : Bool} {φ : ph_T} {this : Nat} {p0 : Int32} {q : Int32 × ph_T} (H : f_Monitor_takeWriteBeat Γ φ this p0 = some q) : jc w M_Monitor_takeWriteBeat [.ref this, .int p0] (pic Γ φ) n x 0 0 (fq Γ n (.inl (some (.int q.1))) q.2) := by
  refine jc.of (by simp only [jent_r, jent_i, jent_l, jent_a, jent_0]; exact Nat.le_of_ble_eq_true rfl) ?_
  have hls : jents [.ref this, .int p0] (jm_nL M_Monitor_takeWriteBeat) = [some (.ref this), some (.int p0), none] := by simp only [jents, jent_r, jent_i, jent_l, jent_a, jent_0]; rfl
  rw [hls]
  clear hls
  unfold f_Monitor_takeWriteBeat at H
  refine J_aload_n d_Monitor_takeWriteBeat_0 rfl ?_
  have g10 : Γ this = .inr 4 := by
    apply Classical.byContradiction
    intro q9
    rw [if_neg q9] at H
    cases H
  rw [if_pos g10] at H
  refine F_getR (ci := 4) (k := 0) hG (cf_Monitor hw) (fl_Monitor_14 hw) (by decide) (by decide) rfl d_Monitor_takeWriteBeat_1 g10 ?_
  refine J_aload_n d_Monitor_takeWriteBeat_4 rfl ?_
  refine F_getR (ci := 4) (k := 0) hG (cf_Monitor hw) (fl_Monitor_14 hw) (by decide) (by decide) rfl d_Monitor_takeWriteBeat_5 g10 ?_
  obtain ⟨a11, ha11, H⟩ := Option.bind_eq_some_iff.mp H
  rw [j_rf ha11]
  have g12 : Γ a11 = .inr 1 := by
    apply Classical.byContradiction
    intro q9
    rw [if_neg q9] at H
    cases H
  rw [if_pos g12] at H
  obtain ⟨q13, hq13, H⟩ := Option.bind_eq_some_iff.mp H
  refine J_callV (kc := 0) (ks := 0) (kc' := 0) (ks' := 0) (a := a11) (ci := 1) (as := []) (st := [.ref a11]) (mf_Line_firstUnended hw) (mv_Monitor_165 hw) d_Monitor_takeWriteBeat_8 ln_Line_firstUnended (by decide) (by first | exact Nat.le_of_ble_eq_true rfl | (simp only [List.map_cons, List.map_nil, List.sum_cons, List.sum_nil, va_rf_cat]; exact Nat.le_of_ble_eq_true rfl)) rfl ((hG _).1 _ g12 (by decide)).1 ((hG _).1 _ g12 (by decide)).2 (by unfold pic; rw [g12]; rfl) (jcl_at hw rfl) rfl (p_Line_firstUnended hw hG hq13) ?_ (fun E h' n' x' e1 => by cases e1.1)
  intro v9 h9 n9 x9 e9
  obtain ⟨e91, e92, e93⟩ := e9
  cases e91
  subst e92
  subst e93
  clear x
  rename Bool => x
  show J _ _ _ _ (_ :: _) _ _ _ _ _ _
  obtain ⟨q14, hq14, H⟩ := Option.bind_eq_some_iff.mp H
  refine J_callV (kc := 0) (ks := 0) (kc' := 0) (ks' := 0) (a := a11) (ci := 1) (as := [.int q13.1]) (st := []) (mf_Line_at hw) (mv_Monitor_116 hw) d_Monitor_takeWriteBeat_11 ln_Line_at (by decide) (by first | exact Nat.le_of_ble_eq_true rfl | (simp only [List.map_cons, List.map_nil, List.sum_cons, List.sum_nil, va_rf_cat]; exact Nat.le_of_ble_eq_true rfl)) rfl ((hG _).1 _ g12 (by decide)).1 ((hG _).1 _ g12 (by decide)).2 (by unfold pic; rw [g12]; rfl) (jcl_at hw rfl) rfl (p_Line_at hw hG hq14) ?_ (fun E h' n' x' e1 => by cases e1.1)
  intro v9 h9 n9 x9 e9
  obtain ⟨e91, e92, e93⟩ := e9
  cases e91
  subst e92
  subst e93
  clear x
  rename Bool => x
  show J _ _ _ _ (_ :: _) _ _ _ _ _ _
  refine J_astore_nO d_Monitor_takeWriteBeat_14 (Nat.le_of_ble_eq_true rfl) ?_
  refine J.ls (ls' := [some (.ref this), some (.int p0), some (va_rf q14.1)]) rfl ?_
  refine J_aload_nO d_Monitor_takeWriteBeat_15 rfl ?_
  refine J_ifnonnullO (r := q14.1) (tgt := 28) d_Monitor_takeWriteBeat_16 (by decide) ?_ ?_
  · intro c18
    rw [if_neg c18] at H
    refine J.drop [false, true, true] rfl ?_
    exact p_Monitor_takeWriteBeat_L28 hw hG  H
  · intro c18
    rw [if_pos c18] at H
    refine J_aload_n d_Monitor_takeWriteBeat_19 rfl ?_
    refine F_getR (ci := 4) (k := 0) hG (cf_Monitor hw) (fl_Monitor_14 hw) (by decide) (by decide) rfl d_Monitor_takeWriteBeat_20 g10 ?_
    refine J_lconst (v := 0) d_Monitor_takeWriteBeat_23 (by decide) ?_
    obtain ⟨a15, ha15, H⟩ := Option.bind_eq_some_iff.mp H
    rw [j_rf ha15]
    have g16 : Γ a15 = .inr 1 := by
      apply Classical.byContradiction
      intro q9
      rw [if_neg q9] at H
      cases H
    rw [if_pos g16] at H
    obtain ⟨q17, hq17, H⟩ := Option.bind_eq_some_iff.mp H
    refine J_callV (kc := 0) (ks := 0) (kc' := 0) (ks' := 0) (a := a15) (ci := 1) (as := [.long (0 : Int64)]) (st := []) (mf_Line_add hw) (mv_Monitor_72 hw) d_Monitor_takeWriteBeat_24 ln_Line_add (by decide) (by first | exact Nat.le_of_ble_eq_true rfl | (simp only [List.map_cons, List.map_nil, List.sum_cons, List.sum_nil, va_rf_cat]; exact Nat.le_of_ble_eq_true rfl)) rfl ((hG _).1 _ g16 (by decide)).1 ((hG _).1 _ g16 (by decide)).2 (by unfold pic; rw [g16]; rfl) (jcl_at hw rfl) rfl (p_Line_add hw hG hq17) ?_ (fun E h' n' x' e1 => by cases e1.1)
    intro v9 h9 n9 x9 e9
    obtain ⟨e91, e92, e93⟩ := e9
    cases e91
    subst e92
    subst e93
    clear x
    rename Bool => x
    show J _ _ _ _ (_ :: _) _ _ _ _ _ _
    refine J_astore_nO d_Monitor_takeWriteBeat_27 (Nat.le_of_ble_eq_true rfl) ?_
    refine J.ls (ls' := [some (.ref this), some (.int p0), some (va_rf q17.1)]) rfl ?_
    refine J.drop [false, true, true] rfl ?_
    exact p_Monitor_takeWriteBeat_L28 hw hG  H
theorem ln_Monitor_remember : (parseMethodDescriptor y_Monitor_remember.desc).map (fun q => q.parameters.length) = some 1 := by decide +kernel
def f_Monitor_remember_L35 (Γ : gm_T) (Kc2 : ph_T → Nat → Option Nat → Int32 → Option (Unit × ph_T)) (φ : ph_T) (x0 : Nat) (x1 : Option Nat) (x2 : Int32) (y0 : Int32) (y1 : Int32) (y2 : Option Nat) : Option (Unit × ph_T) :=
  Option.bind y2 fun a1 =>
  Option.bind (gA Γ a1 2) fun N2 =>
  Option.bind (ix y1 N2) fun k3 =>
  @ite _ (y0 = 0 ∨ y0 = 1) _ (
  @ite _ (Γ x0 = .inr 4) _ (
  Option.bind x1 fun a6 =>
  @ite _ (Γ a6 = .inr 5) _ (
  Option.bind (φ.2.2 a6 3) fun a8 =>
  Option.bind (gA Γ a8 1) fun N9 =>
  Option.bind (ix x2 N9) fun k10 =>
  Option.bind (φ.2.2 x0 3) fun a11 =>
  Option.bind (gA Γ a11 1) fun N12 =>
  Option.bind (ix x2 N12) fun k13 =>
  Option.bind (φ.2.2 a6 4) fun a14 =>
  Option.bind (gA Γ a14 0) fun N15 =>
  Option.bind (ix x2 N15) fun k16 =>
  Option.bind (φ.2.2 x0 4) fun a17 =>
  Option.bind (gA Γ a17 0) fun N18 =>
  Option.bind (ix x2 N18) fun k19 =>
  Kc2 (uI (uL (uI φ a1 k3 y0) a11 k13 (φ.2.1 a8 k10)) a17 k19 ((uI φ a1 k3 y0).1 a14 k16)) x0 (some a6) (x2 + (1 : Int32))
  ) none
  ) none
  ) none
set_option maxRecDepth 100000 in
set_option maxHeartbeats 4000000 in
theorem p_Monitor_remember_L35 {w : jw_T} (hw : jok w) {Γ : gm_T} {n : Nat} (hG : gd w Γ n) {Kc2 : ph_T → Nat → Option Nat → Int32 → Option (Unit × ph_T)} (hKc2 : ∀ {x : Bool} {φ : ph_T} {x0 : Nat} {x1 : Option Nat} {x2 : Int32} {q : Unit × ph_T}, Kc2 φ x0 x1 x2 = some q → J w M_Monitor_remember 2 [some (.ref x0), some (va_rf x1), some (.int x2)] [] (pic Γ φ) n x 0 0 (fq Γ n (.inl none) q.2)) {x : Bool} {φ : ph_T} {x0 : Nat} {x1 : Option Nat} {x2 : Int32} {y0 : Int32} {y1 : Int32} {y2 : Option Nat} {q : Unit × ph_T} (H : f_Monitor_remember_L35 Γ Kc2 φ x0 x1 x2 y0 y1 y2 = some q) : J w M_Monitor_remember 35 [some (.ref x0), some (va_rf x1), some (.int x2)] [.int y0, .int y1, va_rf y2] (pic Γ φ) n x 0 0 (fq Γ n (.inl none) q.2) := by
  unfold f_Monitor_remember_L35 at H
  obtain ⟨a1, ha1, H⟩ := Option.bind_eq_some_iff.mp H
  rw [j_rf ha1]
  obtain ⟨N2, hN2, H⟩ := Option.bind_eq_some_iff.mp H
  obtain ⟨k3, hk3, H⟩ := Option.bind_eq_some_iff.mp H
  have z4 : y0 = 0 ∨ y0 = 1 := by
    apply Classical.byContradiction
    intro q9
    rw [if_neg q9] at H
    cases H
  rw [if_pos z4] at H
  refine F_zast k3 hw hG d_Monitor_remember_35 (gA_some hN2) (ix_some hk3) z4 ?_
  refine J_aload_n d_Monitor_remember_36 rfl ?_
  have g5 : Γ x0 = .inr 4 := by
    apply Classical.byContradiction
    intro q9
    rw [if_neg q9] at H
    cases H
  rw [if_pos g5] at H
  refine F_getR (ci := 4) (k := 3) hG (cf_Monitor hw) (fl_Monitor_27 hw) (by decide) (by decide) rfl d_Monitor_remember_37 g5 ?_
  show J _ _ _ _ (va_rf (φ.2.2 x0 3) :: _) _ _ _ _ _ _
  refine J_iload_n d_Monitor_remember_40 rfl ?_
  refine J_aload_nO d_Monitor_remember_41 rfl ?_
  obtain ⟨a6, ha6, H⟩ := Option.bind_eq_some_iff.mp H
  rw [j_rf ha6]
  have g7 : Γ a6 = .inr 5 := by
    apply Classical.byContradiction
    intro q9
    rw [if_neg q9] at H
    cases H
  rw [if_pos g7] at H
  refine F_getR (ci := 5) (k := 3) hG (cf_Port hw) (fl_Monitor_69 hw) (by decide) (by decide) rfl d_Monitor_remember_42 g7 ?_
  show J _ _ _ _ (va_rf (φ.2.2 a6 3) :: _) _ _ _ _ _ _
  refine J_iload_n d_Monitor_remember_45 rfl ?_
  obtain ⟨a8, ha8, H⟩ := Option.bind_eq_some_iff.mp H
  rw [j_rf ha8]
  obtain ⟨N9, hN9, H⟩ := Option.bind_eq_some_iff.mp H
  obtain ⟨k10, hk10, H⟩ := Option.bind_eq_some_iff.mp H
  refine F_lald k10 hw hG d_Monitor_remember_46 (gA_some hN9) (ix_some hk10) ?_
  show J _ _ _ _ (.long (φ.2.1 a8 k10) :: _) _ _ _ _ _ _
  obtain ⟨a11, ha11, H⟩ := Option.bind_eq_some_iff.mp H
  rw [j_rf ha11]
  obtain ⟨N12, hN12, H⟩ := Option.bind_eq_some_iff.mp H
  obtain ⟨k13, hk13, H⟩ := Option.bind_eq_some_iff.mp H
  refine F_last k13 hw hG d_Monitor_remember_47 (gA_some hN12) (ix_some hk13) ?_
  refine J_aload_n d_Monitor_remember_48 rfl ?_
  refine F_getR (ci := 4) (k := 4) hG (cf_Monitor hw) (fl_Monitor_31 hw) (by decide) (by decide) rfl d_Monitor_remember_49 g5 ?_
  show J _ _ _ _ (va_rf (φ.2.2 x0 4) :: _) _ _ _ _ _ _
  refine J_iload_n d_Monitor_remember_52 rfl ?_
  refine J_aload_n d_Monitor_remember_53 rfl ?_
  refine F_getR (ci := 5) (k := 4) hG (cf_Port hw) (fl_Monitor_80 hw) (by decide) (by decide) rfl d_Monitor_remember_54 g7 ?_
  show J _ _ _ _ (va_rf (φ.2.2 a6 4) :: _) _ _ _ _ _ _
  refine J_iload_n d_Monitor_remember_57 rfl ?_
  obtain ⟨a14, ha14, H⟩ := Option.bind_eq_some_iff.mp H
  rw [j_rf ha14]
  obtain ⟨N15, hN15, H⟩ := Option.bind_eq_some_iff.mp H
  obtain ⟨k16, hk16, H⟩ := Option.bind_eq_some_iff.mp H
  refine F_iald k16 hw hG d_Monitor_remember_58 (gA_some hN15) (ix_some hk16) ?_
  show J _ _ _ _ (.int ((uI φ a1 k3 y0).1 a14 k16) :: _) _ _ _ _ _ _
  obtain ⟨a17, ha17, H⟩ := Option.bind_eq_some_iff.mp H
  rw [j_rf ha17]
  obtain ⟨N18, hN18, H⟩ := Option.bind_eq_some_iff.mp H
  obtain ⟨k19, hk19, H⟩ := Option.bind_eq_some_iff.mp H
  refine F_iast k19 hw hG d_Monitor_remember_59 (gA_some hN18) (ix_some hk19) ?_
  refine J_iinc (v := x2 + 1) d_Monitor_remember_60 rfl (by rw [show Int32.ofInt 1 = (1 : Int32) from by decide]) ?_
  refine J.ls (ls' := [some (.ref x0), some (.ref a6), some (.int (x2 + (1 : Int32)))]) rfl ?_
  refine J_goto (tgt := 2) d_Monitor_remember_63 (by decide) ?_
  refine J.drop [true, true, true] rfl ?_
  exact hKc2 H
def f_Monitor_remember_L34 (Γ : gm_T) (Kc2 : ph_T → Nat → Option Nat → Int32 → Option (Unit × ph_T)) (φ : ph_T) (x0 : Nat) (x1 : Option Nat) (x2 : Int32) (y0 : Int32) (y1 : Option Nat) : Option (Unit × ph_T) :=
  f_Monitor_remember_L35 Γ Kc2 φ x0 x1 x2 (0 : Int32) y0 y1
set_option maxRecDepth 100000 in
set_option maxHeartbeats 4000000 in
theorem p_Monitor_remember_L34 {w : jw_T} (hw : jok w) {Γ : gm_T} {n : Nat} (hG : gd w Γ n) {Kc2 : ph_T → Nat → Option Nat → Int32 → Option (Unit × ph_T)} (hKc2 : ∀ {x : Bool} {φ : ph_T} {x0 : Nat} {x1 : Option Nat} {x2 : Int32} {q : Unit × ph_T}, Kc2 φ x0 x1 x2 = some q → J w M_Monitor_remember 2 [some (.ref x0), some (va_rf x1), some (.int x2)] [] (pic Γ φ) n x 0 0 (fq Γ n (.inl none) q.2)) {x : Bool} {φ : ph_T} {x0 : Nat} {x1 : Option Nat} {x2 : Int32} {y0 : Int32} {y1 : Option Nat} {q : Unit × ph_T} (H : f_Monitor_remember_L34 Γ Kc2 φ x0 x1 x2 y0 y1 = some q) : J w M_Monitor_remember 34 [some (.ref x0), some (va_rf x1), some (.int x2)] [.int y0, va_rf y1] (pic Γ φ) n x 0 0 (fq Γ n (.inl none) q.2) := by
  unfold f_Monitor_remember_L34 at H
  refine J_iconst (v := 0) d_Monitor_remember_34 (by decide) ?_
  refine J.drop [true, true, true] rfl ?_
  exact p_Monitor_remember_L35 hw hG hKc2 H
def f_Monitor_remember_L2 (Γ : gm_T)  : Nat → ph_T → Nat → Option Nat → Int32 → Option (Unit × ph_T)
  | 0, _, _, _, _ => none
  | fu + 1, φ, x0, x1, x2 =>
    if (5 : Int32) ≤ x2 then
      some ((), φ)
    else
      @ite _ (Γ x0 = .inr 4) _ (
      Option.bind x1 fun a21 =>
      @ite _ (Γ a21 = .inr 5) _ (
      Option.bind (φ.2.2 a21 0) fun a23 =>
      Option.bind (gA Γ a23 2) fun N24 =>
      Option.bind (ix x2 N24) fun k25 =>
      if (φ.1 a23 k25) = 0 then
        f_Monitor_remember_L34 Γ (f_Monitor_remember_L2 Γ  fu) φ x0 (some a21) x2 x2 (φ.2.2 x0 2)
      else
        Option.bind (φ.2.2 a21 1) fun a26 =>
        Option.bind (gA Γ a26 2) fun N27 =>
        Option.bind (ix x2 N27) fun k28 =>
        if (φ.1 a26 k28) = 0 then
          f_Monitor_remember_L35 Γ (f_Monitor_remember_L2 Γ  fu) φ x0 (some a21) x2 (1 : Int32) x2 (φ.2.2 x0 2)
        else
          f_Monitor_remember_L34 Γ (f_Monitor_remember_L2 Γ  fu) φ x0 (some a21) x2 x2 (φ.2.2 x0 2)
      ) none
      ) none
set_option maxRecDepth 100000 in
set_option maxHeartbeats 4000000 in
theorem p_Monitor_remember_L2 {w : jw_T} (hw : jok w) {Γ : gm_T} {n : Nat} (hG : gd w Γ n)  : ∀ (fu : Nat) {x : Bool} {φ : ph_T} {x0 : Nat} {x1 : Option Nat} {x2 : Int32} {q : Unit × ph_T}, f_Monitor_remember_L2 Γ  fu φ x0 x1 x2 = some q → J w M_Monitor_remember 2 [some (.ref x0), some (va_rf x1), some (.int x2)] [] (pic Γ φ) n x 0 0 (fq Γ n (.inl none) q.2) := by
  intro fu
  induction fu with
  | zero =>
    intro x φ x0 x1 x2 q H
    cases H
  | succ fu ih =>
    intro x φ x0 x1 x2 q H
    unfold f_Monitor_remember_L2 at H
    refine J_iload_n d_Monitor_remember_2 rfl ?_
    refine J_iconst (v := 5) d_Monitor_remember_3 (by decide) ?_
    refine J_icmp_ge (tgt := 66) d_Monitor_remember_4 (by decide) ?_ ?_
    · intro c31
      rw [if_pos c31] at H
      have H := Option.some.inj H
      subst H
      exact J_vret (st := []) d_Monitor_remember_66 rfl ⟨rfl, rfl, rfl⟩
    · intro c31
      rw [if_neg c31] at H
      refine J_aload_n d_Monitor_remember_7 rfl ?_
      have g20 : Γ x0 = .inr 4 := by
        apply Classical.byContradiction
        intro q9
        rw [if_neg q9] at H
        cases H
      rw [if_pos g20] at H
      refine F_getR (ci := 4) (k := 2) hG (cf_Monitor hw) (fl_Monitor_23 hw) (by decide) (by decide) rfl d_Monitor_remember_8 g20 ?_
      refine J_iload_n d_Monitor_remember_11 rfl ?_
      refine J_aload_nO d_Monitor_remember_12 rfl ?_
      obtain ⟨a21, ha21, H⟩ := Option.bind_eq_some_iff.mp H
      rw [j_rf ha21]
      have g22 : Γ a21 = .inr 5 := by
        apply Classical.byContradiction
        intro q9
        rw [if_neg q9] at H
        cases H
      rw [if_pos g22] at H
      refine F_getR (ci := 5) (k := 0) hG (cf_Port hw) (fl_Monitor_90 hw) (by decide) (by decide) rfl d_Monitor_remember_13 g22 ?_
      refine J_iload_n d_Monitor_remember_16 rfl ?_
      obtain ⟨a23, ha23, H⟩ := Option.bind_eq_some_iff.mp H
      rw [j_rf ha23]
      obtain ⟨N24, hN24, H⟩ := Option.bind_eq_some_iff.mp H
      obtain ⟨k25, hk25, H⟩ := Option.bind_eq_some_iff.mp H
      refine F_zald k25 hw hG d_Monitor_remember_17 (gA_some hN24) (ix_some hk25) ?_
      refine J_if_eq (tgt := 34) d_Monitor_remember_18 (by decide) ?_ ?_
      · intro c30
        rw [if_pos c30] at H
        refine J.drop [true, true, true] rfl ?_
        exact p_Monitor_remember_L34 hw hG ih H
      · intro c30
        rw [if_neg c30] at H
        refine J_aload_n d_Monitor_remember_21 rfl ?_
        refine F_getR (ci := 5) (k := 1) hG (cf_Port hw) (fl_Monitor_93 hw) (by decide) (by decide) rfl d_Monitor_remember_22 g22 ?_
        refine J_iload_n d_Monitor_remember_25 rfl ?_
        obtain ⟨a26, ha26, H⟩ := Option.bind_eq_some_iff.mp H
        rw [j_rf ha26]
        obtain ⟨N27, hN27, H⟩ := Option.bind_eq_some_iff.mp H
        obtain ⟨k28, hk28, H⟩ := Option.bind_eq_some_iff.mp H
        refine F_zald k28 hw hG d_Monitor_remember_26 (gA_some hN27) (ix_some hk28) ?_
        refine J_if_ne (tgt := 34) d_Monitor_remember_27 (by decide) ?_ ?_
        · intro c29
          rw [if_neg c29] at H
          refine J.drop [true, true, true] rfl ?_
          exact p_Monitor_remember_L34 hw hG ih H
        · intro c29
          rw [if_pos c29] at H
          refine J_iconst (v := 1) d_Monitor_remember_30 (by decide) ?_
          refine J_goto (tgt := 35) d_Monitor_remember_31 (by decide) ?_
          refine J.drop [true, true, true] rfl ?_
          exact p_Monitor_remember_L35 hw hG ih H
def f_Monitor_remember (Γ : gm_T) (φ : ph_T) (this : Nat) (p0 : Option Nat) : Option (Unit × ph_T) :=
  f_Monitor_remember_L2 Γ  jF φ this p0 (0 : Int32)
set_option maxRecDepth 100000 in
set_option maxHeartbeats 4000000 in
theorem p_Monitor_remember {w : jw_T} (hw : jok w) {Γ : gm_T} {n : Nat} (hG : gd w Γ n) {x : Bool} {φ : ph_T} {this : Nat} {p0 : Option Nat} {q : Unit × ph_T} (H : f_Monitor_remember Γ φ this p0 = some q) : jc w M_Monitor_remember [.ref this, va_rf p0] (pic Γ φ) n x 0 0 (fq Γ n (.inl none) q.2) := by
  refine jc.of (by simp only [jent_r, jent_i, jent_l, jent_a, jent_0]; exact Nat.le_of_ble_eq_true rfl) ?_
  have hls : jents [.ref this, va_rf p0] (jm_nL M_Monitor_remember) = [some (.ref this), some (va_rf p0), none] := by simp only [jents, jent_r, jent_i, jent_l, jent_a, jent_0]; rfl
  rw [hls]
  clear hls
  unfold f_Monitor_remember at H
  refine J_iconst (v := 0) d_Monitor_remember_0 (by decide) ?_
  refine J_istore_n d_Monitor_remember_1 (Nat.le_of_ble_eq_true rfl) ?_
  refine J.ls (ls' := [some (.ref this), some (va_rf p0), some (.int (0 : Int32))]) (jst1_o (i := 1) (r := p0) rfl) ?_
  refine J.drop [true, true, true] rfl ?_
  exact p_Monitor_remember_L2 hw hG  _ H
theorem ln_Monitor_look : (parseMethodDescriptor y_Monitor_look.desc).map (fun q => q.parameters.length) = some 1 := by decide +kernel
def f_Monitor_look_L145 (Γ : gm_T)  (φ : ph_T) (x0 : Nat) (x1 : Option Nat) : Option (Unit × ph_T) :=
  @ite _ (Γ x0 = .inr 4) _ (
  Option.bind (f_Monitor_remember Γ φ x0 x1) fun q2 =>
  some ((), (uI q2.2 x0 8 ((q2.2.1 x0 8) + (1 : Int32))))
  ) none
set_option maxRecDepth 100000 in
set_option maxHeartbeats 4000000 in
theorem p_Monitor_look_L145 {w : jw_T} (hw : jok w) {Γ : gm_T} {n : Nat} (hG : gd w Γ n)  {x : Bool} {φ : ph_T} {x0 : Nat} {x1 : Option Nat} {q : Unit × ph_T} (H : f_Monitor_look_L145 Γ  φ x0 x1 = some q) : J w M_Monitor_look 145 [some (.ref x0), some (va_rf x1), none] [] (pic Γ φ) n x 0 0 (fq Γ n (.inl none) q.2) := by
  unfold f_Monitor_look_L145 at H
  refine J_aload_n d_Monitor_look_145 rfl ?_
  refine J_aload_nO d_Monitor_look_146 rfl ?_
  have g1 : Γ x0 = .inr 4 := by
    apply Classical.byContradiction
    intro q9
    rw [if_neg q9] at H
    cases H
  rw [if_pos g1] at H
  obtain ⟨q2, hq2, H⟩ := Option.bind_eq_some_iff.mp H
  refine J_callV (kc := 0) (ks := 0) (kc' := 0) (ks' := 0) (a := x0) (ci := 4) (as := [va_rf x1]) (st := []) (mf_Monitor_remember hw) (mv_Monitor_87 hw) d_Monitor_look_147 ln_Monitor_remember (by decide) (by first | exact Nat.le_of_ble_eq_true rfl | (simp only [List.map_cons, List.map_nil, List.sum_cons, List.sum_nil, va_rf_cat]; exact Nat.le_of_ble_eq_true rfl)) rfl ((hG _).1 _ g1 (by decide)).1 ((hG _).1 _ g1 (by decide)).2 (by unfold pic; rw [g1]; rfl) (jcl_at hw rfl) rfl (p_Monitor_remember hw hG hq2) ?_ (fun E h' n' x' e1 => by cases e1.1)
  intro v9 h9 n9 x9 e9
  obtain ⟨e91, e92, e93⟩ := e9
  cases e91
  subst e92
  subst e93
  clear x
  rename Bool => x
  show J _ _ _ _ [] _ _ _ _ _ _
  refine J_aload_n d_Monitor_look_150 rfl ?_
  refine J_dup d_Monitor_look_151 rfl ?_
  refine F_getI (ci := 4) (k := 8) hG (cf_Monitor hw) (fl_Monitor_48 hw) (by decide) (by decide) rfl d_Monitor_look_152 g1 ?_
  refine J_iconst (v := 1) d_Monitor_look_155 (by decide) ?_
  refine J_iadd d_Monitor_look_156 ?_
  refine F_putI (ci := 4) (k := 8) hG (cf_Monitor hw) (fl_Monitor_48 hw) (by decide) (by decide) rfl d_Monitor_look_157 rfl rfl rfl g1 ?_
  have H := Option.some.inj H
  subst H
  exact J_vret (st := []) d_Monitor_look_160 rfl ⟨rfl, rfl, rfl⟩
def f_Monitor_look_L115 (Γ : gm_T)  (φ : ph_T) (x0 : Nat) (x1 : Option Nat) : Option (Unit × ph_T) :=
  @ite _ (Γ x0 = .inr 4) _ (
  if (φ.1 x0 5) = 0 then
    Option.bind x1 fun a4 =>
    @ite _ (Γ a4 = .inr 5) _ (
    Option.bind (f_Port_moves Γ φ a4 (1 : Int32)) fun q6 =>
    if q6.1 = 0 then
      f_Monitor_look_L145 Γ  q6.2 x0 (some a4)
    else
      Option.bind (q6.2.2.2 a4 4) fun a7 =>
      Option.bind (gA Γ a7 0) fun N8 =>
      Option.bind (ix (1 : Int32) N8) fun k9 =>
      Option.bind (f_Monitor_takeWriteBeat Γ q6.2 x0 (q6.2.1 a7 k9)) fun q10 =>
      Option.bind (f_Monitor_note Γ q10.2 x0 q10.1 (1 : Int32)) fun q11 =>
      f_Monitor_look_L145 Γ  q11.2 x0 (some a4)
    ) none
  else
    f_Monitor_look_L145 Γ  φ x0 x1
  ) none
set_option maxRecDepth 100000 in
set_option maxHeartbeats 4000000 in
theorem p_Monitor_look_L115 {w : jw_T} (hw : jok w) {Γ : gm_T} {n : Nat} (hG : gd w Γ n)  {x : Bool} {φ : ph_T} {x0 : Nat} {x1 : Option Nat} {q : Unit × ph_T} (H : f_Monitor_look_L115 Γ  φ x0 x1 = some q) : J w M_Monitor_look 115 [some (.ref x0), some (va_rf x1), none] [] (pic Γ φ) n x 0 0 (fq Γ n (.inl none) q.2) := by
  unfold f_Monitor_look_L115 at H
  refine J_aload_n d_Monitor_look_115 rfl ?_
  have g3 : Γ x0 = .inr 4 := by
    apply Classical.byContradiction
    intro q9
    rw [if_neg q9] at H
    cases H
  rw [if_pos g3] at H
  refine F_getI (ci := 4) (k := 5) hG (cf_Monitor hw) (fl_Monitor_45 hw) (by decide) (by decide) rfl d_Monitor_look_116 g3 ?_
  refine J_if_ne (tgt := 145) d_Monitor_look_119 (by decide) ?_ ?_
  · intro c13
    rw [if_neg c13] at H
    refine J.drop [true, true, false] rfl ?_
    exact p_Monitor_look_L145 hw hG  H
  · intro c13
    rw [if_pos c13] at H
    refine J_aload_nO d_Monitor_look_122 rfl ?_
    refine J_iconst (v := 1) d_Monitor_look_123 (by decide) ?_
    obtain ⟨a4, ha4, H⟩ := Option.bind_eq_some_iff.mp H
    rw [j_rf ha4]
    have g5 : Γ a4 = .inr 5 := by
      apply Classical.byContradiction
      intro q9
      rw [if_neg q9] at H
      cases H
    rw [if_pos g5] at H
    obtain ⟨q6, hq6, H⟩ := Option.bind_eq_some_iff.mp H
    refine J_callV (kc := 0) (ks := 0) (kc' := 0) (ks' := 0) (a := a4) (ci := 5) (as := [.int (1 : Int32)]) (st := []) (mf_Port_moves hw) (mv_Monitor_63 hw) d_Monitor_look_124 ln_Port_moves (by decide) (by first | exact Nat.le_of_ble_eq_true rfl | (simp only [List.map_cons, List.map_nil, List.sum_cons, List.sum_nil, va_rf_cat]; exact Nat.le_of_ble_eq_true rfl)) rfl ((hG _).1 _ g5 (by decide)).1 ((hG _).1 _ g5 (by decide)).2 (by unfold pic; rw [g5]; rfl) (jcl_at hw rfl) rfl (p_Port_moves hw hG hq6) ?_ (fun E h' n' x' e1 => by cases e1.1)
    intro v9 h9 n9 x9 e9
    obtain ⟨e91, e92, e93⟩ := e9
    cases e91
    subst e92
    subst e93
    clear x
    rename Bool => x
    show J _ _ _ _ (_ :: _) _ _ _ _ _ _
    refine J_if_eq (tgt := 145) d_Monitor_look_127 (by decide) ?_ ?_
    · intro c12
      rw [if_pos c12] at H
      refine J.drop [true, true, false] rfl ?_
      exact p_Monitor_look_L145 hw hG  H
    · intro c12
      rw [if_neg c12] at H
      refine J_aload_n d_Monitor_look_130 rfl ?_
      refine J_aload_n d_Monitor_look_131 rfl ?_
      refine J_aload_n d_Monitor_look_132 rfl ?_
      refine F_getR (ci := 5) (k := 4) hG (cf_Port hw) (fl_Monitor_80 hw) (by decide) (by decide) rfl d_Monitor_look_133 g5 ?_
      refine J_iconst (v := 1) d_Monitor_look_136 (by decide) ?_
      obtain ⟨a7, ha7, H⟩ := Option.bind_eq_some_iff.mp H
      rw [j_rf ha7]
      obtain ⟨N8, hN8, H⟩ := Option.bind_eq_some_iff.mp H
      obtain ⟨k9, hk9, H⟩ := Option.bind_eq_some_iff.mp H
      refine F_iald k9 hw hG d_Monitor_look_137 (gA_some hN8) (ix_some hk9) ?_
      obtain ⟨q10, hq10, H⟩ := Option.bind_eq_some_iff.mp H
      refine J_callV (kc := 0) (ks := 0) (kc' := 0) (ks' := 0) (a := x0) (ci := 4) (as := [.int (q6.2.1 a7 k9)]) (st := [.ref x0]) (mf_Monitor_takeWriteBeat hw) (mv_Monitor_83 hw) d_Monitor_look_138 ln_Monitor_takeWriteBeat (by decide) (by first | exact Nat.le_of_ble_eq_true rfl | (simp only [List.map_cons, List.map_nil, List.sum_cons, List.sum_nil, va_rf_cat]; exact Nat.le_of_ble_eq_true rfl)) rfl ((hG _).1 _ g3 (by decide)).1 ((hG _).1 _ g3 (by decide)).2 (by unfold pic; rw [g3]; rfl) (jcl_at hw rfl) rfl (p_Monitor_takeWriteBeat hw hG hq10) ?_ (fun E h' n' x' e1 => by cases e1.1)
      intro v9 h9 n9 x9 e9
      obtain ⟨e91, e92, e93⟩ := e9
      cases e91
      subst e92
      subst e93
      clear x
      rename Bool => x
      show J _ _ _ _ (_ :: _) _ _ _ _ _ _
      refine J_iconst (v := 1) d_Monitor_look_141 (by decide) ?_
      obtain ⟨q11, hq11, H⟩ := Option.bind_eq_some_iff.mp H
      refine J_callV (kc := 0) (ks := 0) (kc' := 0) (ks' := 0) (a := x0) (ci := 4) (as := [.int q10.1, .int (1 : Int32)]) (st := []) (mf_Monitor_note hw) (mv_Monitor_55 hw) d_Monitor_look_142 ln_Monitor_note (by decide) (by first | exact Nat.le_of_ble_eq_true rfl | (simp only [List.map_cons, List.map_nil, List.sum_cons, List.sum_nil, va_rf_cat]; exact Nat.le_of_ble_eq_true rfl)) rfl ((hG _).1 _ g3 (by decide)).1 ((hG _).1 _ g3 (by decide)).2 (by unfold pic; rw [g3]; rfl) (jcl_at hw rfl) rfl (p_Monitor_note hw hG hq11) ?_ (fun E h' n' x' e1 => by cases e1.1)
      intro v9 h9 n9 x9 e9
      obtain ⟨e91, e92, e93⟩ := e9
      cases e91
      subst e92
      subst e93
      clear x
      rename Bool => x
      show J _ _ _ _ [] _ _ _ _ _ _
      refine J.drop [true, true, false] rfl ?_
      exact p_Monitor_look_L145 hw hG  H
def f_Monitor_look_L85 (Γ : gm_T)  (φ : ph_T) (x0 : Nat) (x1 : Option Nat) : Option (Unit × ph_T) :=
  @ite _ (Γ x0 = .inr 4) _ (
  if (φ.1 x0 5) = 0 then
    Option.bind x1 fun a15 =>
    @ite _ (Γ a15 = .inr 5) _ (
    Option.bind (f_Port_moves Γ φ a15 (0 : Int32)) fun q17 =>
    if q17.1 = 0 then
      f_Monitor_look_L115 Γ  q17.2 x0 (some a15)
    else
      Option.bind (q17.2.2.2 a15 3) fun a18 =>
      Option.bind (gA Γ a18 1) fun N19 =>
      Option.bind (ix (0 : Int32) N19) fun k20 =>
      Option.bind (f_Monitor_takeWriteAddress Γ q17.2 x0 (q17.2.2.1 a18 k20)) fun q21 =>
      Option.bind (f_Monitor_note Γ q21.2 x0 q21.1 (0 : Int32)) fun q22 =>
      f_Monitor_look_L115 Γ  q22.2 x0 (some a15)
    ) none
  else
    f_Monitor_look_L115 Γ  φ x0 x1
  ) none
set_option maxRecDepth 100000 in
set_option maxHeartbeats 4000000 in
theorem p_Monitor_look_L85 {w : jw_T} (hw : jok w) {Γ : gm_T} {n : Nat} (hG : gd w Γ n)  {x : Bool} {φ : ph_T} {x0 : Nat} {x1 : Option Nat} {q : Unit × ph_T} (H : f_Monitor_look_L85 Γ  φ x0 x1 = some q) : J w M_Monitor_look 85 [some (.ref x0), some (va_rf x1), none] [] (pic Γ φ) n x 0 0 (fq Γ n (.inl none) q.2) := by
  unfold f_Monitor_look_L85 at H
  refine J_aload_n d_Monitor_look_85 rfl ?_
  have g14 : Γ x0 = .inr 4 := by
    apply Classical.byContradiction
    intro q9
    rw [if_neg q9] at H
    cases H
  rw [if_pos g14] at H
  refine F_getI (ci := 4) (k := 5) hG (cf_Monitor hw) (fl_Monitor_45 hw) (by decide) (by decide) rfl d_Monitor_look_86 g14 ?_
  refine J_if_ne (tgt := 115) d_Monitor_look_89 (by decide) ?_ ?_
  · intro c24
    rw [if_neg c24] at H
    refine J.drop [true, true, false] rfl ?_
    exact p_Monitor_look_L115 hw hG  H
  · intro c24
    rw [if_pos c24] at H
    refine J_aload_nO d_Monitor_look_92 rfl ?_
    refine J_iconst (v := 0) d_Monitor_look_93 (by decide) ?_
    obtain ⟨a15, ha15, H⟩ := Option.bind_eq_some_iff.mp H
    rw [j_rf ha15]
    have g16 : Γ a15 = .inr 5 := by
      apply Classical.byContradiction
      intro q9
      rw [if_neg q9] at H
      cases H
    rw [if_pos g16] at H
    obtain ⟨q17, hq17, H⟩ := Option.bind_eq_some_iff.mp H
    refine J_callV (kc := 0) (ks := 0) (kc' := 0) (ks' := 0) (a := a15) (ci := 5) (as := [.int (0 : Int32)]) (st := []) (mf_Port_moves hw) (mv_Monitor_63 hw) d_Monitor_look_94 ln_Port_moves (by decide) (by first | exact Nat.le_of_ble_eq_true rfl | (simp only [List.map_cons, List.map_nil, List.sum_cons, List.sum_nil, va_rf_cat]; exact Nat.le_of_ble_eq_true rfl)) rfl ((hG _).1 _ g16 (by decide)).1 ((hG _).1 _ g16 (by decide)).2 (by unfold pic; rw [g16]; rfl) (jcl_at hw rfl) rfl (p_Port_moves hw hG hq17) ?_ (fun E h' n' x' e1 => by cases e1.1)
    intro v9 h9 n9 x9 e9
    obtain ⟨e91, e92, e93⟩ := e9
    cases e91
    subst e92
    subst e93
    clear x
    rename Bool => x
    show J _ _ _ _ (_ :: _) _ _ _ _ _ _
    refine J_if_eq (tgt := 115) d_Monitor_look_97 (by decide) ?_ ?_
    · intro c23
      rw [if_pos c23] at H
      refine J.drop [true, true, false] rfl ?_
      exact p_Monitor_look_L115 hw hG  H
    · intro c23
      rw [if_neg c23] at H
      refine J_aload_n d_Monitor_look_100 rfl ?_
      refine J_aload_n d_Monitor_look_101 rfl ?_
      refine J_aload_n d_Monitor_look_102 rfl ?_
      refine F_getR (ci := 5) (k := 3) hG (cf_Port hw) (fl_Monitor_69 hw) (by decide) (by decide) rfl d_Monitor_look_103 g16 ?_
      refine J_iconst (v := 0) d_Monitor_look_106 (by decide) ?_
      obtain ⟨a18, ha18, H⟩ := Option.bind_eq_some_iff.mp H
      rw [j_rf ha18]
      obtain ⟨N19, hN19, H⟩ := Option.bind_eq_some_iff.mp H
      obtain ⟨k20, hk20, H⟩ := Option.bind_eq_some_iff.mp H
      refine F_lald k20 hw hG d_Monitor_look_107 (gA_some hN19) (ix_some hk20) ?_
      obtain ⟨q21, hq21, H⟩ := Option.bind_eq_some_iff.mp H
      refine J_callV (kc := 0) (ks := 0) (kc' := 0) (ks' := 0) (a := x0) (ci := 4) (as := [.long (q17.2.2.1 a18 k20)]) (st := [.ref x0]) (mf_Monitor_takeWriteAddress hw) (mv_Monitor_76 hw) d_Monitor_look_108 ln_Monitor_takeWriteAddress (by decide) (by first | exact Nat.le_of_ble_eq_true rfl | (simp only [List.map_cons, List.map_nil, List.sum_cons, List.sum_nil, va_rf_cat]; exact Nat.le_of_ble_eq_true rfl)) rfl ((hG _).1 _ g14 (by decide)).1 ((hG _).1 _ g14 (by decide)).2 (by unfold pic; rw [g14]; rfl) (jcl_at hw rfl) rfl (p_Monitor_takeWriteAddress hw hG hq21) ?_ (fun E h' n' x' e1 => by cases e1.1)
      intro v9 h9 n9 x9 e9
      obtain ⟨e91, e92, e93⟩ := e9
      cases e91
      subst e92
      subst e93
      clear x
      rename Bool => x
      show J _ _ _ _ (_ :: _) _ _ _ _ _ _
      refine J_iconst (v := 0) d_Monitor_look_111 (by decide) ?_
      obtain ⟨q22, hq22, H⟩ := Option.bind_eq_some_iff.mp H
      refine J_callV (kc := 0) (ks := 0) (kc' := 0) (ks' := 0) (a := x0) (ci := 4) (as := [.int q21.1, .int (0 : Int32)]) (st := []) (mf_Monitor_note hw) (mv_Monitor_55 hw) d_Monitor_look_112 ln_Monitor_note (by decide) (by first | exact Nat.le_of_ble_eq_true rfl | (simp only [List.map_cons, List.map_nil, List.sum_cons, List.sum_nil, va_rf_cat]; exact Nat.le_of_ble_eq_true rfl)) rfl ((hG _).1 _ g14 (by decide)).1 ((hG _).1 _ g14 (by decide)).2 (by unfold pic; rw [g14]; rfl) (jcl_at hw rfl) rfl (p_Monitor_note hw hG hq22) ?_ (fun E h' n' x' e1 => by cases e1.1)
      intro v9 h9 n9 x9 e9
      obtain ⟨e91, e92, e93⟩ := e9
      cases e91
      subst e92
      subst e93
      clear x
      rename Bool => x
      show J _ _ _ _ [] _ _ _ _ _ _
      refine J.drop [true, true, false] rfl ?_
      exact p_Monitor_look_L115 hw hG  H
def f_Monitor_look_L81 (Γ : gm_T)  (φ : ph_T) (x0 : Nat) (x1 : Option Nat) (y0 : Int32) (y1 : Nat) : Option (Unit × ph_T) :=
  @ite _ (Γ y1 = .inr 4) _ (
  Option.bind (f_Monitor_note Γ φ y1 y0 (3 : Int32)) fun q26 =>
  f_Monitor_look_L85 Γ  q26.2 x0 x1
  ) none
set_option maxRecDepth 100000 in
set_option maxHeartbeats 4000000 in
theorem p_Monitor_look_L81 {w : jw_T} (hw : jok w) {Γ : gm_T} {n : Nat} (hG : gd w Γ n)  {x : Bool} {φ : ph_T} {x0 : Nat} {x1 : Option Nat} {y0 : Int32} {y1 : Nat} {q : Unit × ph_T} (H : f_Monitor_look_L81 Γ  φ x0 x1 y0 y1 = some q) : J w M_Monitor_look 81 [some (.ref x0), some (va_rf x1), none] [.int y0, .ref y1] (pic Γ φ) n x 0 0 (fq Γ n (.inl none) q.2) := by
  unfold f_Monitor_look_L81 at H
  refine J_iconst (v := 3) d_Monitor_look_81 (by decide) ?_
  have g25 : Γ y1 = .inr 4 := by
    apply Classical.byContradiction
    intro q9
    rw [if_neg q9] at H
    cases H
  rw [if_pos g25] at H
  obtain ⟨q26, hq26, H⟩ := Option.bind_eq_some_iff.mp H
  refine J_callV (kc := 0) (ks := 0) (kc' := 0) (ks' := 0) (a := y1) (ci := 4) (as := [.int y0, .int (3 : Int32)]) (st := []) (mf_Monitor_note hw) (mv_Monitor_55 hw) d_Monitor_look_82 ln_Monitor_note (by decide) (by first | exact Nat.le_of_ble_eq_true rfl | (simp only [List.map_cons, List.map_nil, List.sum_cons, List.sum_nil, va_rf_cat]; exact Nat.le_of_ble_eq_true rfl)) rfl ((hG _).1 _ g25 (by decide)).1 ((hG _).1 _ g25 (by decide)).2 (by unfold pic; rw [g25]; rfl) (jcl_at hw rfl) rfl (p_Monitor_note hw hG hq26) ?_ (fun E h' n' x' e1 => by cases e1.1)
  intro v9 h9 n9 x9 e9
  obtain ⟨e91, e92, e93⟩ := e9
  cases e91
  subst e92
  subst e93
  clear x
  rename Bool => x
  show J _ _ _ _ [] _ _ _ _ _ _
  refine J.drop [true, true, false] rfl ?_
  exact p_Monitor_look_L85 hw hG  H
def f_Monitor_look_L43 (Γ : gm_T)  (φ : ph_T) (x0 : Nat) (x1 : Option Nat) : Option (Unit × ph_T) :=
  @ite _ (Γ x0 = .inr 4) _ (
  if (φ.1 x0 5) = 0 then
    Option.bind x1 fun a28 =>
    @ite _ (Γ a28 = .inr 5) _ (
    Option.bind (f_Port_moves Γ φ a28 (3 : Int32)) fun q30 =>
    if q30.1 = 0 then
      f_Monitor_look_L85 Γ  q30.2 x0 (some a28)
    else
      Option.bind (q30.2.2.2 a28 3) fun a31 =>
      Option.bind (gA Γ a31 1) fun N32 =>
      Option.bind (ix (3 : Int32) N32) fun k33 =>
      Option.bind (q30.2.2.2 x0 1) fun a34 =>
      @ite _ (Γ a34 = .inr 1) _ (
      Option.bind (f_Line_add Γ q30.2 a34 (q30.2.2.1 a31 k33)) fun q36 =>
      if q36.1 = none then
        f_Monitor_look_L81 Γ  q36.2 x0 (some a28) (12 : Int32) x0
      else
        f_Monitor_look_L81 Γ  q36.2 x0 (some a28) (0 : Int32) x0
      ) none
    ) none
  else
    f_Monitor_look_L85 Γ  φ x0 x1
  ) none
set_option maxRecDepth 100000 in
set_option maxHeartbeats 4000000 in
theorem p_Monitor_look_L43 {w : jw_T} (hw : jok w) {Γ : gm_T} {n : Nat} (hG : gd w Γ n)  {x : Bool} {φ : ph_T} {x0 : Nat} {x1 : Option Nat} {q : Unit × ph_T} (H : f_Monitor_look_L43 Γ  φ x0 x1 = some q) : J w M_Monitor_look 43 [some (.ref x0), some (va_rf x1), none] [] (pic Γ φ) n x 0 0 (fq Γ n (.inl none) q.2) := by
  unfold f_Monitor_look_L43 at H
  refine J_aload_n d_Monitor_look_43 rfl ?_
  have g27 : Γ x0 = .inr 4 := by
    apply Classical.byContradiction
    intro q9
    rw [if_neg q9] at H
    cases H
  rw [if_pos g27] at H
  refine F_getI (ci := 4) (k := 5) hG (cf_Monitor hw) (fl_Monitor_45 hw) (by decide) (by decide) rfl d_Monitor_look_44 g27 ?_
  refine J_if_ne (tgt := 85) d_Monitor_look_47 (by decide) ?_ ?_
  · intro c39
    rw [if_neg c39] at H
    refine J.drop [true, true, false] rfl ?_
    exact p_Monitor_look_L85 hw hG  H
  · intro c39
    rw [if_pos c39] at H
    refine J_aload_nO d_Monitor_look_50 rfl ?_
    refine J_iconst (v := 3) d_Monitor_look_51 (by decide) ?_
    obtain ⟨a28, ha28, H⟩ := Option.bind_eq_some_iff.mp H
    rw [j_rf ha28]
    have g29 : Γ a28 = .inr 5 := by
      apply Classical.byContradiction
      intro q9
      rw [if_neg q9] at H
      cases H
    rw [if_pos g29] at H
    obtain ⟨q30, hq30, H⟩ := Option.bind_eq_some_iff.mp H
    refine J_callV (kc := 0) (ks := 0) (kc' := 0) (ks' := 0) (a := a28) (ci := 5) (as := [.int (3 : Int32)]) (st := []) (mf_Port_moves hw) (mv_Monitor_63 hw) d_Monitor_look_52 ln_Port_moves (by decide) (by first | exact Nat.le_of_ble_eq_true rfl | (simp only [List.map_cons, List.map_nil, List.sum_cons, List.sum_nil, va_rf_cat]; exact Nat.le_of_ble_eq_true rfl)) rfl ((hG _).1 _ g29 (by decide)).1 ((hG _).1 _ g29 (by decide)).2 (by unfold pic; rw [g29]; rfl) (jcl_at hw rfl) rfl (p_Port_moves hw hG hq30) ?_ (fun E h' n' x' e1 => by cases e1.1)
    intro v9 h9 n9 x9 e9
    obtain ⟨e91, e92, e93⟩ := e9
    cases e91
    subst e92
    subst e93
    clear x
    rename Bool => x
    show J _ _ _ _ (_ :: _) _ _ _ _ _ _
    refine J_if_eq (tgt := 85) d_Monitor_look_55 (by decide) ?_ ?_
    · intro c38
      rw [if_pos c38] at H
      refine J.drop [true, true, false] rfl ?_
      exact p_Monitor_look_L85 hw hG  H
    · intro c38
      rw [if_neg c38] at H
      refine J_aload_n d_Monitor_look_58 rfl ?_
      refine J_aload_n d_Monitor_look_59 rfl ?_
      refine F_getR (ci := 4) (k := 1) hG (cf_Monitor hw) (fl_Monitor_20 hw) (by decide) (by decide) rfl d_Monitor_look_60 g27 ?_
      refine J_aload_n d_Monitor_look_63 rfl ?_
      refine F_getR (ci := 5) (k := 3) hG (cf_Port hw) (fl_Monitor_69 hw) (by decide) (by decide) rfl d_Monitor_look_64 g29 ?_
      refine J_iconst (v := 3) d_Monitor_look_67 (by decide) ?_
      obtain ⟨a31, ha31, H⟩ := Option.bind_eq_some_iff.mp H
      rw [j_rf ha31]
      obtain ⟨N32, hN32, H⟩ := Option.bind_eq_some_iff.mp H
      obtain ⟨k33, hk33, H⟩ := Option.bind_eq_some_iff.mp H
      refine F_lald k33 hw hG d_Monitor_look_68 (gA_some hN32) (ix_some hk33) ?_
      obtain ⟨a34, ha34, H⟩ := Option.bind_eq_some_iff.mp H
      rw [j_rf ha34]
      have g35 : Γ a34 = .inr 1 := by
        apply Classical.byContradiction
        intro q9
        rw [if_neg q9] at H
        cases H
      rw [if_pos g35] at H
      obtain ⟨q36, hq36, H⟩ := Option.bind_eq_some_iff.mp H
      refine J_callV (kc := 0) (ks := 0) (kc' := 0) (ks' := 0) (a := a34) (ci := 1) (as := [.long (q30.2.2.1 a31 k33)]) (st := [.ref x0]) (mf_Line_add hw) (mv_Monitor_72 hw) d_Monitor_look_69 ln_Line_add (by decide) (by first | exact Nat.le_of_ble_eq_true rfl | (simp only [List.map_cons, List.map_nil, List.sum_cons, List.sum_nil, va_rf_cat]; exact Nat.le_of_ble_eq_true rfl)) rfl ((hG _).1 _ g35 (by decide)).1 ((hG _).1 _ g35 (by decide)).2 (by unfold pic; rw [g35]; rfl) (jcl_at hw rfl) rfl (p_Line_add hw hG hq36) ?_ (fun E h' n' x' e1 => by cases e1.1)
      intro v9 h9 n9 x9 e9
      obtain ⟨e91, e92, e93⟩ := e9
      cases e91
      subst e92
      subst e93
      clear x
      rename Bool => x
      show J _ _ _ _ (_ :: _) _ _ _ _ _ _
      refine J_ifnonnullO (r := q36.1) (tgt := 80) d_Monitor_look_72 (by decide) ?_ ?_
      · intro c37
        rw [if_neg c37] at H
        refine J_iconst (v := 0) d_Monitor_look_80 (by decide) ?_
        refine J.drop [true, true, false] rfl ?_
        exact p_Monitor_look_L81 hw hG  H
      · intro c37
        rw [if_pos c37] at H
        refine J_bipush (v := 12) d_Monitor_look_75 (by decide) ?_
        refine J_goto (tgt := 81) d_Monitor_look_77 (by decide) ?_
        refine J.drop [true, true, false] rfl ?_
        exact p_Monitor_look_L81 hw hG  H
def f_Monitor_look_L31 (Γ : gm_T)  (φ : ph_T) (x0 : Nat) (x1 : Option Nat) : Option (Unit × ph_T) :=
  @ite _ (Γ x0 = .inr 4) _ (
  if (φ.1 x0 5) = 0 then
    Option.bind (f_Monitor_takeAnswers Γ φ x0 x1) fun q41 =>
    f_Monitor_look_L43 Γ  q41.2 x0 x1
  else
    f_Monitor_look_L43 Γ  φ x0 x1
  ) none
set_option maxRecDepth 100000 in
set_option maxHeartbeats 4000000 in
theorem p_Monitor_look_L31 {w : jw_T} (hw : jok w) {Γ : gm_T} {n : Nat} (hG : gd w Γ n)  {x : Bool} {φ : ph_T} {x0 : Nat} {x1 : Option Nat} {q : Unit × ph_T} (H : f_Monitor_look_L31 Γ  φ x0 x1 = some q) : J w M_Monitor_look 31 [some (.ref x0), some (va_rf x1), none] [] (pic Γ φ) n x 0 0 (fq Γ n (.inl none) q.2) := by
  unfold f_Monitor_look_L31 at H
  refine J_aload_n d_Monitor_look_31 rfl ?_
  have g40 : Γ x0 = .inr 4 := by
    apply Classical.byContradiction
    intro q9
    rw [if_neg q9] at H
    cases H
  rw [if_pos g40] at H
  refine F_getI (ci := 4) (k := 5) hG (cf_Monitor hw) (fl_Monitor_45 hw) (by decide) (by decide) rfl d_Monitor_look_32 g40 ?_
  refine J_if_ne (tgt := 43) d_Monitor_look_35 (by decide) ?_ ?_
  · intro c42
    rw [if_neg c42] at H
    refine J.drop [true, true, false] rfl ?_
    exact p_Monitor_look_L43 hw hG  H
  · intro c42
    rw [if_pos c42] at H
    refine J_aload_n d_Monitor_look_38 rfl ?_
    refine J_aload_nO d_Monitor_look_39 rfl ?_
    obtain ⟨q41, hq41, H⟩ := Option.bind_eq_some_iff.mp H
    refine J_callV (kc := 0) (ks := 0) (kc' := 0) (ks' := 0) (a := x0) (ci := 4) (as := [va_rf x1]) (st := []) (mf_Monitor_takeAnswers hw) (mv_Monitor_59 hw) d_Monitor_look_40 ln_Monitor_takeAnswers (by decide) (by first | exact Nat.le_of_ble_eq_true rfl | (simp only [List.map_cons, List.map_nil, List.sum_cons, List.sum_nil, va_rf_cat]; exact Nat.le_of_ble_eq_true rfl)) rfl ((hG _).1 _ g40 (by decide)).1 ((hG _).1 _ g40 (by decide)).2 (by unfold pic; rw [g40]; rfl) (jcl_at hw rfl) rfl (p_Monitor_takeAnswers hw hG hq41) ?_ (fun E h' n' x' e1 => by cases e1.1)
    intro v9 h9 n9 x9 e9
    obtain ⟨e91, e92, e93⟩ := e9
    cases e91
    subst e92
    subst e93
    clear x
    rename Bool => x
    show J _ _ _ _ [] _ _ _ _ _ _
    refine J.drop [true, true, false] rfl ?_
    exact p_Monitor_look_L43 hw hG  H
def f_Monitor_look_L2 (Γ : gm_T)  : Nat → ph_T → Nat → Option Nat → Int32 → Option (Unit × ph_T)
  | 0, _, _, _, _ => none
  | fu + 1, φ, x0, x1, x2 =>
    if (5 : Int32) ≤ x2 then
      f_Monitor_look_L31 Γ  φ x0 x1
    else
      @ite _ (Γ x0 = .inr 4) _ (
      if (φ.1 x0 5) = 0 then
        Option.bind (f_Monitor_brokenOn Γ φ x0 x1 x2) fun q44 =>
        Option.bind (f_Monitor_note Γ q44.2 x0 q44.1 x2) fun q45 =>
        (f_Monitor_look_L2 Γ  fu) q45.2 x0 x1 (x2 + (1 : Int32))
      else
        f_Monitor_look_L31 Γ  φ x0 x1
      ) none
set_option maxRecDepth 100000 in
set_option maxHeartbeats 4000000 in
theorem p_Monitor_look_L2 {w : jw_T} (hw : jok w) {Γ : gm_T} {n : Nat} (hG : gd w Γ n)  : ∀ (fu : Nat) {x : Bool} {φ : ph_T} {x0 : Nat} {x1 : Option Nat} {x2 : Int32} {q : Unit × ph_T}, f_Monitor_look_L2 Γ  fu φ x0 x1 x2 = some q → J w M_Monitor_look 2 [some (.ref x0), some (va_rf x1), some (.int x2)] [] (pic Γ φ) n x 0 0 (fq Γ n (.inl none) q.2) := by
  intro fu
  induction fu with
  | zero =>
    intro x φ x0 x1 x2 q H
    cases H
  | succ fu ih =>
    intro x φ x0 x1 x2 q H
    unfold f_Monitor_look_L2 at H
    refine J_iload_n d_Monitor_look_2 rfl ?_
    refine J_iconst (v := 5) d_Monitor_look_3 (by decide) ?_
    refine J_icmp_ge (tgt := 31) d_Monitor_look_4 (by decide) ?_ ?_
    · intro c47
      rw [if_pos c47] at H
      refine J.drop [true, true, false] rfl ?_
      exact p_Monitor_look_L31 hw hG  H
    · intro c47
      rw [if_neg c47] at H
      refine J_aload_n d_Monitor_look_7 rfl ?_
      have g43 : Γ x0 = .inr 4 := by
        apply Classical.byContradiction
        intro q9
        rw [if_neg q9] at H
        cases H
      rw [if_pos g43] at H
      refine F_getI (ci := 4) (k := 5) hG (cf_Monitor hw) (fl_Monitor_45 hw) (by decide) (by decide) rfl d_Monitor_look_8 g43 ?_
      refine J_if_ne (tgt := 31) d_Monitor_look_11 (by decide) ?_ ?_
      · intro c46
        rw [if_neg c46] at H
        refine J.drop [true, true, false] rfl ?_
        exact p_Monitor_look_L31 hw hG  H
      · intro c46
        rw [if_pos c46] at H
        refine J_aload_n d_Monitor_look_14 rfl ?_
        refine J_aload_n d_Monitor_look_15 rfl ?_
        refine J_aload_nO d_Monitor_look_16 rfl ?_
        refine J_iload_n d_Monitor_look_17 rfl ?_
        obtain ⟨q44, hq44, H⟩ := Option.bind_eq_some_iff.mp H
        refine J_callV (kc := 0) (ks := 0) (kc' := 0) (ks' := 0) (a := x0) (ci := 4) (as := [va_rf x1, .int x2]) (st := [.ref x0]) (mf_Monitor_brokenOn hw) (mv_Monitor_51 hw) d_Monitor_look_18 ln_Monitor_brokenOn (by decide) (by first | exact Nat.le_of_ble_eq_true rfl | (simp only [List.map_cons, List.map_nil, List.sum_cons, List.sum_nil, va_rf_cat]; exact Nat.le_of_ble_eq_true rfl)) rfl ((hG _).1 _ g43 (by decide)).1 ((hG _).1 _ g43 (by decide)).2 (by unfold pic; rw [g43]; rfl) (jcl_at hw rfl) rfl (p_Monitor_brokenOn hw hG hq44) ?_ (fun E h' n' x' e1 => by cases e1.1)
        intro v9 h9 n9 x9 e9
        obtain ⟨e91, e92, e93⟩ := e9
        cases e91
        subst e92
        subst e93
        clear x
        rename Bool => x
        show J _ _ _ _ (_ :: _) _ _ _ _ _ _
        refine J_iload_n d_Monitor_look_21 rfl ?_
        obtain ⟨q45, hq45, H⟩ := Option.bind_eq_some_iff.mp H
        refine J_callV (kc := 0) (ks := 0) (kc' := 0) (ks' := 0) (a := x0) (ci := 4) (as := [.int q44.1, .int x2]) (st := []) (mf_Monitor_note hw) (mv_Monitor_55 hw) d_Monitor_look_22 ln_Monitor_note (by decide) (by first | exact Nat.le_of_ble_eq_true rfl | (simp only [List.map_cons, List.map_nil, List.sum_cons, List.sum_nil, va_rf_cat]; exact Nat.le_of_ble_eq_true rfl)) rfl ((hG _).1 _ g43 (by decide)).1 ((hG _).1 _ g43 (by decide)).2 (by unfold pic; rw [g43]; rfl) (jcl_at hw rfl) rfl (p_Monitor_note hw hG hq45) ?_ (fun E h' n' x' e1 => by cases e1.1)
        intro v9 h9 n9 x9 e9
        obtain ⟨e91, e92, e93⟩ := e9
        cases e91
        subst e92
        subst e93
        clear x
        rename Bool => x
        show J _ _ _ _ [] _ _ _ _ _ _
        refine J_iinc (v := x2 + 1) d_Monitor_look_25 rfl (by rw [show Int32.ofInt 1 = (1 : Int32) from by decide]) ?_
        refine J.ls (ls' := [some (.ref x0), some (va_rf x1), some (.int (x2 + (1 : Int32)))]) (jst1_o (i := 1) (r := x1) rfl) ?_
        refine J_goto (tgt := 2) d_Monitor_look_28 (by decide) ?_
        refine J.drop [true, true, true] rfl ?_
        exact ih H
def f_Monitor_look (Γ : gm_T) (φ : ph_T) (this : Nat) (p0 : Option Nat) : Option (Unit × ph_T) :=
  f_Monitor_look_L2 Γ  jF φ this p0 (0 : Int32)
set_option maxRecDepth 100000 in
set_option maxHeartbeats 4000000 in
theorem p_Monitor_look {w : jw_T} (hw : jok w) {Γ : gm_T} {n : Nat} (hG : gd w Γ n) {x : Bool} {φ : ph_T} {this : Nat} {p0 : Option Nat} {q : Unit × ph_T} (H : f_Monitor_look Γ φ this p0 = some q) : jc w M_Monitor_look [.ref this, va_rf p0] (pic Γ φ) n x 0 0 (fq Γ n (.inl none) q.2) := by
  refine jc.of (by simp only [jent_r, jent_i, jent_l, jent_a, jent_0]; exact Nat.le_of_ble_eq_true rfl) ?_
  have hls : jents [.ref this, va_rf p0] (jm_nL M_Monitor_look) = [some (.ref this), some (va_rf p0), none] := by simp only [jents, jent_r, jent_i, jent_l, jent_a, jent_0]; rfl
  rw [hls]
  clear hls
  unfold f_Monitor_look at H
  refine J_iconst (v := 0) d_Monitor_look_0 (by decide) ?_
  refine J_istore_n d_Monitor_look_1 (Nat.le_of_ble_eq_true rfl) ?_
  refine J.ls (ls' := [some (.ref this), some (va_rf p0), some (.int (0 : Int32))]) (jst1_o (i := 1) (r := p0) rfl) ?_
  refine J.drop [true, true, true] rfl ?_
  exact p_Monitor_look_L2 hw hG  _ H
theorem ln_Slave_isRipe : (parseMethodDescriptor y_Slave_isRipe.desc).map (fun q => q.parameters.length) = some 2 := by decide +kernel
def f_Slave_isRipe_L30 (Γ : gm_T)  (φ : ph_T) (y0 : Int32) : Option (Int32 × ph_T) :=
  @ite _ (y0 = 0 ∨ y0 = 1) _ (
  some (y0, φ)
  ) none
set_option maxRecDepth 100000 in
set_option maxHeartbeats 4000000 in
theorem p_Slave_isRipe_L30 {w : jw_T} (hw : jok w) {Γ : gm_T} {n : Nat} (hG : gd w Γ n)  {x : Bool} {φ : ph_T} {y0 : Int32} {q : Int32 × ph_T} (H : f_Slave_isRipe_L30 Γ  φ y0 = some q) : J w M_Slave_isRipe 30 [none, none, none] [.int y0] (pic Γ φ) n x 0 0 (fq Γ n (.inl (some (.int q.1))) q.2) := by
  unfold f_Slave_isRipe_L30 at H
  have z1 : y0 = 0 ∨ y0 = 1 := by
    apply Classical.byContradiction
    intro q9
    rw [if_neg q9] at H
    cases H
  rw [if_pos z1] at H
  have H := Option.some.inj H
  subst H
  exact J_iret (st := []) d_Slave_isRipe_30 rfl (narrow_z z1).1 ⟨rfl, rfl, rfl⟩
def f_Slave_isRipe_L29 (Γ : gm_T)  (φ : ph_T) : Option (Int32 × ph_T) :=
  f_Slave_isRipe_L30 Γ  φ (0 : Int32)
set_option maxRecDepth 100000 in
set_option maxHeartbeats 4000000 in
theorem p_Slave_isRipe_L29 {w : jw_T} (hw : jok w) {Γ : gm_T} {n : Nat} (hG : gd w Γ n)  {x : Bool} {φ : ph_T} {q : Int32 × ph_T} (H : f_Slave_isRipe_L29 Γ  φ  = some q) : J w M_Slave_isRipe 29 [none, none, none] [] (pic Γ φ) n x 0 0 (fq Γ n (.inl (some (.int q.1))) q.2) := by
  unfold f_Slave_isRipe_L29 at H
  refine J_iconst (v := 0) d_Slave_isRipe_29 (by decide) ?_
  refine J.drop [false, false, false] rfl ?_
  exact p_Slave_isRipe_L30 hw hG  H
def f_Slave_isRipe (Γ : gm_T) (φ : ph_T) (this : Nat) (p0 : Option Nat) (p1 : Int32) : Option (Int32 × ph_T) :=
  if p0 = none then
    f_Slave_isRipe_L29 Γ  φ 
  else
    Option.bind p0 fun a2 =>
    @ite _ (Γ a2 = .inr 0) _ (
    if (φ.1 a2 4) = (-1 : Int32) then
      f_Slave_isRipe_L29 Γ  φ 
    else
      @ite _ (Γ this = .inr 8) _ (
      if p1 ≤ ((φ.1 a2 4) + (φ.1 this 6)) then
        f_Slave_isRipe_L29 Γ  φ 
      else
        f_Slave_isRipe_L30 Γ  φ (1 : Int32)
      ) none
    ) none
set_option maxRecDepth 100000 in
set_option maxHeartbeats 4000000 in
theorem p_Slave_isRipe {w : jw_T} (hw : jok w) {Γ : gm_T} {n : Nat} (hG : gd w Γ n) {x : Bool} {φ : ph_T} {this : Nat} {p0 : Option Nat} {p1 : Int32} {q : Int32 × ph_T} (H : f_Slave_isRipe Γ φ this p0 p1 = some q) : jc w M_Slave_isRipe [.ref this, va_rf p0, .int p1] (pic Γ φ) n x 0 0 (fq Γ n (.inl (some (.int q.1))) q.2) := by
  refine jc.of (by simp only [jent_r, jent_i, jent_l, jent_a, jent_0]; exact Nat.le_of_ble_eq_true rfl) ?_
  have hls : jents [.ref this, va_rf p0, .int p1] (jm_nL M_Slave_isRipe) = [some (.ref this), some (va_rf p0), some (.int p1)] := by simp only [jents, jent_r, jent_i, jent_l, jent_a, jent_0]; rfl
  rw [hls]
  clear hls
  unfold f_Slave_isRipe at H
  refine J_aload_nO d_Slave_isRipe_0 rfl ?_
  refine J_ifnullO (r := p0) (tgt := 29) d_Slave_isRipe_1 (by decide) ?_ ?_
  · intro c7
    rw [if_pos c7] at H
    refine J.drop [false, false, false] rfl ?_
    exact p_Slave_isRipe_L29 hw hG  H
  · intro c7
    rw [if_neg c7] at H
    refine J_aload_nO d_Slave_isRipe_4 rfl ?_
    obtain ⟨a2, ha2, H⟩ := Option.bind_eq_some_iff.mp H
    rw [j_rf ha2]
    have g3 : Γ a2 = .inr 0 := by
      apply Classical.byContradiction
      intro q9
      rw [if_neg q9] at H
      cases H
    rw [if_pos g3] at H
    refine F_getI (ci := 0) (k := 4) hG (cf_Burst hw) (fl_Slave_149 hw) (by decide) (by decide) rfl d_Slave_isRipe_5 g3 ?_
    refine J_iconst (v := -1) d_Slave_isRipe_8 (by decide) ?_
    refine J_icmp_eq (tgt := 29) d_Slave_isRipe_9 (by decide) ?_ ?_
    · intro c6
      rw [if_pos c6] at H
      refine J.drop [false, false, false] rfl ?_
      exact p_Slave_isRipe_L29 hw hG  H
    · intro c6
      rw [if_neg c6] at H
      refine J_iload_n d_Slave_isRipe_12 rfl ?_
      refine J_aload_n d_Slave_isRipe_13 rfl ?_
      refine F_getI (ci := 0) (k := 4) hG (cf_Burst hw) (fl_Slave_149 hw) (by decide) (by decide) rfl d_Slave_isRipe_14 g3 ?_
      refine J_aload_n d_Slave_isRipe_17 rfl ?_
      have g4 : Γ this = .inr 8 := by
        apply Classical.byContradiction
        intro q9
        rw [if_neg q9] at H
        cases H
      rw [if_pos g4] at H
      refine F_getI (ci := 8) (k := 6) hG (cf_Slave hw) (fl_Slave_57 hw) (by decide) (by decide) rfl d_Slave_isRipe_18 g4 ?_
      refine J_iadd d_Slave_isRipe_21 ?_
      refine J_icmp_le (tgt := 29) d_Slave_isRipe_22 (by decide) ?_ ?_
      · intro c5
        rw [if_pos c5] at H
        refine J.drop [false, false, false] rfl ?_
        exact p_Slave_isRipe_L29 hw hG  H
      · intro c5
        rw [if_neg c5] at H
        refine J_iconst (v := 1) d_Slave_isRipe_25 (by decide) ?_
        refine J_goto (tgt := 30) d_Slave_isRipe_26 (by decide) ?_
        refine J.drop [false, false, false] rfl ?_
        exact p_Slave_isRipe_L30 hw hG  H
theorem ln_Slave_mayAnswer : (parseMethodDescriptor y_Slave_mayAnswer.desc).map (fun q => q.parameters.length) = some 3 := by decide +kernel
def f_Slave_mayAnswer_L38 (Γ : gm_T)  (φ : ph_T) (y0 : Int32) : Option (Int32 × ph_T) :=
  @ite _ (y0 = 0 ∨ y0 = 1) _ (
  some (y0, φ)
  ) none
set_option maxRecDepth 100000 in
set_option maxHeartbeats 4000000 in
theorem p_Slave_mayAnswer_L38 {w : jw_T} (hw : jok w) {Γ : gm_T} {n : Nat} (hG : gd w Γ n)  {x : Bool} {φ : ph_T} {y0 : Int32} {q : Int32 × ph_T} (H : f_Slave_mayAnswer_L38 Γ  φ y0 = some q) : J w M_Slave_mayAnswer 38 [none, none, none, none, none] [.int y0] (pic Γ φ) n x 0 0 (fq Γ n (.inl (some (.int q.1))) q.2) := by
  unfold f_Slave_mayAnswer_L38 at H
  have z1 : y0 = 0 ∨ y0 = 1 := by
    apply Classical.byContradiction
    intro q9
    rw [if_neg q9] at H
    cases H
  rw [if_pos z1] at H
  have H := Option.some.inj H
  subst H
  exact J_iret (st := []) d_Slave_mayAnswer_38 rfl (narrow_z z1).1 ⟨rfl, rfl, rfl⟩
def f_Slave_mayAnswer_L37 (Γ : gm_T)  (φ : ph_T) : Option (Int32 × ph_T) :=
  f_Slave_mayAnswer_L38 Γ  φ (0 : Int32)
set_option maxRecDepth 100000 in
set_option maxHeartbeats 4000000 in
theorem p_Slave_mayAnswer_L37 {w : jw_T} (hw : jok w) {Γ : gm_T} {n : Nat} (hG : gd w Γ n)  {x : Bool} {φ : ph_T} {q : Int32 × ph_T} (H : f_Slave_mayAnswer_L37 Γ  φ  = some q) : J w M_Slave_mayAnswer 37 [none, none, none, none, none] [] (pic Γ φ) n x 0 0 (fq Γ n (.inl (some (.int q.1))) q.2) := by
  unfold f_Slave_mayAnswer_L37 at H
  refine J_iconst (v := 0) d_Slave_mayAnswer_37 (by decide) ?_
  refine J.drop [false, false, false, false, false] rfl ?_
  exact p_Slave_mayAnswer_L38 hw hG  H
def f_Slave_mayAnswer (Γ : gm_T) (φ : ph_T) (this : Nat) (p0 : Option Nat) (p1 : Int32) (p2 : Int32) : Option (Int32 × ph_T) :=
  Option.bind p0 fun a2 =>
  @ite _ (Γ a2 = .inr 1) _ (
  Option.bind (f_Line_at Γ φ a2 p1) fun q4 =>
  @ite _ (Γ this = .inr 8) _ (
  Option.bind (f_Slave_isRipe Γ q4.2 this q4.1 p2) fun q6 =>
  if q6.1 = 0 then
    f_Slave_mayAnswer_L37 Γ  q6.2 
  else
    Option.bind q4.1 fun a7 =>
    @ite _ (Γ a7 = .inr 0) _ (
    Option.bind (f_Burst_idOf Γ q6.2 (q6.2.2.1 a7 0)) fun q9 =>
    Option.bind (f_Line_firstWithId Γ q9.2 a2 q9.1) fun q10 =>
    if q10.1 = p1 then
      f_Slave_mayAnswer_L38 Γ  q10.2 (1 : Int32)
    else
      f_Slave_mayAnswer_L37 Γ  q10.2 
    ) none
  ) none
  ) none
set_option maxRecDepth 100000 in
set_option maxHeartbeats 4000000 in
theorem p_Slave_mayAnswer {w : jw_T} (hw : jok w) {Γ : gm_T} {n : Nat} (hG : gd w Γ n) {x : Bool} {φ : ph_T} {this : Nat} {p0 : Option Nat} {p1 : Int32} {p2 : Int32} {q : Int32 × ph_T} (H : f_Slave_mayAnswer Γ φ this p0 p1 p2 = some q) : jc w M_Slave_mayAnswer [.ref this, va_rf p0, .int p1, .int p2] (pic Γ φ) n x 0 0 (fq Γ n (.inl (some (.int q.1))) q.2) := by
  refine jc.of (by simp only [jent_r, jent_i, jent_l, jent_a, jent_0]; exact Nat.le_of_ble_eq_true rfl) ?_
  have hls : jents [.ref this, va_rf p0, .int p1, .int p2] (jm_nL M_Slave_mayAnswer) = [some (.ref this), some (va_rf p0), some (.int p1), some (.int p2), none] := by simp only [jents, jent_r, jent_i, jent_l, jent_a, jent_0]; rfl
  rw [hls]
  clear hls
  unfold f_Slave_mayAnswer at H
  refine J_aload_nO d_Slave_mayAnswer_0 rfl ?_
  refine J_iload_n d_Slave_mayAnswer_1 rfl ?_
  obtain ⟨a2, ha2, H⟩ := Option.bind_eq_some_iff.mp H
  rw [j_rf ha2]
  have g3 : Γ a2 = .inr 1 := by
    apply Classical.byContradiction
    intro q9
    rw [if_neg q9] at H
    cases H
  rw [if_pos g3] at H
  obtain ⟨q4, hq4, H⟩ := Option.bind_eq_some_iff.mp H
  refine J_callV (kc := 0) (ks := 0) (kc' := 0) (ks' := 0) (a := a2) (ci := 1) (as := [.int p1]) (st := []) (mf_Line_at hw) (mv_Slave_88 hw) d_Slave_mayAnswer_2 ln_Line_at (by decide) (by first | exact Nat.le_of_ble_eq_true rfl | (simp only [List.map_cons, List.map_nil, List.sum_cons, List.sum_nil, va_rf_cat]; exact Nat.le_of_ble_eq_true rfl)) rfl ((hG _).1 _ g3 (by decide)).1 ((hG _).1 _ g3 (by decide)).2 (by unfold pic; rw [g3]; rfl) (jcl_at hw rfl) rfl (p_Line_at hw hG hq4) ?_ (fun E h' n' x' e1 => by cases e1.1)
  intro v9 h9 n9 x9 e9
  obtain ⟨e91, e92, e93⟩ := e9
  cases e91
  subst e92
  subst e93
  clear x
  rename Bool => x
  show J _ _ _ _ (_ :: _) _ _ _ _ _ _
  refine J_astoreO d_Slave_mayAnswer_5 (Nat.le_of_ble_eq_true rfl) ?_
  refine J.ls (ls' := [some (.ref this), some (.ref a2), some (.int p1), some (.int p2), some (va_rf q4.1)]) rfl ?_
  refine J_aload_n d_Slave_mayAnswer_7 rfl ?_
  refine J_aloadO d_Slave_mayAnswer_8 rfl ?_
  refine J_iload_n d_Slave_mayAnswer_10 rfl ?_
  have g5 : Γ this = .inr 8 := by
    apply Classical.byContradiction
    intro q9
    rw [if_neg q9] at H
    cases H
  rw [if_pos g5] at H
  obtain ⟨q6, hq6, H⟩ := Option.bind_eq_some_iff.mp H
  refine J_callV (kc := 0) (ks := 0) (kc' := 0) (ks' := 0) (a := this) (ci := 8) (as := [va_rf q4.1, .int p2]) (st := []) (mf_Slave_isRipe hw) (mv_Slave_130 hw) d_Slave_mayAnswer_11 ln_Slave_isRipe (by decide) (by first | exact Nat.le_of_ble_eq_true rfl | (simp only [List.map_cons, List.map_nil, List.sum_cons, List.sum_nil, va_rf_cat]; exact Nat.le_of_ble_eq_true rfl)) rfl ((hG _).1 _ g5 (by decide)).1 ((hG _).1 _ g5 (by decide)).2 (by unfold pic; rw [g5]; rfl) (jcl_at hw rfl) rfl (p_Slave_isRipe hw hG hq6) ?_ (fun E h' n' x' e1 => by cases e1.1)
  intro v9 h9 n9 x9 e9
  obtain ⟨e91, e92, e93⟩ := e9
  cases e91
  subst e92
  subst e93
  clear x
  rename Bool => x
  show J _ _ _ _ (_ :: _) _ _ _ _ _ _
  refine J_if_eq (tgt := 37) d_Slave_mayAnswer_14 (by decide) ?_ ?_
  · intro c12
    rw [if_pos c12] at H
    refine J.drop [false, false, false, false, false] rfl ?_
    exact p_Slave_mayAnswer_L37 hw hG  H
  · intro c12
    rw [if_neg c12] at H
    refine J_aload_n d_Slave_mayAnswer_17 rfl ?_
    refine J_aloadO d_Slave_mayAnswer_18 rfl ?_
    obtain ⟨a7, ha7, H⟩ := Option.bind_eq_some_iff.mp H
    rw [j_rf ha7]
    have g8 : Γ a7 = .inr 0 := by
      apply Classical.byContradiction
      intro q9
      rw [if_neg q9] at H
      cases H
    rw [if_pos g8] at H
    refine F_getL (ci := 0) (k := 0) hG (cf_Burst hw) (fl_Slave_99 hw) (by decide) (by decide) rfl d_Slave_mayAnswer_20 g8 ?_
    obtain ⟨q9, hq9, H⟩ := Option.bind_eq_some_iff.mp H
    refine J_callS (kc := 0) (ks := 0) (kc' := 0) (ks' := 0) (as := [.long (q6.2.2.1 a7 0)]) (st := [.ref a2]) (mf_Burst_idOf hw) (ms_Slave_105 hw) d_Slave_mayAnswer_23 ln_Burst_idOf (by decide) (by first | exact Nat.le_of_ble_eq_true rfl | (simp only [List.map_cons, List.map_nil, List.sum_cons, List.sum_nil, va_rf_cat]; exact Nat.le_of_ble_eq_true rfl)) rfl (p_Burst_idOf hw hG hq9) ?_ (fun E h' n' x' e1 => by cases e1.1)
    intro v9 h9 n9 x9 e9
    obtain ⟨e91, e92, e93⟩ := e9
    cases e91
    subst e92
    subst e93
    clear x
    rename Bool => x
    show J _ _ _ _ (_ :: _) _ _ _ _ _ _
    obtain ⟨q10, hq10, H⟩ := Option.bind_eq_some_iff.mp H
    refine J_callV (kc := 0) (ks := 0) (kc' := 0) (ks' := 0) (a := a2) (ci := 1) (as := [.int q9.1]) (st := []) (mf_Line_firstWithId hw) (mv_Slave_152 hw) d_Slave_mayAnswer_26 ln_Line_firstWithId (by decide) (by first | exact Nat.le_of_ble_eq_true rfl | (simp only [List.map_cons, List.map_nil, List.sum_cons, List.sum_nil, va_rf_cat]; exact Nat.le_of_ble_eq_true rfl)) rfl ((hG _).1 _ g3 (by decide)).1 ((hG _).1 _ g3 (by decide)).2 (by unfold pic; rw [g3]; rfl) (jcl_at hw rfl) rfl (p_Line_firstWithId hw hG hq10) ?_ (fun E h' n' x' e1 => by cases e1.1)
    intro v9 h9 n9 x9 e9
    obtain ⟨e91, e92, e93⟩ := e9
    cases e91
    subst e92
    subst e93
    clear x
    rename Bool => x
    show J _ _ _ _ (_ :: _) _ _ _ _ _ _
    refine J_iload_n d_Slave_mayAnswer_29 rfl ?_
    refine J_icmp_ne (tgt := 37) d_Slave_mayAnswer_30 (by decide) ?_ ?_
    · intro c11
      rw [if_neg c11] at H
      refine J.drop [false, false, false, false, false] rfl ?_
      exact p_Slave_mayAnswer_L37 hw hG  H
    · intro c11
      rw [if_pos c11] at H
      refine J_iconst (v := 1) d_Slave_mayAnswer_33 (by decide) ?_
      refine J_goto (tgt := 38) d_Slave_mayAnswer_34 (by decide) ?_
      refine J.drop [false, false, false, false, false] rfl ?_
      exact p_Slave_mayAnswer_L38 hw hG  H
theorem ln_Slave_chooseNext : (parseMethodDescriptor y_Slave_chooseNext.desc).map (fun q => q.parameters.length) = some 1 := by decide +kernel
def f_Slave_chooseNext_L60 (Γ : gm_T) (Kc4 : ph_T → Nat → Int32 → Int32 → Int32 → Option (Int32 × ph_T)) (φ : ph_T) (x0 : Nat) (x1 : Int32) (x2 : Int32) (x3 : Int32) : Option (Int32 × ph_T) :=
  Kc4 φ x0 x1 x2 (x3 + (1 : Int32))
set_option maxRecDepth 100000 in
set_option maxHeartbeats 4000000 in
theorem p_Slave_chooseNext_L60 {w : jw_T} (hw : jok w) {Γ : gm_T} {n : Nat} (hG : gd w Γ n) {Kc4 : ph_T → Nat → Int32 → Int32 → Int32 → Option (Int32 × ph_T)} (hKc4 : ∀ {x : Bool} {φ : ph_T} {x0 : Nat} {x1 : Int32} {x2 : Int32} {x3 : Int32} {q : Int32 × ph_T}, Kc4 φ x0 x1 x2 x3 = some q → J w M_Slave_chooseNext 4 [some (.ref x0), some (.int x1), some (.int x2), some (.int x3)] [] (pic Γ φ) n x 0 0 (fq Γ n (.inl (some (.int q.1))) q.2)) {x : Bool} {φ : ph_T} {x0 : Nat} {x1 : Int32} {x2 : Int32} {x3 : Int32} {q : Int32 × ph_T} (H : f_Slave_chooseNext_L60 Γ Kc4 φ x0 x1 x2 x3 = some q) : J w M_Slave_chooseNext 60 [some (.ref x0), some (.int x1), some (.int x2), some (.int x3)] [] (pic Γ φ) n x 0 0 (fq Γ n (.inl (some (.int q.1))) q.2) := by
  unfold f_Slave_chooseNext_L60 at H
  refine J_iinc (v := x3 + 1) d_Slave_chooseNext_60 rfl (by rw [show Int32.ofInt 1 = (1 : Int32) from by decide]) ?_
  refine J.ls (ls' := [some (.ref x0), some (.int x1), some (.int x2), some (.int (x3 + (1 : Int32)))]) rfl ?_
  refine J_goto (tgt := 4) d_Slave_chooseNext_63 (by decide) ?_
  refine J.drop [true, true, true, true] rfl ?_
  exact hKc4 H
def f_Slave_chooseNext_L59 (Γ : gm_T) (Kc4 : ph_T → Nat → Int32 → Int32 → Int32 → Option (Int32 × ph_T)) (φ : ph_T) (x0 : Nat) (x1 : Int32) (x3 : Int32) (y0 : Int32) : Option (Int32 × ph_T) :=
  f_Slave_chooseNext_L60 Γ Kc4 φ x0 x1 y0 x3
set_option maxRecDepth 100000 in
set_option maxHeartbeats 4000000 in
theorem p_Slave_chooseNext_L59 {w : jw_T} (hw : jok w) {Γ : gm_T} {n : Nat} (hG : gd w Γ n) {Kc4 : ph_T → Nat → Int32 → Int32 → Int32 → Option (Int32 × ph_T)} (hKc4 : ∀ {x : Bool} {φ : ph_T} {x0 : Nat} {x1 : Int32} {x2 : Int32} {x3 : Int32} {q : Int32 × ph_T}, Kc4 φ x0 x1 x2 x3 = some q → J w M_Slave_chooseNext 4 [some (.ref x0), some (.int x1), some (.int x2), some (.int x3)] [] (pic Γ φ) n x 0 0 (fq Γ n (.inl (some (.int q.1))) q.2)) {x : Bool} {φ : ph_T} {x0 : Nat} {x1 : Int32} {x3 : Int32} {y0 : Int32} {q : Int32 × ph_T} (H : f_Slave_chooseNext_L59 Γ Kc4 φ x0 x1 x3 y0 = some q) : J w M_Slave_chooseNext 59 [some (.ref x0), some (.int x1), none, some (.int x3)] [.int y0] (pic Γ φ) n x 0 0 (fq Γ n (.inl (some (.int q.1))) q.2) := by
  unfold f_Slave_chooseNext_L59 at H
  refine J_istore_n d_Slave_chooseNext_59 (Nat.le_of_ble_eq_true rfl) ?_
  refine J.ls (ls' := [some (.ref x0), some (.int x1), some (.int y0), some (.int x3)]) rfl ?_
  refine J.drop [true, true, true, true] rfl ?_
  exact p_Slave_chooseNext_L60 hw hG hKc4 H
def f_Slave_chooseNext_L4 (Γ : gm_T)  : Nat → ph_T → Nat → Int32 → Int32 → Int32 → Option (Int32 × ph_T)
  | 0, _, _, _, _, _ => none
  | fu + 1, φ, x0, x1, x2, x3 =>
    @ite _ (Γ x0 = .inr 8) _ (
    Option.bind (φ.2.2 x0 3) fun a2 =>
    @ite _ (Γ a2 = .inr 1) _ (
    if (φ.1 a2 1) ≤ x3 then
      some (x2, φ)
    else
      Option.bind (f_Slave_mayAnswer Γ φ x0 (φ.2.2 x0 3) x3 x1) fun q4 =>
      if q4.1 = 0 then
        f_Slave_chooseNext_L60 Γ (f_Slave_chooseNext_L4 Γ  fu) q4.2 x0 x1 x2 x3
      else
        Option.bind (q4.2.2.2 x0 3) fun a5 =>
        @ite _ (Γ a5 = .inr 1) _ (
        Option.bind (q4.2.2.2 a5 0) fun a7 =>
        Option.bind (gA Γ a7 5) fun N8 =>
        Option.bind (ix x3 N8) fun k9 =>
        Option.bind (q4.2.2.2 a7 k9) fun a10 =>
        @ite _ (Γ a10 = .inr 0) _ (
        if (q4.2.1 a10 4) ≤ (q4.2.1 x0 10) then
          if x2 = (-1 : Int32) then
            f_Slave_chooseNext_L59 Γ (f_Slave_chooseNext_L4 Γ  fu) q4.2 x0 x1 x3 x3
          else
            f_Slave_chooseNext_L59 Γ (f_Slave_chooseNext_L4 Γ  fu) q4.2 x0 x1 x3 x2
        else
          some (x3, q4.2)
        ) none
        ) none
    ) none
    ) none
set_option maxRecDepth 100000 in
set_option maxHeartbeats 4000000 in
theorem p_Slave_chooseNext_L4 {w : jw_T} (hw : jok w) {Γ : gm_T} {n : Nat} (hG : gd w Γ n)  : ∀ (fu : Nat) {x : Bool} {φ : ph_T} {x0 : Nat} {x1 : Int32} {x2 : Int32} {x3 : Int32} {q : Int32 × ph_T}, f_Slave_chooseNext_L4 Γ  fu φ x0 x1 x2 x3 = some q → J w M_Slave_chooseNext 4 [some (.ref x0), some (.int x1), some (.int x2), some (.int x3)] [] (pic Γ φ) n x 0 0 (fq Γ n (.inl (some (.int q.1))) q.2) := by
  intro fu
  induction fu with
  | zero =>
    intro x φ x0 x1 x2 x3 q H
    cases H
  | succ fu ih =>
    intro x φ x0 x1 x2 x3 q H
    unfold f_Slave_chooseNext_L4 at H
    refine J_iload_n d_Slave_chooseNext_4 rfl ?_
    refine J_aload_n d_Slave_chooseNext_5 rfl ?_
    have g1 : Γ x0 = .inr 8 := by
      apply Classical.byContradiction
      intro q9
      rw [if_neg q9] at H
      cases H
    rw [if_pos g1] at H
    refine F_getR (ci := 8) (k := 3) hG (cf_Slave hw) (fl_Slave_24 hw) (by decide) (by decide) rfl d_Slave_chooseNext_6 g1 ?_
    obtain ⟨a2, ha2, H⟩ := Option.bind_eq_some_iff.mp H
    rw [j_rf ha2]
    have g3 : Γ a2 = .inr 1 := by
      apply Classical.byContradiction
      intro q9
      rw [if_neg q9] at H
      cases H
    rw [if_pos g3] at H
    refine F_getI (ci := 1) (k := 1) hG (cf_Line hw) (fl_Slave_54 hw) (by decide) (by decide) rfl d_Slave_chooseNext_9 g3 ?_
    refine J_icmp_ge (tgt := 66) d_Slave_chooseNext_12 (by decide) ?_ ?_
    · intro c15
      rw [if_pos c15] at H
      refine J_iload_n d_Slave_chooseNext_66 rfl ?_
      have H := Option.some.inj H
      subst H
      exact J_iret (st := []) d_Slave_chooseNext_67 rfl rfl ⟨rfl, rfl, rfl⟩
    · intro c15
      rw [if_neg c15] at H
      refine J_aload_n d_Slave_chooseNext_15 rfl ?_
      refine J_aload_n d_Slave_chooseNext_16 rfl ?_
      refine F_getR (ci := 8) (k := 3) hG (cf_Slave hw) (fl_Slave_24 hw) (by decide) (by decide) rfl d_Slave_chooseNext_17 g1 ?_
      refine J_iload_n d_Slave_chooseNext_20 rfl ?_
      refine J_iload_n d_Slave_chooseNext_21 rfl ?_
      obtain ⟨q4, hq4, H⟩ := Option.bind_eq_some_iff.mp H
      refine J_callV (kc := 0) (ks := 0) (kc' := 0) (ks' := 0) (a := x0) (ci := 8) (as := [va_rf (φ.2.2 x0 3), .int x3, .int x1]) (st := []) (mf_Slave_mayAnswer hw) (mv_Slave_141 hw) d_Slave_chooseNext_22 ln_Slave_mayAnswer (by decide) (by first | exact Nat.le_of_ble_eq_true rfl | (simp only [List.map_cons, List.map_nil, List.sum_cons, List.sum_nil, va_rf_cat]; exact Nat.le_of_ble_eq_true rfl)) rfl ((hG _).1 _ g1 (by decide)).1 ((hG _).1 _ g1 (by decide)).2 (by unfold pic; rw [g1]; rfl) (jcl_at hw rfl) rfl (p_Slave_mayAnswer hw hG hq4) ?_ (fun E h' n' x' e1 => by cases e1.1)
      intro v9 h9 n9 x9 e9
      obtain ⟨e91, e92, e93⟩ := e9
      cases e91
      subst e92
      subst e93
      clear x
      rename Bool => x
      show J _ _ _ _ (_ :: _) _ _ _ _ _ _
      refine J_if_eq (tgt := 60) d_Slave_chooseNext_25 (by decide) ?_ ?_
      · intro c14
        rw [if_pos c14] at H
        refine J.drop [true, true, true, true] rfl ?_
        exact p_Slave_chooseNext_L60 hw hG ih H
      · intro c14
        rw [if_neg c14] at H
        refine J_aload_n d_Slave_chooseNext_28 rfl ?_
        refine F_getR (ci := 8) (k := 3) hG (cf_Slave hw) (fl_Slave_24 hw) (by decide) (by decide) rfl d_Slave_chooseNext_29 g1 ?_
        obtain ⟨a5, ha5, H⟩ := Option.bind_eq_some_iff.mp H
        rw [j_rf ha5]
        have g6 : Γ a5 = .inr 1 := by
          apply Classical.byContradiction
          intro q9
          rw [if_neg q9] at H
          cases H
        rw [if_pos g6] at H
        refine F_getR (ci := 1) (k := 0) hG (cf_Line hw) (fl_Slave_145 hw) (by decide) (by decide) rfl d_Slave_chooseNext_32 g6 ?_
        refine J_iload_n d_Slave_chooseNext_35 rfl ?_
        obtain ⟨a7, ha7, H⟩ := Option.bind_eq_some_iff.mp H
        rw [j_rf ha7]
        obtain ⟨N8, hN8, H⟩ := Option.bind_eq_some_iff.mp H
        obtain ⟨k9, hk9, H⟩ := Option.bind_eq_some_iff.mp H
        refine F_aald k9 hw hG (t := 5) rfl (by decide) d_Slave_chooseNext_36 (gA_some hN8) (ix_some hk9) ?_
        obtain ⟨a10, ha10, H⟩ := Option.bind_eq_some_iff.mp H
        rw [j_rf ha10]
        have g11 : Γ a10 = .inr 0 := by
          apply Classical.byContradiction
          intro q9
          rw [if_neg q9] at H
          cases H
        rw [if_pos g11] at H
        refine F_getI (ci := 0) (k := 4) hG (cf_Burst hw) (fl_Slave_149 hw) (by decide) (by decide) rfl d_Slave_chooseNext_37 g11 ?_
        refine J_aload_n d_Slave_chooseNext_40 rfl ?_
        refine F_getI (ci := 8) (k := 10) hG (cf_Slave hw) (fl_Slave_40 hw) (by decide) (by decide) rfl d_Slave_chooseNext_41 g1 ?_
        refine J_icmp_le (tgt := 49) d_Slave_chooseNext_44 (by decide) ?_ ?_
        · intro c13
          rw [if_pos c13] at H
          refine J_iload_n d_Slave_chooseNext_49 rfl ?_
          refine J_iconst (v := -1) d_Slave_chooseNext_50 (by decide) ?_
          refine J_icmp_ne (tgt := 58) d_Slave_chooseNext_51 (by decide) ?_ ?_
          · intro c12
            rw [if_neg c12] at H
            refine J_iload_n d_Slave_chooseNext_58 rfl ?_
            refine J.drop [true, true, false, true] rfl ?_
            exact p_Slave_chooseNext_L59 hw hG ih H
          · intro c12
            rw [if_pos c12] at H
            refine J_iload_n d_Slave_chooseNext_54 rfl ?_
            refine J_goto (tgt := 59) d_Slave_chooseNext_55 (by decide) ?_
            refine J.drop [true, true, false, true] rfl ?_
            exact p_Slave_chooseNext_L59 hw hG ih H
        · intro c13
          rw [if_neg c13] at H
          refine J_iload_n d_Slave_chooseNext_47 rfl ?_
          have H := Option.some.inj H
          subst H
          exact J_iret (st := []) d_Slave_chooseNext_48 rfl rfl ⟨rfl, rfl, rfl⟩
def f_Slave_chooseNext (Γ : gm_T) (φ : ph_T) (this : Nat) (p0 : Int32) : Option (Int32 × ph_T) :=
  f_Slave_chooseNext_L4 Γ  jF φ this p0 (-1 : Int32) (0 : Int32)
set_option maxRecDepth 100000 in
set_option maxHeartbeats 4000000 in
theorem p_Slave_chooseNext {w : jw_T} (hw : jok w) {Γ : gm_T} {n : Nat} (hG : gd w Γ n) {x : Bool} {φ : ph_T} {this : Nat} {p0 : Int32} {q : Int32 × ph_T} (H : f_Slave_chooseNext Γ φ this p0 = some q) : jc w M_Slave_chooseNext [.ref this, .int p0] (pic Γ φ) n x 0 0 (fq Γ n (.inl (some (.int q.1))) q.2) := by
  refine jc.of (by simp only [jent_r, jent_i, jent_l, jent_a, jent_0]; exact Nat.le_of_ble_eq_true rfl) ?_
  have hls : jents [.ref this, .int p0] (jm_nL M_Slave_chooseNext) = [some (.ref this), some (.int p0), none, none] := by simp only [jents, jent_r, jent_i, jent_l, jent_a, jent_0]; rfl
  rw [hls]
  clear hls
  unfold f_Slave_chooseNext at H
  refine J_iconst (v := -1) d_Slave_chooseNext_0 (by decide) ?_
  refine J_istore_n d_Slave_chooseNext_1 (Nat.le_of_ble_eq_true rfl) ?_
  refine J.ls (ls' := [some (.ref this), some (.int p0), some (.int (-1 : Int32)), none]) rfl ?_
  refine J_iconst (v := 0) d_Slave_chooseNext_2 (by decide) ?_
  refine J_istore_n d_Slave_chooseNext_3 (Nat.le_of_ble_eq_true rfl) ?_
  refine J.ls (ls' := [some (.ref this), some (.int p0), some (.int (-1 : Int32)), some (.int (0 : Int32))]) rfl ?_
  refine J.drop [true, true, true, true] rfl ?_
  exact p_Slave_chooseNext_L4 hw hG  _ H
