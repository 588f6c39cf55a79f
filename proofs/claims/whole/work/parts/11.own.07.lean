theorem ln_Switch_refuseRead : (parseMethodDescriptor y_Switch_refuseRead.desc).map (fun q => q.parameters.length) = some 0 := by decide +kernel
def f_Switch_refuseRead_L98 (Γ : gm_T)  (φ : ph_T) : Option (Unit × ph_T) :=
  some ((), φ)
set_option maxRecDepth 100000 in
set_option maxHeartbeats 4000000 in
theorem p_Switch_refuseRead_L98 {w : jw_T} (hw : jok w) {Γ : gm_T} {n : Nat} (hG : gd w Γ n)  {x : Bool} {φ : ph_T} {q : Unit × ph_T} (H : f_Switch_refuseRead_L98 Γ  φ  = some q) : J w M_Switch_refuseRead 98 [none, none, none, none, none, none] [] (pic Γ φ) n x 0 0 (fq Γ n (.inl none) q.2) := by
  unfold f_Switch_refuseRead_L98 at H
  have H := Option.some.inj H
  subst H
  exact J_vret (st := []) d_Switch_refuseRead_98 rfl ⟨rfl, rfl, rfl⟩
def f_Switch_refuseRead_L66 (Γ : gm_T)  (φ : ph_T) (x0 : Nat) (x1 : Option Nat) (x2 : Option Nat) (x3 : Int64) (y0 : Int32) : Option (Unit × ph_T) :=
  Option.bind (f_Burst_idOf Γ φ x3) fun q1 =>
  Option.bind (f_Bus_answerRest Γ q1.2 q1.1 (3 : Int32) y0) fun q2 =>
  Option.bind x2 fun a3 =>
  @ite _ (Γ a3 = .inr 3) _ (
  Option.bind (f_Row_put Γ q2.2 a3 (0 : Int64) q2.1 (0 : Int32)) fun q5 =>
  if y0 = 0 then
    f_Switch_refuseRead_L98 Γ  q5.2 
  else
    Option.bind x1 fun a6 =>
    @ite _ (Γ a6 = .inr 3) _ (
    Option.bind (f_Row_drop Γ q5.2 a6) fun q8 =>
    @ite _ (Γ x0 = .inr 10) _ (
    f_Switch_refuseRead_L98 Γ  (uI q8.2 x0 15 (0 : Int32)) 
    ) none
    ) none
  ) none
set_option maxRecDepth 100000 in
set_option maxHeartbeats 4000000 in
theorem p_Switch_refuseRead_L66 {w : jw_T} (hw : jok w) {Γ : gm_T} {n : Nat} (hG : gd w Γ n)  {x : Bool} {φ : ph_T} {x0 : Nat} {x1 : Option Nat} {x2 : Option Nat} {x3 : Int64} {y0 : Int32} {q : Unit × ph_T} (H : f_Switch_refuseRead_L66 Γ  φ x0 x1 x2 x3 y0 = some q) : J w M_Switch_refuseRead 66 [some (.ref x0), some (va_rf x1), some (va_rf x2), some (.long x3), none, none] [.int y0] (pic Γ φ) n x 0 0 (fq Γ n (.inl none) q.2) := by
  unfold f_Switch_refuseRead_L66 at H
  refine J_istore d_Switch_refuseRead_66 (Nat.le_of_ble_eq_true rfl) ?_
  refine J.ls (ls' := [some (.ref x0), some (va_rf x1), some (va_rf x2), some (.long x3), none, some (.int y0)]) rfl ?_
  refine J_aload_nO d_Switch_refuseRead_68 rfl ?_
  refine J_lconst (v := 0) d_Switch_refuseRead_69 (by decide) ?_
  refine J_lload_n d_Switch_refuseRead_70 rfl ?_
  obtain ⟨q1, hq1, H⟩ := Option.bind_eq_some_iff.mp H
  refine J_callS (kc := 0) (ks := 0) (kc' := 0) (ks' := 0) (as := [.long x3]) (st := [.long (0 : Int64), va_rf x2]) (mf_Burst_idOf hw) (ms_Switch_190 hw) d_Switch_refuseRead_71 ln_Burst_idOf (by decide) (by first | exact Nat.le_of_ble_eq_true rfl | (simp only [List.map_cons, List.map_nil, List.sum_cons, List.sum_nil, va_rf_cat]; exact Nat.le_of_ble_eq_true rfl)) rfl (p_Burst_idOf hw hG hq1) ?_ (fun E h' n' x' e1 => by cases e1.1)
  intro v9 h9 n9 x9 e9
  obtain ⟨e91, e92, e93⟩ := e9
  cases e91
  subst e92
  subst e93
  clear x
  rename Bool => x
  show J _ _ _ _ (_ :: _) _ _ _ _ _ _
  refine J_iconst (v := 3) d_Switch_refuseRead_74 (by decide) ?_
  refine J_iload d_Switch_refuseRead_75 rfl ?_
  obtain ⟨q2, hq2, H⟩ := Option.bind_eq_some_iff.mp H
  refine J_callS (kc := 0) (ks := 0) (kc' := 0) (ks' := 0) (as := [.int q1.1, .int (3 : Int32), .int y0]) (st := [.long (0 : Int64), va_rf x2]) (mf_Bus_answerRest hw) (ms_Switch_240 hw) d_Switch_refuseRead_77 ln_Bus_answerRest (by decide) (by first | exact Nat.le_of_ble_eq_true rfl | (simp only [List.map_cons, List.map_nil, List.sum_cons, List.sum_nil, va_rf_cat]; exact Nat.le_of_ble_eq_true rfl)) rfl (p_Bus_answerRest hw hG hq2) ?_ (fun E h' n' x' e1 => by cases e1.1)
  intro v9 h9 n9 x9 e9
  obtain ⟨e91, e92, e93⟩ := e9
  cases e91
  subst e92
  subst e93
  clear x
  rename Bool => x
  show J _ _ _ _ (_ :: _) _ _ _ _ _ _
  refine J_iconst (v := 0) d_Switch_refuseRead_80 (by decide) ?_
  obtain ⟨a3, ha3, H⟩ := Option.bind_eq_some_iff.mp H
  rw [j_rf ha3]
  have g4 : Γ a3 = .inr 3 := by
    apply Classical.byContradiction
    intro q9
    rw [if_neg q9] at H
    cases H
  rw [if_pos g4] at H
  obtain ⟨q5, hq5, H⟩ := Option.bind_eq_some_iff.mp H
  refine J_callV (kc := 0) (ks := 0) (kc' := 0) (ks' := 0) (a := a3) (ci := 3) (as := [.long (0 : Int64), .int q2.1, .int (0 : Int32)]) (st := []) (mf_Row_put hw) (mv_Switch_157 hw) d_Switch_refuseRead_81 ln_Row_put (by decide) (by first | exact Nat.le_of_ble_eq_true rfl | (simp only [List.map_cons, List.map_nil, List.sum_cons, List.sum_nil, va_rf_cat]; exact Nat.le_of_ble_eq_true rfl)) rfl ((hG _).1 _ g4 (by decide)).1 ((hG _).1 _ g4 (by decide)).2 (by unfold pic; rw [g4]; rfl) (jcl_at hw rfl) rfl (p_Row_put hw hG hq5) ?_ (fun E h' n' x' e1 => by cases e1.1)
  intro v9 h9 n9 x9 e9
  obtain ⟨e91, e92, e93⟩ := e9
  cases e91
  subst e92
  subst e93
  clear x
  rename Bool => x
  show J _ _ _ _ [] _ _ _ _ _ _
  refine J_iload d_Switch_refuseRead_84 rfl ?_
  refine J_if_eq (tgt := 98) d_Switch_refuseRead_86 (by decide) ?_ ?_
  · intro c10
    rw [if_pos c10] at H
    refine J.drop [false, false, false, false, false, false] rfl ?_
    exact p_Switch_refuseRead_L98 hw hG  H
  · intro c10
    rw [if_neg c10] at H
    refine J_aload_nO d_Switch_refuseRead_89 rfl ?_
    obtain ⟨a6, ha6, H⟩ := Option.bind_eq_some_iff.mp H
    rw [j_rf ha6]
    have g7 : Γ a6 = .inr 3 := by
      apply Classical.byContradiction
      intro q9
      rw [if_neg q9] at H
      cases H
    rw [if_pos g7] at H
    obtain ⟨q8, hq8, H⟩ := Option.bind_eq_some_iff.mp H
    refine J_callV (kc := 0) (ks := 0) (kc' := 0) (ks' := 0) (a := a6) (ci := 3) (as := []) (st := []) (mf_Row_drop hw) (mv_Switch_161 hw) d_Switch_refuseRead_90 ln_Row_drop (by decide) (by first | exact Nat.le_of_ble_eq_true rfl | (simp only [List.map_cons, List.map_nil, List.sum_cons, List.sum_nil, va_rf_cat]; exact Nat.le_of_ble_eq_true rfl)) rfl ((hG _).1 _ g7 (by decide)).1 ((hG _).1 _ g7 (by decide)).2 (by unfold pic; rw [g7]; rfl) (jcl_at hw rfl) rfl (p_Row_drop hw hG hq8) ?_ (fun E h' n' x' e1 => by cases e1.1)
    intro v9 h9 n9 x9 e9
    obtain ⟨e91, e92, e93⟩ := e9
    cases e91
    subst e92
    subst e93
    clear x
    rename Bool => x
    show J _ _ _ _ [] _ _ _ _ _ _
    refine J_aload_n d_Switch_refuseRead_93 rfl ?_
    refine J_iconst (v := 0) d_Switch_refuseRead_94 (by decide) ?_
    have g9 : Γ x0 = .inr 10 := by
      apply Classical.byContradiction
      intro q9
      rw [if_neg q9] at H
      cases H
    rw [if_pos g9] at H
    refine F_putI (ci := 10) (k := 15) hG (cf_Switch hw) (fl_Switch_87 hw) (by decide) (by decide) rfl d_Switch_refuseRead_95 rfl rfl rfl g9 ?_
    refine J.drop [false, false, false, false, false, false] rfl ?_
    exact p_Switch_refuseRead_L98 hw hG  H
def f_Switch_refuseRead_L34 (Γ : gm_T)  (φ : ph_T) : Option (Unit × ph_T) :=
  some ((), φ)
set_option maxRecDepth 100000 in
set_option maxHeartbeats 4000000 in
theorem p_Switch_refuseRead_L34 {w : jw_T} (hw : jok w) {Γ : gm_T} {n : Nat} (hG : gd w Γ n)  {x : Bool} {φ : ph_T} {q : Unit × ph_T} (H : f_Switch_refuseRead_L34 Γ  φ  = some q) : J w M_Switch_refuseRead 34 [none, none, none, none, none, none] [] (pic Γ φ) n x 0 0 (fq Γ n (.inl none) q.2) := by
  unfold f_Switch_refuseRead_L34 at H
  have H := Option.some.inj H
  subst H
  exact J_vret (st := []) d_Switch_refuseRead_34 rfl ⟨rfl, rfl, rfl⟩
def f_Switch_refuseRead (Γ : gm_T) (φ : ph_T) (this : Nat) : Option (Unit × ph_T) :=
  @ite _ (Γ this = .inr 10) _ (
  Option.bind (f_Switch_ofTarget Γ φ this (φ.1 this 1) (3 : Int32)) fun q12 =>
  Option.bind (f_Switch_ofTarget Γ q12.2 this (q12.2.1 this 1) (4 : Int32)) fun q13 =>
  Option.bind q12.1 fun a14 =>
  @ite _ (Γ a14 = .inr 3) _ (
  Option.bind (f_Row_holds Γ q13.2 a14) fun q16 =>
  if q16.1 = 0 then
    f_Switch_refuseRead_L34 Γ  q16.2 
  else
    Option.bind q13.1 fun a17 =>
    @ite _ (Γ a17 = .inr 3) _ (
    Option.bind (f_Row_hasRoom Γ q16.2 a17) fun q19 =>
    if q19.1 = 0 then
      f_Switch_refuseRead_L34 Γ  q19.2 
    else
      Option.bind (f_Row_firstContent Γ q19.2 a14) fun q20 =>
      Option.bind (f_Burst_lengthOf Γ (uI q20.2 this 15 ((q20.2.1 this 15) + (1 : Int32))) q20.1) fun q21 =>
      if ((uI q20.2 this 15 ((q20.2.1 this 15) + (1 : Int32))).1 this 15) < q21.1 then
        f_Switch_refuseRead_L66 Γ  q21.2 this (some a14) (some a17) q20.1 (0 : Int32)
      else
        f_Switch_refuseRead_L66 Γ  q21.2 this (some a14) (some a17) q20.1 (1 : Int32)
    ) none
  ) none
  ) none
set_option maxRecDepth 100000 in
set_option maxHeartbeats 4000000 in
theorem p_Switch_refuseRead {w : jw_T} (hw : jok w) {Γ : gm_T} {n : Nat} (hG : gd w Γ n) {x : Bool} {φ : ph_T} {this : Nat} {q : Unit × ph_T} (H : f_Switch_refuseRead Γ φ this = some q) : jc w M_Switch_refuseRead [.ref this] (pic Γ φ) n x 0 0 (fq Γ n (.inl none) q.2) := by
  refine jc.of (by simp only [jent_r, jent_i, jent_l, jent_a, jent_0]; exact Nat.le_of_ble_eq_true rfl) ?_
  have hls : jents [.ref this] (jm_nL M_Switch_refuseRead) = [some (.ref this), none, none, none, none, none] := by simp only [jents, jent_r, jent_i, jent_l, jent_a, jent_0]; rfl
  rw [hls]
  clear hls
  unfold f_Switch_refuseRead at H
  refine J_aload_n d_Switch_refuseRead_0 rfl ?_
  refine J_aload_n d_Switch_refuseRead_1 rfl ?_
  have g11 : Γ this = .inr 10 := by
    apply Classical.byContradiction
    intro q9
    rw [if_neg q9] at H
    cases H
  rw [if_pos g11] at H
  refine F_getI (ci := 10) (k := 1) hG (cf_Switch hw) (fl_Switch_19 hw) (by decide) (by decide) rfl d_Switch_refuseRead_2 g11 ?_
  refine J_iconst (v := 3) d_Switch_refuseRead_5 (by decide) ?_
  obtain ⟨q12, hq12, H⟩ := Option.bind_eq_some_iff.mp H
  refine J_callV (kc := 0) (ks := 0) (kc' := 0) (ks' := 0) (a := this) (ci := 10) (as := [.int (φ.1 this 1), .int (3 : Int32)]) (st := []) (mf_Switch_ofTarget hw) (mv_Switch_119 hw) d_Switch_refuseRead_6 ln_Switch_ofTarget (by decide) (by first | exact Nat.le_of_ble_eq_true rfl | (simp only [List.map_cons, List.map_nil, List.sum_cons, List.sum_nil, va_rf_cat]; exact Nat.le_of_ble_eq_true rfl)) rfl ((hG _).1 _ g11 (by decide)).1 ((hG _).1 _ g11 (by decide)).2 (by unfold pic; rw [g11]; rfl) (jcl_at hw rfl) rfl (p_Switch_ofTarget hw hG hq12) ?_ (fun E h' n' x' e1 => by cases e1.1)
  intro v9 h9 n9 x9 e9
  obtain ⟨e91, e92, e93⟩ := e9
  cases e91
  subst e92
  subst e93
  clear x
  rename Bool => x
  show J _ _ _ _ (_ :: _) _ _ _ _ _ _
  refine J_astore_nO d_Switch_refuseRead_9 (Nat.le_of_ble_eq_true rfl) ?_
  refine J.ls (ls' := [some (.ref this), some (va_rf q12.1), none, none, none, none]) rfl ?_
  refine J_aload_n d_Switch_refuseRead_10 rfl ?_
  refine J_aload_n d_Switch_refuseRead_11 rfl ?_
  refine F_getI (ci := 10) (k := 1) hG (cf_Switch hw) (fl_Switch_19 hw) (by decide) (by decide) rfl d_Switch_refuseRead_12 g11 ?_
  refine J_iconst (v := 4) d_Switch_refuseRead_15 (by decide) ?_
  obtain ⟨q13, hq13, H⟩ := Option.bind_eq_some_iff.mp H
  refine J_callV (kc := 0) (ks := 0) (kc' := 0) (ks' := 0) (a := this) (ci := 10) (as := [.int (q12.2.1 this 1), .int (4 : Int32)]) (st := []) (mf_Switch_ofTarget hw) (mv_Switch_119 hw) d_Switch_refuseRead_16 ln_Switch_ofTarget (by decide) (by first | exact Nat.le_of_ble_eq_true rfl | (simp only [List.map_cons, List.map_nil, List.sum_cons, List.sum_nil, va_rf_cat]; exact Nat.le_of_ble_eq_true rfl)) rfl ((hG _).1 _ g11 (by decide)).1 ((hG _).1 _ g11 (by decide)).2 (by unfold pic; rw [g11]; rfl) (jcl_at hw rfl) rfl (p_Switch_ofTarget hw hG hq13) ?_ (fun E h' n' x' e1 => by cases e1.1)
  intro v9 h9 n9 x9 e9
  obtain ⟨e91, e92, e93⟩ := e9
  cases e91
  subst e92
  subst e93
  clear x
  rename Bool => x
  show J _ _ _ _ (_ :: _) _ _ _ _ _ _
  refine J_astore_nO d_Switch_refuseRead_19 (Nat.le_of_ble_eq_true rfl) ?_
  refine J.ls (ls' := [some (.ref this), some (va_rf q12.1), some (va_rf q13.1), none, none, none]) (jst1_o (i := 1) (r := q12.1) rfl) ?_
  refine J_aload_nO d_Switch_refuseRead_20 rfl ?_
  obtain ⟨a14, ha14, H⟩ := Option.bind_eq_some_iff.mp H
  rw [j_rf ha14]
  have g15 : Γ a14 = .inr 3 := by
    apply Classical.byContradiction
    intro q9
    rw [if_neg q9] at H
    cases H
  rw [if_pos g15] at H
  obtain ⟨q16, hq16, H⟩ := Option.bind_eq_some_iff.mp H
  refine J_callV (kc := 0) (ks := 0) (kc' := 0) (ks' := 0) (a := a14) (ci := 3) (as := []) (st := []) (mf_Row_holds hw) (mv_Switch_131 hw) d_Switch_refuseRead_21 ln_Row_holds (by decide) (by first | exact Nat.le_of_ble_eq_true rfl | (simp only [List.map_cons, List.map_nil, List.sum_cons, List.sum_nil, va_rf_cat]; exact Nat.le_of_ble_eq_true rfl)) rfl ((hG _).1 _ g15 (by decide)).1 ((hG _).1 _ g15 (by decide)).2 (by unfold pic; rw [g15]; rfl) (jcl_at hw rfl) rfl (p_Row_holds hw hG hq16) ?_ (fun E h' n' x' e1 => by cases e1.1)
  intro v9 h9 n9 x9 e9
  obtain ⟨e91, e92, e93⟩ := e9
  cases e91
  subst e92
  subst e93
  clear x
  rename Bool => x
  show J _ _ _ _ (_ :: _) _ _ _ _ _ _
  refine J_if_eq (tgt := 34) d_Switch_refuseRead_24 (by decide) ?_ ?_
  · intro c24
    rw [if_pos c24] at H
    refine J.drop [false, false, false, false, false, false] rfl ?_
    exact p_Switch_refuseRead_L34 hw hG  H
  · intro c24
    rw [if_neg c24] at H
    refine J_aload_nO d_Switch_refuseRead_27 rfl ?_
    obtain ⟨a17, ha17, H⟩ := Option.bind_eq_some_iff.mp H
    rw [j_rf ha17]
    have g18 : Γ a17 = .inr 3 := by
      apply Classical.byContradiction
      intro q9
      rw [if_neg q9] at H
      cases H
    rw [if_pos g18] at H
    obtain ⟨q19, hq19, H⟩ := Option.bind_eq_some_iff.mp H
    refine J_callV (kc := 0) (ks := 0) (kc' := 0) (ks' := 0) (a := a17) (ci := 3) (as := []) (st := []) (mf_Row_hasRoom hw) (mv_Switch_127 hw) d_Switch_refuseRead_28 ln_Row_hasRoom (by decide) (by first | exact Nat.le_of_ble_eq_true rfl | (simp only [List.map_cons, List.map_nil, List.sum_cons, List.sum_nil, va_rf_cat]; exact Nat.le_of_ble_eq_true rfl)) rfl ((hG _).1 _ g18 (by decide)).1 ((hG _).1 _ g18 (by decide)).2 (by unfold pic; rw [g18]; rfl) (jcl_at hw rfl) rfl (p_Row_hasRoom hw hG hq19) ?_ (fun E h' n' x' e1 => by cases e1.1)
    intro v9 h9 n9 x9 e9
    obtain ⟨e91, e92, e93⟩ := e9
    cases e91
    subst e92
    subst e93
    clear x
    rename Bool => x
    show J _ _ _ _ (_ :: _) _ _ _ _ _ _
    refine J_if_ne (tgt := 35) d_Switch_refuseRead_31 (by decide) ?_ ?_
    · intro c23
      rw [if_neg c23] at H
      refine J_aload_n d_Switch_refuseRead_35 rfl ?_
      obtain ⟨q20, hq20, H⟩ := Option.bind_eq_some_iff.mp H
      refine J_callV (kc := 0) (ks := 0) (kc' := 0) (ks' := 0) (a := a14) (ci := 3) (as := []) (st := []) (mf_Row_firstContent hw) (mv_Switch_134 hw) d_Switch_refuseRead_36 ln_Row_firstContent (by decide) (by first | exact Nat.le_of_ble_eq_true rfl | (simp only [List.map_cons, List.map_nil, List.sum_cons, List.sum_nil, va_rf_cat]; exact Nat.le_of_ble_eq_true rfl)) rfl ((hG _).1 _ g15 (by decide)).1 ((hG _).1 _ g15 (by decide)).2 (by unfold pic; rw [g15]; rfl) (jcl_at hw rfl) rfl (p_Row_firstContent hw hG hq20) ?_ (fun E h' n' x' e1 => by cases e1.1)
      intro v9 h9 n9 x9 e9
      obtain ⟨e91, e92, e93⟩ := e9
      cases e91
      subst e92
      subst e93
      clear x
      rename Bool => x
      show J _ _ _ _ (_ :: _) _ _ _ _ _ _
      refine J_lstore_n d_Switch_refuseRead_39 (Nat.le_of_ble_eq_true rfl) ?_
      refine J.ls (ls' := [some (.ref this), some (.ref a14), some (.ref a17), some (.long q20.1), none, none]) rfl ?_
      refine J_aload_n d_Switch_refuseRead_40 rfl ?_
      refine J_dup d_Switch_refuseRead_41 rfl ?_
      refine F_getI (ci := 10) (k := 15) hG (cf_Switch hw) (fl_Switch_87 hw) (by decide) (by decide) rfl d_Switch_refuseRead_42 g11 ?_
      refine J_iconst (v := 1) d_Switch_refuseRead_45 (by decide) ?_
      refine J_iadd d_Switch_refuseRead_46 ?_
      refine F_putI (ci := 10) (k := 15) hG (cf_Switch hw) (fl_Switch_87 hw) (by decide) (by decide) rfl d_Switch_refuseRead_47 rfl rfl rfl g11 ?_
      refine J_aload_n d_Switch_refuseRead_50 rfl ?_
      refine F_getI (ci := 10) (k := 15) hG (cf_Switch hw) (fl_Switch_87 hw) (by decide) (by decide) rfl d_Switch_refuseRead_51 g11 ?_
      refine J_lload_n d_Switch_refuseRead_54 rfl ?_
      obtain ⟨q21, hq21, H⟩ := Option.bind_eq_some_iff.mp H
      refine J_callS (kc := 0) (ks := 0) (kc' := 0) (ks' := 0) (as := [.long q20.1]) (st := [.int ((uI q20.2 this 15 ((q20.2.1 this 15) + (1 : Int32))).1 this 15)]) (mf_Burst_lengthOf hw) (ms_Switch_187 hw) d_Switch_refuseRead_55 ln_Burst_lengthOf (by decide) (by first | exact Nat.le_of_ble_eq_true rfl | (simp only [List.map_cons, List.map_nil, List.sum_cons, List.sum_nil, va_rf_cat]; exact Nat.le_of_ble_eq_true rfl)) rfl (p_Burst_lengthOf hw hG hq21) ?_ (fun E h' n' x' e1 => by cases e1.1)
      intro v9 h9 n9 x9 e9
      obtain ⟨e91, e92, e93⟩ := e9
      cases e91
      subst e92
      subst e93
      clear x
      rename Bool => x
      show J _ _ _ _ (_ :: _) _ _ _ _ _ _
      refine J_icmp_lt (tgt := 65) d_Switch_refuseRead_58 (by decide) ?_ ?_
      · intro c22
        rw [if_pos c22] at H
        refine J_iconst (v := 0) d_Switch_refuseRead_65 (by decide) ?_
        refine J.drop [true, true, true, true, false, false] rfl ?_
        exact p_Switch_refuseRead_L66 hw hG  H
      · intro c22
        rw [if_neg c22] at H
        refine J_iconst (v := 1) d_Switch_refuseRead_61 (by decide) ?_
        refine J_goto (tgt := 66) d_Switch_refuseRead_62 (by decide) ?_
        refine J.drop [true, true, true, true, false, false] rfl ?_
        exact p_Switch_refuseRead_L66 hw hG  H
    · intro c23
      rw [if_pos c23] at H
      refine J.drop [false, false, false, false, false, false] rfl ?_
      exact p_Switch_refuseRead_L34 hw hG  H
theorem ln_Switch_gives : (parseMethodDescriptor y_Switch_gives.desc).map (fun q => q.parameters.length) = some 3 := by decide +kernel
def f_Switch_gives_L36 (Γ : gm_T)  (φ : ph_T) (y0 : Int32) : Option (Int32 × ph_T) :=
  @ite _ (y0 = 0 ∨ y0 = 1) _ (
  some (y0, φ)
  ) none
set_option maxRecDepth 100000 in
set_option maxHeartbeats 4000000 in
theorem p_Switch_gives_L36 {w : jw_T} (hw : jok w) {Γ : gm_T} {n : Nat} (hG : gd w Γ n)  {x : Bool} {φ : ph_T} {y0 : Int32} {q : Int32 × ph_T} (H : f_Switch_gives_L36 Γ  φ y0 = some q) : J w M_Switch_gives 36 [none, none, none, none, none] [.int y0] (pic Γ φ) n x 0 0 (fq Γ n (.inl (some (.int q.1))) q.2) := by
  unfold f_Switch_gives_L36 at H
  have z2 : y0 = 0 ∨ y0 = 1 := by
    apply Classical.byContradiction
    intro q9
    rw [if_neg q9] at H
    cases H
  rw [if_pos z2] at H
  have H := Option.some.inj H
  subst H
  exact J_iret (st := []) d_Switch_gives_36 rfl (narrow_z z2).1 ⟨rfl, rfl, rfl⟩
def f_Switch_gives_L35 (Γ : gm_T)  (φ : ph_T) : Option (Int32 × ph_T) :=
  f_Switch_gives_L36 Γ  φ (0 : Int32)
set_option maxRecDepth 100000 in
set_option maxHeartbeats 4000000 in
theorem p_Switch_gives_L35 {w : jw_T} (hw : jok w) {Γ : gm_T} {n : Nat} (hG : gd w Γ n)  {x : Bool} {φ : ph_T} {q : Int32 × ph_T} (H : f_Switch_gives_L35 Γ  φ  = some q) : J w M_Switch_gives 35 [none, none, none, none, none] [] (pic Γ φ) n x 0 0 (fq Γ n (.inl (some (.int q.1))) q.2) := by
  unfold f_Switch_gives_L35 at H
  refine J_iconst (v := 0) d_Switch_gives_35 (by decide) ?_
  refine J.drop [false, false, false, false, false] rfl ?_
  exact p_Switch_gives_L36 hw hG  H
def f_Switch_gives (Γ : gm_T) (φ : ph_T) (this : Nat) (p0 : Int32) (p1 : Int32) (p2 : Int32) : Option (Int32 × ph_T) :=
  @ite _ (Γ this = .inr 10) _ (
  Option.bind (f_Switch_ofTarget Γ φ this p0 p2) fun q4 =>
  Option.bind q4.1 fun a5 =>
  @ite _ (Γ a5 = .inr 3) _ (
  Option.bind (f_Row_holds Γ q4.2 a5) fun q7 =>
  if q7.1 = 0 then
    f_Switch_gives_L35 Γ  q7.2 
  else
    Option.bind (f_Row_firstRest Γ q7.2 a5) fun q8 =>
    Option.bind (f_Bus_restId Γ q8.2 q8.1) fun q9 =>
    @ite _ ((16 : Int32) = 0) _ none (
    if (q9.1 / (16 : Int32)) = p1 then
      f_Switch_gives_L36 Γ  q9.2 (1 : Int32)
    else
      f_Switch_gives_L35 Γ  q9.2 
    )
  ) none
  ) none
set_option maxRecDepth 100000 in
set_option maxHeartbeats 4000000 in
theorem p_Switch_gives {w : jw_T} (hw : jok w) {Γ : gm_T} {n : Nat} (hG : gd w Γ n) {x : Bool} {φ : ph_T} {this : Nat} {p0 : Int32} {p1 : Int32} {p2 : Int32} {q : Int32 × ph_T} (H : f_Switch_gives Γ φ this p0 p1 p2 = some q) : jc w M_Switch_gives [.ref this, .int p0, .int p1, .int p2] (pic Γ φ) n x 0 0 (fq Γ n (.inl (some (.int q.1))) q.2) := by
  refine jc.of (by simp only [jent_r, jent_i, jent_l, jent_a, jent_0]; exact Nat.le_of_ble_eq_true rfl) ?_
  have hls : jents [.ref this, .int p0, .int p1, .int p2] (jm_nL M_Switch_gives) = [some (.ref this), some (.int p0), some (.int p1), some (.int p2), none] := by simp only [jents, jent_r, jent_i, jent_l, jent_a, jent_0]; rfl
  rw [hls]
  clear hls
  unfold f_Switch_gives at H
  refine J_aload_n d_Switch_gives_0 rfl ?_
  refine J_iload_n d_Switch_gives_1 rfl ?_
  refine J_iload_n d_Switch_gives_2 rfl ?_
  have g3 : Γ this = .inr 10 := by
    apply Classical.byContradiction
    intro q9
    rw [if_neg q9] at H
    cases H
  rw [if_pos g3] at H
  obtain ⟨q4, hq4, H⟩ := Option.bind_eq_some_iff.mp H
  refine J_callV (kc := 0) (ks := 0) (kc' := 0) (ks' := 0) (a := this) (ci := 10) (as := [.int p0, .int p2]) (st := []) (mf_Switch_ofTarget hw) (mv_Switch_119 hw) d_Switch_gives_3 ln_Switch_ofTarget (by decide) (by first | exact Nat.le_of_ble_eq_true rfl | (simp only [List.map_cons, List.map_nil, List.sum_cons, List.sum_nil, va_rf_cat]; exact Nat.le_of_ble_eq_true rfl)) rfl ((hG _).1 _ g3 (by decide)).1 ((hG _).1 _ g3 (by decide)).2 (by unfold pic; rw [g3]; rfl) (jcl_at hw rfl) rfl (p_Switch_ofTarget hw hG hq4) ?_ (fun E h' n' x' e1 => by cases e1.1)
  intro v9 h9 n9 x9 e9
  obtain ⟨e91, e92, e93⟩ := e9
  cases e91
  subst e92
  subst e93
  clear x
  rename Bool => x
  show J _ _ _ _ (_ :: _) _ _ _ _ _ _
  refine J_astoreO d_Switch_gives_6 (Nat.le_of_ble_eq_true rfl) ?_
  refine J.ls (ls' := [some (.ref this), some (.int p0), some (.int p1), some (.int p2), some (va_rf q4.1)]) rfl ?_
  refine J_aloadO d_Switch_gives_8 rfl ?_
  obtain ⟨a5, ha5, H⟩ := Option.bind_eq_some_iff.mp H
  rw [j_rf ha5]
  have g6 : Γ a5 = .inr 3 := by
    apply Classical.byContradiction
    intro q9
    rw [if_neg q9] at H
    cases H
  rw [if_pos g6] at H
  obtain ⟨q7, hq7, H⟩ := Option.bind_eq_some_iff.mp H
  refine J_callV (kc := 0) (ks := 0) (kc' := 0) (ks' := 0) (a := a5) (ci := 3) (as := []) (st := []) (mf_Row_holds hw) (mv_Switch_131 hw) d_Switch_gives_10 ln_Row_holds (by decide) (by first | exact Nat.le_of_ble_eq_true rfl | (simp only [List.map_cons, List.map_nil, List.sum_cons, List.sum_nil, va_rf_cat]; exact Nat.le_of_ble_eq_true rfl)) rfl ((hG _).1 _ g6 (by decide)).1 ((hG _).1 _ g6 (by decide)).2 (by unfold pic; rw [g6]; rfl) (jcl_at hw rfl) rfl (p_Row_holds hw hG hq7) ?_ (fun E h' n' x' e1 => by cases e1.1)
  intro v9 h9 n9 x9 e9
  obtain ⟨e91, e92, e93⟩ := e9
  cases e91
  subst e92
  subst e93
  clear x
  rename Bool => x
  show J _ _ _ _ (_ :: _) _ _ _ _ _ _
  refine J_if_eq (tgt := 35) d_Switch_gives_13 (by decide) ?_ ?_
  · intro c12
    rw [if_pos c12] at H
    refine J.drop [false, false, false, false, false] rfl ?_
    exact p_Switch_gives_L35 hw hG  H
  · intro c12
    rw [if_neg c12] at H
    refine J_aload d_Switch_gives_16 rfl ?_
    obtain ⟨q8, hq8, H⟩ := Option.bind_eq_some_iff.mp H
    refine J_callV (kc := 0) (ks := 0) (kc' := 0) (ks' := 0) (a := a5) (ci := 3) (as := []) (st := []) (mf_Row_firstRest hw) (mv_Switch_138 hw) d_Switch_gives_18 ln_Row_firstRest (by decide) (by first | exact Nat.le_of_ble_eq_true rfl | (simp only [List.map_cons, List.map_nil, List.sum_cons, List.sum_nil, va_rf_cat]; exact Nat.le_of_ble_eq_true rfl)) rfl ((hG _).1 _ g6 (by decide)).1 ((hG _).1 _ g6 (by decide)).2 (by unfold pic; rw [g6]; rfl) (jcl_at hw rfl) rfl (p_Row_firstRest hw hG hq8) ?_ (fun E h' n' x' e1 => by cases e1.1)
    intro v9 h9 n9 x9 e9
    obtain ⟨e91, e92, e93⟩ := e9
    cases e91
    subst e92
    subst e93
    clear x
    rename Bool => x
    show J _ _ _ _ (_ :: _) _ _ _ _ _ _
    obtain ⟨q9, hq9, H⟩ := Option.bind_eq_some_iff.mp H
    refine J_callS (kc := 0) (ks := 0) (kc' := 0) (ks' := 0) (as := [.int q8.1]) (st := []) (mf_Bus_restId hw) (ms_Switch_251 hw) d_Switch_gives_21 ln_Bus_restId (by decide) (by first | exact Nat.le_of_ble_eq_true rfl | (simp only [List.map_cons, List.map_nil, List.sum_cons, List.sum_nil, va_rf_cat]; exact Nat.le_of_ble_eq_true rfl)) rfl (p_Bus_restId hw hG hq9) ?_ (fun E h' n' x' e1 => by cases e1.1)
    intro v9 h9 n9 x9 e9
    obtain ⟨e91, e92, e93⟩ := e9
    cases e91
    subst e92
    subst e93
    clear x
    rename Bool => x
    show J _ _ _ _ (_ :: _) _ _ _ _ _ _
    refine J_bipush (v := 16) d_Switch_gives_24 (by decide) ?_
    have h10 : ¬ (16 : Int32) = 0 := by
      intro q9
      rw [if_pos q9] at H
      cases H
    rw [if_neg h10] at H
    refine J_idiv d_Switch_gives_26 h10 ?_
    refine J_iload_n d_Switch_gives_27 rfl ?_
    refine J_icmp_ne (tgt := 35) d_Switch_gives_28 (by decide) ?_ ?_
    · intro c11
      rw [if_neg c11] at H
      refine J.drop [false, false, false, false, false] rfl ?_
      exact p_Switch_gives_L35 hw hG  H
    · intro c11
      rw [if_pos c11] at H
      refine J_iconst (v := 1) d_Switch_gives_31 (by decide) ?_
      refine J_goto (tgt := 36) d_Switch_gives_32 (by decide) ?_
      refine J.drop [false, false, false, false, false] rfl ?_
      exact p_Switch_gives_L36 hw hG  H
theorem ln_Switch_giverFor : (parseMethodDescriptor y_Switch_giverFor.desc).map (fun q => q.parameters.length) = some 3 := by decide +kernel
def f_Switch_giverFor_L11 (Γ : gm_T)  : Nat → ph_T → Nat → Int32 → Int32 → Int32 → Int32 → Int32 → Option (Int32 × ph_T)
  | 0, _, _, _, _, _, _, _ => none
  | fu + 1, φ, x0, x1, x2, x3, x4, x5 =>
    if x4 ≤ x5 then
      some ((-1 : Int32), φ)
    else
      @ite _ (x4 = 0) _ none (
      @ite _ (Γ x0 = .inr 10) _ (
      Option.bind (f_Switch_gives Γ φ x0 (((x3 + (1 : Int32)) + x5) - ((x3 + (1 : Int32)) + x5) / x4 * x4) x1 x2) fun q4 =>
      if q4.1 = 0 then
        (f_Switch_giverFor_L11 Γ  fu) q4.2 x0 x1 x2 x3 x4 (x5 + (1 : Int32))
      else
        some ((((x3 + (1 : Int32)) + x5) - ((x3 + (1 : Int32)) + x5) / x4 * x4), q4.2)
      ) none
      )
set_option maxRecDepth 100000 in
set_option maxHeartbeats 4000000 in
theorem p_Switch_giverFor_L11 {w : jw_T} (hw : jok w) {Γ : gm_T} {n : Nat} (hG : gd w Γ n)  : ∀ (fu : Nat) {x : Bool} {φ : ph_T} {x0 : Nat} {x1 : Int32} {x2 : Int32} {x3 : Int32} {x4 : Int32} {x5 : Int32} {q : Int32 × ph_T}, f_Switch_giverFor_L11 Γ  fu φ x0 x1 x2 x3 x4 x5 = some q → J w M_Switch_giverFor 11 [some (.ref x0), some (.int x1), some (.int x2), some (.int x3), some (.int x4), some (.int x5), none] [] (pic Γ φ) n x 0 0 (fq Γ n (.inl (some (.int q.1))) q.2) := by
  intro fu
  induction fu with
  | zero =>
    intro x φ x0 x1 x2 x3 x4 x5 q H
    cases H
  | succ fu ih =>
    intro x φ x0 x1 x2 x3 x4 x5 q H
    unfold f_Switch_giverFor_L11 at H
    refine J_iload d_Switch_giverFor_11 rfl ?_
    refine J_iload d_Switch_giverFor_13 rfl ?_
    refine J_icmp_ge (tgt := 49) d_Switch_giverFor_15 (by decide) ?_ ?_
    · intro c6
      rw [if_pos c6] at H
      refine J_iconst (v := -1) d_Switch_giverFor_49 (by decide) ?_
      have H := Option.some.inj H
      subst H
      exact J_iret (st := []) d_Switch_giverFor_50 rfl rfl ⟨rfl, rfl, rfl⟩
    · intro c6
      rw [if_neg c6] at H
      refine J_iload_n d_Switch_giverFor_18 rfl ?_
      refine J_iconst (v := 1) d_Switch_giverFor_19 (by decide) ?_
      refine J_iadd d_Switch_giverFor_20 ?_
      refine J_iload d_Switch_giverFor_21 rfl ?_
      refine J_iadd d_Switch_giverFor_23 ?_
      refine J_iload d_Switch_giverFor_24 rfl ?_
      have h2 : ¬ x4 = 0 := by
        intro q9
        rw [if_pos q9] at H
        cases H
      rw [if_neg h2] at H
      refine J_irem d_Switch_giverFor_26 h2 ?_
      refine J_istore d_Switch_giverFor_27 (Nat.le_of_ble_eq_true rfl) ?_
      refine J.ls (ls' := [some (.ref x0), some (.int x1), some (.int x2), some (.int x3), some (.int x4), some (.int x5), some (.int (((x3 + (1 : Int32)) + x5) - ((x3 + (1 : Int32)) + x5) / x4 * x4))]) rfl ?_
      refine J_aload_n d_Switch_giverFor_29 rfl ?_
      refine J_iload d_Switch_giverFor_30 rfl ?_
      refine J_iload_n d_Switch_giverFor_32 rfl ?_
      refine J_iload_n d_Switch_giverFor_33 rfl ?_
      have g3 : Γ x0 = .inr 10 := by
        apply Classical.byContradiction
        intro q9
        rw [if_neg q9] at H
        cases H
      rw [if_pos g3] at H
      obtain ⟨q4, hq4, H⟩ := Option.bind_eq_some_iff.mp H
      refine J_callV (kc := 0) (ks := 0) (kc' := 0) (ks' := 0) (a := x0) (ci := 10) (as := [.int (((x3 + (1 : Int32)) + x5) - ((x3 + (1 : Int32)) + x5) / x4 * x4), .int x1, .int x2]) (st := []) (mf_Switch_gives hw) (mv_Switch_260 hw) d_Switch_giverFor_34 ln_Switch_gives (by decide) (by first | exact Nat.le_of_ble_eq_true rfl | (simp only [List.map_cons, List.map_nil, List.sum_cons, List.sum_nil, va_rf_cat]; exact Nat.le_of_ble_eq_true rfl)) rfl ((hG _).1 _ g3 (by decide)).1 ((hG _).1 _ g3 (by decide)).2 (by unfold pic; rw [g3]; rfl) (jcl_at hw rfl) rfl (p_Switch_gives hw hG hq4) ?_ (fun E h' n' x' e1 => by cases e1.1)
      intro v9 h9 n9 x9 e9
      obtain ⟨e91, e92, e93⟩ := e9
      cases e91
      subst e92
      subst e93
      clear x
      rename Bool => x
      show J _ _ _ _ (_ :: _) _ _ _ _ _ _
      refine J_if_eq (tgt := 43) d_Switch_giverFor_37 (by decide) ?_ ?_
      · intro c5
        rw [if_pos c5] at H
        refine J_iinc (v := x5 + 1) d_Switch_giverFor_43 rfl (by rw [show Int32.ofInt 1 = (1 : Int32) from by decide]) ?_
        refine J.ls (ls' := [some (.ref x0), some (.int x1), some (.int x2), some (.int x3), some (.int x4), some (.int (x5 + (1 : Int32))), some (.int (((x3 + (1 : Int32)) + x5) - ((x3 + (1 : Int32)) + x5) / x4 * x4))]) rfl ?_
        refine J_goto (tgt := 11) d_Switch_giverFor_46 (by decide) ?_
        refine J.drop [true, true, true, true, true, true, false] rfl ?_
        exact ih H
      · intro c5
        rw [if_neg c5] at H
        refine J_iload d_Switch_giverFor_40 rfl ?_
        have H := Option.some.inj H
        subst H
        exact J_iret (st := []) d_Switch_giverFor_42 rfl rfl ⟨rfl, rfl, rfl⟩
def f_Switch_giverFor (Γ : gm_T) (φ : ph_T) (this : Nat) (p0 : Int32) (p1 : Int32) (p2 : Int32) : Option (Int32 × ph_T) :=
  @ite _ (Γ this = .inr 10) _ (
  f_Switch_giverFor_L11 Γ  jF φ this p0 p1 p2 ((φ.1 this 1) + (1 : Int32)) (0 : Int32)
  ) none
set_option maxRecDepth 100000 in
set_option maxHeartbeats 4000000 in
theorem p_Switch_giverFor {w : jw_T} (hw : jok w) {Γ : gm_T} {n : Nat} (hG : gd w Γ n) {x : Bool} {φ : ph_T} {this : Nat} {p0 : Int32} {p1 : Int32} {p2 : Int32} {q : Int32 × ph_T} (H : f_Switch_giverFor Γ φ this p0 p1 p2 = some q) : jc w M_Switch_giverFor [.ref this, .int p0, .int p1, .int p2] (pic Γ φ) n x 0 0 (fq Γ n (.inl (some (.int q.1))) q.2) := by
  refine jc.of (by simp only [jent_r, jent_i, jent_l, jent_a, jent_0]; exact Nat.le_of_ble_eq_true rfl) ?_
  have hls : jents [.ref this, .int p0, .int p1, .int p2] (jm_nL M_Switch_giverFor) = [some (.ref this), some (.int p0), some (.int p1), some (.int p2), none, none, none] := by simp only [jents, jent_r, jent_i, jent_l, jent_a, jent_0]; rfl
  rw [hls]
  clear hls
  unfold f_Switch_giverFor at H
  refine J_aload_n d_Switch_giverFor_0 rfl ?_
  have g7 : Γ this = .inr 10 := by
    apply Classical.byContradiction
    intro q9
    rw [if_neg q9] at H
    cases H
  rw [if_pos g7] at H
  refine F_getI (ci := 10) (k := 1) hG (cf_Switch hw) (fl_Switch_19 hw) (by decide) (by decide) rfl d_Switch_giverFor_1 g7 ?_
  refine J_iconst (v := 1) d_Switch_giverFor_4 (by decide) ?_
  refine J_iadd d_Switch_giverFor_5 ?_
  refine J_istore d_Switch_giverFor_6 (Nat.le_of_ble_eq_true rfl) ?_
  refine J.ls (ls' := [some (.ref this), some (.int p0), some (.int p1), some (.int p2), some (.int ((φ.1 this 1) + (1 : Int32))), none, none]) rfl ?_
  refine J_iconst (v := 0) d_Switch_giverFor_8 (by decide) ?_
  refine J_istore d_Switch_giverFor_9 (Nat.le_of_ble_eq_true rfl) ?_
  refine J.ls (ls' := [some (.ref this), some (.int p0), some (.int p1), some (.int p2), some (.int ((φ.1 this 1) + (1 : Int32))), some (.int (0 : Int32)), none]) rfl ?_
  refine J.drop [true, true, true, true, true, true, false] rfl ?_
  exact p_Switch_giverFor_L11 hw hG  _ H
theorem ln_Switch_moveBack : (parseMethodDescriptor y_Switch_moveBack.desc).map (fun q => q.parameters.length) = some 2 := by decide +kernel
def f_Switch_moveBack (Γ : gm_T) (φ : ph_T) (p0 : Option Nat) (p1 : Option Nat) : Option (Int32 × ph_T) :=
  Option.bind p0 fun a1 =>
  @ite _ (Γ a1 = .inr 3) _ (
  Option.bind (f_Row_firstRest Γ φ a1) fun q3 =>
  Option.bind (f_Row_firstContent Γ q3.2 a1) fun q4 =>
  Option.bind p1 fun a5 =>
  @ite _ (Γ a5 = .inr 3) _ (
  Option.bind (f_Row_put Γ q4.2 a5 q4.1 (q3.1 &&& (-49 : Int32)) (0 : Int32)) fun q7 =>
  Option.bind (f_Row_drop Γ q7.2 a1) fun q8 =>
  some ((q3.1 &&& (-49 : Int32)), q8.2)
  ) none
  ) none
set_option maxRecDepth 100000 in
set_option maxHeartbeats 4000000 in
theorem p_Switch_moveBack {w : jw_T} (hw : jok w) {Γ : gm_T} {n : Nat} (hG : gd w Γ n) {x : Bool} {φ : ph_T} {p0 : Option Nat} {p1 : Option Nat} {q : Int32 × ph_T} (H : f_Switch_moveBack Γ φ p0 p1 = some q) : jc w M_Switch_moveBack [va_rf p0, va_rf p1] (pic Γ φ) n x 0 0 (fq Γ n (.inl (some (.int q.1))) q.2) := by
  refine jc.of (by simp only [jent_r, jent_i, jent_l, jent_a, jent_0]; exact Nat.le_of_ble_eq_true rfl) ?_
  have hls : jents [va_rf p0, va_rf p1] (jm_nL M_Switch_moveBack) = [some (va_rf p0), some (va_rf p1), none] := by simp only [jents, jent_r, jent_i, jent_l, jent_a, jent_0]; rfl
  rw [hls]
  clear hls
  unfold f_Switch_moveBack at H
  refine J_aload_nO d_Switch_moveBack_0 rfl ?_
  obtain ⟨a1, ha1, H⟩ := Option.bind_eq_some_iff.mp H
  rw [j_rf ha1]
  have g2 : Γ a1 = .inr 3 := by
    apply Classical.byContradiction
    intro q9
    rw [if_neg q9] at H
    cases H
  rw [if_pos g2] at H
  obtain ⟨q3, hq3, H⟩ := Option.bind_eq_some_iff.mp H
  refine J_callV (kc := 0) (ks := 0) (kc' := 0) (ks' := 0) (a := a1) (ci := 3) (as := []) (st := []) (mf_Row_firstRest hw) (mv_Switch_138 hw) d_Switch_moveBack_1 ln_Row_firstRest (by decide) (by first | exact Nat.le_of_ble_eq_true rfl | (simp only [List.map_cons, List.map_nil, List.sum_cons, List.sum_nil, va_rf_cat]; exact Nat.le_of_ble_eq_true rfl)) rfl ((hG _).1 _ g2 (by decide)).1 ((hG _).1 _ g2 (by decide)).2 (by unfold pic; rw [g2]; rfl) (jcl_at hw rfl) rfl (p_Row_firstRest hw hG hq3) ?_ (fun E h' n' x' e1 => by cases e1.1)
  intro v9 h9 n9 x9 e9
  obtain ⟨e91, e92, e93⟩ := e9
  cases e91
  subst e92
  subst e93
  clear x
  rename Bool => x
  show J _ _ _ _ (_ :: _) _ _ _ _ _ _
  refine J_bipush (v := -49) d_Switch_moveBack_4 (by decide) ?_
  refine J_iand d_Switch_moveBack_6 ?_
  refine J_istore_n d_Switch_moveBack_7 (Nat.le_of_ble_eq_true rfl) ?_
  refine J.ls (ls' := [some (.ref a1), some (va_rf p1), some (.int (q3.1 &&& (-49 : Int32)))]) (jst1_o (i := 1) (r := p1) rfl) ?_
  refine J_aload_nO d_Switch_moveBack_8 rfl ?_
  refine J_aload_n d_Switch_moveBack_9 rfl ?_
  obtain ⟨q4, hq4, H⟩ := Option.bind_eq_some_iff.mp H
  refine J_callV (kc := 0) (ks := 0) (kc' := 0) (ks' := 0) (a := a1) (ci := 3) (as := []) (st := [va_rf p1]) (mf_Row_firstContent hw) (mv_Switch_134 hw) d_Switch_moveBack_10 ln_Row_firstContent (by decide) (by first | exact Nat.le_of_ble_eq_true rfl | (simp only [List.map_cons, List.map_nil, List.sum_cons, List.sum_nil, va_rf_cat]; exact Nat.le_of_ble_eq_true rfl)) rfl ((hG _).1 _ g2 (by decide)).1 ((hG _).1 _ g2 (by decide)).2 (by unfold pic; rw [g2]; rfl) (jcl_at hw rfl) rfl (p_Row_firstContent hw hG hq4) ?_ (fun E h' n' x' e1 => by cases e1.1)
  intro v9 h9 n9 x9 e9
  obtain ⟨e91, e92, e93⟩ := e9
  cases e91
  subst e92
  subst e93
  clear x
  rename Bool => x
  show J _ _ _ _ (_ :: _) _ _ _ _ _ _
  refine J_iload_n d_Switch_moveBack_13 rfl ?_
  refine J_iconst (v := 0) d_Switch_moveBack_14 (by decide) ?_
  obtain ⟨a5, ha5, H⟩ := Option.bind_eq_some_iff.mp H
  rw [j_rf ha5]
  have g6 : Γ a5 = .inr 3 := by
    apply Classical.byContradiction
    intro q9
    rw [if_neg q9] at H
    cases H
  rw [if_pos g6] at H
  obtain ⟨q7, hq7, H⟩ := Option.bind_eq_some_iff.mp H
  refine J_callV (kc := 0) (ks := 0) (kc' := 0) (ks' := 0) (a := a5) (ci := 3) (as := [.long q4.1, .int (q3.1 &&& (-49 : Int32)), .int (0 : Int32)]) (st := []) (mf_Row_put hw) (mv_Switch_157 hw) d_Switch_moveBack_15 ln_Row_put (by decide) (by first | exact Nat.le_of_ble_eq_true rfl | (simp only [List.map_cons, List.map_nil, List.sum_cons, List.sum_nil, va_rf_cat]; exact Nat.le_of_ble_eq_true rfl)) rfl ((hG _).1 _ g6 (by decide)).1 ((hG _).1 _ g6 (by decide)).2 (by unfold pic; rw [g6]; rfl) (jcl_at hw rfl) rfl (p_Row_put hw hG hq7) ?_ (fun E h' n' x' e1 => by cases e1.1)
  intro v9 h9 n9 x9 e9
  obtain ⟨e91, e92, e93⟩ := e9
  cases e91
  subst e92
  subst e93
  clear x
  rename Bool => x
  show J _ _ _ _ [] _ _ _ _ _ _
  refine J_aload_n d_Switch_moveBack_18 rfl ?_
  obtain ⟨q8, hq8, H⟩ := Option.bind_eq_some_iff.mp H
  refine J_callV (kc := 0) (ks := 0) (kc' := 0) (ks' := 0) (a := a1) (ci := 3) (as := []) (st := []) (mf_Row_drop hw) (mv_Switch_161 hw) d_Switch_moveBack_19 ln_Row_drop (by decide) (by first | exact Nat.le_of_ble_eq_true rfl | (simp only [List.map_cons, List.map_nil, List.sum_cons, List.sum_nil, va_rf_cat]; exact Nat.le_of_ble_eq_true rfl)) rfl ((hG _).1 _ g2 (by decide)).1 ((hG _).1 _ g2 (by decide)).2 (by unfold pic; rw [g2]; rfl) (jcl_at hw rfl) rfl (p_Row_drop hw hG hq8) ?_ (fun E h' n' x' e1 => by cases e1.1)
  intro v9 h9 n9 x9 e9
  obtain ⟨e91, e92, e93⟩ := e9
  cases e91
  subst e92
  subst e93
  clear x
  rename Bool => x
  show J _ _ _ _ [] _ _ _ _ _ _
  refine J_iload_n d_Switch_moveBack_22 rfl ?_
  have H := Option.some.inj H
  subst H
  exact J_iret (st := []) d_Switch_moveBack_23 rfl rfl ⟨rfl, rfl, rfl⟩
theorem ln_UnderWay_removeFirst : (parseMethodDescriptor y_UnderWay_removeFirst.desc).map (fun q => q.parameters.length) = some 1 := by decide +kernel
def f_UnderWay_removeFirst_L91 (Γ : gm_T) (Kc7 : ph_T → Nat → Int32 → Int32 → Int32 → Int32 → Option (Unit × ph_T)) (φ : ph_T) (x0 : Nat) (x1 : Int32) (x2 : Int32) (x3 : Int32) (x4 : Int32) : Option (Unit × ph_T) :=
  Kc7 φ x0 x1 x2 x3 (x4 + (1 : Int32))
set_option maxRecDepth 100000 in
set_option maxHeartbeats 4000000 in
theorem p_UnderWay_removeFirst_L91 {w : jw_T} (hw : jok w) {Γ : gm_T} {n : Nat} (hG : gd w Γ n) {Kc7 : ph_T → Nat → Int32 → Int32 → Int32 → Int32 → Option (Unit × ph_T)} (hKc7 : ∀ {x : Bool} {φ : ph_T} {x0 : Nat} {x1 : Int32} {x2 : Int32} {x3 : Int32} {x4 : Int32} {q : Unit × ph_T}, Kc7 φ x0 x1 x2 x3 x4 = some q → J w M_UnderWay_removeFirst 7 [some (.ref x0), some (.int x1), some (.int x2), some (.int x3), some (.int x4)] [] (pic Γ φ) n x 0 0 (fq Γ n (.inl none) q.2)) {x : Bool} {φ : ph_T} {x0 : Nat} {x1 : Int32} {x2 : Int32} {x3 : Int32} {x4 : Int32} {q : Unit × ph_T} (H : f_UnderWay_removeFirst_L91 Γ Kc7 φ x0 x1 x2 x3 x4 = some q) : J w M_UnderWay_removeFirst 91 [some (.ref x0), some (.int x1), some (.int x2), some (.int x3), some (.int x4)] [] (pic Γ φ) n x 0 0 (fq Γ n (.inl none) q.2) := by
  unfold f_UnderWay_removeFirst_L91 at H
  refine J_iinc (v := x4 + 1) d_UnderWay_removeFirst_91 rfl (by rw [show Int32.ofInt 1 = (1 : Int32) from by decide]) ?_
  refine J.ls (ls' := [some (.ref x0), some (.int x1), some (.int x2), some (.int x3), some (.int (x4 + (1 : Int32)))]) rfl ?_
  refine J_goto (tgt := 7) d_UnderWay_removeFirst_94 (by decide) ?_
  refine J.drop [true, true, true, true, true] rfl ?_
  exact hKc7 H
def f_UnderWay_removeFirst_L36 (Γ : gm_T) (Kc7 : ph_T → Nat → Int32 → Int32 → Int32 → Int32 → Option (Unit × ph_T)) (φ : ph_T) (x0 : Nat) (x1 : Int32) (x2 : Int32) (x3 : Int32) (x4 : Int32) : Option (Unit × ph_T) :=
  @ite _ (Γ x0 = .inr 9) _ (
  Option.bind (φ.2.2 x0 0) fun a2 =>
  Option.bind (gA Γ a2 0) fun N3 =>
  Option.bind (ix x4 N3) fun k4 =>
  Option.bind (gA Γ a2 0) fun N5 =>
  Option.bind (ix x2 N5) fun k6 =>
  Option.bind (φ.2.2 x0 1) fun a7 =>
  Option.bind (gA Γ a7 0) fun N8 =>
  Option.bind (ix x4 N8) fun k9 =>
  Option.bind (gA Γ a7 0) fun N10 =>
  Option.bind (ix x2 N10) fun k11 =>
  Option.bind (φ.2.2 x0 2) fun a12 =>
  Option.bind (gA Γ a12 0) fun N13 =>
  Option.bind (ix x4 N13) fun k14 =>
  Option.bind (gA Γ a12 0) fun N15 =>
  Option.bind (ix x2 N15) fun k16 =>
  Option.bind (φ.2.2 x0 3) fun a17 =>
  Option.bind (gA Γ a17 0) fun N18 =>
  Option.bind (ix x4 N18) fun k19 =>
  Option.bind (gA Γ a17 0) fun N20 =>
  Option.bind (ix x2 N20) fun k21 =>
  f_UnderWay_removeFirst_L91 Γ Kc7 (uI (uI (uI (uI φ a2 k6 (φ.1 a2 k4)) a7 k11 ((uI φ a2 k6 (φ.1 a2 k4)).1 a7 k9)) a12 k16 ((uI (uI φ a2 k6 (φ.1 a2 k4)) a7 k11 ((uI φ a2 k6 (φ.1 a2 k4)).1 a7 k9)).1 a12 k14)) a17 k21 ((uI (uI (uI φ a2 k6 (φ.1 a2 k4)) a7 k11 ((uI φ a2 k6 (φ.1 a2 k4)).1 a7 k9)) a12 k16 ((uI (uI φ a2 k6 (φ.1 a2 k4)) a7 k11 ((uI φ a2 k6 (φ.1 a2 k4)).1 a7 k9)).1 a12 k14)).1 a17 k19)) x0 x1 (x2 + (1 : Int32)) x3 x4
  ) none
set_option maxRecDepth 100000 in
set_option maxHeartbeats 4000000 in
theorem p_UnderWay_removeFirst_L36 {w : jw_T} (hw : jok w) {Γ : gm_T} {n : Nat} (hG : gd w Γ n) {Kc7 : ph_T → Nat → Int32 → Int32 → Int32 → Int32 → Option (Unit × ph_T)} (hKc7 : ∀ {x : Bool} {φ : ph_T} {x0 : Nat} {x1 : Int32} {x2 : Int32} {x3 : Int32} {x4 : Int32} {q : Unit × ph_T}, Kc7 φ x0 x1 x2 x3 x4 = some q → J w M_UnderWay_removeFirst 7 [some (.ref x0), some (.int x1), some (.int x2), some (.int x3), some (.int x4)] [] (pic Γ φ) n x 0 0 (fq Γ n (.inl none) q.2)) {x : Bool} {φ : ph_T} {x0 : Nat} {x1 : Int32} {x2 : Int32} {x3 : Int32} {x4 : Int32} {q : Unit × ph_T} (H : f_UnderWay_removeFirst_L36 Γ Kc7 φ x0 x1 x2 x3 x4 = some q) : J w M_UnderWay_removeFirst 36 [some (.ref x0), some (.int x1), some (.int x2), some (.int x3), some (.int x4)] [] (pic Γ φ) n x 0 0 (fq Γ n (.inl none) q.2) := by
  unfold f_UnderWay_removeFirst_L36 at H
  refine J_aload_n d_UnderWay_removeFirst_36 rfl ?_
  have g1 : Γ x0 = .inr 9 := by
    apply Classical.byContradiction
    intro q9
    rw [if_neg q9] at H
    cases H
  rw [if_pos g1] at H
  refine F_getR (ci := 9) (k := 0) hG (cf_UnderWay hw) (fl_UnderWay_9 hw) (by decide) (by decide) rfl d_UnderWay_removeFirst_37 g1 ?_
  refine J_iload_n d_UnderWay_removeFirst_40 rfl ?_
  refine J_aload_n d_UnderWay_removeFirst_41 rfl ?_
  refine F_getR (ci := 9) (k := 0) hG (cf_UnderWay hw) (fl_UnderWay_9 hw) (by decide) (by decide) rfl d_UnderWay_removeFirst_42 g1 ?_
  refine J_iload d_UnderWay_removeFirst_45 rfl ?_
  obtain ⟨a2, ha2, H⟩ := Option.bind_eq_some_iff.mp H
  rw [j_rf ha2]
  obtain ⟨N3, hN3, H⟩ := Option.bind_eq_some_iff.mp H
  obtain ⟨k4, hk4, H⟩ := Option.bind_eq_some_iff.mp H
  refine F_iald k4 hw hG d_UnderWay_removeFirst_47 (gA_some hN3) (ix_some hk4) ?_
  obtain ⟨N5, hN5, H⟩ := Option.bind_eq_some_iff.mp H
  obtain ⟨k6, hk6, H⟩ := Option.bind_eq_some_iff.mp H
  refine F_iast k6 hw hG d_UnderWay_removeFirst_48 (gA_some hN5) (ix_some hk6) ?_
  refine J_aload_n d_UnderWay_removeFirst_49 rfl ?_
  refine F_getR (ci := 9) (k := 1) hG (cf_UnderWay hw) (fl_UnderWay_15 hw) (by decide) (by decide) rfl d_UnderWay_removeFirst_50 g1 ?_
  show J _ _ _ _ (va_rf (φ.2.2 x0 1) :: _) _ _ _ _ _ _
  refine J_iload_n d_UnderWay_removeFirst_53 rfl ?_
  refine J_aload_n d_UnderWay_removeFirst_54 rfl ?_
  refine F_getR (ci := 9) (k := 1) hG (cf_UnderWay hw) (fl_UnderWay_15 hw) (by decide) (by decide) rfl d_UnderWay_removeFirst_55 g1 ?_
  show J _ _ _ _ (va_rf (φ.2.2 x0 1) :: _) _ _ _ _ _ _
  refine J_iload d_UnderWay_removeFirst_58 rfl ?_
  obtain ⟨a7, ha7, H⟩ := Option.bind_eq_some_iff.mp H
  rw [j_rf ha7]
  obtain ⟨N8, hN8, H⟩ := Option.bind_eq_some_iff.mp H
  obtain ⟨k9, hk9, H⟩ := Option.bind_eq_some_iff.mp H
  refine F_iald k9 hw hG d_UnderWay_removeFirst_60 (gA_some hN8) (ix_some hk9) ?_
  obtain ⟨N10, hN10, H⟩ := Option.bind_eq_some_iff.mp H
  obtain ⟨k11, hk11, H⟩ := Option.bind_eq_some_iff.mp H
  refine F_iast k11 hw hG d_UnderWay_removeFirst_61 (gA_some hN10) (ix_some hk11) ?_
  refine J_aload_n d_UnderWay_removeFirst_62 rfl ?_
  refine F_getR (ci := 9) (k := 2) hG (cf_UnderWay hw) (fl_UnderWay_18 hw) (by decide) (by decide) rfl d_UnderWay_removeFirst_63 g1 ?_
  show J _ _ _ _ (va_rf (φ.2.2 x0 2) :: _) _ _ _ _ _ _
  refine J_iload_n d_UnderWay_removeFirst_66 rfl ?_
  refine J_aload_n d_UnderWay_removeFirst_67 rfl ?_
  refine F_getR (ci := 9) (k := 2) hG (cf_UnderWay hw) (fl_UnderWay_18 hw) (by decide) (by decide) rfl d_UnderWay_removeFirst_68 g1 ?_
  show J _ _ _ _ (va_rf (φ.2.2 x0 2) :: _) _ _ _ _ _ _
  refine J_iload d_UnderWay_removeFirst_71 rfl ?_
  obtain ⟨a12, ha12, H⟩ := Option.bind_eq_some_iff.mp H
  rw [j_rf ha12]
  obtain ⟨N13, hN13, H⟩ := Option.bind_eq_some_iff.mp H
  obtain ⟨k14, hk14, H⟩ := Option.bind_eq_some_iff.mp H
  refine F_iald k14 hw hG d_UnderWay_removeFirst_73 (gA_some hN13) (ix_some hk14) ?_
  obtain ⟨N15, hN15, H⟩ := Option.bind_eq_some_iff.mp H
  obtain ⟨k16, hk16, H⟩ := Option.bind_eq_some_iff.mp H
  refine F_iast k16 hw hG d_UnderWay_removeFirst_74 (gA_some hN15) (ix_some hk16) ?_
  refine J_aload_n d_UnderWay_removeFirst_75 rfl ?_
  refine F_getR (ci := 9) (k := 3) hG (cf_UnderWay hw) (fl_UnderWay_21 hw) (by decide) (by decide) rfl d_UnderWay_removeFirst_76 g1 ?_
  show J _ _ _ _ (va_rf (φ.2.2 x0 3) :: _) _ _ _ _ _ _
  refine J_iload_n d_UnderWay_removeFirst_79 rfl ?_
  refine J_aload_n d_UnderWay_removeFirst_80 rfl ?_
  refine F_getR (ci := 9) (k := 3) hG (cf_UnderWay hw) (fl_UnderWay_21 hw) (by decide) (by decide) rfl d_UnderWay_removeFirst_81 g1 ?_
  show J _ _ _ _ (va_rf (φ.2.2 x0 3) :: _) _ _ _ _ _ _
  refine J_iload d_UnderWay_removeFirst_84 rfl ?_
  obtain ⟨a17, ha17, H⟩ := Option.bind_eq_some_iff.mp H
  rw [j_rf ha17]
  obtain ⟨N18, hN18, H⟩ := Option.bind_eq_some_iff.mp H
  obtain ⟨k19, hk19, H⟩ := Option.bind_eq_some_iff.mp H
  refine F_iald k19 hw hG d_UnderWay_removeFirst_86 (gA_some hN18) (ix_some hk19) ?_
  obtain ⟨N20, hN20, H⟩ := Option.bind_eq_some_iff.mp H
  obtain ⟨k21, hk21, H⟩ := Option.bind_eq_some_iff.mp H
  refine F_iast k21 hw hG d_UnderWay_removeFirst_87 (gA_some hN20) (ix_some hk21) ?_
  refine J_iinc (v := x2 + 1) d_UnderWay_removeFirst_88 rfl (by rw [show Int32.ofInt 1 = (1 : Int32) from by decide]) ?_
  refine J.ls (ls' := [some (.ref x0), some (.int x1), some (.int (x2 + (1 : Int32))), some (.int x3), some (.int x4)]) rfl ?_
  refine J.drop [true, true, true, true, true] rfl ?_
  exact p_UnderWay_removeFirst_L91 hw hG hKc7 H
def f_UnderWay_removeFirst_L7 (Γ : gm_T)  : Nat → ph_T → Nat → Int32 → Int32 → Int32 → Int32 → Option (Unit × ph_T)
  | 0, _, _, _, _, _, _ => none
  | fu + 1, φ, x0, x1, x2, x3, x4 =>
    @ite _ (Γ x0 = .inr 9) _ (
    if (φ.1 x0 4) ≤ x4 then
      some ((), (uI φ x0 4 x2))
    else
      if x3 = 0 then
        Option.bind (φ.2.2 x0 0) fun a23 =>
        Option.bind (gA Γ a23 0) fun N24 =>
        Option.bind (ix x4 N24) fun k25 =>
        if (φ.1 a23 k25) = x1 then
          f_UnderWay_removeFirst_L91 Γ (f_UnderWay_removeFirst_L7 Γ  fu) φ x0 x1 x2 (1 : Int32) x4
        else
          f_UnderWay_removeFirst_L36 Γ (f_UnderWay_removeFirst_L7 Γ  fu) φ x0 x1 x2 x3 x4
      else
        f_UnderWay_removeFirst_L36 Γ (f_UnderWay_removeFirst_L7 Γ  fu) φ x0 x1 x2 x3 x4
    ) none
set_option maxRecDepth 100000 in
set_option maxHeartbeats 4000000 in
theorem p_UnderWay_removeFirst_L7 {w : jw_T} (hw : jok w) {Γ : gm_T} {n : Nat} (hG : gd w Γ n)  : ∀ (fu : Nat) {x : Bool} {φ : ph_T} {x0 : Nat} {x1 : Int32} {x2 : Int32} {x3 : Int32} {x4 : Int32} {q : Unit × ph_T}, f_UnderWay_removeFirst_L7 Γ  fu φ x0 x1 x2 x3 x4 = some q → J w M_UnderWay_removeFirst 7 [some (.ref x0), some (.int x1), some (.int x2), some (.int x3), some (.int x4)] [] (pic Γ φ) n x 0 0 (fq Γ n (.inl none) q.2) := by
  intro fu
  induction fu with
  | zero =>
    intro x φ x0 x1 x2 x3 x4 q H
    cases H
  | succ fu ih =>
    intro x φ x0 x1 x2 x3 x4 q H
    unfold f_UnderWay_removeFirst_L7 at H
    refine J_iload d_UnderWay_removeFirst_7 rfl ?_
    refine J_aload_n d_UnderWay_removeFirst_9 rfl ?_
    have g22 : Γ x0 = .inr 9 := by
      apply Classical.byContradiction
      intro q9
      rw [if_neg q9] at H
      cases H
    rw [if_pos g22] at H
    refine F_getI (ci := 9) (k := 4) hG (cf_UnderWay hw) (fl_UnderWay_24 hw) (by decide) (by decide) rfl d_UnderWay_removeFirst_10 g22 ?_
    refine J_icmp_ge (tgt := 97) d_UnderWay_removeFirst_13 (by decide) ?_ ?_
    · intro c28
      rw [if_pos c28] at H
      refine J_aload_n d_UnderWay_removeFirst_97 rfl ?_
      refine J_iload_n d_UnderWay_removeFirst_98 rfl ?_
      refine F_putI (ci := 9) (k := 4) hG (cf_UnderWay hw) (fl_UnderWay_24 hw) (by decide) (by decide) rfl d_UnderWay_removeFirst_99 rfl rfl rfl g22 ?_
      have H := Option.some.inj H
      subst H
      exact J_vret (st := []) d_UnderWay_removeFirst_102 rfl ⟨rfl, rfl, rfl⟩
    · intro c28
      rw [if_neg c28] at H
      refine J_iload_n d_UnderWay_removeFirst_16 rfl ?_
      refine J_if_ne (tgt := 36) d_UnderWay_removeFirst_17 (by decide) ?_ ?_
      · intro c27
        rw [if_neg c27] at H
        refine J.drop [true, true, true, true, true] rfl ?_
        exact p_UnderWay_removeFirst_L36 hw hG ih H
      · intro c27
        rw [if_pos c27] at H
        refine J_aload_n d_UnderWay_removeFirst_20 rfl ?_
        refine F_getR (ci := 9) (k := 0) hG (cf_UnderWay hw) (fl_UnderWay_9 hw) (by decide) (by decide) rfl d_UnderWay_removeFirst_21 g22 ?_
        refine J_iload d_UnderWay_removeFirst_24 rfl ?_
        obtain ⟨a23, ha23, H⟩ := Option.bind_eq_some_iff.mp H
        rw [j_rf ha23]
        obtain ⟨N24, hN24, H⟩ := Option.bind_eq_some_iff.mp H
        obtain ⟨k25, hk25, H⟩ := Option.bind_eq_some_iff.mp H
        refine F_iald k25 hw hG d_UnderWay_removeFirst_26 (gA_some hN24) (ix_some hk25) ?_
        refine J_iload_n d_UnderWay_removeFirst_27 rfl ?_
        refine J_icmp_ne (tgt := 36) d_UnderWay_removeFirst_28 (by decide) ?_ ?_
        · intro c26
          rw [if_neg c26] at H
          refine J.drop [true, true, true, true, true] rfl ?_
          exact p_UnderWay_removeFirst_L36 hw hG ih H
        · intro c26
          rw [if_pos c26] at H
          refine J_iconst (v := 1) d_UnderWay_removeFirst_31 (by decide) ?_
          refine J_istore_n d_UnderWay_removeFirst_32 (Nat.le_of_ble_eq_true rfl) ?_
          refine J.ls (ls' := [some (.ref x0), some (.int x1), some (.int x2), some (.int (1 : Int32)), some (.int x4)]) rfl ?_
          refine J_goto (tgt := 91) d_UnderWay_removeFirst_33 (by decide) ?_
          refine J.drop [true, true, true, true, true] rfl ?_
          exact p_UnderWay_removeFirst_L91 hw hG ih H
def f_UnderWay_removeFirst (Γ : gm_T) (φ : ph_T) (this : Nat) (p0 : Int32) : Option (Unit × ph_T) :=
  f_UnderWay_removeFirst_L7 Γ  jF φ this p0 (0 : Int32) (0 : Int32) (0 : Int32)
set_option maxRecDepth 100000 in
set_option maxHeartbeats 4000000 in
theorem p_UnderWay_removeFirst {w : jw_T} (hw : jok w) {Γ : gm_T} {n : Nat} (hG : gd w Γ n) {x : Bool} {φ : ph_T} {this : Nat} {p0 : Int32} {q : Unit × ph_T} (H : f_UnderWay_removeFirst Γ φ this p0 = some q) : jc w M_UnderWay_removeFirst [.ref this, .int p0] (pic Γ φ) n x 0 0 (fq Γ n (.inl none) q.2) := by
  refine jc.of (by simp only [jent_r, jent_i, jent_l, jent_a, jent_0]; exact Nat.le_of_ble_eq_true rfl) ?_
  have hls : jents [.ref this, .int p0] (jm_nL M_UnderWay_removeFirst) = [some (.ref this), some (.int p0), none, none, none] := by simp only [jents, jent_r, jent_i, jent_l, jent_a, jent_0]; rfl
  rw [hls]
  clear hls
  unfold f_UnderWay_removeFirst at H
  refine J_iconst (v := 0) d_UnderWay_removeFirst_0 (by decide) ?_
  refine J_istore_n d_UnderWay_removeFirst_1 (Nat.le_of_ble_eq_true rfl) ?_
  refine J.ls (ls' := [some (.ref this), some (.int p0), some (.int (0 : Int32)), none, none]) rfl ?_
  refine J_iconst (v := 0) d_UnderWay_removeFirst_2 (by decide) ?_
  refine J_istore_n d_UnderWay_removeFirst_3 (Nat.le_of_ble_eq_true rfl) ?_
  refine J.ls (ls' := [some (.ref this), some (.int p0), some (.int (0 : Int32)), some (.int (0 : Int32)), none]) rfl ?_
  refine J_iconst (v := 0) d_UnderWay_removeFirst_4 (by decide) ?_
  refine J_istore d_UnderWay_removeFirst_5 (Nat.le_of_ble_eq_true rfl) ?_
  refine J.ls (ls' := [some (.ref this), some (.int p0), some (.int (0 : Int32)), some (.int (0 : Int32)), some (.int (0 : Int32))]) rfl ?_
  refine J.drop [true, true, true, true, true] rfl ?_
  exact p_UnderWay_removeFirst_L7 hw hG  _ H
theorem ln_Switch_moveAnswer : (parseMethodDescriptor y_Switch_moveAnswer.desc).map (fun q => q.parameters.length) = some 1 := by decide +kernel
def f_Switch_moveAnswer_L30 (Γ : gm_T)  (φ : ph_T) (x0 : Nat) (x1 : Int32) (x2 : Option Nat) (y0 : Int32) : Option (Unit × ph_T) :=
  if y0 = (-1 : Int32) then
    some ((), φ)
  else
    @ite _ (Γ x0 = .inr 10) _ (
    Option.bind (f_Switch_ofTarget Γ φ x0 y0 (2 : Int32)) fun q2 =>
    Option.bind (f_Switch_moveBack Γ q2.2 q2.1 x2) fun q3 =>
    Option.bind (q3.2.2.2 x0 10) fun a4 =>
    Option.bind (gA Γ a4 0) fun N5 =>
    Option.bind (ix x1 N5) fun k6 =>
    Option.bind (q3.2.2.2 x0 6) fun a7 =>
    Option.bind (gA Γ a7 4) fun N8 =>
    Option.bind (ix x1 N8) fun k9 =>
    Option.bind (f_Bus_restId Γ (uI q3.2 a4 k6 y0) q3.1) fun q10 =>
    Option.bind (q3.2.2.2 a7 k9) fun a11 =>
    @ite _ (Γ a11 = .inr 9) _ (
    Option.bind (f_UnderWay_removeFirst Γ q10.2 a11 q10.1) fun q13 =>
    some ((), q13.2)
    ) none
    ) none
set_option maxRecDepth 100000 in
set_option maxHeartbeats 4000000 in
theorem p_Switch_moveAnswer_L30 {w : jw_T} (hw : jok w) {Γ : gm_T} {n : Nat} (hG : gd w Γ n)  {x : Bool} {φ : ph_T} {x0 : Nat} {x1 : Int32} {x2 : Option Nat} {y0 : Int32} {q : Unit × ph_T} (H : f_Switch_moveAnswer_L30 Γ  φ x0 x1 x2 y0 = some q) : J w M_Switch_moveAnswer 30 [some (.ref x0), some (.int x1), some (va_rf x2), none, none] [.int y0] (pic Γ φ) n x 0 0 (fq Γ n (.inl none) q.2) := by
  unfold f_Switch_moveAnswer_L30 at H
  refine J_istore_n d_Switch_moveAnswer_30 (Nat.le_of_ble_eq_true rfl) ?_
  refine J.ls (ls' := [some (.ref x0), some (.int x1), some (va_rf x2), some (.int y0), none]) (jst1_o (i := 2) (r := x2) rfl) ?_
  refine J_iload_n d_Switch_moveAnswer_31 rfl ?_
  refine J_iconst (v := -1) d_Switch_moveAnswer_32 (by decide) ?_
  refine J_icmp_ne (tgt := 37) d_Switch_moveAnswer_33 (by decide) ?_ ?_
  · intro c14
    rw [if_neg c14] at H
    refine J_aload_n d_Switch_moveAnswer_37 rfl ?_
    refine J_iload_n d_Switch_moveAnswer_38 rfl ?_
    refine J_iconst (v := 2) d_Switch_moveAnswer_39 (by decide) ?_
    have g1 : Γ x0 = .inr 10 := by
      apply Classical.byContradiction
      intro q9
      rw [if_neg q9] at H
      cases H
    rw [if_pos g1] at H
    obtain ⟨q2, hq2, H⟩ := Option.bind_eq_some_iff.mp H
    refine J_callV (kc := 0) (ks := 0) (kc' := 0) (ks' := 0) (a := x0) (ci := 10) (as := [.int y0, .int (2 : Int32)]) (st := []) (mf_Switch_ofTarget hw) (mv_Switch_119 hw) d_Switch_moveAnswer_40 ln_Switch_ofTarget (by decide) (by first | exact Nat.le_of_ble_eq_true rfl | (simp only [List.map_cons, List.map_nil, List.sum_cons, List.sum_nil, va_rf_cat]; exact Nat.le_of_ble_eq_true rfl)) rfl ((hG _).1 _ g1 (by decide)).1 ((hG _).1 _ g1 (by decide)).2 (by unfold pic; rw [g1]; rfl) (jcl_at hw rfl) rfl (p_Switch_ofTarget hw hG hq2) ?_ (fun E h' n' x' e1 => by cases e1.1)
    intro v9 h9 n9 x9 e9
    obtain ⟨e91, e92, e93⟩ := e9
    cases e91
    subst e92
    subst e93
    clear x
    rename Bool => x
    show J _ _ _ _ (_ :: _) _ _ _ _ _ _
    refine J_aload_nO d_Switch_moveAnswer_43 rfl ?_
    obtain ⟨q3, hq3, H⟩ := Option.bind_eq_some_iff.mp H
    refine J_callS (kc := 0) (ks := 0) (kc' := 0) (ks' := 0) (as := [va_rf q2.1, va_rf x2]) (st := []) (mf_Switch_moveBack hw) (ms_Switch_247 hw) d_Switch_moveAnswer_44 ln_Switch_moveBack (by decide) (by first | exact Nat.le_of_ble_eq_true rfl | (simp only [List.map_cons, List.map_nil, List.sum_cons, List.sum_nil, va_rf_cat]; exact Nat.le_of_ble_eq_true rfl)) rfl (p_Switch_moveBack hw hG hq3) ?_ (fun E h' n' x' e1 => by cases e1.1)
    intro v9 h9 n9 x9 e9
    obtain ⟨e91, e92, e93⟩ := e9
    cases e91
    subst e92
    subst e93
    clear x
    rename Bool => x
    show J _ _ _ _ (_ :: _) _ _ _ _ _ _
    refine J_istore d_Switch_moveAnswer_47 (Nat.le_of_ble_eq_true rfl) ?_
    refine J.ls (ls' := [some (.ref x0), some (.int x1), some (va_rf x2), some (.int y0), some (.int q3.1)]) rfl ?_
    refine J_aload_n d_Switch_moveAnswer_49 rfl ?_
    refine F_getR (ci := 10) (k := 10) hG (cf_Switch hw) (fl_Switch_52 hw) (by decide) (by decide) rfl d_Switch_moveAnswer_50 g1 ?_
    refine J_iload_n d_Switch_moveAnswer_53 rfl ?_
    refine J_iload_n d_Switch_moveAnswer_54 rfl ?_
    obtain ⟨a4, ha4, H⟩ := Option.bind_eq_some_iff.mp H
    rw [j_rf ha4]
    obtain ⟨N5, hN5, H⟩ := Option.bind_eq_some_iff.mp H
    obtain ⟨k6, hk6, H⟩ := Option.bind_eq_some_iff.mp H
    refine F_iast k6 hw hG d_Switch_moveAnswer_55 (gA_some hN5) (ix_some hk6) ?_
    refine J_aload_n d_Switch_moveAnswer_56 rfl ?_
    refine F_getR (ci := 10) (k := 6) hG (cf_Switch hw) (fl_Switch_38 hw) (by decide) (by decide) rfl d_Switch_moveAnswer_57 g1 ?_
    show J _ _ _ _ (va_rf (q3.2.2.2 x0 6) :: _) _ _ _ _ _ _
    refine J_iload_n d_Switch_moveAnswer_60 rfl ?_
    obtain ⟨a7, ha7, H⟩ := Option.bind_eq_some_iff.mp H
    rw [j_rf ha7]
    obtain ⟨N8, hN8, H⟩ := Option.bind_eq_some_iff.mp H
    obtain ⟨k9, hk9, H⟩ := Option.bind_eq_some_iff.mp H
    refine F_aald k9 hw hG (t := 4) rfl (by decide) d_Switch_moveAnswer_61 (gA_some hN8) (ix_some hk9) ?_
    show J _ _ _ _ (va_rf (q3.2.2.2 a7 k9) :: _) _ _ _ _ _ _
    refine J_iload d_Switch_moveAnswer_62 rfl ?_
    obtain ⟨q10, hq10, H⟩ := Option.bind_eq_some_iff.mp H
    refine J_callS (kc := 0) (ks := 0) (kc' := 0) (ks' := 0) (as := [.int q3.1]) (st := [va_rf (q3.2.2.2 a7 k9)]) (mf_Bus_restId hw) (ms_Switch_251 hw) d_Switch_moveAnswer_64 ln_Bus_restId (by decide) (by first | exact Nat.le_of_ble_eq_true rfl | (simp only [List.map_cons, List.map_nil, List.sum_cons, List.sum_nil, va_rf_cat]; exact Nat.le_of_ble_eq_true rfl)) rfl (p_Bus_restId hw hG hq10) ?_ (fun E h' n' x' e1 => by cases e1.1)
    intro v9 h9 n9 x9 e9
    obtain ⟨e91, e92, e93⟩ := e9
    cases e91
    subst e92
    subst e93
    clear x
    rename Bool => x
    show J _ _ _ _ (_ :: _) _ _ _ _ _ _
    obtain ⟨a11, ha11, H⟩ := Option.bind_eq_some_iff.mp H
    rw [j_rf ha11]
    have g12 : Γ a11 = .inr 9 := by
      apply Classical.byContradiction
      intro q9
      rw [if_neg q9] at H
      cases H
    rw [if_pos g12] at H
    obtain ⟨q13, hq13, H⟩ := Option.bind_eq_some_iff.mp H
    refine J_callV (kc := 0) (ks := 0) (kc' := 0) (ks' := 0) (a := a11) (ci := 9) (as := [.int q10.1]) (st := []) (mf_UnderWay_removeFirst hw) (mv_Switch_254 hw) d_Switch_moveAnswer_67 ln_UnderWay_removeFirst (by decide) (by first | exact Nat.le_of_ble_eq_true rfl | (simp only [List.map_cons, List.map_nil, List.sum_cons, List.sum_nil, va_rf_cat]; exact Nat.le_of_ble_eq_true rfl)) rfl ((hG _).1 _ g12 (by decide)).1 ((hG _).1 _ g12 (by decide)).2 (by unfold pic; rw [g12]; rfl) (jcl_at hw rfl) rfl (p_UnderWay_removeFirst hw hG hq13) ?_ (fun E h' n' x' e1 => by cases e1.1)
    intro v9 h9 n9 x9 e9
    obtain ⟨e91, e92, e93⟩ := e9
    cases e91
    subst e92
    subst e93
    clear x
    rename Bool => x
    show J _ _ _ _ [] _ _ _ _ _ _
    have H := Option.some.inj H
    subst H
    exact J_vret (st := []) d_Switch_moveAnswer_70 rfl ⟨rfl, rfl, rfl⟩
  · intro c14
    rw [if_pos c14] at H
    have H := Option.some.inj H
    subst H
    exact J_vret (st := []) d_Switch_moveAnswer_36 rfl ⟨rfl, rfl, rfl⟩
def f_Switch_moveAnswer (Γ : gm_T) (φ : ph_T) (this : Nat) (p0 : Int32) : Option (Unit × ph_T) :=
  @ite _ (Γ this = .inr 10) _ (
  Option.bind (f_Switch_ofMaster Γ φ this p0 (2 : Int32)) fun q16 =>
  Option.bind q16.1 fun a17 =>
  @ite _ (Γ a17 = .inr 3) _ (
  Option.bind (f_Row_hasRoom Γ q16.2 a17) fun q19 =>
  if q19.1 = 0 then
    f_Switch_moveAnswer_L30 Γ  q19.2 this p0 (some a17) (-1 : Int32)
  else
    Option.bind (q19.2.2.2 this 10) fun a20 =>
    Option.bind (gA Γ a20 0) fun N21 =>
    Option.bind (ix p0 N21) fun k22 =>
    Option.bind (f_Switch_giverFor Γ q19.2 this p0 (2 : Int32) (q19.2.1 a20 k22)) fun q23 =>
    f_Switch_moveAnswer_L30 Γ  q23.2 this p0 (some a17) q23.1
  ) none
  ) none
set_option maxRecDepth 100000 in
set_option maxHeartbeats 4000000 in
theorem p_Switch_moveAnswer {w : jw_T} (hw : jok w) {Γ : gm_T} {n : Nat} (hG : gd w Γ n) {x : Bool} {φ : ph_T} {this : Nat} {p0 : Int32} {q : Unit × ph_T} (H : f_Switch_moveAnswer Γ φ this p0 = some q) : jc w M_Switch_moveAnswer [.ref this, .int p0] (pic Γ φ) n x 0 0 (fq Γ n (.inl none) q.2) := by
  refine jc.of (by simp only [jent_r, jent_i, jent_l, jent_a, jent_0]; exact Nat.le_of_ble_eq_true rfl) ?_
  have hls : jents [.ref this, .int p0] (jm_nL M_Switch_moveAnswer) = [some (.ref this), some (.int p0), none, none, none] := by simp only [jents, jent_r, jent_i, jent_l, jent_a, jent_0]; rfl
  rw [hls]
  clear hls
  unfold f_Switch_moveAnswer at H
  refine J_aload_n d_Switch_moveAnswer_0 rfl ?_
  refine J_iload_n d_Switch_moveAnswer_1 rfl ?_
  refine J_iconst (v := 2) d_Switch_moveAnswer_2 (by decide) ?_
  have g15 : Γ this = .inr 10 := by
    apply Classical.byContradiction
    intro q9
    rw [if_neg q9] at H
    cases H
  rw [if_pos g15] at H
  obtain ⟨q16, hq16, H⟩ := Option.bind_eq_some_iff.mp H
  refine J_callV (kc := 0) (ks := 0) (kc' := 0) (ks' := 0) (a := this) (ci := 10) (as := [.int p0, .int (2 : Int32)]) (st := []) (mf_Switch_ofMaster hw) (mv_Switch_107 hw) d_Switch_moveAnswer_3 ln_Switch_ofMaster (by decide) (by first | exact Nat.le_of_ble_eq_true rfl | (simp only [List.map_cons, List.map_nil, List.sum_cons, List.sum_nil, va_rf_cat]; exact Nat.le_of_ble_eq_true rfl)) rfl ((hG _).1 _ g15 (by decide)).1 ((hG _).1 _ g15 (by decide)).2 (by unfold pic; rw [g15]; rfl) (jcl_at hw rfl) rfl (p_Switch_ofMaster hw hG hq16) ?_ (fun E h' n' x' e1 => by cases e1.1)
  intro v9 h9 n9 x9 e9
  obtain ⟨e91, e92, e93⟩ := e9
  cases e91
  subst e92
  subst e93
  clear x
  rename Bool => x
  show J _ _ _ _ (_ :: _) _ _ _ _ _ _
  refine J_astore_nO d_Switch_moveAnswer_6 (Nat.le_of_ble_eq_true rfl) ?_
  refine J.ls (ls' := [some (.ref this), some (.int p0), some (va_rf q16.1), none, none]) rfl ?_
  refine J_aload_nO d_Switch_moveAnswer_7 rfl ?_
  obtain ⟨a17, ha17, H⟩ := Option.bind_eq_some_iff.mp H
  rw [j_rf ha17]
  have g18 : Γ a17 = .inr 3 := by
    apply Classical.byContradiction
    intro q9
    rw [if_neg q9] at H
    cases H
  rw [if_pos g18] at H
  obtain ⟨q19, hq19, H⟩ := Option.bind_eq_some_iff.mp H
  refine J_callV (kc := 0) (ks := 0) (kc' := 0) (ks' := 0) (a := a17) (ci := 3) (as := []) (st := []) (mf_Row_hasRoom hw) (mv_Switch_127 hw) d_Switch_moveAnswer_8 ln_Row_hasRoom (by decide) (by first | exact Nat.le_of_ble_eq_true rfl | (simp only [List.map_cons, List.map_nil, List.sum_cons, List.sum_nil, va_rf_cat]; exact Nat.le_of_ble_eq_true rfl)) rfl ((hG _).1 _ g18 (by decide)).1 ((hG _).1 _ g18 (by decide)).2 (by unfold pic; rw [g18]; rfl) (jcl_at hw rfl) rfl (p_Row_hasRoom hw hG hq19) ?_ (fun E h' n' x' e1 => by cases e1.1)
  intro v9 h9 n9 x9 e9
  obtain ⟨e91, e92, e93⟩ := e9
  cases e91
  subst e92
  subst e93
  clear x
  rename Bool => x
  show J _ _ _ _ (_ :: _) _ _ _ _ _ _
  refine J_if_eq (tgt := 29) d_Switch_moveAnswer_11 (by decide) ?_ ?_
  · intro c24
    rw [if_pos c24] at H
    refine J_iconst (v := -1) d_Switch_moveAnswer_29 (by decide) ?_
    refine J.drop [true, true, true, false, false] rfl ?_
    exact p_Switch_moveAnswer_L30 hw hG  H
  · intro c24
    rw [if_neg c24] at H
    refine J_aload_n d_Switch_moveAnswer_14 rfl ?_
    refine J_iload_n d_Switch_moveAnswer_15 rfl ?_
    refine J_iconst (v := 2) d_Switch_moveAnswer_16 (by decide) ?_
    refine J_aload_n d_Switch_moveAnswer_17 rfl ?_
    refine F_getR (ci := 10) (k := 10) hG (cf_Switch hw) (fl_Switch_52 hw) (by decide) (by decide) rfl d_Switch_moveAnswer_18 g15 ?_
    refine J_iload_n d_Switch_moveAnswer_21 rfl ?_
    obtain ⟨a20, ha20, H⟩ := Option.bind_eq_some_iff.mp H
    rw [j_rf ha20]
    obtain ⟨N21, hN21, H⟩ := Option.bind_eq_some_iff.mp H
    obtain ⟨k22, hk22, H⟩ := Option.bind_eq_some_iff.mp H
    refine F_iald k22 hw hG d_Switch_moveAnswer_22 (gA_some hN21) (ix_some hk22) ?_
    obtain ⟨q23, hq23, H⟩ := Option.bind_eq_some_iff.mp H
    refine J_callV (kc := 0) (ks := 0) (kc' := 0) (ks' := 0) (a := this) (ci := 10) (as := [.int p0, .int (2 : Int32), .int (q19.2.1 a20 k22)]) (st := []) (mf_Switch_giverFor hw) (mv_Switch_244 hw) d_Switch_moveAnswer_23 ln_Switch_giverFor (by decide) (by first | exact Nat.le_of_ble_eq_true rfl | (simp only [List.map_cons, List.map_nil, List.sum_cons, List.sum_nil, va_rf_cat]; exact Nat.le_of_ble_eq_true rfl)) rfl ((hG _).1 _ g15 (by decide)).1 ((hG _).1 _ g15 (by decide)).2 (by unfold pic; rw [g15]; rfl) (jcl_at hw rfl) rfl (p_Switch_giverFor hw hG hq23) ?_ (fun E h' n' x' e1 => by cases e1.1)
    intro v9 h9 n9 x9 e9
    obtain ⟨e91, e92, e93⟩ := e9
    cases e91
    subst e92
    subst e93
    clear x
    rename Bool => x
    show J _ _ _ _ (_ :: _) _ _ _ _ _ _
    refine J_goto (tgt := 30) d_Switch_moveAnswer_26 (by decide) ?_
    refine J.drop [true, true, true, false, false] rfl ?_
    exact p_Switch_moveAnswer_L30 hw hG  H
theorem ln_Switch_readGiverFor : (parseMethodDescriptor y_Switch_readGiverFor.desc).map (fun q => q.parameters.length) = some 1 := by decide +kernel
def f_Switch_readGiverFor_L44 (Γ : gm_T)  (φ : ph_T) (x0 : Nat) (x1 : Int32) (x2 : Int32) : Option (Int32 × ph_T) :=
  @ite _ (Γ x0 = .inr 10) _ (
  Option.bind (f_Switch_giverFor Γ φ x0 x1 (4 : Int32) x2) fun q2 =>
  some (q2.1, q2.2)
  ) none
set_option maxRecDepth 100000 in
set_option maxHeartbeats 4000000 in
theorem p_Switch_readGiverFor_L44 {w : jw_T} (hw : jok w) {Γ : gm_T} {n : Nat} (hG : gd w Γ n)  {x : Bool} {φ : ph_T} {x0 : Nat} {x1 : Int32} {x2 : Int32} {q : Int32 × ph_T} (H : f_Switch_readGiverFor_L44 Γ  φ x0 x1 x2 = some q) : J w M_Switch_readGiverFor 44 [some (.ref x0), some (.int x1), some (.int x2)] [] (pic Γ φ) n x 0 0 (fq Γ n (.inl (some (.int q.1))) q.2) := by
  unfold f_Switch_readGiverFor_L44 at H
  refine J_aload_n d_Switch_readGiverFor_44 rfl ?_
  refine J_iload_n d_Switch_readGiverFor_45 rfl ?_
  refine J_iconst (v := 4) d_Switch_readGiverFor_46 (by decide) ?_
  refine J_iload_n d_Switch_readGiverFor_47 rfl ?_
  have g1 : Γ x0 = .inr 10 := by
    apply Classical.byContradiction
    intro q9
    rw [if_neg q9] at H
    cases H
  rw [if_pos g1] at H
  obtain ⟨q2, hq2, H⟩ := Option.bind_eq_some_iff.mp H
  refine J_callV (kc := 0) (ks := 0) (kc' := 0) (ks' := 0) (a := x0) (ci := 10) (as := [.int x1, .int (4 : Int32), .int x2]) (st := []) (mf_Switch_giverFor hw) (mv_Switch_244 hw) d_Switch_readGiverFor_48 ln_Switch_giverFor (by decide) (by first | exact Nat.le_of_ble_eq_true rfl | (simp only [List.map_cons, List.map_nil, List.sum_cons, List.sum_nil, va_rf_cat]; exact Nat.le_of_ble_eq_true rfl)) rfl ((hG _).1 _ g1 (by decide)).1 ((hG _).1 _ g1 (by decide)).2 (by unfold pic; rw [g1]; rfl) (jcl_at hw rfl) rfl (p_Switch_giverFor hw hG hq2) ?_ (fun E h' n' x' e1 => by cases e1.1)
  intro v9 h9 n9 x9 e9
  obtain ⟨e91, e92, e93⟩ := e9
  cases e91
  subst e92
  subst e93
  clear x
  rename Bool => x
  show J _ _ _ _ (_ :: _) _ _ _ _ _ _
  have H := Option.some.inj H
  subst H
  exact J_iret (st := []) d_Switch_readGiverFor_51 rfl rfl ⟨rfl, rfl, rfl⟩
def f_Switch_readGiverFor_L43 (Γ : gm_T)  (φ : ph_T) (y0 : Int32) : Option (Int32 × ph_T) :=
  some (y0, φ)
set_option maxRecDepth 100000 in
set_option maxHeartbeats 4000000 in
theorem p_Switch_readGiverFor_L43 {w : jw_T} (hw : jok w) {Γ : gm_T} {n : Nat} (hG : gd w Γ n)  {x : Bool} {φ : ph_T} {y0 : Int32} {q : Int32 × ph_T} (H : f_Switch_readGiverFor_L43 Γ  φ y0 = some q) : J w M_Switch_readGiverFor 43 [none, none, none] [.int y0] (pic Γ φ) n x 0 0 (fq Γ n (.inl (some (.int q.1))) q.2) := by
  unfold f_Switch_readGiverFor_L43 at H
  have H := Option.some.inj H
  subst H
  exact J_iret (st := []) d_Switch_readGiverFor_43 rfl rfl ⟨rfl, rfl, rfl⟩
def f_Switch_readGiverFor (Γ : gm_T) (φ : ph_T) (this : Nat) (p0 : Int32) : Option (Int32 × ph_T) :=
  @ite _ (Γ this = .inr 10) _ (
  Option.bind (φ.2.2 this 11) fun a4 =>
  Option.bind (gA Γ a4 0) fun N5 =>
  Option.bind (ix p0 N5) fun k6 =>
  if (φ.1 this 14) = 0 then
    f_Switch_readGiverFor_L44 Γ  φ this p0 (φ.1 a4 k6)
  else
    Option.bind (φ.2.2 this 12) fun a7 =>
    Option.bind (gA Γ a7 2) fun N8 =>
    Option.bind (ix p0 N8) fun k9 =>
    if (φ.1 a7 k9) = 0 then
      f_Switch_readGiverFor_L44 Γ  φ this p0 (φ.1 a4 k6)
    else
      if (φ.1 a4 k6) = (-1 : Int32) then
        f_Switch_readGiverFor_L44 Γ  φ this p0 (φ.1 a4 k6)
      else
        Option.bind (f_Switch_gives Γ φ this (φ.1 a4 k6) p0 (4 : Int32)) fun q10 =>
        if q10.1 = 0 then
          f_Switch_readGiverFor_L43 Γ  q10.2 (-1 : Int32)
        else
          f_Switch_readGiverFor_L43 Γ  q10.2 (φ.1 a4 k6)
  ) none
set_option maxRecDepth 100000 in
set_option maxHeartbeats 4000000 in
theorem p_Switch_readGiverFor {w : jw_T} (hw : jok w) {Γ : gm_T} {n : Nat} (hG : gd w Γ n) {x : Bool} {φ : ph_T} {this : Nat} {p0 : Int32} {q : Int32 × ph_T} (H : f_Switch_readGiverFor Γ φ this p0 = some q) : jc w M_Switch_readGiverFor [.ref this, .int p0] (pic Γ φ) n x 0 0 (fq Γ n (.inl (some (.int q.1))) q.2) := by
  refine jc.of (by simp only [jent_r, jent_i, jent_l, jent_a, jent_0]; exact Nat.le_of_ble_eq_true rfl) ?_
  have hls : jents [.ref this, .int p0] (jm_nL M_Switch_readGiverFor) = [some (.ref this), some (.int p0), none] := by simp only [jents, jent_r, jent_i, jent_l, jent_a, jent_0]; rfl
  rw [hls]
  clear hls
  unfold f_Switch_readGiverFor at H
  refine J_aload_n d_Switch_readGiverFor_0 rfl ?_
  have g3 : Γ this = .inr 10 := by
    apply Classical.byContradiction
    intro q9
    rw [if_neg q9] at H
    cases H
  rw [if_pos g3] at H
  refine F_getR (ci := 10) (k := 11) hG (cf_Switch hw) (fl_Switch_55 hw) (by decide) (by decide) rfl d_Switch_readGiverFor_1 g3 ?_
  refine J_iload_n d_Switch_readGiverFor_4 rfl ?_
  obtain ⟨a4, ha4, H⟩ := Option.bind_eq_some_iff.mp H
  rw [j_rf ha4]
  obtain ⟨N5, hN5, H⟩ := Option.bind_eq_some_iff.mp H
  obtain ⟨k6, hk6, H⟩ := Option.bind_eq_some_iff.mp H
  refine F_iald k6 hw hG d_Switch_readGiverFor_5 (gA_some hN5) (ix_some hk6) ?_
  refine J_istore_n d_Switch_readGiverFor_6 (Nat.le_of_ble_eq_true rfl) ?_
  refine J.ls (ls' := [some (.ref this), some (.int p0), some (.int (φ.1 a4 k6))]) rfl ?_
  refine J_aload_n d_Switch_readGiverFor_7 rfl ?_
  refine F_getI (ci := 10) (k := 14) hG (cf_Switch hw) (fl_Switch_83 hw) (by decide) (by decide) rfl d_Switch_readGiverFor_8 g3 ?_
  refine J_if_eq (tgt := 44) d_Switch_readGiverFor_11 (by decide) ?_ ?_
  · intro c14
    rw [if_pos c14] at H
    refine J.drop [true, true, true] rfl ?_
    exact p_Switch_readGiverFor_L44 hw hG  H
  · intro c14
    rw [if_neg c14] at H
    refine J_aload_n d_Switch_readGiverFor_14 rfl ?_
    refine F_getR (ci := 10) (k := 12) hG (cf_Switch hw) (fl_Switch_58 hw) (by decide) (by decide) rfl d_Switch_readGiverFor_15 g3 ?_
    refine J_iload_n d_Switch_readGiverFor_18 rfl ?_
    obtain ⟨a7, ha7, H⟩ := Option.bind_eq_some_iff.mp H
    rw [j_rf ha7]
    obtain ⟨N8, hN8, H⟩ := Option.bind_eq_some_iff.mp H
    obtain ⟨k9, hk9, H⟩ := Option.bind_eq_some_iff.mp H
    refine F_zald k9 hw hG d_Switch_readGiverFor_19 (gA_some hN8) (ix_some hk9) ?_
    refine J_if_eq (tgt := 44) d_Switch_readGiverFor_20 (by decide) ?_ ?_
    · intro c13
      rw [if_pos c13] at H
      refine J.drop [true, true, true] rfl ?_
      exact p_Switch_readGiverFor_L44 hw hG  H
    · intro c13
      rw [if_neg c13] at H
      refine J_iload_n d_Switch_readGiverFor_23 rfl ?_
      refine J_iconst (v := -1) d_Switch_readGiverFor_24 (by decide) ?_
      refine J_icmp_eq (tgt := 44) d_Switch_readGiverFor_25 (by decide) ?_ ?_
      · intro c12
        rw [if_pos c12] at H
        refine J.drop [true, true, true] rfl ?_
        exact p_Switch_readGiverFor_L44 hw hG  H
      · intro c12
        rw [if_neg c12] at H
        refine J_aload_n d_Switch_readGiverFor_28 rfl ?_
        refine J_iload_n d_Switch_readGiverFor_29 rfl ?_
        refine J_iload_n d_Switch_readGiverFor_30 rfl ?_
        refine J_iconst (v := 4) d_Switch_readGiverFor_31 (by decide) ?_
        obtain ⟨q10, hq10, H⟩ := Option.bind_eq_some_iff.mp H
        refine J_callV (kc := 0) (ks := 0) (kc' := 0) (ks' := 0) (a := this) (ci := 10) (as := [.int (φ.1 a4 k6), .int p0, .int (4 : Int32)]) (st := []) (mf_Switch_gives hw) (mv_Switch_260 hw) d_Switch_readGiverFor_32 ln_Switch_gives (by decide) (by first | exact Nat.le_of_ble_eq_true rfl | (simp only [List.map_cons, List.map_nil, List.sum_cons, List.sum_nil, va_rf_cat]; exact Nat.le_of_ble_eq_true rfl)) rfl ((hG _).1 _ g3 (by decide)).1 ((hG _).1 _ g3 (by decide)).2 (by unfold pic; rw [g3]; rfl) (jcl_at hw rfl) rfl (p_Switch_gives hw hG hq10) ?_ (fun E h' n' x' e1 => by cases e1.1)
        intro v9 h9 n9 x9 e9
        obtain ⟨e91, e92, e93⟩ := e9
        cases e91
        subst e92
        subst e93
        clear x
        rename Bool => x
        show J _ _ _ _ (_ :: _) _ _ _ _ _ _
        refine J_if_eq (tgt := 42) d_Switch_readGiverFor_35 (by decide) ?_ ?_
        · intro c11
          rw [if_pos c11] at H
          refine J_iconst (v := -1) d_Switch_readGiverFor_42 (by decide) ?_
          refine J.drop [false, false, false] rfl ?_
          exact p_Switch_readGiverFor_L43 hw hG  H
        · intro c11
          rw [if_neg c11] at H
          refine J_iload_n d_Switch_readGiverFor_38 rfl ?_
          refine J_goto (tgt := 43) d_Switch_readGiverFor_39 (by decide) ?_
          refine J.drop [false, false, false] rfl ?_
          exact p_Switch_readGiverFor_L43 hw hG  H
theorem ln_Switch_moveReadBeat : (parseMethodDescriptor y_Switch_moveReadBeat.desc).map (fun q => q.parameters.length) = some 1 := by decide +kernel
def f_Switch_moveReadBeat_L90 (Γ : gm_T)  (φ : ph_T) : Option (Unit × ph_T) :=
  some ((), φ)
set_option maxRecDepth 100000 in
set_option maxHeartbeats 4000000 in
theorem p_Switch_moveReadBeat_L90 {w : jw_T} (hw : jok w) {Γ : gm_T} {n : Nat} (hG : gd w Γ n)  {x : Bool} {φ : ph_T} {q : Unit × ph_T} (H : f_Switch_moveReadBeat_L90 Γ  φ  = some q) : J w M_Switch_moveReadBeat 90 [none, none, none, none, none] [] (pic Γ φ) n x 0 0 (fq Γ n (.inl none) q.2) := by
  unfold f_Switch_moveReadBeat_L90 at H
  have H := Option.some.inj H
  subst H
  exact J_vret (st := []) d_Switch_moveReadBeat_90 rfl ⟨rfl, rfl, rfl⟩
def f_Switch_moveReadBeat_L67 (Γ : gm_T)  (φ : ph_T) (x0 : Nat) (x1 : Int32) (x4 : Int32) (y0 : Int32) (y1 : Int32) (y2 : Option Nat) : Option (Unit × ph_T) :=
  Option.bind y2 fun a1 =>
  Option.bind (gA Γ a1 2) fun N2 =>
  Option.bind (ix y1 N2) fun k3 =>
  @ite _ (y0 = 0 ∨ y0 = 1) _ (
  Option.bind (f_Bus_restLast Γ (uI φ a1 k3 y0) x4) fun q5 =>
  if q5.1 = 0 then
    f_Switch_moveReadBeat_L90 Γ  q5.2 
  else
    @ite _ (Γ x0 = .inr 10) _ (
    Option.bind (q5.2.2.2 x0 7) fun a7 =>
    Option.bind (gA Γ a7 4) fun N8 =>
    Option.bind (ix x1 N8) fun k9 =>
    Option.bind (f_Bus_restId Γ q5.2 x4) fun q10 =>
    Option.bind (q5.2.2.2 a7 k9) fun a11 =>
    @ite _ (Γ a11 = .inr 9) _ (
    Option.bind (f_UnderWay_removeFirst Γ q10.2 a11 q10.1) fun q13 =>
    f_Switch_moveReadBeat_L90 Γ  q13.2 
    ) none
    ) none
  ) none
set_option maxRecDepth 100000 in
set_option maxHeartbeats 4000000 in
theorem p_Switch_moveReadBeat_L67 {w : jw_T} (hw : jok w) {Γ : gm_T} {n : Nat} (hG : gd w Γ n)  {x : Bool} {φ : ph_T} {x0 : Nat} {x1 : Int32} {x4 : Int32} {y0 : Int32} {y1 : Int32} {y2 : Option Nat} {q : Unit × ph_T} (H : f_Switch_moveReadBeat_L67 Γ  φ x0 x1 x4 y0 y1 y2 = some q) : J w M_Switch_moveReadBeat 67 [some (.ref x0), some (.int x1), none, none, some (.int x4)] [.int y0, .int y1, va_rf y2] (pic Γ φ) n x 0 0 (fq Γ n (.inl none) q.2) := by
  unfold f_Switch_moveReadBeat_L67 at H
  obtain ⟨a1, ha1, H⟩ := Option.bind_eq_some_iff.mp H
  rw [j_rf ha1]
  obtain ⟨N2, hN2, H⟩ := Option.bind_eq_some_iff.mp H
  obtain ⟨k3, hk3, H⟩ := Option.bind_eq_some_iff.mp H
  have z4 : y0 = 0 ∨ y0 = 1 := by
    apply Classical.byContradiction
    intro q9
    rw [if_neg q9] at H
    cases H
  rw [if_pos z4] at H
  refine F_zast k3 hw hG d_Switch_moveReadBeat_67 (gA_some hN2) (ix_some hk3) z4 ?_
  refine J_iload d_Switch_moveReadBeat_68 rfl ?_
  obtain ⟨q5, hq5, H⟩ := Option.bind_eq_some_iff.mp H
  refine J_callS (kc := 0) (ks := 0) (kc' := 0) (ks' := 0) (as := [.int x4]) (st := []) (mf_Bus_restLast hw) (ms_Switch_237 hw) d_Switch_moveReadBeat_70 ln_Bus_restLast (by decide) (by first | exact Nat.le_of_ble_eq_true rfl | (simp only [List.map_cons, List.map_nil, List.sum_cons, List.sum_nil, va_rf_cat]; exact Nat.le_of_ble_eq_true rfl)) rfl (p_Bus_restLast hw hG hq5) ?_ (fun E h' n' x' e1 => by cases e1.1)
  intro v9 h9 n9 x9 e9
  obtain ⟨e91, e92, e93⟩ := e9
  cases e91
  subst e92
  subst e93
  clear x
  rename Bool => x
  show J _ _ _ _ (_ :: _) _ _ _ _ _ _
  refine J_if_eq (tgt := 90) d_Switch_moveReadBeat_73 (by decide) ?_ ?_
  · intro c14
    rw [if_pos c14] at H
    refine J.drop [false, false, false, false, false] rfl ?_
    exact p_Switch_moveReadBeat_L90 hw hG  H
  · intro c14
    rw [if_neg c14] at H
    refine J_aload_n d_Switch_moveReadBeat_76 rfl ?_
    have g6 : Γ x0 = .inr 10 := by
      apply Classical.byContradiction
      intro q9
      rw [if_neg q9] at H
      cases H
    rw [if_pos g6] at H
    refine F_getR (ci := 10) (k := 7) hG (cf_Switch hw) (fl_Switch_42 hw) (by decide) (by decide) rfl d_Switch_moveReadBeat_77 g6 ?_
    refine J_iload_n d_Switch_moveReadBeat_80 rfl ?_
    obtain ⟨a7, ha7, H⟩ := Option.bind_eq_some_iff.mp H
    rw [j_rf ha7]
    obtain ⟨N8, hN8, H⟩ := Option.bind_eq_some_iff.mp H
    obtain ⟨k9, hk9, H⟩ := Option.bind_eq_some_iff.mp H
    refine F_aald k9 hw hG (t := 4) rfl (by decide) d_Switch_moveReadBeat_81 (gA_some hN8) (ix_some hk9) ?_
    refine J_iload d_Switch_moveReadBeat_82 rfl ?_
    obtain ⟨q10, hq10, H⟩ := Option.bind_eq_some_iff.mp H
    refine J_callS (kc := 0) (ks := 0) (kc' := 0) (ks' := 0) (as := [.int x4]) (st := [va_rf (q5.2.2.2 a7 k9)]) (mf_Bus_restId hw) (ms_Switch_251 hw) d_Switch_moveReadBeat_84 ln_Bus_restId (by decide) (by first | exact Nat.le_of_ble_eq_true rfl | (simp only [List.map_cons, List.map_nil, List.sum_cons, List.sum_nil, va_rf_cat]; exact Nat.le_of_ble_eq_true rfl)) rfl (p_Bus_restId hw hG hq10) ?_ (fun E h' n' x' e1 => by cases e1.1)
    intro v9 h9 n9 x9 e9
    obtain ⟨e91, e92, e93⟩ := e9
    cases e91
    subst e92
    subst e93
    clear x
    rename Bool => x
    show J _ _ _ _ (_ :: _) _ _ _ _ _ _
    obtain ⟨a11, ha11, H⟩ := Option.bind_eq_some_iff.mp H
    rw [j_rf ha11]
    have g12 : Γ a11 = .inr 9 := by
      apply Classical.byContradiction
      intro q9
      rw [if_neg q9] at H
      cases H
    rw [if_pos g12] at H
    obtain ⟨q13, hq13, H⟩ := Option.bind_eq_some_iff.mp H
    refine J_callV (kc := 0) (ks := 0) (kc' := 0) (ks' := 0) (a := a11) (ci := 9) (as := [.int q10.1]) (st := []) (mf_UnderWay_removeFirst hw) (mv_Switch_254 hw) d_Switch_moveReadBeat_87 ln_UnderWay_removeFirst (by decide) (by first | exact Nat.le_of_ble_eq_true rfl | (simp only [List.map_cons, List.map_nil, List.sum_cons, List.sum_nil, va_rf_cat]; exact Nat.le_of_ble_eq_true rfl)) rfl ((hG _).1 _ g12 (by decide)).1 ((hG _).1 _ g12 (by decide)).2 (by unfold pic; rw [g12]; rfl) (jcl_at hw rfl) rfl (p_UnderWay_removeFirst hw hG hq13) ?_ (fun E h' n' x' e1 => by cases e1.1)
    intro v9 h9 n9 x9 e9
    obtain ⟨e91, e92, e93⟩ := e9
    cases e91
    subst e92
    subst e93
    clear x
    rename Bool => x
    show J _ _ _ _ [] _ _ _ _ _ _
    refine J.drop [false, false, false, false, false] rfl ?_
    exact p_Switch_moveReadBeat_L90 hw hG  H
def f_Switch_moveReadBeat_L23 (Γ : gm_T)  (φ : ph_T) (x0 : Nat) (x1 : Int32) (x2 : Option Nat) (y0 : Int32) : Option (Unit × ph_T) :=
  if y0 = (-1 : Int32) then
    some ((), φ)
  else
    @ite _ (Γ x0 = .inr 10) _ (
    Option.bind (f_Switch_ofTarget Γ φ x0 y0 (4 : Int32)) fun q16 =>
    Option.bind (f_Switch_moveBack Γ q16.2 q16.1 x2) fun q17 =>
    Option.bind (q17.2.2.2 x0 11) fun a18 =>
    Option.bind (gA Γ a18 0) fun N19 =>
    Option.bind (ix x1 N19) fun k20 =>
    Option.bind (f_Bus_restLast Γ (uI q17.2 a18 k20 y0) q17.1) fun q21 =>
    if q21.1 = 0 then
      f_Switch_moveReadBeat_L67 Γ  q21.2 x0 x1 q17.1 (1 : Int32) x1 (q17.2.2.2 x0 12)
    else
      f_Switch_moveReadBeat_L67 Γ  q21.2 x0 x1 q17.1 (0 : Int32) x1 (q17.2.2.2 x0 12)
    ) none
set_option maxRecDepth 100000 in
set_option maxHeartbeats 4000000 in
theorem p_Switch_moveReadBeat_L23 {w : jw_T} (hw : jok w) {Γ : gm_T} {n : Nat} (hG : gd w Γ n)  {x : Bool} {φ : ph_T} {x0 : Nat} {x1 : Int32} {x2 : Option Nat} {y0 : Int32} {q : Unit × ph_T} (H : f_Switch_moveReadBeat_L23 Γ  φ x0 x1 x2 y0 = some q) : J w M_Switch_moveReadBeat 23 [some (.ref x0), some (.int x1), some (va_rf x2), none, none] [.int y0] (pic Γ φ) n x 0 0 (fq Γ n (.inl none) q.2) := by
  unfold f_Switch_moveReadBeat_L23 at H
  refine J_istore_n d_Switch_moveReadBeat_23 (Nat.le_of_ble_eq_true rfl) ?_
  refine J.ls (ls' := [some (.ref x0), some (.int x1), some (va_rf x2), some (.int y0), none]) (jst1_o (i := 2) (r := x2) rfl) ?_
  refine J_iload_n d_Switch_moveReadBeat_24 rfl ?_
  refine J_iconst (v := -1) d_Switch_moveReadBeat_25 (by decide) ?_
  refine J_icmp_ne (tgt := 30) d_Switch_moveReadBeat_26 (by decide) ?_ ?_
  · intro c23
    rw [if_neg c23] at H
    refine J_aload_n d_Switch_moveReadBeat_30 rfl ?_
    refine J_iload_n d_Switch_moveReadBeat_31 rfl ?_
    refine J_iconst (v := 4) d_Switch_moveReadBeat_32 (by decide) ?_
    have g15 : Γ x0 = .inr 10 := by
      apply Classical.byContradiction
      intro q9
      rw [if_neg q9] at H
      cases H
    rw [if_pos g15] at H
    obtain ⟨q16, hq16, H⟩ := Option.bind_eq_some_iff.mp H
    refine J_callV (kc := 0) (ks := 0) (kc' := 0) (ks' := 0) (a := x0) (ci := 10) (as := [.int y0, .int (4 : Int32)]) (st := []) (mf_Switch_ofTarget hw) (mv_Switch_119 hw) d_Switch_moveReadBeat_33 ln_Switch_ofTarget (by decide) (by first | exact Nat.le_of_ble_eq_true rfl | (simp only [List.map_cons, List.map_nil, List.sum_cons, List.sum_nil, va_rf_cat]; exact Nat.le_of_ble_eq_true rfl)) rfl ((hG _).1 _ g15 (by decide)).1 ((hG _).1 _ g15 (by decide)).2 (by unfold pic; rw [g15]; rfl) (jcl_at hw rfl) rfl (p_Switch_ofTarget hw hG hq16) ?_ (fun E h' n' x' e1 => by cases e1.1)
    intro v9 h9 n9 x9 e9
    obtain ⟨e91, e92, e93⟩ := e9
    cases e91
    subst e92
    subst e93
    clear x
    rename Bool => x
    show J _ _ _ _ (_ :: _) _ _ _ _ _ _
    refine J_aload_nO d_Switch_moveReadBeat_36 rfl ?_
    obtain ⟨q17, hq17, H⟩ := Option.bind_eq_some_iff.mp H
    refine J_callS (kc := 0) (ks := 0) (kc' := 0) (ks' := 0) (as := [va_rf q16.1, va_rf x2]) (st := []) (mf_Switch_moveBack hw) (ms_Switch_247 hw) d_Switch_moveReadBeat_37 ln_Switch_moveBack (by decide) (by first | exact Nat.le_of_ble_eq_true rfl | (simp only [List.map_cons, List.map_nil, List.sum_cons, List.sum_nil, va_rf_cat]; exact Nat.le_of_ble_eq_true rfl)) rfl (p_Switch_moveBack hw hG hq17) ?_ (fun E h' n' x' e1 => by cases e1.1)
    intro v9 h9 n9 x9 e9
    obtain ⟨e91, e92, e93⟩ := e9
    cases e91
    subst e92
    subst e93
    clear x
    rename Bool => x
    show J _ _ _ _ (_ :: _) _ _ _ _ _ _
    refine J_istore d_Switch_moveReadBeat_40 (Nat.le_of_ble_eq_true rfl) ?_
    refine J.ls (ls' := [some (.ref x0), some (.int x1), some (va_rf x2), some (.int y0), some (.int q17.1)]) rfl ?_
    refine J_aload_n d_Switch_moveReadBeat_42 rfl ?_
    refine F_getR (ci := 10) (k := 11) hG (cf_Switch hw) (fl_Switch_55 hw) (by decide) (by decide) rfl d_Switch_moveReadBeat_43 g15 ?_
    refine J_iload_n d_Switch_moveReadBeat_46 rfl ?_
    refine J_iload_n d_Switch_moveReadBeat_47 rfl ?_
    obtain ⟨a18, ha18, H⟩ := Option.bind_eq_some_iff.mp H
    rw [j_rf ha18]
    obtain ⟨N19, hN19, H⟩ := Option.bind_eq_some_iff.mp H
    obtain ⟨k20, hk20, H⟩ := Option.bind_eq_some_iff.mp H
    refine F_iast k20 hw hG d_Switch_moveReadBeat_48 (gA_some hN19) (ix_some hk20) ?_
    refine J_aload_n d_Switch_moveReadBeat_49 rfl ?_
    refine F_getR (ci := 10) (k := 12) hG (cf_Switch hw) (fl_Switch_58 hw) (by decide) (by decide) rfl d_Switch_moveReadBeat_50 g15 ?_
    show J _ _ _ _ (va_rf (q17.2.2.2 x0 12) :: _) _ _ _ _ _ _
    refine J_iload_n d_Switch_moveReadBeat_53 rfl ?_
    refine J_iload d_Switch_moveReadBeat_54 rfl ?_
    obtain ⟨q21, hq21, H⟩ := Option.bind_eq_some_iff.mp H
    refine J_callS (kc := 0) (ks := 0) (kc' := 0) (ks' := 0) (as := [.int q17.1]) (st := [.int x1, va_rf (q17.2.2.2 x0 12)]) (mf_Bus_restLast hw) (ms_Switch_237 hw) d_Switch_moveReadBeat_56 ln_Bus_restLast (by decide) (by first | exact Nat.le_of_ble_eq_true rfl | (simp only [List.map_cons, List.map_nil, List.sum_cons, List.sum_nil, va_rf_cat]; exact Nat.le_of_ble_eq_true rfl)) rfl (p_Bus_restLast hw hG hq21) ?_ (fun E h' n' x' e1 => by cases e1.1)
    intro v9 h9 n9 x9 e9
    obtain ⟨e91, e92, e93⟩ := e9
    cases e91
    subst e92
    subst e93
    clear x
    rename Bool => x
    show J _ _ _ _ (_ :: _) _ _ _ _ _ _
    refine J_if_ne (tgt := 66) d_Switch_moveReadBeat_59 (by decide) ?_ ?_
    · intro c22
      rw [if_neg c22] at H
      refine J_iconst (v := 0) d_Switch_moveReadBeat_66 (by decide) ?_
      refine J.drop [true, true, false, false, true] rfl ?_
      exact p_Switch_moveReadBeat_L67 hw hG  H
    · intro c22
      rw [if_pos c22] at H
      refine J_iconst (v := 1) d_Switch_moveReadBeat_62 (by decide) ?_
      refine J_goto (tgt := 67) d_Switch_moveReadBeat_63 (by decide) ?_
      refine J.drop [true, true, false, false, true] rfl ?_
      exact p_Switch_moveReadBeat_L67 hw hG  H
  · intro c23
    rw [if_pos c23] at H
    have H := Option.some.inj H
    subst H
    exact J_vret (st := []) d_Switch_moveReadBeat_29 rfl ⟨rfl, rfl, rfl⟩
def f_Switch_moveReadBeat (Γ : gm_T) (φ : ph_T) (this : Nat) (p0 : Int32) : Option (Unit × ph_T) :=
  @ite _ (Γ this = .inr 10) _ (
  Option.bind (f_Switch_ofMaster Γ φ this p0 (4 : Int32)) fun q25 =>
  Option.bind q25.1 fun a26 =>
  @ite _ (Γ a26 = .inr 3) _ (
  Option.bind (f_Row_hasRoom Γ q25.2 a26) fun q28 =>
  if q28.1 = 0 then
    f_Switch_moveReadBeat_L23 Γ  q28.2 this p0 (some a26) (-1 : Int32)
  else
    Option.bind (f_Switch_readGiverFor Γ q28.2 this p0) fun q29 =>
    f_Switch_moveReadBeat_L23 Γ  q29.2 this p0 (some a26) q29.1
  ) none
  ) none
set_option maxRecDepth 100000 in
set_option maxHeartbeats 4000000 in
theorem p_Switch_moveReadBeat {w : jw_T} (hw : jok w) {Γ : gm_T} {n : Nat} (hG : gd w Γ n) {x : Bool} {φ : ph_T} {this : Nat} {p0 : Int32} {q : Unit × ph_T} (H : f_Switch_moveReadBeat Γ φ this p0 = some q) : jc w M_Switch_moveReadBeat [.ref this, .int p0] (pic Γ φ) n x 0 0 (fq Γ n (.inl none) q.2) := by
  refine jc.of (by simp only [jent_r, jent_i, jent_l, jent_a, jent_0]; exact Nat.le_of_ble_eq_true rfl) ?_
  have hls : jents [.ref this, .int p0] (jm_nL M_Switch_moveReadBeat) = [some (.ref this), some (.int p0), none, none, none] := by simp only [jents, jent_r, jent_i, jent_l, jent_a, jent_0]; rfl
  rw [hls]
  clear hls
  unfold f_Switch_moveReadBeat at H
  refine J_aload_n d_Switch_moveReadBeat_0 rfl ?_
  refine J_iload_n d_Switch_moveReadBeat_1 rfl ?_
  refine J_iconst (v := 4) d_Switch_moveReadBeat_2 (by decide) ?_
  have g24 : Γ this = .inr 10 := by
    apply Classical.byContradiction
    intro q9
    rw [if_neg q9] at H
    cases H
  rw [if_pos g24] at H
  obtain ⟨q25, hq25, H⟩ := Option.bind_eq_some_iff.mp H
  refine J_callV (kc := 0) (ks := 0) (kc' := 0) (ks' := 0) (a := this) (ci := 10) (as := [.int p0, .int (4 : Int32)]) (st := []) (mf_Switch_ofMaster hw) (mv_Switch_107 hw) d_Switch_moveReadBeat_3 ln_Switch_ofMaster (by decide) (by first | exact Nat.le_of_ble_eq_true rfl | (simp only [List.map_cons, List.map_nil, List.sum_cons, List.sum_nil, va_rf_cat]; exact Nat.le_of_ble_eq_true rfl)) rfl ((hG _).1 _ g24 (by decide)).1 ((hG _).1 _ g24 (by decide)).2 (by unfold pic; rw [g24]; rfl) (jcl_at hw rfl) rfl (p_Switch_ofMaster hw hG hq25) ?_ (fun E h' n' x' e1 => by cases e1.1)
  intro v9 h9 n9 x9 e9
  obtain ⟨e91, e92, e93⟩ := e9
  cases e91
  subst e92
  subst e93
  clear x
  rename Bool => x
  show J _ _ _ _ (_ :: _) _ _ _ _ _ _
  refine J_astore_nO d_Switch_moveReadBeat_6 (Nat.le_of_ble_eq_true rfl) ?_
  refine J.ls (ls' := [some (.ref this), some (.int p0), some (va_rf q25.1), none, none]) rfl ?_
  refine J_aload_nO d_Switch_moveReadBeat_7 rfl ?_
  obtain ⟨a26, ha26, H⟩ := Option.bind_eq_some_iff.mp H
  rw [j_rf ha26]
  have g27 : Γ a26 = .inr 3 := by
    apply Classical.byContradiction
    intro q9
    rw [if_neg q9] at H
    cases H
  rw [if_pos g27] at H
  obtain ⟨q28, hq28, H⟩ := Option.bind_eq_some_iff.mp H
  refine J_callV (kc := 0) (ks := 0) (kc' := 0) (ks' := 0) (a := a26) (ci := 3) (as := []) (st := []) (mf_Row_hasRoom hw) (mv_Switch_127 hw) d_Switch_moveReadBeat_8 ln_Row_hasRoom (by decide) (by first | exact Nat.le_of_ble_eq_true rfl | (simp only [List.map_cons, List.map_nil, List.sum_cons, List.sum_nil, va_rf_cat]; exact Nat.le_of_ble_eq_true rfl)) rfl ((hG _).1 _ g27 (by decide)).1 ((hG _).1 _ g27 (by decide)).2 (by unfold pic; rw [g27]; rfl) (jcl_at hw rfl) rfl (p_Row_hasRoom hw hG hq28) ?_ (fun E h' n' x' e1 => by cases e1.1)
  intro v9 h9 n9 x9 e9
  obtain ⟨e91, e92, e93⟩ := e9
  cases e91
  subst e92
  subst e93
  clear x
  rename Bool => x
  show J _ _ _ _ (_ :: _) _ _ _ _ _ _
  refine J_if_eq (tgt := 22) d_Switch_moveReadBeat_11 (by decide) ?_ ?_
  · intro c30
    rw [if_pos c30] at H
    refine J_iconst (v := -1) d_Switch_moveReadBeat_22 (by decide) ?_
    refine J.drop [true, true, true, false, false] rfl ?_
    exact p_Switch_moveReadBeat_L23 hw hG  H
  · intro c30
    rw [if_neg c30] at H
    refine J_aload_n d_Switch_moveReadBeat_14 rfl ?_
    refine J_iload_n d_Switch_moveReadBeat_15 rfl ?_
    obtain ⟨q29, hq29, H⟩ := Option.bind_eq_some_iff.mp H
    refine J_callV (kc := 0) (ks := 0) (kc' := 0) (ks' := 0) (a := this) (ci := 10) (as := [.int p0]) (st := []) (mf_Switch_readGiverFor hw) (mv_Switch_257 hw) d_Switch_moveReadBeat_16 ln_Switch_readGiverFor (by decide) (by first | exact Nat.le_of_ble_eq_true rfl | (simp only [List.map_cons, List.map_nil, List.sum_cons, List.sum_nil, va_rf_cat]; exact Nat.le_of_ble_eq_true rfl)) rfl ((hG _).1 _ g24 (by decide)).1 ((hG _).1 _ g24 (by decide)).2 (by unfold pic; rw [g24]; rfl) (jcl_at hw rfl) rfl (p_Switch_readGiverFor hw hG hq29) ?_ (fun E h' n' x' e1 => by cases e1.1)
    intro v9 h9 n9 x9 e9
    obtain ⟨e91, e92, e93⟩ := e9
    cases e91
    subst e92
    subst e93
    clear x
    rename Bool => x
    show J _ _ _ _ (_ :: _) _ _ _ _ _ _
    refine J_goto (tgt := 23) d_Switch_moveReadBeat_19 (by decide) ?_
    refine J.drop [true, true, true, false, false] rfl ?_
    exact p_Switch_moveReadBeat_L23 hw hG  H
theorem ln_Switch_moveAll : (parseMethodDescriptor y_Switch_moveAll.desc).map (fun q => q.parameters.length) = some 0 := by decide +kernel
def f_Switch_moveAll_L104 (Γ : gm_T)  : Nat → ph_T → Nat → Int32 → Option (Unit × ph_T)
  | 0, _, _, _ => none
  | fu + 1, φ, x0, x1 =>
    @ite _ (Γ x0 = .inr 10) _ (
    if (φ.1 x0 0) ≤ x1 then
      some ((), φ)
    else
      Option.bind (f_Switch_moveReadBeat Γ φ x0 x1) fun q2 =>
      (f_Switch_moveAll_L104 Γ  fu) q2.2 x0 (x1 + (1 : Int32))
    ) none
set_option maxRecDepth 100000 in
set_option maxHeartbeats 4000000 in
theorem p_Switch_moveAll_L104 {w : jw_T} (hw : jok w) {Γ : gm_T} {n : Nat} (hG : gd w Γ n)  : ∀ (fu : Nat) {x : Bool} {φ : ph_T} {x0 : Nat} {x1 : Int32} {q : Unit × ph_T}, f_Switch_moveAll_L104 Γ  fu φ x0 x1 = some q → J w M_Switch_moveAll 104 [some (.ref x0), some (.int x1)] [] (pic Γ φ) n x 0 0 (fq Γ n (.inl none) q.2) := by
  intro fu
  induction fu with
  | zero =>
    intro x φ x0 x1 q H
    cases H
  | succ fu ih =>
    intro x φ x0 x1 q H
    unfold f_Switch_moveAll_L104 at H
    refine J_iload_n d_Switch_moveAll_104 rfl ?_
    refine J_aload_n d_Switch_moveAll_105 rfl ?_
    have g1 : Γ x0 = .inr 10 := by
      apply Classical.byContradiction
      intro q9
      rw [if_neg q9] at H
      cases H
    rw [if_pos g1] at H
    refine F_getI (ci := 10) (k := 0) hG (cf_Switch hw) (fl_Switch_15 hw) (by decide) (by decide) rfl d_Switch_moveAll_106 g1 ?_
    refine J_icmp_ge (tgt := 123) d_Switch_moveAll_109 (by decide) ?_ ?_
    · intro c3
      rw [if_pos c3] at H
      have H := Option.some.inj H
      subst H
      exact J_vret (st := []) d_Switch_moveAll_123 rfl ⟨rfl, rfl, rfl⟩
    · intro c3
      rw [if_neg c3] at H
      refine J_aload_n d_Switch_moveAll_112 rfl ?_
      refine J_iload_n d_Switch_moveAll_113 rfl ?_
      obtain ⟨q2, hq2, H⟩ := Option.bind_eq_some_iff.mp H
      refine J_callV (kc := 0) (ks := 0) (kc' := 0) (ks' := 0) (a := x0) (ci := 10) (as := [.int x1]) (st := []) (mf_Switch_moveReadBeat hw) (mv_Switch_180 hw) d_Switch_moveAll_114 ln_Switch_moveReadBeat (by decide) (by first | exact Nat.le_of_ble_eq_true rfl | (simp only [List.map_cons, List.map_nil, List.sum_cons, List.sum_nil, va_rf_cat]; exact Nat.le_of_ble_eq_true rfl)) rfl ((hG _).1 _ g1 (by decide)).1 ((hG _).1 _ g1 (by decide)).2 (by unfold pic; rw [g1]; rfl) (jcl_at hw rfl) rfl (p_Switch_moveReadBeat hw hG hq2) ?_ (fun E h' n' x' e1 => by cases e1.1)
      intro v9 h9 n9 x9 e9
      obtain ⟨e91, e92, e93⟩ := e9
      cases e91
      subst e92
      subst e93
      clear x
      rename Bool => x
      show J _ _ _ _ [] _ _ _ _ _ _
      refine J_iinc (v := x1 + 1) d_Switch_moveAll_117 rfl (by rw [show Int32.ofInt 1 = (1 : Int32) from by decide]) ?_
      refine J.ls (ls' := [some (.ref x0), some (.int (x1 + (1 : Int32)))]) rfl ?_
      refine J_goto (tgt := 104) d_Switch_moveAll_120 (by decide) ?_
      refine J.drop [true, true] rfl ?_
      exact ih H
def f_Switch_moveAll_L83 (Γ : gm_T)  : Nat → ph_T → Nat → Int32 → Option (Unit × ph_T)
  | 0, _, _, _ => none
  | fu + 1, φ, x0, x1 =>
    @ite _ (Γ x0 = .inr 10) _ (
    if (φ.1 x0 0) ≤ x1 then
      f_Switch_moveAll_L104 Γ  jF φ x0 (0 : Int32)
    else
      Option.bind (f_Switch_moveAnswer Γ φ x0 x1) fun q5 =>
      (f_Switch_moveAll_L83 Γ  fu) q5.2 x0 (x1 + (1 : Int32))
    ) none
set_option maxRecDepth 100000 in
set_option maxHeartbeats 4000000 in
theorem p_Switch_moveAll_L83 {w : jw_T} (hw : jok w) {Γ : gm_T} {n : Nat} (hG : gd w Γ n)  : ∀ (fu : Nat) {x : Bool} {φ : ph_T} {x0 : Nat} {x1 : Int32} {q : Unit × ph_T}, f_Switch_moveAll_L83 Γ  fu φ x0 x1 = some q → J w M_Switch_moveAll 83 [some (.ref x0), some (.int x1)] [] (pic Γ φ) n x 0 0 (fq Γ n (.inl none) q.2) := by
  intro fu
  induction fu with
  | zero =>
    intro x φ x0 x1 q H
    cases H
  | succ fu ih =>
    intro x φ x0 x1 q H
    unfold f_Switch_moveAll_L83 at H
    refine J_iload_n d_Switch_moveAll_83 rfl ?_
    refine J_aload_n d_Switch_moveAll_84 rfl ?_
    have g4 : Γ x0 = .inr 10 := by
      apply Classical.byContradiction
      intro q9
      rw [if_neg q9] at H
      cases H
    rw [if_pos g4] at H
    refine F_getI (ci := 10) (k := 0) hG (cf_Switch hw) (fl_Switch_15 hw) (by decide) (by decide) rfl d_Switch_moveAll_85 g4 ?_
    refine J_icmp_ge (tgt := 102) d_Switch_moveAll_88 (by decide) ?_ ?_
    · intro c6
      rw [if_pos c6] at H
      refine J_iconst (v := 0) d_Switch_moveAll_102 (by decide) ?_
      refine J_istore_n d_Switch_moveAll_103 (Nat.le_of_ble_eq_true rfl) ?_
      refine J.ls (ls' := [some (.ref x0), some (.int (0 : Int32))]) rfl ?_
      refine J.drop [true, true] rfl ?_
      exact p_Switch_moveAll_L104 hw hG  _ H
    · intro c6
      rw [if_neg c6] at H
      refine J_aload_n d_Switch_moveAll_91 rfl ?_
      refine J_iload_n d_Switch_moveAll_92 rfl ?_
      obtain ⟨q5, hq5, H⟩ := Option.bind_eq_some_iff.mp H
      refine J_callV (kc := 0) (ks := 0) (kc' := 0) (ks' := 0) (a := x0) (ci := 10) (as := [.int x1]) (st := []) (mf_Switch_moveAnswer hw) (mv_Switch_177 hw) d_Switch_moveAll_93 ln_Switch_moveAnswer (by decide) (by first | exact Nat.le_of_ble_eq_true rfl | (simp only [List.map_cons, List.map_nil, List.sum_cons, List.sum_nil, va_rf_cat]; exact Nat.le_of_ble_eq_true rfl)) rfl ((hG _).1 _ g4 (by decide)).1 ((hG _).1 _ g4 (by decide)).2 (by unfold pic; rw [g4]; rfl) (jcl_at hw rfl) rfl (p_Switch_moveAnswer hw hG hq5) ?_ (fun E h' n' x' e1 => by cases e1.1)
      intro v9 h9 n9 x9 e9
      obtain ⟨e91, e92, e93⟩ := e9
      cases e91
      subst e92
      subst e93
      clear x
      rename Bool => x
      show J _ _ _ _ [] _ _ _ _ _ _
      refine J_iinc (v := x1 + 1) d_Switch_moveAll_96 rfl (by rw [show Int32.ofInt 1 = (1 : Int32) from by decide]) ?_
      refine J.ls (ls' := [some (.ref x0), some (.int (x1 + (1 : Int32)))]) rfl ?_
      refine J_goto (tgt := 83) d_Switch_moveAll_99 (by decide) ?_
      refine J.drop [true, true] rfl ?_
      exact ih H
def f_Switch_moveAll_L54 (Γ : gm_T)  : Nat → ph_T → Nat → Int32 → Option (Unit × ph_T)
  | 0, _, _, _ => none
  | fu + 1, φ, x0, x1 =>
    @ite _ (Γ x0 = .inr 10) _ (
    if (φ.1 x0 0) ≤ x1 then
      Option.bind (f_Switch_refuseWrite Γ φ x0) fun q8 =>
      Option.bind (f_Switch_refuseRead Γ q8.2 x0) fun q9 =>
      f_Switch_moveAll_L83 Γ  jF q9.2 x0 (0 : Int32)
    else
      Option.bind (f_Switch_moveData Γ φ x0 x1) fun q10 =>
      (f_Switch_moveAll_L54 Γ  fu) q10.2 x0 (x1 + (1 : Int32))
    ) none
set_option maxRecDepth 100000 in
set_option maxHeartbeats 4000000 in
theorem p_Switch_moveAll_L54 {w : jw_T} (hw : jok w) {Γ : gm_T} {n : Nat} (hG : gd w Γ n)  : ∀ (fu : Nat) {x : Bool} {φ : ph_T} {x0 : Nat} {x1 : Int32} {q : Unit × ph_T}, f_Switch_moveAll_L54 Γ  fu φ x0 x1 = some q → J w M_Switch_moveAll 54 [some (.ref x0), some (.int x1)] [] (pic Γ φ) n x 0 0 (fq Γ n (.inl none) q.2) := by
  intro fu
  induction fu with
  | zero =>
    intro x φ x0 x1 q H
    cases H
  | succ fu ih =>
    intro x φ x0 x1 q H
    unfold f_Switch_moveAll_L54 at H
    refine J_iload_n d_Switch_moveAll_54 rfl ?_
    refine J_aload_n d_Switch_moveAll_55 rfl ?_
    have g7 : Γ x0 = .inr 10 := by
      apply Classical.byContradiction
      intro q9
      rw [if_neg q9] at H
      cases H
    rw [if_pos g7] at H
    refine F_getI (ci := 10) (k := 0) hG (cf_Switch hw) (fl_Switch_15 hw) (by decide) (by decide) rfl d_Switch_moveAll_56 g7 ?_
    refine J_icmp_ge (tgt := 73) d_Switch_moveAll_59 (by decide) ?_ ?_
    · intro c11
      rw [if_pos c11] at H
      refine J_aload_n d_Switch_moveAll_73 rfl ?_
      obtain ⟨q8, hq8, H⟩ := Option.bind_eq_some_iff.mp H
      refine J_callV (kc := 0) (ks := 0) (kc' := 0) (ks' := 0) (a := x0) (ci := 10) (as := []) (st := []) (mf_Switch_refuseWrite hw) (mv_Switch_171 hw) d_Switch_moveAll_74 ln_Switch_refuseWrite (by decide) (by first | exact Nat.le_of_ble_eq_true rfl | (simp only [List.map_cons, List.map_nil, List.sum_cons, List.sum_nil, va_rf_cat]; exact Nat.le_of_ble_eq_true rfl)) rfl ((hG _).1 _ g7 (by decide)).1 ((hG _).1 _ g7 (by decide)).2 (by unfold pic; rw [g7]; rfl) (jcl_at hw rfl) rfl (p_Switch_refuseWrite hw hG hq8) ?_ (fun E h' n' x' e1 => by cases e1.1)
      intro v9 h9 n9 x9 e9
      obtain ⟨e91, e92, e93⟩ := e9
      cases e91
      subst e92
      subst e93
      clear x
      rename Bool => x
      show J _ _ _ _ [] _ _ _ _ _ _
      refine J_aload_n d_Switch_moveAll_77 rfl ?_
      obtain ⟨q9, hq9, H⟩ := Option.bind_eq_some_iff.mp H
      refine J_callV (kc := 0) (ks := 0) (kc' := 0) (ks' := 0) (a := x0) (ci := 10) (as := []) (st := []) (mf_Switch_refuseRead hw) (mv_Switch_174 hw) d_Switch_moveAll_78 ln_Switch_refuseRead (by decide) (by first | exact Nat.le_of_ble_eq_true rfl | (simp only [List.map_cons, List.map_nil, List.sum_cons, List.sum_nil, va_rf_cat]; exact Nat.le_of_ble_eq_true rfl)) rfl ((hG _).1 _ g7 (by decide)).1 ((hG _).1 _ g7 (by decide)).2 (by unfold pic; rw [g7]; rfl) (jcl_at hw rfl) rfl (p_Switch_refuseRead hw hG hq9) ?_ (fun E h' n' x' e1 => by cases e1.1)
      intro v9 h9 n9 x9 e9
      obtain ⟨e91, e92, e93⟩ := e9
      cases e91
      subst e92
      subst e93
      clear x
      rename Bool => x
      show J _ _ _ _ [] _ _ _ _ _ _
      refine J_iconst (v := 0) d_Switch_moveAll_81 (by decide) ?_
      refine J_istore_n d_Switch_moveAll_82 (Nat.le_of_ble_eq_true rfl) ?_
      refine J.ls (ls' := [some (.ref x0), some (.int (0 : Int32))]) rfl ?_
      refine J.drop [true, true] rfl ?_
      exact p_Switch_moveAll_L83 hw hG  _ H
    · intro c11
      rw [if_neg c11] at H
      refine J_aload_n d_Switch_moveAll_62 rfl ?_
      refine J_iload_n d_Switch_moveAll_63 rfl ?_
      obtain ⟨q10, hq10, H⟩ := Option.bind_eq_some_iff.mp H
      refine J_callV (kc := 0) (ks := 0) (kc' := 0) (ks' := 0) (a := x0) (ci := 10) (as := [.int x1]) (st := []) (mf_Switch_moveData hw) (mv_Switch_168 hw) d_Switch_moveAll_64 ln_Switch_moveData (by decide) (by first | exact Nat.le_of_ble_eq_true rfl | (simp only [List.map_cons, List.map_nil, List.sum_cons, List.sum_nil, va_rf_cat]; exact Nat.le_of_ble_eq_true rfl)) rfl ((hG _).1 _ g7 (by decide)).1 ((hG _).1 _ g7 (by decide)).2 (by unfold pic; rw [g7]; rfl) (jcl_at hw rfl) rfl (p_Switch_moveData hw hG hq10) ?_ (fun E h' n' x' e1 => by cases e1.1)
      intro v9 h9 n9 x9 e9
      obtain ⟨e91, e92, e93⟩ := e9
      cases e91
      subst e92
      subst e93
      clear x
      rename Bool => x
      show J _ _ _ _ [] _ _ _ _ _ _
      refine J_iinc (v := x1 + 1) d_Switch_moveAll_67 rfl (by rw [show Int32.ofInt 1 = (1 : Int32) from by decide]) ?_
      refine J.ls (ls' := [some (.ref x0), some (.int (x1 + (1 : Int32)))]) rfl ?_
      refine J_goto (tgt := 54) d_Switch_moveAll_70 (by decide) ?_
      refine J.drop [true, true] rfl ?_
      exact ih H
def f_Switch_moveAll_L28 (Γ : gm_T)  : Nat → ph_T → Nat → Int32 → Option (Unit × ph_T)
  | 0, _, _, _ => none
  | fu + 1, φ, x0, x1 =>
    @ite _ (Γ x0 = .inr 10) _ (
    if (φ.1 x0 1) < x1 then
      f_Switch_moveAll_L54 Γ  jF φ x0 (0 : Int32)
    else
      Option.bind (f_Switch_moveAddress Γ φ x0 x1 (3 : Int32) (φ.2.2 x0 9)) fun q13 =>
      (f_Switch_moveAll_L28 Γ  fu) q13.2 x0 (x1 + (1 : Int32))
    ) none
set_option maxRecDepth 100000 in
set_option maxHeartbeats 4000000 in
theorem p_Switch_moveAll_L28 {w : jw_T} (hw : jok w) {Γ : gm_T} {n : Nat} (hG : gd w Γ n)  : ∀ (fu : Nat) {x : Bool} {φ : ph_T} {x0 : Nat} {x1 : Int32} {q : Unit × ph_T}, f_Switch_moveAll_L28 Γ  fu φ x0 x1 = some q → J w M_Switch_moveAll 28 [some (.ref x0), some (.int x1)] [] (pic Γ φ) n x 0 0 (fq Γ n (.inl none) q.2) := by
  intro fu
  induction fu with
  | zero =>
    intro x φ x0 x1 q H
    cases H
  | succ fu ih =>
    intro x φ x0 x1 q H
    unfold f_Switch_moveAll_L28 at H
    refine J_iload_n d_Switch_moveAll_28 rfl ?_
    refine J_aload_n d_Switch_moveAll_29 rfl ?_
    have g12 : Γ x0 = .inr 10 := by
      apply Classical.byContradiction
      intro q9
      rw [if_neg q9] at H
      cases H
    rw [if_pos g12] at H
    refine F_getI (ci := 10) (k := 1) hG (cf_Switch hw) (fl_Switch_19 hw) (by decide) (by decide) rfl d_Switch_moveAll_30 g12 ?_
    refine J_icmp_gt (tgt := 52) d_Switch_moveAll_33 (by decide) ?_ ?_
    · intro c14
      rw [if_pos c14] at H
      refine J_iconst (v := 0) d_Switch_moveAll_52 (by decide) ?_
      refine J_istore_n d_Switch_moveAll_53 (Nat.le_of_ble_eq_true rfl) ?_
      refine J.ls (ls' := [some (.ref x0), some (.int (0 : Int32))]) rfl ?_
      refine J.drop [true, true] rfl ?_
      exact p_Switch_moveAll_L54 hw hG  _ H
    · intro c14
      rw [if_neg c14] at H
      refine J_aload_n d_Switch_moveAll_36 rfl ?_
      refine J_iload_n d_Switch_moveAll_37 rfl ?_
      refine J_iconst (v := 3) d_Switch_moveAll_38 (by decide) ?_
      refine J_aload_n d_Switch_moveAll_39 rfl ?_
      refine F_getR (ci := 10) (k := 9) hG (cf_Switch hw) (fl_Switch_49 hw) (by decide) (by decide) rfl d_Switch_moveAll_40 g12 ?_
      obtain ⟨q13, hq13, H⟩ := Option.bind_eq_some_iff.mp H
      refine J_callV (kc := 0) (ks := 0) (kc' := 0) (ks' := 0) (a := x0) (ci := 10) (as := [.int x1, .int (3 : Int32), va_rf (φ.2.2 x0 9)]) (st := []) (mf_Switch_moveAddress hw) (mv_Switch_164 hw) d_Switch_moveAll_43 ln_Switch_moveAddress (by decide) (by first | exact Nat.le_of_ble_eq_true rfl | (simp only [List.map_cons, List.map_nil, List.sum_cons, List.sum_nil, va_rf_cat]; exact Nat.le_of_ble_eq_true rfl)) rfl ((hG _).1 _ g12 (by decide)).1 ((hG _).1 _ g12 (by decide)).2 (by unfold pic; rw [g12]; rfl) (jcl_at hw rfl) rfl (p_Switch_moveAddress hw hG hq13) ?_ (fun E h' n' x' e1 => by cases e1.1)
      intro v9 h9 n9 x9 e9
      obtain ⟨e91, e92, e93⟩ := e9
      cases e91
      subst e92
      subst e93
      clear x
      rename Bool => x
      show J _ _ _ _ [] _ _ _ _ _ _
      refine J_iinc (v := x1 + 1) d_Switch_moveAll_46 rfl (by rw [show Int32.ofInt 1 = (1 : Int32) from by decide]) ?_
      refine J.ls (ls' := [some (.ref x0), some (.int (x1 + (1 : Int32)))]) rfl ?_
      refine J_goto (tgt := 28) d_Switch_moveAll_49 (by decide) ?_
      refine J.drop [true, true] rfl ?_
      exact ih H
def f_Switch_moveAll_L2 (Γ : gm_T)  : Nat → ph_T → Nat → Int32 → Option (Unit × ph_T)
  | 0, _, _, _ => none
  | fu + 1, φ, x0, x1 =>
    @ite _ (Γ x0 = .inr 10) _ (
    if (φ.1 x0 1) < x1 then
      f_Switch_moveAll_L28 Γ  jF φ x0 (0 : Int32)
    else
      Option.bind (f_Switch_moveAddress Γ φ x0 x1 (0 : Int32) (φ.2.2 x0 8)) fun q16 =>
      (f_Switch_moveAll_L2 Γ  fu) q16.2 x0 (x1 + (1 : Int32))
    ) none
set_option maxRecDepth 100000 in
set_option maxHeartbeats 4000000 in
theorem p_Switch_moveAll_L2 {w : jw_T} (hw : jok w) {Γ : gm_T} {n : Nat} (hG : gd w Γ n)  : ∀ (fu : Nat) {x : Bool} {φ : ph_T} {x0 : Nat} {x1 : Int32} {q : Unit × ph_T}, f_Switch_moveAll_L2 Γ  fu φ x0 x1 = some q → J w M_Switch_moveAll 2 [some (.ref x0), some (.int x1)] [] (pic Γ φ) n x 0 0 (fq Γ n (.inl none) q.2) := by
  intro fu
  induction fu with
  | zero =>
    intro x φ x0 x1 q H
    cases H
  | succ fu ih =>
    intro x φ x0 x1 q H
    unfold f_Switch_moveAll_L2 at H
    refine J_iload_n d_Switch_moveAll_2 rfl ?_
    refine J_aload_n d_Switch_moveAll_3 rfl ?_
    have g15 : Γ x0 = .inr 10 := by
      apply Classical.byContradiction
      intro q9
      rw [if_neg q9] at H
      cases H
    rw [if_pos g15] at H
    refine F_getI (ci := 10) (k := 1) hG (cf_Switch hw) (fl_Switch_19 hw) (by decide) (by decide) rfl d_Switch_moveAll_4 g15 ?_
    refine J_icmp_gt (tgt := 26) d_Switch_moveAll_7 (by decide) ?_ ?_
    · intro c17
      rw [if_pos c17] at H
      refine J_iconst (v := 0) d_Switch_moveAll_26 (by decide) ?_
      refine J_istore_n d_Switch_moveAll_27 (Nat.le_of_ble_eq_true rfl) ?_
      refine J.ls (ls' := [some (.ref x0), some (.int (0 : Int32))]) rfl ?_
      refine J.drop [true, true] rfl ?_
      exact p_Switch_moveAll_L28 hw hG  _ H
    · intro c17
      rw [if_neg c17] at H
      refine J_aload_n d_Switch_moveAll_10 rfl ?_
      refine J_iload_n d_Switch_moveAll_11 rfl ?_
      refine J_iconst (v := 0) d_Switch_moveAll_12 (by decide) ?_
      refine J_aload_n d_Switch_moveAll_13 rfl ?_
      refine F_getR (ci := 10) (k := 8) hG (cf_Switch hw) (fl_Switch_46 hw) (by decide) (by decide) rfl d_Switch_moveAll_14 g15 ?_
      obtain ⟨q16, hq16, H⟩ := Option.bind_eq_some_iff.mp H
      refine J_callV (kc := 0) (ks := 0) (kc' := 0) (ks' := 0) (a := x0) (ci := 10) (as := [.int x1, .int (0 : Int32), va_rf (φ.2.2 x0 8)]) (st := []) (mf_Switch_moveAddress hw) (mv_Switch_164 hw) d_Switch_moveAll_17 ln_Switch_moveAddress (by decide) (by first | exact Nat.le_of_ble_eq_true rfl | (simp only [List.map_cons, List.map_nil, List.sum_cons, List.sum_nil, va_rf_cat]; exact Nat.le_of_ble_eq_true rfl)) rfl ((hG _).1 _ g15 (by decide)).1 ((hG _).1 _ g15 (by decide)).2 (by unfold pic; rw [g15]; rfl) (jcl_at hw rfl) rfl (p_Switch_moveAddress hw hG hq16) ?_ (fun E h' n' x' e1 => by cases e1.1)
      intro v9 h9 n9 x9 e9
      obtain ⟨e91, e92, e93⟩ := e9
      cases e91
      subst e92
      subst e93
      clear x
      rename Bool => x
      show J _ _ _ _ [] _ _ _ _ _ _
      refine J_iinc (v := x1 + 1) d_Switch_moveAll_20 rfl (by rw [show Int32.ofInt 1 = (1 : Int32) from by decide]) ?_
      refine J.ls (ls' := [some (.ref x0), some (.int (x1 + (1 : Int32)))]) rfl ?_
      refine J_goto (tgt := 2) d_Switch_moveAll_23 (by decide) ?_
      refine J.drop [true, true] rfl ?_
      exact ih H
def f_Switch_moveAll (Γ : gm_T) (φ : ph_T) (this : Nat) : Option (Unit × ph_T) :=
  f_Switch_moveAll_L2 Γ  jF φ this (0 : Int32)
set_option maxRecDepth 100000 in
set_option maxHeartbeats 4000000 in
theorem p_Switch_moveAll {w : jw_T} (hw : jok w) {Γ : gm_T} {n : Nat} (hG : gd w Γ n) {x : Bool} {φ : ph_T} {this : Nat} {q : Unit × ph_T} (H : f_Switch_moveAll Γ φ this = some q) : jc w M_Switch_moveAll [.ref this] (pic Γ φ) n x 0 0 (fq Γ n (.inl none) q.2) := by
  refine jc.of (by simp only [jent_r, jent_i, jent_l, jent_a, jent_0]; exact Nat.le_of_ble_eq_true rfl) ?_
  have hls : jents [.ref this] (jm_nL M_Switch_moveAll) = [some (.ref this), none] := by simp only [jents, jent_r, jent_i, jent_l, jent_a, jent_0]; rfl
  rw [hls]
  clear hls
  unfold f_Switch_moveAll at H
  refine J_iconst (v := 0) d_Switch_moveAll_0 (by decide) ?_
  refine J_istore_n d_Switch_moveAll_1 (Nat.le_of_ble_eq_true rfl) ?_
  refine J.ls (ls' := [some (.ref this), some (.int (0 : Int32))]) rfl ?_
  refine J.drop [true, true] rfl ?_
  exact p_Switch_moveAll_L2 hw hG  _ H
theorem ln_Bus_runTicks : (parseMethodDescriptor y_Bus_runTicks.desc).map (fun q => q.parameters.length) = some 2 := by decide +kernel
def f_Bus_runTicks_L224 (Γ : gm_T)  (φ : ph_T) (x3 : Int32) : Option (Int32 × ph_T) :=
  some (x3, φ)
set_option maxRecDepth 100000 in
set_option maxHeartbeats 4000000 in
theorem p_Bus_runTicks_L224 {w : jw_T} (hw : jok w) {Γ : gm_T} {n : Nat} (hG : gd w Γ n)  {x : Bool} {φ : ph_T} {x3 : Int32} {q : Int32 × ph_T} (H : f_Bus_runTicks_L224 Γ  φ x3 = some q) : J w M_Bus_runTicks 224 [none, none, none, some (.int x3), none, none] [] (pic Γ φ) n x 0 0 (fq Γ n (.inl (some (.int q.1))) q.2) := by
  unfold f_Bus_runTicks_L224 at H
  refine J_iload_n d_Bus_runTicks_224 rfl ?_
  have H := Option.some.inj H
  subst H
  exact J_iret (st := []) d_Bus_runTicks_225 rfl rfl ⟨rfl, rfl, rfl⟩
def f_Bus_runTicks_L111 (Γ : gm_T) (Kc5 : ph_T → Nat → Int32 → Int32 → Int32 → Int32 → Option (Int32 × ph_T)) : Nat → ph_T → Nat → Int32 → Int32 → Int32 → Int32 → Int32 → Option (Int32 × ph_T)
  | 0, _, _, _, _, _, _, _ => none
  | fu + 1, φ, x0, x1, x2, x3, x4, x5 =>
    @ite _ (Γ x0 = .inr 11) _ (
    Option.bind (φ.2.2 x0 3) fun a2 =>
    Option.bind (gA Γ a2 9) fun N3 =>
    if (nI N3) ≤ x5 then
      Option.bind (f_Bus_goOver Γ φ x0) fun q4 =>
      Option.bind (q4.2.2.2 x0 1) fun a5 =>
      @ite _ (Γ a5 = .inr 10) _ (
      Option.bind (f_Switch_moveAll Γ q4.2 a5) fun q7 =>
      Kc5 (uI q7.2 x0 9 ((q7.2.1 x0 9) + (1 : Int32))) x0 x1 x2 (x3 + q4.1) (x4 + (1 : Int32))
      ) none
    else
      Option.bind (φ.2.2 x0 5) fun a8 =>
      Option.bind (gA Γ a8 7) fun N9 =>
      Option.bind (ix x5 N9) fun k10 =>
      Option.bind (φ.2.2 a8 k10) fun a11 =>
      @ite _ (Γ a11 = .inr 5) _ (
      Option.bind (f_Port_begin Γ φ a11) fun q13 =>
      Option.bind (q13.2.2.2 x0 3) fun a14 =>
      Option.bind (gA Γ a14 9) fun N15 =>
      Option.bind (ix x5 N15) fun k16 =>
      Option.bind (q13.2.2.2 x0 5) fun a17 =>
      Option.bind (gA Γ a17 7) fun N18 =>
      Option.bind (ix x5 N18) fun k19 =>
      Option.bind (q13.2.2.2 a14 k16) fun a20 =>
      @ite _ (Γ a20 = .inr 8) _ (
      Option.bind (f_Slave_tell Γ q13.2 a20 (q13.2.2.2 a17 k19) (q13.2.1 x0 9)) fun q22 =>
      Option.bind (q22.2.2.2 x0 5) fun a23 =>
      Option.bind (gA Γ a23 7) fun N24 =>
      Option.bind (ix x5 N24) fun k25 =>
      Option.bind (q22.2.2.2 x0 1) fun a26 =>
      @ite _ (Γ a26 = .inr 10) _ (
      Option.bind (f_Switch_tellSlave Γ q22.2 a26 (q22.2.2.2 a23 k25) x5) fun q28 =>
      Option.bind (q28.2.2.2 x0 5) fun a29 =>
      Option.bind (gA Γ a29 7) fun N30 =>
      Option.bind (ix x5 N30) fun k31 =>
      Option.bind (q28.2.2.2 a29 k31) fun a32 =>
      @ite _ (Γ a32 = .inr 5) _ (
      Option.bind (gA Γ a29 7) fun N34 =>
      Option.bind (ix x5 N34) fun k35 =>
      Option.bind (q28.2.2.2 a32 6) fun a36 =>
      @ite _ (Γ a36 = .inr 4) _ (
      Option.bind (f_Monitor_look Γ q28.2 a36 (q28.2.2.2 a29 k35)) fun q38 =>
      (f_Bus_runTicks_L111 Γ Kc5 fu) q38.2 x0 x1 x2 x3 x4 (x5 + (1 : Int32))
      ) none
      ) none
      ) none
      ) none
      ) none
    ) none
set_option maxRecDepth 100000 in
set_option maxHeartbeats 4000000 in
theorem p_Bus_runTicks_L111 {w : jw_T} (hw : jok w) {Γ : gm_T} {n : Nat} (hG : gd w Γ n) {Kc5 : ph_T → Nat → Int32 → Int32 → Int32 → Int32 → Option (Int32 × ph_T)} (hKc5 : ∀ {x : Bool} {φ : ph_T} {x0 : Nat} {x1 : Int32} {x2 : Int32} {x3 : Int32} {x4 : Int32} {q : Int32 × ph_T}, Kc5 φ x0 x1 x2 x3 x4 = some q → J w M_Bus_runTicks 5 [some (.ref x0), some (.int x1), some (.int x2), some (.int x3), some (.int x4), none] [] (pic Γ φ) n x 0 0 (fq Γ n (.inl (some (.int q.1))) q.2)) : ∀ (fu : Nat) {x : Bool} {φ : ph_T} {x0 : Nat} {x1 : Int32} {x2 : Int32} {x3 : Int32} {x4 : Int32} {x5 : Int32} {q : Int32 × ph_T}, f_Bus_runTicks_L111 Γ Kc5 fu φ x0 x1 x2 x3 x4 x5 = some q → J w M_Bus_runTicks 111 [some (.ref x0), some (.int x1), some (.int x2), some (.int x3), some (.int x4), some (.int x5)] [] (pic Γ φ) n x 0 0 (fq Γ n (.inl (some (.int q.1))) q.2) := by
  intro fu
  induction fu with
  | zero =>
    intro x φ x0 x1 x2 x3 x4 x5 q H
    cases H
  | succ fu ih =>
    intro x φ x0 x1 x2 x3 x4 x5 q H
    unfold f_Bus_runTicks_L111 at H
    refine J_iload d_Bus_runTicks_111 rfl ?_
    refine J_aload_n d_Bus_runTicks_113 rfl ?_
    have g1 : Γ x0 = .inr 11 := by
      apply Classical.byContradiction
      intro q9
      rw [if_neg q9] at H
      cases H
    rw [if_pos g1] at H
    refine F_getR (ci := 11) (k := 3) hG (cf_Bus hw) (fl_Bus_45 hw) (by decide) (by decide) rfl d_Bus_runTicks_114 g1 ?_
    obtain ⟨a2, ha2, H⟩ := Option.bind_eq_some_iff.mp H
    rw [j_rf ha2]
    obtain ⟨N3, hN3, H⟩ := Option.bind_eq_some_iff.mp H
    refine F_alen hw hG (t := 9) rfl d_Bus_runTicks_117 (gA_some hN3) ?_
    refine J_icmp_ge (tgt := 194) d_Bus_runTicks_118 (by decide) ?_ ?_
    · intro c39
      rw [if_pos c39] at H
      refine J_iload_n d_Bus_runTicks_194 rfl ?_
      refine J_aload_n d_Bus_runTicks_195 rfl ?_
      obtain ⟨q4, hq4, H⟩ := Option.bind_eq_some_iff.mp H
      refine J_callV (kc := 0) (ks := 0) (kc' := 0) (ks' := 0) (a := x0) (ci := 11) (as := []) (st := [.int x3]) (mf_Bus_goOver hw) (mv_Bus_309 hw) d_Bus_runTicks_196 ln_Bus_goOver (by decide) (by first | exact Nat.le_of_ble_eq_true rfl | (simp only [List.map_cons, List.map_nil, List.sum_cons, List.sum_nil, va_rf_cat]; exact Nat.le_of_ble_eq_true rfl)) rfl ((hG _).1 _ g1 (by decide)).1 ((hG _).1 _ g1 (by decide)).2 (by unfold pic; rw [g1]; rfl) (jcl_at hw rfl) rfl (p_Bus_goOver hw hG hq4) ?_ (fun E h' n' x' e1 => by cases e1.1)
      intro v9 h9 n9 x9 e9
      obtain ⟨e91, e92, e93⟩ := e9
      cases e91
      subst e92
      subst e93
      clear x
      rename Bool => x
      show J _ _ _ _ (_ :: _) _ _ _ _ _ _
      refine J_iadd d_Bus_runTicks_199 ?_
      refine J_istore_n d_Bus_runTicks_200 (Nat.le_of_ble_eq_true rfl) ?_
      refine J.ls (ls' := [some (.ref x0), some (.int x1), some (.int x2), some (.int (x3 + q4.1)), some (.int x4), some (.int x5)]) rfl ?_
      refine J_aload_n d_Bus_runTicks_201 rfl ?_
      refine F_getR (ci := 11) (k := 1) hG (cf_Bus hw) (fl_Bus_25 hw) (by decide) (by decide) rfl d_Bus_runTicks_202 g1 ?_
      obtain ⟨a5, ha5, H⟩ := Option.bind_eq_some_iff.mp H
      rw [j_rf ha5]
      have g6 : Γ a5 = .inr 10 := by
        apply Classical.byContradiction
        intro q9
        rw [if_neg q9] at H
        cases H
      rw [if_pos g6] at H
      obtain ⟨q7, hq7, H⟩ := Option.bind_eq_some_iff.mp H
      refine J_callV (kc := 0) (ks := 0) (kc' := 0) (ks' := 0) (a := a5) (ci := 10) (as := []) (st := []) (mf_Switch_moveAll hw) (mv_Bus_312 hw) d_Bus_runTicks_205 ln_Switch_moveAll (by decide) (by first | exact Nat.le_of_ble_eq_true rfl | (simp only [List.map_cons, List.map_nil, List.sum_cons, List.sum_nil, va_rf_cat]; exact Nat.le_of_ble_eq_true rfl)) rfl ((hG _).1 _ g6 (by decide)).1 ((hG _).1 _ g6 (by decide)).2 (by unfold pic; rw [g6]; rfl) (jcl_at hw rfl) rfl (p_Switch_moveAll hw hG hq7) ?_ (fun E h' n' x' e1 => by cases e1.1)
      intro v9 h9 n9 x9 e9
      obtain ⟨e91, e92, e93⟩ := e9
      cases e91
      subst e92
      subst e93
      clear x
      rename Bool => x
      show J _ _ _ _ [] _ _ _ _ _ _
      refine J_aload_n d_Bus_runTicks_208 rfl ?_
      refine J_dup d_Bus_runTicks_209 rfl ?_
      refine F_getI (ci := 11) (k := 9) hG (cf_Bus hw) (fl_Bus_159 hw) (by decide) (by decide) rfl d_Bus_runTicks_210 g1 ?_
      refine J_iconst (v := 1) d_Bus_runTicks_213 (by decide) ?_
      refine J_iadd d_Bus_runTicks_214 ?_
      refine F_putI (ci := 11) (k := 9) hG (cf_Bus hw) (fl_Bus_159 hw) (by decide) (by decide) rfl d_Bus_runTicks_215 rfl rfl rfl g1 ?_
      refine J_iinc (v := x4 + 1) d_Bus_runTicks_218 rfl (by rw [show Int32.ofInt 1 = (1 : Int32) from by decide]) ?_
      refine J.ls (ls' := [some (.ref x0), some (.int x1), some (.int x2), some (.int (x3 + q4.1)), some (.int (x4 + (1 : Int32))), some (.int x5)]) rfl ?_
      refine J_goto (tgt := 5) d_Bus_runTicks_221 (by decide) ?_
      refine J.drop [true, true, true, true, true, false] rfl ?_
      exact hKc5 H
    · intro c39
      rw [if_neg c39] at H
      refine J_aload_n d_Bus_runTicks_121 rfl ?_
      refine F_getR (ci := 11) (k := 5) hG (cf_Bus hw) (fl_Bus_49 hw) (by decide) (by decide) rfl d_Bus_runTicks_122 g1 ?_
      refine J_iload d_Bus_runTicks_125 rfl ?_
      obtain ⟨a8, ha8, H⟩ := Option.bind_eq_some_iff.mp H
      rw [j_rf ha8]
      obtain ⟨N9, hN9, H⟩ := Option.bind_eq_some_iff.mp H
      obtain ⟨k10, hk10, H⟩ := Option.bind_eq_some_iff.mp H
      refine F_aald k10 hw hG (t := 7) rfl (by decide) d_Bus_runTicks_127 (gA_some hN9) (ix_some hk10) ?_
      obtain ⟨a11, ha11, H⟩ := Option.bind_eq_some_iff.mp H
      rw [j_rf ha11]
      have g12 : Γ a11 = .inr 5 := by
        apply Classical.byContradiction
        intro q9
        rw [if_neg q9] at H
        cases H
      rw [if_pos g12] at H
      obtain ⟨q13, hq13, H⟩ := Option.bind_eq_some_iff.mp H
      refine J_callV (kc := 0) (ks := 0) (kc' := 0) (ks' := 0) (a := a11) (ci := 5) (as := []) (st := []) (mf_Port_begin hw) (mv_Bus_295 hw) d_Bus_runTicks_128 ln_Port_begin (by decide) (by first | exact Nat.le_of_ble_eq_true rfl | (simp only [List.map_cons, List.map_nil, List.sum_cons, List.sum_nil, va_rf_cat]; exact Nat.le_of_ble_eq_true rfl)) rfl ((hG _).1 _ g12 (by decide)).1 ((hG _).1 _ g12 (by decide)).2 (by unfold pic; rw [g12]; rfl) (jcl_at hw rfl) rfl (p_Port_begin hw hG hq13) ?_ (fun E h' n' x' e1 => by cases e1.1)
      intro v9 h9 n9 x9 e9
      obtain ⟨e91, e92, e93⟩ := e9
      cases e91
      subst e92
      subst e93
      clear x
      rename Bool => x
      show J _ _ _ _ [] _ _ _ _ _ _
      refine J_aload_n d_Bus_runTicks_131 rfl ?_
      refine F_getR (ci := 11) (k := 3) hG (cf_Bus hw) (fl_Bus_45 hw) (by decide) (by decide) rfl d_Bus_runTicks_132 g1 ?_
      refine J_iload d_Bus_runTicks_135 rfl ?_
      obtain ⟨a14, ha14, H⟩ := Option.bind_eq_some_iff.mp H
      rw [j_rf ha14]
      obtain ⟨N15, hN15, H⟩ := Option.bind_eq_some_iff.mp H
      obtain ⟨k16, hk16, H⟩ := Option.bind_eq_some_iff.mp H
      refine F_aald k16 hw hG (t := 9) rfl (by decide) d_Bus_runTicks_137 (gA_some hN15) (ix_some hk16) ?_
      refine J_aload_n d_Bus_runTicks_138 rfl ?_
      refine F_getR (ci := 11) (k := 5) hG (cf_Bus hw) (fl_Bus_49 hw) (by decide) (by decide) rfl d_Bus_runTicks_139 g1 ?_
      refine J_iload d_Bus_runTicks_142 rfl ?_
      obtain ⟨a17, ha17, H⟩ := Option.bind_eq_some_iff.mp H
      rw [j_rf ha17]
      obtain ⟨N18, hN18, H⟩ := Option.bind_eq_some_iff.mp H
      obtain ⟨k19, hk19, H⟩ := Option.bind_eq_some_iff.mp H
      refine F_aald k19 hw hG (t := 7) rfl (by decide) d_Bus_runTicks_144 (gA_some hN18) (ix_some hk19) ?_
      refine J_aload_n d_Bus_runTicks_145 rfl ?_
      refine F_getI (ci := 11) (k := 9) hG (cf_Bus hw) (fl_Bus_159 hw) (by decide) (by decide) rfl d_Bus_runTicks_146 g1 ?_
      obtain ⟨a20, ha20, H⟩ := Option.bind_eq_some_iff.mp H
      rw [j_rf ha20]
      have g21 : Γ a20 = .inr 8 := by
        apply Classical.byContradiction
        intro q9
        rw [if_neg q9] at H
        cases H
      rw [if_pos g21] at H
      obtain ⟨q22, hq22, H⟩ := Option.bind_eq_some_iff.mp H
      refine J_callV (kc := 0) (ks := 0) (kc' := 0) (ks' := 0) (a := a20) (ci := 8) (as := [va_rf (q13.2.2.2 a17 k19), .int (q13.2.1 x0 9)]) (st := []) (mf_Slave_tell hw) (mv_Bus_305 hw) d_Bus_runTicks_149 ln_Slave_tell (by decide) (by first | exact Nat.le_of_ble_eq_true rfl | (simp only [List.map_cons, List.map_nil, List.sum_cons, List.sum_nil, va_rf_cat]; exact Nat.le_of_ble_eq_true rfl)) rfl ((hG _).1 _ g21 (by decide)).1 ((hG _).1 _ g21 (by decide)).2 (by unfold pic; rw [g21]; rfl) (jcl_at hw rfl) rfl (p_Slave_tell hw hG hq22) ?_ (fun E h' n' x' e1 => by cases e1.1)
      intro v9 h9 n9 x9 e9
      obtain ⟨e91, e92, e93⟩ := e9
      cases e91
      subst e92
      subst e93
      clear x
      rename Bool => x
      show J _ _ _ _ [] _ _ _ _ _ _
      refine J_aload_n d_Bus_runTicks_152 rfl ?_
      refine F_getR (ci := 11) (k := 1) hG (cf_Bus hw) (fl_Bus_25 hw) (by decide) (by decide) rfl d_Bus_runTicks_153 g1 ?_
      refine J_aload_n d_Bus_runTicks_156 rfl ?_
      refine F_getR (ci := 11) (k := 5) hG (cf_Bus hw) (fl_Bus_49 hw) (by decide) (by decide) rfl d_Bus_runTicks_157 g1 ?_
      refine J_iload d_Bus_runTicks_160 rfl ?_
      obtain ⟨a23, ha23, H⟩ := Option.bind_eq_some_iff.mp H
      rw [j_rf ha23]
      obtain ⟨N24, hN24, H⟩ := Option.bind_eq_some_iff.mp H
      obtain ⟨k25, hk25, H⟩ := Option.bind_eq_some_iff.mp H
      refine F_aald k25 hw hG (t := 7) rfl (by decide) d_Bus_runTicks_162 (gA_some hN24) (ix_some hk25) ?_
      refine J_iload d_Bus_runTicks_163 rfl ?_
      obtain ⟨a26, ha26, H⟩ := Option.bind_eq_some_iff.mp H
      rw [j_rf ha26]
      have g27 : Γ a26 = .inr 10 := by
        apply Classical.byContradiction
        intro q9
        rw [if_neg q9] at H
        cases H
      rw [if_pos g27] at H
      obtain ⟨q28, hq28, H⟩ := Option.bind_eq_some_iff.mp H
      refine J_callV (kc := 0) (ks := 0) (kc' := 0) (ks' := 0) (a := a26) (ci := 10) (as := [va_rf (q22.2.2.2 a23 k25), .int x5]) (st := []) (mf_Switch_tellSlave hw) (mv_Bus_306 hw) d_Bus_runTicks_165 ln_Switch_tellSlave (by decide) (by first | exact Nat.le_of_ble_eq_true rfl | (simp only [List.map_cons, List.map_nil, List.sum_cons, List.sum_nil, va_rf_cat]; exact Nat.le_of_ble_eq_true rfl)) rfl ((hG _).1 _ g27 (by decide)).1 ((hG _).1 _ g27 (by decide)).2 (by unfold pic; rw [g27]; rfl) (jcl_at hw rfl) rfl (p_Switch_tellSlave hw hG hq28) ?_ (fun E h' n' x' e1 => by cases e1.1)
      intro v9 h9 n9 x9 e9
      obtain ⟨e91, e92, e93⟩ := e9
      cases e91
      subst e92
      subst e93
      clear x
      rename Bool => x
      show J _ _ _ _ [] _ _ _ _ _ _
      refine J_aload_n d_Bus_runTicks_168 rfl ?_
      refine F_getR (ci := 11) (k := 5) hG (cf_Bus hw) (fl_Bus_49 hw) (by decide) (by decide) rfl d_Bus_runTicks_169 g1 ?_
      refine J_iload d_Bus_runTicks_172 rfl ?_
      obtain ⟨a29, ha29, H⟩ := Option.bind_eq_some_iff.mp H
      rw [j_rf ha29]
      obtain ⟨N30, hN30, H⟩ := Option.bind_eq_some_iff.mp H
      obtain ⟨k31, hk31, H⟩ := Option.bind_eq_some_iff.mp H
      refine F_aald k31 hw hG (t := 7) rfl (by decide) d_Bus_runTicks_174 (gA_some hN30) (ix_some hk31) ?_
      obtain ⟨a32, ha32, H⟩ := Option.bind_eq_some_iff.mp H
      rw [j_rf ha32]
      have g33 : Γ a32 = .inr 5 := by
        apply Classical.byContradiction
        intro q9
        rw [if_neg q9] at H
        cases H
      rw [if_pos g33] at H
      refine F_getR (ci := 5) (k := 6) hG (cf_Port hw) (fl_Bus_234 hw) (by decide) (by decide) rfl d_Bus_runTicks_175 g33 ?_
      refine J_aload_n d_Bus_runTicks_178 rfl ?_
      refine F_getR (ci := 11) (k := 5) hG (cf_Bus hw) (fl_Bus_49 hw) (by decide) (by decide) rfl d_Bus_runTicks_179 g1 ?_
      refine J_iload d_Bus_runTicks_182 rfl ?_
      try rw [j_rf ha29]
      obtain ⟨N34, hN34, H⟩ := Option.bind_eq_some_iff.mp H
      obtain ⟨k35, hk35, H⟩ := Option.bind_eq_some_iff.mp H
      refine F_aald k35 hw hG (t := 7) rfl (by decide) d_Bus_runTicks_184 (gA_some hN34) (ix_some hk35) ?_
      obtain ⟨a36, ha36, H⟩ := Option.bind_eq_some_iff.mp H
      rw [j_rf ha36]
      have g37 : Γ a36 = .inr 4 := by
        apply Classical.byContradiction
        intro q9
        rw [if_neg q9] at H
        cases H
      rw [if_pos g37] at H
      obtain ⟨q38, hq38, H⟩ := Option.bind_eq_some_iff.mp H
      refine J_callV (kc := 0) (ks := 0) (kc' := 0) (ks' := 0) (a := a36) (ci := 4) (as := [va_rf (q28.2.2.2 a29 k35)]) (st := []) (mf_Monitor_look hw) (mv_Bus_271 hw) d_Bus_runTicks_185 ln_Monitor_look (by decide) (by first | exact Nat.le_of_ble_eq_true rfl | (simp only [List.map_cons, List.map_nil, List.sum_cons, List.sum_nil, va_rf_cat]; exact Nat.le_of_ble_eq_true rfl)) rfl ((hG _).1 _ g37 (by decide)).1 ((hG _).1 _ g37 (by decide)).2 (by unfold pic; rw [g37]; rfl) (jcl_at hw rfl) rfl (p_Monitor_look hw hG hq38) ?_ (fun E h' n' x' e1 => by cases e1.1)
      intro v9 h9 n9 x9 e9
      obtain ⟨e91, e92, e93⟩ := e9
      cases e91
      subst e92
      subst e93
      clear x
      rename Bool => x
      show J _ _ _ _ [] _ _ _ _ _ _
      refine J_iinc (v := x5 + 1) d_Bus_runTicks_188 rfl (by rw [show Int32.ofInt 1 = (1 : Int32) from by decide]) ?_
      refine J.ls (ls' := [some (.ref x0), some (.int x1), some (.int x2), some (.int x3), some (.int x4), some (.int (x5 + (1 : Int32)))]) rfl ?_
      refine J_goto (tgt := 111) d_Bus_runTicks_191 (by decide) ?_
      refine J.drop [true, true, true, true, true, true] rfl ?_
      exact ih H
def f_Bus_runTicks_L25 (Γ : gm_T) (Kc5 : ph_T → Nat → Int32 → Int32 → Int32 → Int32 → Option (Int32 × ph_T)) : Nat → ph_T → Nat → Int32 → Int32 → Int32 → Int32 → Int32 → Option (Int32 × ph_T)
  | 0, _, _, _, _, _, _, _ => none
  | fu + 1, φ, x0, x1, x2, x3, x4, x5 =>
    @ite _ (Γ x0 = .inr 11) _ (
    Option.bind (φ.2.2 x0 2) fun a41 =>
    Option.bind (gA Γ a41 8) fun N42 =>
    if (nI N42) ≤ x5 then
      f_Bus_runTicks_L111 Γ Kc5 jF φ x0 x1 x2 x3 x4 (0 : Int32)
    else
      Option.bind (φ.2.2 x0 4) fun a43 =>
      Option.bind (gA Γ a43 7) fun N44 =>
      Option.bind (ix x5 N44) fun k45 =>
      Option.bind (φ.2.2 a43 k45) fun a46 =>
      @ite _ (Γ a46 = .inr 5) _ (
      Option.bind (f_Port_begin Γ φ a46) fun q48 =>
      Option.bind (q48.2.2.2 x0 2) fun a49 =>
      Option.bind (gA Γ a49 8) fun N50 =>
      Option.bind (ix x5 N50) fun k51 =>
      Option.bind (q48.2.2.2 x0 4) fun a52 =>
      Option.bind (gA Γ a52 7) fun N53 =>
      Option.bind (ix x5 N53) fun k54 =>
      Option.bind (q48.2.2.2 a49 k51) fun a55 =>
      @ite _ (Γ a55 = .inr 7) _ (
      Option.bind (f_Master_tell Γ q48.2 a55 (q48.2.2.2 a52 k54) (q48.2.1 x0 9)) fun q57 =>
      Option.bind (q57.2.2.2 x0 4) fun a58 =>
      Option.bind (gA Γ a58 7) fun N59 =>
      Option.bind (ix x5 N59) fun k60 =>
      Option.bind (q57.2.2.2 x0 1) fun a61 =>
      @ite _ (Γ a61 = .inr 10) _ (
      Option.bind (f_Switch_tellMaster Γ q57.2 a61 (q57.2.2.2 a58 k60) x5) fun q63 =>
      Option.bind (q63.2.2.2 x0 4) fun a64 =>
      Option.bind (gA Γ a64 7) fun N65 =>
      Option.bind (ix x5 N65) fun k66 =>
      Option.bind (q63.2.2.2 a64 k66) fun a67 =>
      @ite _ (Γ a67 = .inr 5) _ (
      Option.bind (gA Γ a64 7) fun N69 =>
      Option.bind (ix x5 N69) fun k70 =>
      Option.bind (q63.2.2.2 a67 6) fun a71 =>
      @ite _ (Γ a71 = .inr 4) _ (
      Option.bind (f_Monitor_look Γ q63.2 a71 (q63.2.2.2 a64 k70)) fun q73 =>
      (f_Bus_runTicks_L25 Γ Kc5 fu) q73.2 x0 x1 x2 x3 x4 (x5 + (1 : Int32))
      ) none
      ) none
      ) none
      ) none
      ) none
    ) none
set_option maxRecDepth 100000 in
set_option maxHeartbeats 4000000 in
theorem p_Bus_runTicks_L25 {w : jw_T} (hw : jok w) {Γ : gm_T} {n : Nat} (hG : gd w Γ n) {Kc5 : ph_T → Nat → Int32 → Int32 → Int32 → Int32 → Option (Int32 × ph_T)} (hKc5 : ∀ {x : Bool} {φ : ph_T} {x0 : Nat} {x1 : Int32} {x2 : Int32} {x3 : Int32} {x4 : Int32} {q : Int32 × ph_T}, Kc5 φ x0 x1 x2 x3 x4 = some q → J w M_Bus_runTicks 5 [some (.ref x0), some (.int x1), some (.int x2), some (.int x3), some (.int x4), none] [] (pic Γ φ) n x 0 0 (fq Γ n (.inl (some (.int q.1))) q.2)) : ∀ (fu : Nat) {x : Bool} {φ : ph_T} {x0 : Nat} {x1 : Int32} {x2 : Int32} {x3 : Int32} {x4 : Int32} {x5 : Int32} {q : Int32 × ph_T}, f_Bus_runTicks_L25 Γ Kc5 fu φ x0 x1 x2 x3 x4 x5 = some q → J w M_Bus_runTicks 25 [some (.ref x0), some (.int x1), some (.int x2), some (.int x3), some (.int x4), some (.int x5)] [] (pic Γ φ) n x 0 0 (fq Γ n (.inl (some (.int q.1))) q.2) := by
  intro fu
  induction fu with
  | zero =>
    intro x φ x0 x1 x2 x3 x4 x5 q H
    cases H
  | succ fu ih =>
    intro x φ x0 x1 x2 x3 x4 x5 q H
    unfold f_Bus_runTicks_L25 at H
    refine J_iload d_Bus_runTicks_25 rfl ?_
    refine J_aload_n d_Bus_runTicks_27 rfl ?_
    have g40 : Γ x0 = .inr 11 := by
      apply Classical.byContradiction
      intro q9
      rw [if_neg q9] at H
      cases H
    rw [if_pos g40] at H
    refine F_getR (ci := 11) (k := 2) hG (cf_Bus hw) (fl_Bus_31 hw) (by decide) (by decide) rfl d_Bus_runTicks_28 g40 ?_
    obtain ⟨a41, ha41, H⟩ := Option.bind_eq_some_iff.mp H
    rw [j_rf ha41]
    obtain ⟨N42, hN42, H⟩ := Option.bind_eq_some_iff.mp H
    refine F_alen hw hG (t := 8) rfl d_Bus_runTicks_31 (gA_some hN42) ?_
    refine J_icmp_ge (tgt := 108) d_Bus_runTicks_32 (by decide) ?_ ?_
    · intro c74
      rw [if_pos c74] at H
      refine J_iconst (v := 0) d_Bus_runTicks_108 (by decide) ?_
      refine J_istore d_Bus_runTicks_109 (Nat.le_of_ble_eq_true rfl) ?_
      refine J.ls (ls' := [some (.ref x0), some (.int x1), some (.int x2), some (.int x3), some (.int x4), some (.int (0 : Int32))]) rfl ?_
      refine J.drop [true, true, true, true, true, true] rfl ?_
      exact p_Bus_runTicks_L111 hw hG hKc5 _ H
    · intro c74
      rw [if_neg c74] at H
      refine J_aload_n d_Bus_runTicks_35 rfl ?_
      refine F_getR (ci := 11) (k := 4) hG (cf_Bus hw) (fl_Bus_37 hw) (by decide) (by decide) rfl d_Bus_runTicks_36 g40 ?_
      refine J_iload d_Bus_runTicks_39 rfl ?_
      obtain ⟨a43, ha43, H⟩ := Option.bind_eq_some_iff.mp H
      rw [j_rf ha43]
      obtain ⟨N44, hN44, H⟩ := Option.bind_eq_some_iff.mp H
      obtain ⟨k45, hk45, H⟩ := Option.bind_eq_some_iff.mp H
      refine F_aald k45 hw hG (t := 7) rfl (by decide) d_Bus_runTicks_41 (gA_some hN44) (ix_some hk45) ?_
      obtain ⟨a46, ha46, H⟩ := Option.bind_eq_some_iff.mp H
      rw [j_rf ha46]
      have g47 : Γ a46 = .inr 5 := by
        apply Classical.byContradiction
        intro q9
        rw [if_neg q9] at H
        cases H
      rw [if_pos g47] at H
      obtain ⟨q48, hq48, H⟩ := Option.bind_eq_some_iff.mp H
      refine J_callV (kc := 0) (ks := 0) (kc' := 0) (ks' := 0) (a := a46) (ci := 5) (as := []) (st := []) (mf_Port_begin hw) (mv_Bus_295 hw) d_Bus_runTicks_42 ln_Port_begin (by decide) (by first | exact Nat.le_of_ble_eq_true rfl | (simp only [List.map_cons, List.map_nil, List.sum_cons, List.sum_nil, va_rf_cat]; exact Nat.le_of_ble_eq_true rfl)) rfl ((hG _).1 _ g47 (by decide)).1 ((hG _).1 _ g47 (by decide)).2 (by unfold pic; rw [g47]; rfl) (jcl_at hw rfl) rfl (p_Port_begin hw hG hq48) ?_ (fun E h' n' x' e1 => by cases e1.1)
      intro v9 h9 n9 x9 e9
      obtain ⟨e91, e92, e93⟩ := e9
      cases e91
      subst e92
      subst e93
      clear x
      rename Bool => x
      show J _ _ _ _ [] _ _ _ _ _ _
      refine J_aload_n d_Bus_runTicks_45 rfl ?_
      refine F_getR (ci := 11) (k := 2) hG (cf_Bus hw) (fl_Bus_31 hw) (by decide) (by decide) rfl d_Bus_runTicks_46 g40 ?_
      refine J_iload d_Bus_runTicks_49 rfl ?_
      obtain ⟨a49, ha49, H⟩ := Option.bind_eq_some_iff.mp H
      rw [j_rf ha49]
      obtain ⟨N50, hN50, H⟩ := Option.bind_eq_some_iff.mp H
      obtain ⟨k51, hk51, H⟩ := Option.bind_eq_some_iff.mp H
      refine F_aald k51 hw hG (t := 8) rfl (by decide) d_Bus_runTicks_51 (gA_some hN50) (ix_some hk51) ?_
      refine J_aload_n d_Bus_runTicks_52 rfl ?_
      refine F_getR (ci := 11) (k := 4) hG (cf_Bus hw) (fl_Bus_37 hw) (by decide) (by decide) rfl d_Bus_runTicks_53 g40 ?_
      refine J_iload d_Bus_runTicks_56 rfl ?_
      obtain ⟨a52, ha52, H⟩ := Option.bind_eq_some_iff.mp H
      rw [j_rf ha52]
      obtain ⟨N53, hN53, H⟩ := Option.bind_eq_some_iff.mp H
      obtain ⟨k54, hk54, H⟩ := Option.bind_eq_some_iff.mp H
      refine F_aald k54 hw hG (t := 7) rfl (by decide) d_Bus_runTicks_58 (gA_some hN53) (ix_some hk54) ?_
      refine J_aload_n d_Bus_runTicks_59 rfl ?_
      refine F_getI (ci := 11) (k := 9) hG (cf_Bus hw) (fl_Bus_159 hw) (by decide) (by decide) rfl d_Bus_runTicks_60 g40 ?_
      obtain ⟨a55, ha55, H⟩ := Option.bind_eq_some_iff.mp H
      rw [j_rf ha55]
      have g56 : Γ a55 = .inr 7 := by
        apply Classical.byContradiction
        intro q9
        rw [if_neg q9] at H
        cases H
      rw [if_pos g56] at H
      obtain ⟨q57, hq57, H⟩ := Option.bind_eq_some_iff.mp H
      refine J_callV (kc := 0) (ks := 0) (kc' := 0) (ks' := 0) (a := a55) (ci := 7) (as := [va_rf (q48.2.2.2 a52 k54), .int (q48.2.1 x0 9)]) (st := []) (mf_Master_tell hw) (mv_Bus_298 hw) d_Bus_runTicks_63 ln_Master_tell (by decide) (by first | exact Nat.le_of_ble_eq_true rfl | (simp only [List.map_cons, List.map_nil, List.sum_cons, List.sum_nil, va_rf_cat]; exact Nat.le_of_ble_eq_true rfl)) rfl ((hG _).1 _ g56 (by decide)).1 ((hG _).1 _ g56 (by decide)).2 (by unfold pic; rw [g56]; rfl) (jcl_at hw rfl) rfl (p_Master_tell hw hG hq57) ?_ (fun E h' n' x' e1 => by cases e1.1)
      intro v9 h9 n9 x9 e9
      obtain ⟨e91, e92, e93⟩ := e9
      cases e91
      subst e92
      subst e93
      clear x
      rename Bool => x
      show J _ _ _ _ [] _ _ _ _ _ _
      refine J_aload_n d_Bus_runTicks_66 rfl ?_
      refine F_getR (ci := 11) (k := 1) hG (cf_Bus hw) (fl_Bus_25 hw) (by decide) (by decide) rfl d_Bus_runTicks_67 g40 ?_
      refine J_aload_n d_Bus_runTicks_70 rfl ?_
      refine F_getR (ci := 11) (k := 4) hG (cf_Bus hw) (fl_Bus_37 hw) (by decide) (by decide) rfl d_Bus_runTicks_71 g40 ?_
      refine J_iload d_Bus_runTicks_74 rfl ?_
      obtain ⟨a58, ha58, H⟩ := Option.bind_eq_some_iff.mp H
      rw [j_rf ha58]
      obtain ⟨N59, hN59, H⟩ := Option.bind_eq_some_iff.mp H
      obtain ⟨k60, hk60, H⟩ := Option.bind_eq_some_iff.mp H
      refine F_aald k60 hw hG (t := 7) rfl (by decide) d_Bus_runTicks_76 (gA_some hN59) (ix_some hk60) ?_
      refine J_iload d_Bus_runTicks_77 rfl ?_
      obtain ⟨a61, ha61, H⟩ := Option.bind_eq_some_iff.mp H
      rw [j_rf ha61]
      have g62 : Γ a61 = .inr 10 := by
        apply Classical.byContradiction
        intro q9
        rw [if_neg q9] at H
        cases H
      rw [if_pos g62] at H
      obtain ⟨q63, hq63, H⟩ := Option.bind_eq_some_iff.mp H
      refine J_callV (kc := 0) (ks := 0) (kc' := 0) (ks' := 0) (a := a61) (ci := 10) (as := [va_rf (q57.2.2.2 a58 k60), .int x5]) (st := []) (mf_Switch_tellMaster hw) (mv_Bus_302 hw) d_Bus_runTicks_79 ln_Switch_tellMaster (by decide) (by first | exact Nat.le_of_ble_eq_true rfl | (simp only [List.map_cons, List.map_nil, List.sum_cons, List.sum_nil, va_rf_cat]; exact Nat.le_of_ble_eq_true rfl)) rfl ((hG _).1 _ g62 (by decide)).1 ((hG _).1 _ g62 (by decide)).2 (by unfold pic; rw [g62]; rfl) (jcl_at hw rfl) rfl (p_Switch_tellMaster hw hG hq63) ?_ (fun E h' n' x' e1 => by cases e1.1)
      intro v9 h9 n9 x9 e9
      obtain ⟨e91, e92, e93⟩ := e9
      cases e91
      subst e92
      subst e93
      clear x
      rename Bool => x
      show J _ _ _ _ [] _ _ _ _ _ _
      refine J_aload_n d_Bus_runTicks_82 rfl ?_
      refine F_getR (ci := 11) (k := 4) hG (cf_Bus hw) (fl_Bus_37 hw) (by decide) (by decide) rfl d_Bus_runTicks_83 g40 ?_
      refine J_iload d_Bus_runTicks_86 rfl ?_
      obtain ⟨a64, ha64, H⟩ := Option.bind_eq_some_iff.mp H
      rw [j_rf ha64]
      obtain ⟨N65, hN65, H⟩ := Option.bind_eq_some_iff.mp H
      obtain ⟨k66, hk66, H⟩ := Option.bind_eq_some_iff.mp H
      refine F_aald k66 hw hG (t := 7) rfl (by decide) d_Bus_runTicks_88 (gA_some hN65) (ix_some hk66) ?_
      obtain ⟨a67, ha67, H⟩ := Option.bind_eq_some_iff.mp H
      rw [j_rf ha67]
      have g68 : Γ a67 = .inr 5 := by
        apply Classical.byContradiction
        intro q9
        rw [if_neg q9] at H
        cases H
      rw [if_pos g68] at H
      refine F_getR (ci := 5) (k := 6) hG (cf_Port hw) (fl_Bus_234 hw) (by decide) (by decide) rfl d_Bus_runTicks_89 g68 ?_
      refine J_aload_n d_Bus_runTicks_92 rfl ?_
      refine F_getR (ci := 11) (k := 4) hG (cf_Bus hw) (fl_Bus_37 hw) (by decide) (by decide) rfl d_Bus_runTicks_93 g40 ?_
      refine J_iload d_Bus_runTicks_96 rfl ?_
      try rw [j_rf ha64]
      obtain ⟨N69, hN69, H⟩ := Option.bind_eq_some_iff.mp H
      obtain ⟨k70, hk70, H⟩ := Option.bind_eq_some_iff.mp H
      refine F_aald k70 hw hG (t := 7) rfl (by decide) d_Bus_runTicks_98 (gA_some hN69) (ix_some hk70) ?_
      obtain ⟨a71, ha71, H⟩ := Option.bind_eq_some_iff.mp H
      rw [j_rf ha71]
      have g72 : Γ a71 = .inr 4 := by
        apply Classical.byContradiction
        intro q9
        rw [if_neg q9] at H
        cases H
      rw [if_pos g72] at H
      obtain ⟨q73, hq73, H⟩ := Option.bind_eq_some_iff.mp H
      refine J_callV (kc := 0) (ks := 0) (kc' := 0) (ks' := 0) (a := a71) (ci := 4) (as := [va_rf (q63.2.2.2 a64 k70)]) (st := []) (mf_Monitor_look hw) (mv_Bus_271 hw) d_Bus_runTicks_99 ln_Monitor_look (by decide) (by first | exact Nat.le_of_ble_eq_true rfl | (simp only [List.map_cons, List.map_nil, List.sum_cons, List.sum_nil, va_rf_cat]; exact Nat.le_of_ble_eq_true rfl)) rfl ((hG _).1 _ g72 (by decide)).1 ((hG _).1 _ g72 (by decide)).2 (by unfold pic; rw [g72]; rfl) (jcl_at hw rfl) rfl (p_Monitor_look hw hG hq73) ?_ (fun E h' n' x' e1 => by cases e1.1)
      intro v9 h9 n9 x9 e9
      obtain ⟨e91, e92, e93⟩ := e9
      cases e91
      subst e92
      subst e93
      clear x
      rename Bool => x
      show J _ _ _ _ [] _ _ _ _ _ _
      refine J_iinc (v := x5 + 1) d_Bus_runTicks_102 rfl (by rw [show Int32.ofInt 1 = (1 : Int32) from by decide]) ?_
      refine J.ls (ls' := [some (.ref x0), some (.int x1), some (.int x2), some (.int x3), some (.int x4), some (.int (x5 + (1 : Int32)))]) rfl ?_
      refine J_goto (tgt := 25) d_Bus_runTicks_105 (by decide) ?_
      refine J.drop [true, true, true, true, true, true] rfl ?_
      exact ih H
def f_Bus_runTicks_L22 (Γ : gm_T) (Kc5 : ph_T → Nat → Int32 → Int32 → Int32 → Int32 → Option (Int32 × ph_T)) (φ : ph_T) (x0 : Nat) (x1 : Int32) (x2 : Int32) (x3 : Int32) (x4 : Int32) : Option (Int32 × ph_T) :=
  f_Bus_runTicks_L25 Γ Kc5 jF φ x0 x1 x2 x3 x4 (0 : Int32)
set_option maxRecDepth 100000 in
set_option maxHeartbeats 4000000 in
theorem p_Bus_runTicks_L22 {w : jw_T} (hw : jok w) {Γ : gm_T} {n : Nat} (hG : gd w Γ n) {Kc5 : ph_T → Nat → Int32 → Int32 → Int32 → Int32 → Option (Int32 × ph_T)} (hKc5 : ∀ {x : Bool} {φ : ph_T} {x0 : Nat} {x1 : Int32} {x2 : Int32} {x3 : Int32} {x4 : Int32} {q : Int32 × ph_T}, Kc5 φ x0 x1 x2 x3 x4 = some q → J w M_Bus_runTicks 5 [some (.ref x0), some (.int x1), some (.int x2), some (.int x3), some (.int x4), none] [] (pic Γ φ) n x 0 0 (fq Γ n (.inl (some (.int q.1))) q.2)) {x : Bool} {φ : ph_T} {x0 : Nat} {x1 : Int32} {x2 : Int32} {x3 : Int32} {x4 : Int32} {q : Int32 × ph_T} (H : f_Bus_runTicks_L22 Γ Kc5 φ x0 x1 x2 x3 x4 = some q) : J w M_Bus_runTicks 22 [some (.ref x0), some (.int x1), some (.int x2), some (.int x3), some (.int x4), none] [] (pic Γ φ) n x 0 0 (fq Γ n (.inl (some (.int q.1))) q.2) := by
  unfold f_Bus_runTicks_L22 at H
  refine J_iconst (v := 0) d_Bus_runTicks_22 (by decide) ?_
  refine J_istore d_Bus_runTicks_23 (Nat.le_of_ble_eq_true rfl) ?_
  refine J.ls (ls' := [some (.ref x0), some (.int x1), some (.int x2), some (.int x3), some (.int x4), some (.int (0 : Int32))]) rfl ?_
  refine J.drop [true, true, true, true, true, true] rfl ?_
  exact p_Bus_runTicks_L25 hw hG hKc5 _ H
def f_Bus_runTicks_L5 (Γ : gm_T)  : Nat → ph_T → Nat → Int32 → Int32 → Int32 → Int32 → Option (Int32 × ph_T)
  | 0, _, _, _, _, _, _ => none
  | fu + 1, φ, x0, x1, x2, x3, x4 =>
    if x1 ≤ x4 then
      f_Bus_runTicks_L224 Γ  φ x3
    else
      if x2 = 0 then
        f_Bus_runTicks_L22 Γ (f_Bus_runTicks_L5 Γ  fu) φ x0 x1 x2 x3 x4
      else
        @ite _ (Γ x0 = .inr 11) _ (
        Option.bind (f_Bus_openRequests Γ φ x0) fun q76 =>
        if q76.1 = 0 then
          f_Bus_runTicks_L224 Γ  q76.2 x3
        else
          f_Bus_runTicks_L22 Γ (f_Bus_runTicks_L5 Γ  fu) q76.2 x0 x1 x2 x3 x4
        ) none
set_option maxRecDepth 100000 in
set_option maxHeartbeats 4000000 in
theorem p_Bus_runTicks_L5 {w : jw_T} (hw : jok w) {Γ : gm_T} {n : Nat} (hG : gd w Γ n)  : ∀ (fu : Nat) {x : Bool} {φ : ph_T} {x0 : Nat} {x1 : Int32} {x2 : Int32} {x3 : Int32} {x4 : Int32} {q : Int32 × ph_T}, f_Bus_runTicks_L5 Γ  fu φ x0 x1 x2 x3 x4 = some q → J w M_Bus_runTicks 5 [some (.ref x0), some (.int x1), some (.int x2), some (.int x3), some (.int x4), none] [] (pic Γ φ) n x 0 0 (fq Γ n (.inl (some (.int q.1))) q.2) := by
  intro fu
  induction fu with
  | zero =>
    intro x φ x0 x1 x2 x3 x4 q H
    cases H
  | succ fu ih =>
    intro x φ x0 x1 x2 x3 x4 q H
    unfold f_Bus_runTicks_L5 at H
    refine J_iload d_Bus_runTicks_5 rfl ?_
    refine J_iload_n d_Bus_runTicks_7 rfl ?_
    refine J_icmp_ge (tgt := 224) d_Bus_runTicks_8 (by decide) ?_ ?_
    · intro c79
      rw [if_pos c79] at H
      refine J.drop [false, false, false, true, false, false] rfl ?_
      exact p_Bus_runTicks_L224 hw hG  H
    · intro c79
      rw [if_neg c79] at H
      refine J_iload_n d_Bus_runTicks_11 rfl ?_
      refine J_if_eq (tgt := 22) d_Bus_runTicks_12 (by decide) ?_ ?_
      · intro c78
        rw [if_pos c78] at H
        refine J.drop [true, true, true, true, true, false] rfl ?_
        exact p_Bus_runTicks_L22 hw hG ih H
      · intro c78
        rw [if_neg c78] at H
        refine J_aload_n d_Bus_runTicks_15 rfl ?_
        have g75 : Γ x0 = .inr 11 := by
          apply Classical.byContradiction
          intro q9
          rw [if_neg q9] at H
          cases H
        rw [if_pos g75] at H
        obtain ⟨q76, hq76, H⟩ := Option.bind_eq_some_iff.mp H
        refine J_callV (kc := 0) (ks := 0) (kc' := 0) (ks' := 0) (a := x0) (ci := 11) (as := []) (st := []) (mf_Bus_openRequests hw) (mv_Bus_69 hw) d_Bus_runTicks_16 ln_Bus_openRequests (by decide) (by first | exact Nat.le_of_ble_eq_true rfl | (simp only [List.map_cons, List.map_nil, List.sum_cons, List.sum_nil, va_rf_cat]; exact Nat.le_of_ble_eq_true rfl)) rfl ((hG _).1 _ g75 (by decide)).1 ((hG _).1 _ g75 (by decide)).2 (by unfold pic; rw [g75]; rfl) (jcl_at hw rfl) rfl (p_Bus_openRequests hw hG hq76) ?_ (fun E h' n' x' e1 => by cases e1.1)
        intro v9 h9 n9 x9 e9
        obtain ⟨e91, e92, e93⟩ := e9
        cases e91
        subst e92
        subst e93
        clear x
        rename Bool => x
        show J _ _ _ _ (_ :: _) _ _ _ _ _ _
        refine J_if_eq (tgt := 224) d_Bus_runTicks_19 (by decide) ?_ ?_
        · intro c77
          rw [if_pos c77] at H
          refine J.drop [false, false, false, true, false, false] rfl ?_
          exact p_Bus_runTicks_L224 hw hG  H
        · intro c77
          rw [if_neg c77] at H
          refine J.drop [true, true, true, true, true, false] rfl ?_
          exact p_Bus_runTicks_L22 hw hG ih H
def f_Bus_runTicks (Γ : gm_T) (φ : ph_T) (this : Nat) (p0 : Int32) (p1 : Int32) : Option (Int32 × ph_T) :=
  f_Bus_runTicks_L5 Γ  jF φ this p0 p1 (0 : Int32) (0 : Int32)
set_option maxRecDepth 100000 in
set_option maxHeartbeats 4000000 in
theorem p_Bus_runTicks {w : jw_T} (hw : jok w) {Γ : gm_T} {n : Nat} (hG : gd w Γ n) {x : Bool} {φ : ph_T} {this : Nat} {p0 : Int32} {p1 : Int32} {q : Int32 × ph_T} (H : f_Bus_runTicks Γ φ this p0 p1 = some q) : jc w M_Bus_runTicks [.ref this, .int p0, .int p1] (pic Γ φ) n x 0 0 (fq Γ n (.inl (some (.int q.1))) q.2) := by
  refine jc.of (by simp only [jent_r, jent_i, jent_l, jent_a, jent_0]; exact Nat.le_of_ble_eq_true rfl) ?_
  have hls : jents [.ref this, .int p0, .int p1] (jm_nL M_Bus_runTicks) = [some (.ref this), some (.int p0), some (.int p1), none, none, none] := by simp only [jents, jent_r, jent_i, jent_l, jent_a, jent_0]; rfl
  rw [hls]
  clear hls
  unfold f_Bus_runTicks at H
  refine J_iconst (v := 0) d_Bus_runTicks_0 (by decide) ?_
  refine J_istore_n d_Bus_runTicks_1 (Nat.le_of_ble_eq_true rfl) ?_
  refine J.ls (ls' := [some (.ref this), some (.int p0), some (.int p1), some (.int (0 : Int32)), none, none]) rfl ?_
  refine J_iconst (v := 0) d_Bus_runTicks_2 (by decide) ?_
  refine J_istore d_Bus_runTicks_3 (Nat.le_of_ble_eq_true rfl) ?_
  refine J.ls (ls' := [some (.ref this), some (.int p0), some (.int p1), some (.int (0 : Int32)), some (.int (0 : Int32)), none]) rfl ?_
  refine J.drop [true, true, true, true, true, false] rfl ?_
  exact p_Bus_runTicks_L5 hw hG  _ H
theorem ln_Request_stage : (parseMethodDescriptor y_Request_stage.desc).map (fun q => q.parameters.length) = some 0 := by decide +kernel
def f_Request_stage_L23 (Γ : gm_T)  (φ : ph_T) (y0 : Int32) : Option (Int32 × ph_T) :=
  some (y0, φ)
set_option maxRecDepth 100000 in
set_option maxHeartbeats 4000000 in
theorem p_Request_stage_L23 {w : jw_T} (hw : jok w) {Γ : gm_T} {n : Nat} (hG : gd w Γ n)  {x : Bool} {φ : ph_T} {y0 : Int32} {q : Int32 × ph_T} (H : f_Request_stage_L23 Γ  φ y0 = some q) : J w M_Request_stage 23 [none] [.int y0] (pic Γ φ) n x 0 0 (fq Γ n (.inl (some (.int q.1))) q.2) := by
  unfold f_Request_stage_L23 at H
  have H := Option.some.inj H
  subst H
  exact J_iret (st := []) d_Request_stage_23 rfl rfl ⟨rfl, rfl, rfl⟩
def f_Request_stage (Γ : gm_T) (φ : ph_T) (this : Nat) : Option (Int32 × ph_T) :=
  @ite _ (Γ this = .inr 6) _ (
  if (φ.1 this 4) = (-1 : Int32) then
    if (φ.1 this 3) = (-1 : Int32) then
      f_Request_stage_L23 Γ  φ (0 : Int32)
    else
      f_Request_stage_L23 Γ  φ (1 : Int32)
  else
    some ((2 : Int32), φ)
  ) none
set_option maxRecDepth 100000 in
set_option maxHeartbeats 4000000 in
theorem p_Request_stage {w : jw_T} (hw : jok w) {Γ : gm_T} {n : Nat} (hG : gd w Γ n) {x : Bool} {φ : ph_T} {this : Nat} {q : Int32 × ph_T} (H : f_Request_stage Γ φ this = some q) : jc w M_Request_stage [.ref this] (pic Γ φ) n x 0 0 (fq Γ n (.inl (some (.int q.1))) q.2) := by
  refine jc.of (by simp only [jent_r, jent_i, jent_l, jent_a, jent_0]; exact Nat.le_of_ble_eq_true rfl) ?_
  have hls : jents [.ref this] (jm_nL M_Request_stage) = [some (.ref this)] := by simp only [jents, jent_r, jent_i, jent_l, jent_a, jent_0]; rfl
  rw [hls]
  clear hls
  unfold f_Request_stage at H
  refine J_aload_n d_Request_stage_0 rfl ?_
  have g1 : Γ this = .inr 6 := by
    apply Classical.byContradiction
    intro q9
    rw [if_neg q9] at H
    cases H
  rw [if_pos g1] at H
  refine F_getI (ci := 6) (k := 4) hG (cf_Request hw) (fl_Request_33 hw) (by decide) (by decide) rfl d_Request_stage_1 g1 ?_
  refine J_iconst (v := -1) d_Request_stage_4 (by decide) ?_
  refine J_icmp_eq (tgt := 10) d_Request_stage_5 (by decide) ?_ ?_
  · intro c3
    rw [if_pos c3] at H
    refine J_aload_n d_Request_stage_10 rfl ?_
    refine F_getI (ci := 6) (k := 3) hG (cf_Request hw) (fl_Request_30 hw) (by decide) (by decide) rfl d_Request_stage_11 g1 ?_
    refine J_iconst (v := -1) d_Request_stage_14 (by decide) ?_
    refine J_icmp_ne (tgt := 22) d_Request_stage_15 (by decide) ?_ ?_
    · intro c2
      rw [if_neg c2] at H
      refine J_iconst (v := 1) d_Request_stage_22 (by decide) ?_
      refine J.drop [false] rfl ?_
      exact p_Request_stage_L23 hw hG  H
    · intro c2
      rw [if_pos c2] at H
      refine J_iconst (v := 0) d_Request_stage_18 (by decide) ?_
      refine J_goto (tgt := 23) d_Request_stage_19 (by decide) ?_
      refine J.drop [false] rfl ?_
      exact p_Request_stage_L23 hw hG  H
  · intro c3
    rw [if_neg c3] at H
    refine J_iconst (v := 2) d_Request_stage_8 (by decide) ?_
    have H := Option.some.inj H
    subst H
    exact J_iret (st := []) d_Request_stage_9 rfl rfl ⟨rfl, rfl, rfl⟩
theorem ln_Monitor_faultPart : (parseMethodDescriptor y_Monitor_faultPart.desc).map (fun q => q.parameters.length) = some 1 := by decide +kernel
def f_Monitor_faultPart_L25 (Γ : gm_T)  (φ : ph_T) (y0 : Int32) : Option (Int32 × ph_T) :=
  some (y0, φ)
set_option maxRecDepth 100000 in
set_option maxHeartbeats 4000000 in
theorem p_Monitor_faultPart_L25 {w : jw_T} (hw : jok w) {Γ : gm_T} {n : Nat} (hG : gd w Γ n)  {x : Bool} {φ : ph_T} {y0 : Int32} {q : Int32 × ph_T} (H : f_Monitor_faultPart_L25 Γ  φ y0 = some q) : J w M_Monitor_faultPart 25 [none, none] [.int y0] (pic Γ φ) n x 0 0 (fq Γ n (.inl (some (.int q.1))) q.2) := by
  unfold f_Monitor_faultPart_L25 at H
  have H := Option.some.inj H
  subst H
  exact J_iret (st := []) d_Monitor_faultPart_25 rfl rfl ⟨rfl, rfl, rfl⟩
def f_Monitor_faultPart (Γ : gm_T) (φ : ph_T) (this : Nat) (p0 : Int32) : Option (Int32 × ph_T) :=
  if p0 = 0 then
    @ite _ (Γ this = .inr 4) _ (
    some ((φ.1 this 5), φ)
    ) none
  else
    if p0 = (1 : Int32) then
      @ite _ (Γ this = .inr 4) _ (
      f_Monitor_faultPart_L25 Γ  φ (φ.1 this 6)
      ) none
    else
      @ite _ (Γ this = .inr 4) _ (
      f_Monitor_faultPart_L25 Γ  φ (φ.1 this 7)
      ) none
set_option maxRecDepth 100000 in
set_option maxHeartbeats 4000000 in
theorem p_Monitor_faultPart {w : jw_T} (hw : jok w) {Γ : gm_T} {n : Nat} (hG : gd w Γ n) {x : Bool} {φ : ph_T} {this : Nat} {p0 : Int32} {q : Int32 × ph_T} (H : f_Monitor_faultPart Γ φ this p0 = some q) : jc w M_Monitor_faultPart [.ref this, .int p0] (pic Γ φ) n x 0 0 (fq Γ n (.inl (some (.int q.1))) q.2) := by
  refine jc.of (by simp only [jent_r, jent_i, jent_l, jent_a, jent_0]; exact Nat.le_of_ble_eq_true rfl) ?_
  have hls : jents [.ref this, .int p0] (jm_nL M_Monitor_faultPart) = [some (.ref this), some (.int p0)] := by simp only [jents, jent_r, jent_i, jent_l, jent_a, jent_0]; rfl
  rw [hls]
  clear hls
  unfold f_Monitor_faultPart at H
  refine J_iload_n d_Monitor_faultPart_0 rfl ?_
  refine J_if_ne (tgt := 9) d_Monitor_faultPart_1 (by decide) ?_ ?_
  · intro c5
    rw [if_neg c5] at H
    refine J_iload_n d_Monitor_faultPart_9 rfl ?_
    refine J_iconst (v := 1) d_Monitor_faultPart_10 (by decide) ?_
    refine J_icmp_ne (tgt := 21) d_Monitor_faultPart_11 (by decide) ?_ ?_
    · intro c3
      rw [if_neg c3] at H
      refine J_aload_n d_Monitor_faultPart_21 rfl ?_
      have g1 : Γ this = .inr 4 := by
        apply Classical.byContradiction
        intro q9
        rw [if_neg q9] at H
        cases H
      rw [if_pos g1] at H
      refine F_getI (ci := 4) (k := 7) hG (cf_Monitor hw) (fl_Monitor_39 hw) (by decide) (by decide) rfl d_Monitor_faultPart_22 g1 ?_
      refine J.drop [false, false] rfl ?_
      exact p_Monitor_faultPart_L25 hw hG  H
    · intro c3
      rw [if_pos c3] at H
      refine J_aload_n d_Monitor_faultPart_14 rfl ?_
      have g2 : Γ this = .inr 4 := by
        apply Classical.byContradiction
        intro q9
        rw [if_neg q9] at H
        cases H
      rw [if_pos g2] at H
      refine F_getI (ci := 4) (k := 6) hG (cf_Monitor hw) (fl_Monitor_35 hw) (by decide) (by decide) rfl d_Monitor_faultPart_15 g2 ?_
      refine J_goto (tgt := 25) d_Monitor_faultPart_18 (by decide) ?_
      refine J.drop [false, false] rfl ?_
      exact p_Monitor_faultPart_L25 hw hG  H
  · intro c5
    rw [if_pos c5] at H
    refine J_aload_n d_Monitor_faultPart_4 rfl ?_
    have g4 : Γ this = .inr 4 := by
      apply Classical.byContradiction
      intro q9
      rw [if_neg q9] at H
      cases H
    rw [if_pos g4] at H
    refine F_getI (ci := 4) (k := 5) hG (cf_Monitor hw) (fl_Monitor_45 hw) (by decide) (by decide) rfl d_Monitor_faultPart_5 g4 ?_
    have H := Option.some.inj H
    subst H
    exact J_iret (st := []) d_Monitor_faultPart_8 rfl rfl ⟨rfl, rfl, rfl⟩
