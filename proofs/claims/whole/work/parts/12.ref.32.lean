theorem ln_Ref_content : (parseMethodDescriptor y_Ref_content.desc).map (fun q => q.parameters.length) = some 3 := by decide +kernel
def f_Ref_content_L52 (Γ : gm_T)  (φ : ph_T) (y0 : Int64) : Option (Int64 × ph_T) :=
  some (y0, φ)
set_option maxRecDepth 100000 in
set_option maxHeartbeats 4000000 in
theorem p_Ref_content_L52 {w : jw_T} (hw : jok w) {Γ : gm_T} {n : Nat} (hG : gd w Γ n)  {x : Bool} {φ : ph_T} {y0 : Int64} {q : Int64 × ph_T} (H : f_Ref_content_L52 Γ  φ y0 = some q) : J w M_Ref_content 52 [none, none, none, none] [.long y0] (pic Γ φ) n x 0 0 (fq Γ n (.inl (some (.long q.1))) q.2) := by
  unfold f_Ref_content_L52 at H
  have H := Option.some.inj H
  subst H
  exact J_lret (st := []) d_Ref_content_52 rfl ⟨rfl, rfl, rfl⟩
def f_Ref_content_L27 (Γ : gm_T)  (φ : ph_T) (x0 : Nat) (x1 : Int32) (x2 : Int32) (x3 : Int32) (y0 : Int32) (y1 : Nat) : Option (Int64 × ph_T) :=
  @ite _ (Γ y1 = .inr 12) _ (
  @ite _ (Γ x0 = .inr 12) _ (
  if ((uI φ y1 0 y0).1 x0 0) ≤ 0 then
    Option.bind (f_Ref_wireOf Γ (uI φ y1 0 y0) x1 x2 x3) fun q3 =>
    Option.bind (φ.2.2 x0 35) fun a4 =>
    Option.bind (gA Γ a4 1) fun N5 =>
    Option.bind (ix q3.1 N5) fun k6 =>
    f_Ref_content_L52 Γ  q3.2 (q3.2.2.1 a4 k6)
  else
    f_Ref_content_L52 Γ  (uI φ y1 0 y0) (0 : Int64)
  ) none
  ) none
set_option maxRecDepth 100000 in
set_option maxHeartbeats 4000000 in
theorem p_Ref_content_L27 {w : jw_T} (hw : jok w) {Γ : gm_T} {n : Nat} (hG : gd w Γ n)  {x : Bool} {φ : ph_T} {x0 : Nat} {x1 : Int32} {x2 : Int32} {x3 : Int32} {y0 : Int32} {y1 : Nat} {q : Int64 × ph_T} (H : f_Ref_content_L27 Γ  φ x0 x1 x2 x3 y0 y1 = some q) : J w M_Ref_content 27 [some (.ref x0), some (.int x1), some (.int x2), some (.int x3)] [.int y0, .ref y1] (pic Γ φ) n x 0 0 (fq Γ n (.inl (some (.long q.1))) q.2) := by
  unfold f_Ref_content_L27 at H
  have g1 : Γ y1 = .inr 12 := by
    apply Classical.byContradiction
    intro q9
    rw [if_neg q9] at H
    cases H
  rw [if_pos g1] at H
  refine F_putI (ci := 12) (k := 0) hG (cf_Ref hw) (fl_Ref_303 hw) (by decide) (by decide) rfl d_Ref_content_27 rfl rfl rfl g1 ?_
  refine J_aload_n d_Ref_content_30 rfl ?_
  have g2 : Γ x0 = .inr 12 := by
    apply Classical.byContradiction
    intro q9
    rw [if_neg q9] at H
    cases H
  rw [if_pos g2] at H
  refine F_getI (ci := 12) (k := 0) hG (cf_Ref hw) (fl_Ref_303 hw) (by decide) (by decide) rfl d_Ref_content_31 g2 ?_
  refine J_if_le (tgt := 41) d_Ref_content_34 (by decide) ?_ ?_
  · intro c7
    rw [if_pos c7] at H
    refine J_aload_n d_Ref_content_41 rfl ?_
    refine F_getR (ci := 12) (k := 35) hG (cf_Ref hw) (fl_Ref_94 hw) (by decide) (by decide) rfl d_Ref_content_42 g2 ?_
    show J _ _ _ _ (va_rf (φ.2.2 x0 35) :: _) _ _ _ _ _ _
    refine J_iload_n d_Ref_content_45 rfl ?_
    refine J_iload_n d_Ref_content_46 rfl ?_
    refine J_iload_n d_Ref_content_47 rfl ?_
    obtain ⟨q3, hq3, H⟩ := Option.bind_eq_some_iff.mp H
    refine J_callS (kc := 0) (ks := 0) (kc' := 0) (ks' := 0) (as := [.int x1, .int x2, .int x3]) (st := [va_rf (φ.2.2 x0 35)]) (mf_Ref_wireOf hw) (ms_Ref_631 hw) d_Ref_content_48 ln_Ref_wireOf (by decide) (by first | exact Nat.le_of_ble_eq_true rfl | (simp only [List.map_cons, List.map_nil, List.sum_cons, List.sum_nil, va_rf_cat]; exact Nat.le_of_ble_eq_true rfl)) rfl (p_Ref_wireOf hw hG hq3) ?_ (fun E h' n' x' e1 => by cases e1.1)
    intro v9 h9 n9 x9 e9
    obtain ⟨e91, e92, e93⟩ := e9
    cases e91
    subst e92
    subst e93
    clear x
    rename Bool => x
    show J _ _ _ _ (_ :: _) _ _ _ _ _ _
    obtain ⟨a4, ha4, H⟩ := Option.bind_eq_some_iff.mp H
    rw [j_rf ha4]
    obtain ⟨N5, hN5, H⟩ := Option.bind_eq_some_iff.mp H
    obtain ⟨k6, hk6, H⟩ := Option.bind_eq_some_iff.mp H
    refine F_lald k6 hw hG d_Ref_content_51 (gA_some hN5) (ix_some hk6) ?_
    refine J.drop [false, false, false, false] rfl ?_
    exact p_Ref_content_L52 hw hG  H
  · intro c7
    rw [if_neg c7] at H
    refine J_lconst (v := 0) d_Ref_content_37 (by decide) ?_
    refine J_goto (tgt := 52) d_Ref_content_38 (by decide) ?_
    refine J.drop [false, false, false, false] rfl ?_
    exact p_Ref_content_L52 hw hG  H
def f_Ref_content_L26 (Γ : gm_T)  (φ : ph_T) (x0 : Nat) (x1 : Int32) (x2 : Int32) (x3 : Int32) (y0 : Nat) : Option (Int64 × ph_T) :=
  f_Ref_content_L27 Γ  φ x0 x1 x2 x3 (1 : Int32) y0
set_option maxRecDepth 100000 in
set_option maxHeartbeats 4000000 in
theorem p_Ref_content_L26 {w : jw_T} (hw : jok w) {Γ : gm_T} {n : Nat} (hG : gd w Γ n)  {x : Bool} {φ : ph_T} {x0 : Nat} {x1 : Int32} {x2 : Int32} {x3 : Int32} {y0 : Nat} {q : Int64 × ph_T} (H : f_Ref_content_L26 Γ  φ x0 x1 x2 x3 y0 = some q) : J w M_Ref_content 26 [some (.ref x0), some (.int x1), some (.int x2), some (.int x3)] [.ref y0] (pic Γ φ) n x 0 0 (fq Γ n (.inl (some (.long q.1))) q.2) := by
  unfold f_Ref_content_L26 at H
  refine J_iconst (v := 1) d_Ref_content_26 (by decide) ?_
  refine J.drop [true, true, true, true] rfl ?_
  exact p_Ref_content_L27 hw hG  H
def f_Ref_content (Γ : gm_T) (φ : ph_T) (this : Nat) (p0 : Int32) (p1 : Int32) (p2 : Int32) : Option (Int64 × ph_T) :=
  @ite _ (Γ this = .inr 12) _ (
  Option.bind (f_Ref_isSide Γ φ this p0 p1) fun q9 =>
  if q9.1 = 0 then
    f_Ref_content_L26 Γ  q9.2 this p0 p1 p2 this
  else
    Option.bind (f_Ref_in Γ q9.2 (Int32.toInt64 p2) (0 : Int64) (4 : Int64)) fun q10 =>
    if q10.1 = 0 then
      f_Ref_content_L26 Γ  q10.2 this p0 p1 p2 this
    else
      f_Ref_content_L27 Γ  q10.2 this p0 p1 p2 (0 : Int32) this
  ) none
set_option maxRecDepth 100000 in
set_option maxHeartbeats 4000000 in
theorem p_Ref_content {w : jw_T} (hw : jok w) {Γ : gm_T} {n : Nat} (hG : gd w Γ n) {x : Bool} {φ : ph_T} {this : Nat} {p0 : Int32} {p1 : Int32} {p2 : Int32} {q : Int64 × ph_T} (H : f_Ref_content Γ φ this p0 p1 p2 = some q) : jc w M_Ref_content [.ref this, .int p0, .int p1, .int p2] (pic Γ φ) n x 0 0 (fq Γ n (.inl (some (.long q.1))) q.2) := by
  refine jc.of (by simp only [jent_r, jent_i, jent_l, jent_a, jent_0]; exact Nat.le_of_ble_eq_true rfl) ?_
  have hls : jents [.ref this, .int p0, .int p1, .int p2] (jm_nL M_Ref_content) = [some (.ref this), some (.int p0), some (.int p1), some (.int p2)] := by simp only [jents, jent_r, jent_i, jent_l, jent_a, jent_0]; rfl
  rw [hls]
  clear hls
  unfold f_Ref_content at H
  refine J_aload_n d_Ref_content_0 rfl ?_
  refine J_aload_n d_Ref_content_1 rfl ?_
  refine J_iload_n d_Ref_content_2 rfl ?_
  refine J_iload_n d_Ref_content_3 rfl ?_
  have g8 : Γ this = .inr 12 := by
    apply Classical.byContradiction
    intro q9
    rw [if_neg q9] at H
    cases H
  rw [if_pos g8] at H
  obtain ⟨q9, hq9, H⟩ := Option.bind_eq_some_iff.mp H
  refine J_callV (kc := 0) (ks := 0) (kc' := 0) (ks' := 0) (a := this) (ci := 12) (as := [.int p0, .int p1]) (st := [.ref this]) (mf_Ref_isSide hw) (mv_Ref_628 hw) d_Ref_content_4 ln_Ref_isSide (by decide) (by first | exact Nat.le_of_ble_eq_true rfl | (simp only [List.map_cons, List.map_nil, List.sum_cons, List.sum_nil, va_rf_cat]; exact Nat.le_of_ble_eq_true rfl)) rfl ((hG _).1 _ g8 (by decide)).1 ((hG _).1 _ g8 (by decide)).2 (by unfold pic; rw [g8]; rfl) (jcl_at hw rfl) rfl (p_Ref_isSide hw hG hq9) ?_ (fun E h' n' x' e1 => by cases e1.1)
  intro v9 h9 n9 x9 e9
  obtain ⟨e91, e92, e93⟩ := e9
  cases e91
  subst e92
  subst e93
  clear x
  rename Bool => x
  show J _ _ _ _ (_ :: _) _ _ _ _ _ _
  refine J_if_eq (tgt := 26) d_Ref_content_7 (by decide) ?_ ?_
  · intro c12
    rw [if_pos c12] at H
    refine J.drop [true, true, true, true] rfl ?_
    exact p_Ref_content_L26 hw hG  H
  · intro c12
    rw [if_neg c12] at H
    refine J_iload_n d_Ref_content_10 rfl ?_
    refine J_i2l d_Ref_content_11 ?_
    refine J_lconst (v := 0) d_Ref_content_12 (by decide) ?_
    refine J_ldc2 (v := 4) d_Ref_content_13 (kn_Ref_609 hw) ?_
    obtain ⟨q10, hq10, H⟩ := Option.bind_eq_some_iff.mp H
    refine J_callS (kc := 0) (ks := 0) (kc' := 0) (ks' := 0) (as := [.long (Int32.toInt64 p2), .long (0 : Int64), .long (4 : Int64)]) (st := [.ref this]) (mf_Ref_in hw) (ms_Ref_599 hw) d_Ref_content_16 ln_Ref_in (by decide) (by first | exact Nat.le_of_ble_eq_true rfl | (simp only [List.map_cons, List.map_nil, List.sum_cons, List.sum_nil, va_rf_cat]; exact Nat.le_of_ble_eq_true rfl)) rfl (p_Ref_in hw hG hq10) ?_ (fun E h' n' x' e1 => by cases e1.1)
    intro v9 h9 n9 x9 e9
    obtain ⟨e91, e92, e93⟩ := e9
    cases e91
    subst e92
    subst e93
    clear x
    rename Bool => x
    show J _ _ _ _ (_ :: _) _ _ _ _ _ _
    refine J_if_eq (tgt := 26) d_Ref_content_19 (by decide) ?_ ?_
    · intro c11
      rw [if_pos c11] at H
      refine J.drop [true, true, true, true] rfl ?_
      exact p_Ref_content_L26 hw hG  H
    · intro c11
      rw [if_neg c11] at H
      refine J_iconst (v := 0) d_Ref_content_22 (by decide) ?_
      refine J_goto (tgt := 27) d_Ref_content_23 (by decide) ?_
      refine J.drop [true, true, true, true] rfl ?_
      exact p_Ref_content_L27 hw hG  H
theorem ln_Ref_port : (parseMethodDescriptor y_Ref_port.desc).map (fun q => q.parameters.length) = some 3 := by decide +kernel
def f_Ref_port_L107 (Γ : gm_T)  (φ : ph_T) (y0 : Int32) : Option (Int32 × ph_T) :=
  some (y0, φ)
set_option maxRecDepth 100000 in
set_option maxHeartbeats 4000000 in
theorem p_Ref_port_L107 {w : jw_T} (hw : jok w) {Γ : gm_T} {n : Nat} (hG : gd w Γ n)  {x : Bool} {φ : ph_T} {y0 : Int32} {q : Int32 × ph_T} (H : f_Ref_port_L107 Γ  φ y0 = some q) : J w M_Ref_port 107 [none, none, none, none, none] [.int y0] (pic Γ φ) n x 0 0 (fq Γ n (.inl (some (.int q.1))) q.2) := by
  unfold f_Ref_port_L107 at H
  have H := Option.some.inj H
  subst H
  exact J_iret (st := []) d_Ref_port_107 rfl rfl ⟨rfl, rfl, rfl⟩
def f_Ref_port_L31 (Γ : gm_T)  (φ : ph_T) (x0 : Nat) (x1 : Int32) (x2 : Int32) (x3 : Int32) (y0 : Int32) (y1 : Nat) : Option (Int32 × ph_T) :=
  @ite _ (Γ y1 = .inr 12) _ (
  @ite _ (Γ x0 = .inr 12) _ (
  if ((uI φ y1 0 y0).1 x0 0) ≤ 0 then
    if (5 : Int32) ≤ x3 then
      if x3 = (5 : Int32) then
        Option.bind (φ.2.2 x0 86) fun a10 =>
        Option.bind (gA Γ a10 0) fun N11 =>
        Option.bind (ix (((4 : Int32) * x1) + x2) N11) fun k12 =>
        f_Ref_port_L107 Γ  (uI φ y1 0 y0) ((uI φ y1 0 y0).1 a10 k12)
      else
        if x3 = (6 : Int32) then
          Option.bind (φ.2.2 x0 87) fun a6 =>
          Option.bind (gA Γ a6 0) fun N7 =>
          Option.bind (ix (((4 : Int32) * x1) + x2) N7) fun k8 =>
          f_Ref_port_L107 Γ  (uI φ y1 0 y0) ((uI φ y1 0 y0).1 a6 k8)
        else
          Option.bind (φ.2.2 x0 88) fun a3 =>
          Option.bind (gA Γ a3 0) fun N4 =>
          Option.bind (ix (((4 : Int32) * x1) + x2) N4) fun k5 =>
          f_Ref_port_L107 Γ  (uI φ y1 0 y0) ((uI φ y1 0 y0).1 a3 k5)
    else
      Option.bind (φ.2.2 x0 38) fun a14 =>
      Option.bind (gA Γ a14 0) fun N15 =>
      Option.bind (ix (((5 : Int32) * (((4 : Int32) * x1) + x2)) + x3) N15) fun k16 =>
      f_Ref_port_L107 Γ  (uI φ y1 0 y0) ((uI φ y1 0 y0).1 a14 k16)
  else
    some ((0 : Int32), (uI φ y1 0 y0))
  ) none
  ) none
set_option maxRecDepth 100000 in
set_option maxHeartbeats 4000000 in
theorem p_Ref_port_L31 {w : jw_T} (hw : jok w) {Γ : gm_T} {n : Nat} (hG : gd w Γ n)  {x : Bool} {φ : ph_T} {x0 : Nat} {x1 : Int32} {x2 : Int32} {x3 : Int32} {y0 : Int32} {y1 : Nat} {q : Int32 × ph_T} (H : f_Ref_port_L31 Γ  φ x0 x1 x2 x3 y0 y1 = some q) : J w M_Ref_port 31 [some (.ref x0), some (.int x1), some (.int x2), some (.int x3), none] [.int y0, .ref y1] (pic Γ φ) n x 0 0 (fq Γ n (.inl (some (.int q.1))) q.2) := by
  unfold f_Ref_port_L31 at H
  have g1 : Γ y1 = .inr 12 := by
    apply Classical.byContradiction
    intro q9
    rw [if_neg q9] at H
    cases H
  rw [if_pos g1] at H
  refine F_putI (ci := 12) (k := 0) hG (cf_Ref hw) (fl_Ref_303 hw) (by decide) (by decide) rfl d_Ref_port_31 rfl rfl rfl g1 ?_
  refine J_aload_n d_Ref_port_34 rfl ?_
  have g2 : Γ x0 = .inr 12 := by
    apply Classical.byContradiction
    intro q9
    rw [if_neg q9] at H
    cases H
  rw [if_pos g2] at H
  refine F_getI (ci := 12) (k := 0) hG (cf_Ref hw) (fl_Ref_303 hw) (by decide) (by decide) rfl d_Ref_port_35 g2 ?_
  refine J_if_le (tgt := 43) d_Ref_port_38 (by decide) ?_ ?_
  · intro c18
    rw [if_pos c18] at H
    refine J_iconst (v := 4) d_Ref_port_43 (by decide) ?_
    refine J_iload_n d_Ref_port_44 rfl ?_
    refine J_imul d_Ref_port_45 ?_
    refine J_iload_n d_Ref_port_46 rfl ?_
    refine J_iadd d_Ref_port_47 ?_
    refine J_istore d_Ref_port_48 (Nat.le_of_ble_eq_true rfl) ?_
    refine J.ls (ls' := [some (.ref x0), some (.int x1), some (.int x2), some (.int x3), some (.int (((4 : Int32) * x1) + x2))]) rfl ?_
    refine J_iload_n d_Ref_port_50 rfl ?_
    refine J_iconst (v := 5) d_Ref_port_51 (by decide) ?_
    refine J_icmp_ge (tgt := 69) d_Ref_port_52 (by decide) ?_ ?_
    · intro c17
      rw [if_pos c17] at H
      refine J_iload_n d_Ref_port_69 rfl ?_
      refine J_iconst (v := 5) d_Ref_port_70 (by decide) ?_
      refine J_icmp_ne (tgt := 84) d_Ref_port_71 (by decide) ?_ ?_
      · intro c13
        rw [if_neg c13] at H
        refine J_iload_n d_Ref_port_84 rfl ?_
        refine J_bipush (v := 6) d_Ref_port_85 (by decide) ?_
        refine J_icmp_ne (tgt := 100) d_Ref_port_87 (by decide) ?_ ?_
        · intro c9
          rw [if_neg c9] at H
          refine J_aload_n d_Ref_port_100 rfl ?_
          refine F_getR (ci := 12) (k := 88) hG (cf_Ref hw) (fl_Ref_244 hw) (by decide) (by decide) rfl d_Ref_port_101 g2 ?_
          show J _ _ _ _ (va_rf (φ.2.2 x0 88) :: _) _ _ _ _ _ _
          refine J_iload d_Ref_port_104 rfl ?_
          obtain ⟨a3, ha3, H⟩ := Option.bind_eq_some_iff.mp H
          rw [j_rf ha3]
          obtain ⟨N4, hN4, H⟩ := Option.bind_eq_some_iff.mp H
          obtain ⟨k5, hk5, H⟩ := Option.bind_eq_some_iff.mp H
          refine F_iald k5 hw hG d_Ref_port_106 (gA_some hN4) (ix_some hk5) ?_
          refine J.drop [false, false, false, false, false] rfl ?_
          exact p_Ref_port_L107 hw hG  H
        · intro c9
          rw [if_pos c9] at H
          refine J_aload_n d_Ref_port_90 rfl ?_
          refine F_getR (ci := 12) (k := 87) hG (cf_Ref hw) (fl_Ref_241 hw) (by decide) (by decide) rfl d_Ref_port_91 g2 ?_
          show J _ _ _ _ (va_rf (φ.2.2 x0 87) :: _) _ _ _ _ _ _
          refine J_iload d_Ref_port_94 rfl ?_
          obtain ⟨a6, ha6, H⟩ := Option.bind_eq_some_iff.mp H
          rw [j_rf ha6]
          obtain ⟨N7, hN7, H⟩ := Option.bind_eq_some_iff.mp H
          obtain ⟨k8, hk8, H⟩ := Option.bind_eq_some_iff.mp H
          refine F_iald k8 hw hG d_Ref_port_96 (gA_some hN7) (ix_some hk8) ?_
          refine J_goto (tgt := 107) d_Ref_port_97 (by decide) ?_
          refine J.drop [false, false, false, false, false] rfl ?_
          exact p_Ref_port_L107 hw hG  H
      · intro c13
        rw [if_pos c13] at H
        refine J_aload_n d_Ref_port_74 rfl ?_
        refine F_getR (ci := 12) (k := 86) hG (cf_Ref hw) (fl_Ref_238 hw) (by decide) (by decide) rfl d_Ref_port_75 g2 ?_
        show J _ _ _ _ (va_rf (φ.2.2 x0 86) :: _) _ _ _ _ _ _
        refine J_iload d_Ref_port_78 rfl ?_
        obtain ⟨a10, ha10, H⟩ := Option.bind_eq_some_iff.mp H
        rw [j_rf ha10]
        obtain ⟨N11, hN11, H⟩ := Option.bind_eq_some_iff.mp H
        obtain ⟨k12, hk12, H⟩ := Option.bind_eq_some_iff.mp H
        refine F_iald k12 hw hG d_Ref_port_80 (gA_some hN11) (ix_some hk12) ?_
        refine J_goto (tgt := 107) d_Ref_port_81 (by decide) ?_
        refine J.drop [false, false, false, false, false] rfl ?_
        exact p_Ref_port_L107 hw hG  H
    · intro c17
      rw [if_neg c17] at H
      refine J_aload_n d_Ref_port_55 rfl ?_
      refine F_getR (ci := 12) (k := 38) hG (cf_Ref hw) (fl_Ref_103 hw) (by decide) (by decide) rfl d_Ref_port_56 g2 ?_
      show J _ _ _ _ (va_rf (φ.2.2 x0 38) :: _) _ _ _ _ _ _
      refine J_iconst (v := 5) d_Ref_port_59 (by decide) ?_
      refine J_iload d_Ref_port_60 rfl ?_
      refine J_imul d_Ref_port_62 ?_
      refine J_iload_n d_Ref_port_63 rfl ?_
      refine J_iadd d_Ref_port_64 ?_
      obtain ⟨a14, ha14, H⟩ := Option.bind_eq_some_iff.mp H
      rw [j_rf ha14]
      obtain ⟨N15, hN15, H⟩ := Option.bind_eq_some_iff.mp H
      obtain ⟨k16, hk16, H⟩ := Option.bind_eq_some_iff.mp H
      refine F_iald k16 hw hG d_Ref_port_65 (gA_some hN15) (ix_some hk16) ?_
      refine J_goto (tgt := 107) d_Ref_port_66 (by decide) ?_
      refine J.drop [false, false, false, false, false] rfl ?_
      exact p_Ref_port_L107 hw hG  H
  · intro c18
    rw [if_neg c18] at H
    refine J_iconst (v := 0) d_Ref_port_41 (by decide) ?_
    have H := Option.some.inj H
    subst H
    exact J_iret (st := []) d_Ref_port_42 rfl rfl ⟨rfl, rfl, rfl⟩
def f_Ref_port (Γ : gm_T) (φ : ph_T) (this : Nat) (p0 : Int32) (p1 : Int32) (p2 : Int32) : Option (Int32 × ph_T) :=
  @ite _ (Γ this = .inr 12) _ (
  Option.bind (f_Ref_isSide Γ φ this p0 p1) fun q20 =>
  if q20.1 = 0 then
    f_Ref_port_L31 Γ  q20.2 this p0 p1 p2 (1 : Int32) this
  else
    Option.bind (f_Ref_in Γ q20.2 (Int32.toInt64 p2) (0 : Int64) (7 : Int64)) fun q21 =>
    if q21.1 = 0 then
      f_Ref_port_L31 Γ  q21.2 this p0 p1 p2 (2 : Int32) this
    else
      f_Ref_port_L31 Γ  q21.2 this p0 p1 p2 (0 : Int32) this
  ) none
set_option maxRecDepth 100000 in
set_option maxHeartbeats 4000000 in
theorem p_Ref_port {w : jw_T} (hw : jok w) {Γ : gm_T} {n : Nat} (hG : gd w Γ n) {x : Bool} {φ : ph_T} {this : Nat} {p0 : Int32} {p1 : Int32} {p2 : Int32} {q : Int32 × ph_T} (H : f_Ref_port Γ φ this p0 p1 p2 = some q) : jc w M_Ref_port [.ref this, .int p0, .int p1, .int p2] (pic Γ φ) n x 0 0 (fq Γ n (.inl (some (.int q.1))) q.2) := by
  refine jc.of (by simp only [jent_r, jent_i, jent_l, jent_a, jent_0]; exact Nat.le_of_ble_eq_true rfl) ?_
  have hls : jents [.ref this, .int p0, .int p1, .int p2] (jm_nL M_Ref_port) = [some (.ref this), some (.int p0), some (.int p1), some (.int p2), none] := by simp only [jents, jent_r, jent_i, jent_l, jent_a, jent_0]; rfl
  rw [hls]
  clear hls
  unfold f_Ref_port at H
  refine J_aload_n d_Ref_port_0 rfl ?_
  refine J_aload_n d_Ref_port_1 rfl ?_
  refine J_iload_n d_Ref_port_2 rfl ?_
  refine J_iload_n d_Ref_port_3 rfl ?_
  have g19 : Γ this = .inr 12 := by
    apply Classical.byContradiction
    intro q9
    rw [if_neg q9] at H
    cases H
  rw [if_pos g19] at H
  obtain ⟨q20, hq20, H⟩ := Option.bind_eq_some_iff.mp H
  refine J_callV (kc := 0) (ks := 0) (kc' := 0) (ks' := 0) (a := this) (ci := 12) (as := [.int p0, .int p1]) (st := [.ref this]) (mf_Ref_isSide hw) (mv_Ref_628 hw) d_Ref_port_4 ln_Ref_isSide (by decide) (by first | exact Nat.le_of_ble_eq_true rfl | (simp only [List.map_cons, List.map_nil, List.sum_cons, List.sum_nil, va_rf_cat]; exact Nat.le_of_ble_eq_true rfl)) rfl ((hG _).1 _ g19 (by decide)).1 ((hG _).1 _ g19 (by decide)).2 (by unfold pic; rw [g19]; rfl) (jcl_at hw rfl) rfl (p_Ref_isSide hw hG hq20) ?_ (fun E h' n' x' e1 => by cases e1.1)
  intro v9 h9 n9 x9 e9
  obtain ⟨e91, e92, e93⟩ := e9
  cases e91
  subst e92
  subst e93
  clear x
  rename Bool => x
  show J _ _ _ _ (_ :: _) _ _ _ _ _ _
  refine J_if_ne (tgt := 14) d_Ref_port_7 (by decide) ?_ ?_
  · intro c23
    rw [if_neg c23] at H
    refine J_iload_n d_Ref_port_14 rfl ?_
    refine J_i2l d_Ref_port_15 ?_
    refine J_lconst (v := 0) d_Ref_port_16 (by decide) ?_
    refine J_ldc2 (v := 7) d_Ref_port_17 (kn_Ref_635 hw) ?_
    obtain ⟨q21, hq21, H⟩ := Option.bind_eq_some_iff.mp H
    refine J_callS (kc := 0) (ks := 0) (kc' := 0) (ks' := 0) (as := [.long (Int32.toInt64 p2), .long (0 : Int64), .long (7 : Int64)]) (st := [.ref this]) (mf_Ref_in hw) (ms_Ref_599 hw) d_Ref_port_20 ln_Ref_in (by decide) (by first | exact Nat.le_of_ble_eq_true rfl | (simp only [List.map_cons, List.map_nil, List.sum_cons, List.sum_nil, va_rf_cat]; exact Nat.le_of_ble_eq_true rfl)) rfl (p_Ref_in hw hG hq21) ?_ (fun E h' n' x' e1 => by cases e1.1)
    intro v9 h9 n9 x9 e9
    obtain ⟨e91, e92, e93⟩ := e9
    cases e91
    subst e92
    subst e93
    clear x
    rename Bool => x
    show J _ _ _ _ (_ :: _) _ _ _ _ _ _
    refine J_if_ne (tgt := 30) d_Ref_port_23 (by decide) ?_ ?_
    · intro c22
      rw [if_neg c22] at H
      refine J_iconst (v := 0) d_Ref_port_30 (by decide) ?_
      refine J.drop [true, true, true, true, false] rfl ?_
      exact p_Ref_port_L31 hw hG  H
    · intro c22
      rw [if_pos c22] at H
      refine J_iconst (v := 2) d_Ref_port_26 (by decide) ?_
      refine J_goto (tgt := 31) d_Ref_port_27 (by decide) ?_
      refine J.drop [true, true, true, true, false] rfl ?_
      exact p_Ref_port_L31 hw hG  H
  · intro c23
    rw [if_pos c23] at H
    refine J_iconst (v := 1) d_Ref_port_10 (by decide) ?_
    refine J_goto (tgt := 31) d_Ref_port_11 (by decide) ?_
    refine J.drop [true, true, true, true, false] rfl ?_
    exact p_Ref_port_L31 hw hG  H
theorem ln_Ref_target : (parseMethodDescriptor y_Ref_target.desc).map (fun q => q.parameters.length) = some 2 := by decide +kernel
def f_Ref_target_L174 (Γ : gm_T)  (φ : ph_T) (y0 : Int32) : Option (Int32 × ph_T) :=
  some (y0, φ)
set_option maxRecDepth 100000 in
set_option maxHeartbeats 4000000 in
theorem p_Ref_target_L174 {w : jw_T} (hw : jok w) {Γ : gm_T} {n : Nat} (hG : gd w Γ n)  {x : Bool} {φ : ph_T} {y0 : Int32} {q : Int32 × ph_T} (H : f_Ref_target_L174 Γ  φ y0 = some q) : J w M_Ref_target 174 [none, none, none, none, none] [.int y0] (pic Γ φ) n x 0 0 (fq Γ n (.inl (some (.int q.1))) q.2) := by
  unfold f_Ref_target_L174 at H
  have H := Option.some.inj H
  subst H
  exact J_iret (st := []) d_Ref_target_174 rfl rfl ⟨rfl, rfl, rfl⟩
def f_Ref_target_L133 (Γ : gm_T)  (φ : ph_T) (x0 : Nat) (x1 : Int32) (x2 : Int32) (x3 : Int32) : Option (Int32 × ph_T) :=
  if (2 : Int32) ≤ x2 then
    @ite _ (Γ x0 = .inr 12) _ (
    if x1 = (φ.1 x0 2) then
      f_Ref_target_L174 Γ  φ (0 : Int32)
    else
      if x2 = (2 : Int32) then
        Option.bind (φ.2.2 x0 58) fun a5 =>
        Option.bind (gA Γ a5 0) fun N6 =>
        Option.bind (ix x1 N6) fun k7 =>
        f_Ref_target_L174 Γ  φ (φ.1 a5 k7)
      else
        Option.bind (φ.2.2 x0 67) fun a2 =>
        Option.bind (gA Γ a2 0) fun N3 =>
        Option.bind (ix x1 N3) fun k4 =>
        f_Ref_target_L174 Γ  φ (φ.1 a2 k4)
    ) none
  else
    f_Ref_target_L174 Γ  φ x3
set_option maxRecDepth 100000 in
set_option maxHeartbeats 4000000 in
theorem p_Ref_target_L133 {w : jw_T} (hw : jok w) {Γ : gm_T} {n : Nat} (hG : gd w Γ n)  {x : Bool} {φ : ph_T} {x0 : Nat} {x1 : Int32} {x2 : Int32} {x3 : Int32} {q : Int32 × ph_T} (H : f_Ref_target_L133 Γ  φ x0 x1 x2 x3 = some q) : J w M_Ref_target 133 [some (.ref x0), some (.int x1), some (.int x2), some (.int x3), none] [] (pic Γ φ) n x 0 0 (fq Γ n (.inl (some (.int q.1))) q.2) := by
  unfold f_Ref_target_L133 at H
  refine J_iload_n d_Ref_target_133 rfl ?_
  refine J_iconst (v := 2) d_Ref_target_134 (by decide) ?_
  refine J_icmp_ge (tgt := 142) d_Ref_target_135 (by decide) ?_ ?_
  · intro c10
    rw [if_pos c10] at H
    refine J_iload_n d_Ref_target_142 rfl ?_
    refine J_aload_n d_Ref_target_143 rfl ?_
    have g1 : Γ x0 = .inr 12 := by
      apply Classical.byContradiction
      intro q9
      rw [if_neg q9] at H
      cases H
    rw [if_pos g1] at H
    refine F_getI (ci := 12) (k := 2) hG (cf_Ref hw) (fl_Ref_294 hw) (by decide) (by decide) rfl d_Ref_target_144 g1 ?_
    refine J_icmp_ne (tgt := 154) d_Ref_target_147 (by decide) ?_ ?_
    · intro c9
      rw [if_neg c9] at H
      refine J_iload_n d_Ref_target_154 rfl ?_
      refine J_iconst (v := 2) d_Ref_target_155 (by decide) ?_
      refine J_icmp_ne (tgt := 168) d_Ref_target_156 (by decide) ?_ ?_
      · intro c8
        rw [if_neg c8] at H
        refine J_aload_n d_Ref_target_168 rfl ?_
        refine F_getR (ci := 12) (k := 67) hG (cf_Ref hw) (fl_Ref_181 hw) (by decide) (by decide) rfl d_Ref_target_169 g1 ?_
        refine J_iload_n d_Ref_target_172 rfl ?_
        obtain ⟨a2, ha2, H⟩ := Option.bind_eq_some_iff.mp H
        rw [j_rf ha2]
        obtain ⟨N3, hN3, H⟩ := Option.bind_eq_some_iff.mp H
        obtain ⟨k4, hk4, H⟩ := Option.bind_eq_some_iff.mp H
        refine F_iald k4 hw hG d_Ref_target_173 (gA_some hN3) (ix_some hk4) ?_
        refine J.drop [false, false, false, false, false] rfl ?_
        exact p_Ref_target_L174 hw hG  H
      · intro c8
        rw [if_pos c8] at H
        refine J_aload_n d_Ref_target_159 rfl ?_
        refine F_getR (ci := 12) (k := 58) hG (cf_Ref hw) (fl_Ref_154 hw) (by decide) (by decide) rfl d_Ref_target_160 g1 ?_
        refine J_iload_n d_Ref_target_163 rfl ?_
        obtain ⟨a5, ha5, H⟩ := Option.bind_eq_some_iff.mp H
        rw [j_rf ha5]
        obtain ⟨N6, hN6, H⟩ := Option.bind_eq_some_iff.mp H
        obtain ⟨k7, hk7, H⟩ := Option.bind_eq_some_iff.mp H
        refine F_iald k7 hw hG d_Ref_target_164 (gA_some hN6) (ix_some hk7) ?_
        refine J_goto (tgt := 174) d_Ref_target_165 (by decide) ?_
        refine J.drop [false, false, false, false, false] rfl ?_
        exact p_Ref_target_L174 hw hG  H
    · intro c9
      rw [if_pos c9] at H
      refine J_iconst (v := 0) d_Ref_target_150 (by decide) ?_
      refine J_goto (tgt := 174) d_Ref_target_151 (by decide) ?_
      refine J.drop [false, false, false, false, false] rfl ?_
      exact p_Ref_target_L174 hw hG  H
  · intro c10
    rw [if_neg c10] at H
    refine J_iload_n d_Ref_target_138 rfl ?_
    refine J_goto (tgt := 174) d_Ref_target_139 (by decide) ?_
    refine J.drop [false, false, false, false, false] rfl ?_
    exact p_Ref_target_L174 hw hG  H
def f_Ref_target_L125 (Γ : gm_T) (Kc94 : ph_T → Nat → Int32 → Int32 → Int32 → Int32 → Option (Int32 × ph_T)) (φ : ph_T) (x0 : Nat) (x1 : Int32) (x2 : Int32) (x4 : Int32) (y0 : Int32) (y1 : Int32) : Option (Int32 × ph_T) :=
  Kc94 φ x0 x1 x2 (y1 + y0) (x4 + (1 : Int32))
set_option maxRecDepth 100000 in
set_option maxHeartbeats 4000000 in
theorem p_Ref_target_L125 {w : jw_T} (hw : jok w) {Γ : gm_T} {n : Nat} (hG : gd w Γ n) {Kc94 : ph_T → Nat → Int32 → Int32 → Int32 → Int32 → Option (Int32 × ph_T)} (hKc94 : ∀ {x : Bool} {φ : ph_T} {x0 : Nat} {x1 : Int32} {x2 : Int32} {x3 : Int32} {x4 : Int32} {q : Int32 × ph_T}, Kc94 φ x0 x1 x2 x3 x4 = some q → J w M_Ref_target 94 [some (.ref x0), some (.int x1), some (.int x2), some (.int x3), some (.int x4)] [] (pic Γ φ) n x 0 0 (fq Γ n (.inl (some (.int q.1))) q.2)) {x : Bool} {φ : ph_T} {x0 : Nat} {x1 : Int32} {x2 : Int32} {x4 : Int32} {y0 : Int32} {y1 : Int32} {q : Int32 × ph_T} (H : f_Ref_target_L125 Γ Kc94 φ x0 x1 x2 x4 y0 y1 = some q) : J w M_Ref_target 125 [some (.ref x0), some (.int x1), some (.int x2), none, some (.int x4)] [.int y0, .int y1] (pic Γ φ) n x 0 0 (fq Γ n (.inl (some (.int q.1))) q.2) := by
  unfold f_Ref_target_L125 at H
  refine J_iadd d_Ref_target_125 ?_
  refine J_istore_n d_Ref_target_126 (Nat.le_of_ble_eq_true rfl) ?_
  refine J.ls (ls' := [some (.ref x0), some (.int x1), some (.int x2), some (.int (y1 + y0)), some (.int x4)]) rfl ?_
  refine J_iinc (v := x4 + 1) d_Ref_target_127 rfl (by rw [show Int32.ofInt 1 = (1 : Int32) from by decide]) ?_
  refine J.ls (ls' := [some (.ref x0), some (.int x1), some (.int x2), some (.int (y1 + y0)), some (.int (x4 + (1 : Int32)))]) rfl ?_
  refine J_goto (tgt := 94) d_Ref_target_130 (by decide) ?_
  refine J.drop [true, true, true, true, true] rfl ?_
  exact hKc94 H
def f_Ref_target_L94 (Γ : gm_T)  : Nat → ph_T → Nat → Int32 → Int32 → Int32 → Int32 → Option (Int32 × ph_T)
  | 0, _, _, _, _, _, _ => none
  | fu + 1, φ, x0, x1, x2, x3, x4 =>
    @ite _ (Γ x0 = .inr 12) _ (
    if (φ.1 x0 51) ≤ x4 then
      f_Ref_target_L133 Γ  φ x0 x1 x2 x3
    else
      if x2 = (1 : Int32) then
        Option.bind (φ.2.2 x0 50) fun a12 =>
        Option.bind (gA Γ a12 0) fun N13 =>
        Option.bind (ix x4 N13) fun k14 =>
        if (φ.1 a12 k14) = x1 then
          f_Ref_target_L125 Γ (f_Ref_target_L94 Γ  fu) φ x0 x1 x2 x4 (1 : Int32) x3
        else
          f_Ref_target_L125 Γ (f_Ref_target_L94 Γ  fu) φ x0 x1 x2 x4 (0 : Int32) x3
      else
        f_Ref_target_L133 Γ  φ x0 x1 x2 x3
    ) none
set_option maxRecDepth 100000 in
set_option maxHeartbeats 4000000 in
theorem p_Ref_target_L94 {w : jw_T} (hw : jok w) {Γ : gm_T} {n : Nat} (hG : gd w Γ n)  : ∀ (fu : Nat) {x : Bool} {φ : ph_T} {x0 : Nat} {x1 : Int32} {x2 : Int32} {x3 : Int32} {x4 : Int32} {q : Int32 × ph_T}, f_Ref_target_L94 Γ  fu φ x0 x1 x2 x3 x4 = some q → J w M_Ref_target 94 [some (.ref x0), some (.int x1), some (.int x2), some (.int x3), some (.int x4)] [] (pic Γ φ) n x 0 0 (fq Γ n (.inl (some (.int q.1))) q.2) := by
  intro fu
  induction fu with
  | zero =>
    intro x φ x0 x1 x2 x3 x4 q H
    cases H
  | succ fu ih =>
    intro x φ x0 x1 x2 x3 x4 q H
    unfold f_Ref_target_L94 at H
    refine J_iload d_Ref_target_94 rfl ?_
    refine J_aload_n d_Ref_target_96 rfl ?_
    have g11 : Γ x0 = .inr 12 := by
      apply Classical.byContradiction
      intro q9
      rw [if_neg q9] at H
      cases H
    rw [if_pos g11] at H
    refine F_getI (ci := 12) (k := 51) hG (cf_Ref hw) (fl_Ref_529 hw) (by decide) (by decide) rfl d_Ref_target_97 g11 ?_
    refine J_icmp_ge (tgt := 133) d_Ref_target_100 (by decide) ?_ ?_
    · intro c17
      rw [if_pos c17] at H
      refine J.drop [true, true, true, true, false] rfl ?_
      exact p_Ref_target_L133 hw hG  H
    · intro c17
      rw [if_neg c17] at H
      refine J_iload_n d_Ref_target_103 rfl ?_
      refine J_iconst (v := 1) d_Ref_target_104 (by decide) ?_
      refine J_icmp_ne (tgt := 133) d_Ref_target_105 (by decide) ?_ ?_
      · intro c16
        rw [if_neg c16] at H
        refine J.drop [true, true, true, true, false] rfl ?_
        exact p_Ref_target_L133 hw hG  H
      · intro c16
        rw [if_pos c16] at H
        refine J_iload_n d_Ref_target_108 rfl ?_
        refine J_aload_n d_Ref_target_109 rfl ?_
        refine F_getR (ci := 12) (k := 50) hG (cf_Ref hw) (fl_Ref_136 hw) (by decide) (by decide) rfl d_Ref_target_110 g11 ?_
        refine J_iload d_Ref_target_113 rfl ?_
        obtain ⟨a12, ha12, H⟩ := Option.bind_eq_some_iff.mp H
        rw [j_rf ha12]
        obtain ⟨N13, hN13, H⟩ := Option.bind_eq_some_iff.mp H
        obtain ⟨k14, hk14, H⟩ := Option.bind_eq_some_iff.mp H
        refine F_iald k14 hw hG d_Ref_target_115 (gA_some hN13) (ix_some hk14) ?_
        refine J_iload_n d_Ref_target_116 rfl ?_
        refine J_icmp_ne (tgt := 124) d_Ref_target_117 (by decide) ?_ ?_
        · intro c15
          rw [if_neg c15] at H
          refine J_iconst (v := 0) d_Ref_target_124 (by decide) ?_
          refine J.drop [true, true, true, false, true] rfl ?_
          exact p_Ref_target_L125 hw hG ih H
        · intro c15
          rw [if_pos c15] at H
          refine J_iconst (v := 1) d_Ref_target_120 (by decide) ?_
          refine J_goto (tgt := 125) d_Ref_target_121 (by decide) ?_
          refine J.drop [true, true, true, false, true] rfl ?_
          exact p_Ref_target_L125 hw hG ih H
def f_Ref_target_L91 (Γ : gm_T)  (φ : ph_T) (x0 : Nat) (x1 : Int32) (x2 : Int32) (x3 : Int32) : Option (Int32 × ph_T) :=
  f_Ref_target_L94 Γ  jF φ x0 x1 x2 x3 (0 : Int32)
set_option maxRecDepth 100000 in
set_option maxHeartbeats 4000000 in
theorem p_Ref_target_L91 {w : jw_T} (hw : jok w) {Γ : gm_T} {n : Nat} (hG : gd w Γ n)  {x : Bool} {φ : ph_T} {x0 : Nat} {x1 : Int32} {x2 : Int32} {x3 : Int32} {q : Int32 × ph_T} (H : f_Ref_target_L91 Γ  φ x0 x1 x2 x3 = some q) : J w M_Ref_target 91 [some (.ref x0), some (.int x1), some (.int x2), some (.int x3), none] [] (pic Γ φ) n x 0 0 (fq Γ n (.inl (some (.int q.1))) q.2) := by
  unfold f_Ref_target_L91 at H
  refine J_iconst (v := 0) d_Ref_target_91 (by decide) ?_
  refine J_istore d_Ref_target_92 (Nat.le_of_ble_eq_true rfl) ?_
  refine J.ls (ls' := [some (.ref x0), some (.int x1), some (.int x2), some (.int x3), some (.int (0 : Int32))]) rfl ?_
  refine J.drop [true, true, true, true, true] rfl ?_
  exact p_Ref_target_L94 hw hG  _ H
def f_Ref_target_L83 (Γ : gm_T) (Kc53 : ph_T → Nat → Int32 → Int32 → Int32 → Int32 → Option (Int32 × ph_T)) (φ : ph_T) (x0 : Nat) (x1 : Int32) (x2 : Int32) (x4 : Int32) (y0 : Int32) (y1 : Int32) : Option (Int32 × ph_T) :=
  Kc53 φ x0 x1 x2 (y1 + y0) (x4 + (1 : Int32))
set_option maxRecDepth 100000 in
set_option maxHeartbeats 4000000 in
theorem p_Ref_target_L83 {w : jw_T} (hw : jok w) {Γ : gm_T} {n : Nat} (hG : gd w Γ n) {Kc53 : ph_T → Nat → Int32 → Int32 → Int32 → Int32 → Option (Int32 × ph_T)} (hKc53 : ∀ {x : Bool} {φ : ph_T} {x0 : Nat} {x1 : Int32} {x2 : Int32} {x3 : Int32} {x4 : Int32} {q : Int32 × ph_T}, Kc53 φ x0 x1 x2 x3 x4 = some q → J w M_Ref_target 53 [some (.ref x0), some (.int x1), some (.int x2), some (.int x3), some (.int x4)] [] (pic Γ φ) n x 0 0 (fq Γ n (.inl (some (.int q.1))) q.2)) {x : Bool} {φ : ph_T} {x0 : Nat} {x1 : Int32} {x2 : Int32} {x4 : Int32} {y0 : Int32} {y1 : Int32} {q : Int32 × ph_T} (H : f_Ref_target_L83 Γ Kc53 φ x0 x1 x2 x4 y0 y1 = some q) : J w M_Ref_target 83 [some (.ref x0), some (.int x1), some (.int x2), none, some (.int x4)] [.int y0, .int y1] (pic Γ φ) n x 0 0 (fq Γ n (.inl (some (.int q.1))) q.2) := by
  unfold f_Ref_target_L83 at H
  refine J_iadd d_Ref_target_83 ?_
  refine J_istore_n d_Ref_target_84 (Nat.le_of_ble_eq_true rfl) ?_
  refine J.ls (ls' := [some (.ref x0), some (.int x1), some (.int x2), some (.int (y1 + y0)), some (.int x4)]) rfl ?_
  refine J_iinc (v := x4 + 1) d_Ref_target_85 rfl (by rw [show Int32.ofInt 1 = (1 : Int32) from by decide]) ?_
  refine J.ls (ls' := [some (.ref x0), some (.int x1), some (.int x2), some (.int (y1 + y0)), some (.int (x4 + (1 : Int32)))]) rfl ?_
  refine J_goto (tgt := 53) d_Ref_target_88 (by decide) ?_
  refine J.drop [true, true, true, true, true] rfl ?_
  exact hKc53 H
def f_Ref_target_L53 (Γ : gm_T)  : Nat → ph_T → Nat → Int32 → Int32 → Int32 → Int32 → Option (Int32 × ph_T)
  | 0, _, _, _, _, _, _ => none
  | fu + 1, φ, x0, x1, x2, x3, x4 =>
    @ite _ (Γ x0 = .inr 12) _ (
    if (φ.1 x0 47) ≤ x4 then
      f_Ref_target_L91 Γ  φ x0 x1 x2 x3
    else
      if x2 = 0 then
        Option.bind (φ.2.2 x0 45) fun a19 =>
        Option.bind (gA Γ a19 0) fun N20 =>
        Option.bind (ix x4 N20) fun k21 =>
        if (φ.1 a19 k21) = x1 then
          f_Ref_target_L83 Γ (f_Ref_target_L53 Γ  fu) φ x0 x1 x2 x4 (1 : Int32) x3
        else
          f_Ref_target_L83 Γ (f_Ref_target_L53 Γ  fu) φ x0 x1 x2 x4 (0 : Int32) x3
      else
        f_Ref_target_L91 Γ  φ x0 x1 x2 x3
    ) none
set_option maxRecDepth 100000 in
set_option maxHeartbeats 4000000 in
theorem p_Ref_target_L53 {w : jw_T} (hw : jok w) {Γ : gm_T} {n : Nat} (hG : gd w Γ n)  : ∀ (fu : Nat) {x : Bool} {φ : ph_T} {x0 : Nat} {x1 : Int32} {x2 : Int32} {x3 : Int32} {x4 : Int32} {q : Int32 × ph_T}, f_Ref_target_L53 Γ  fu φ x0 x1 x2 x3 x4 = some q → J w M_Ref_target 53 [some (.ref x0), some (.int x1), some (.int x2), some (.int x3), some (.int x4)] [] (pic Γ φ) n x 0 0 (fq Γ n (.inl (some (.int q.1))) q.2) := by
  intro fu
  induction fu with
  | zero =>
    intro x φ x0 x1 x2 x3 x4 q H
    cases H
  | succ fu ih =>
    intro x φ x0 x1 x2 x3 x4 q H
    unfold f_Ref_target_L53 at H
    refine J_iload d_Ref_target_53 rfl ?_
    refine J_aload_n d_Ref_target_55 rfl ?_
    have g18 : Γ x0 = .inr 12 := by
      apply Classical.byContradiction
      intro q9
      rw [if_neg q9] at H
      cases H
    rw [if_pos g18] at H
    refine F_getI (ci := 12) (k := 47) hG (cf_Ref hw) (fl_Ref_526 hw) (by decide) (by decide) rfl d_Ref_target_56 g18 ?_
    refine J_icmp_ge (tgt := 91) d_Ref_target_59 (by decide) ?_ ?_
    · intro c24
      rw [if_pos c24] at H
      refine J.drop [true, true, true, true, false] rfl ?_
      exact p_Ref_target_L91 hw hG  H
    · intro c24
      rw [if_neg c24] at H
      refine J_iload_n d_Ref_target_62 rfl ?_
      refine J_if_ne (tgt := 91) d_Ref_target_63 (by decide) ?_ ?_
      · intro c23
        rw [if_neg c23] at H
        refine J.drop [true, true, true, true, false] rfl ?_
        exact p_Ref_target_L91 hw hG  H
      · intro c23
        rw [if_pos c23] at H
        refine J_iload_n d_Ref_target_66 rfl ?_
        refine J_aload_n d_Ref_target_67 rfl ?_
        refine F_getR (ci := 12) (k := 45) hG (cf_Ref hw) (fl_Ref_124 hw) (by decide) (by decide) rfl d_Ref_target_68 g18 ?_
        refine J_iload d_Ref_target_71 rfl ?_
        obtain ⟨a19, ha19, H⟩ := Option.bind_eq_some_iff.mp H
        rw [j_rf ha19]
        obtain ⟨N20, hN20, H⟩ := Option.bind_eq_some_iff.mp H
        obtain ⟨k21, hk21, H⟩ := Option.bind_eq_some_iff.mp H
        refine F_iald k21 hw hG d_Ref_target_73 (gA_some hN20) (ix_some hk21) ?_
        refine J_iload_n d_Ref_target_74 rfl ?_
        refine J_icmp_ne (tgt := 82) d_Ref_target_75 (by decide) ?_ ?_
        · intro c22
          rw [if_neg c22] at H
          refine J_iconst (v := 0) d_Ref_target_82 (by decide) ?_
          refine J.drop [true, true, true, false, true] rfl ?_
          exact p_Ref_target_L83 hw hG ih H
        · intro c22
          rw [if_pos c22] at H
          refine J_iconst (v := 1) d_Ref_target_78 (by decide) ?_
          refine J_goto (tgt := 83) d_Ref_target_79 (by decide) ?_
          refine J.drop [true, true, true, false, true] rfl ?_
          exact p_Ref_target_L83 hw hG ih H
def f_Ref_target_L36 (Γ : gm_T)  (φ : ph_T) (x0 : Nat) (x1 : Int32) (x2 : Int32) (y0 : Int32) (y1 : Nat) : Option (Int32 × ph_T) :=
  @ite _ (Γ y1 = .inr 12) _ (
  @ite _ (Γ x0 = .inr 12) _ (
  if ((uI φ y1 0 y0).1 x0 0) ≤ 0 then
    f_Ref_target_L53 Γ  jF (uI φ y1 0 y0) x0 x1 x2 (0 : Int32) (0 : Int32)
  else
    some ((0 : Int32), (uI φ y1 0 y0))
  ) none
  ) none
set_option maxRecDepth 100000 in
set_option maxHeartbeats 4000000 in
theorem p_Ref_target_L36 {w : jw_T} (hw : jok w) {Γ : gm_T} {n : Nat} (hG : gd w Γ n)  {x : Bool} {φ : ph_T} {x0 : Nat} {x1 : Int32} {x2 : Int32} {y0 : Int32} {y1 : Nat} {q : Int32 × ph_T} (H : f_Ref_target_L36 Γ  φ x0 x1 x2 y0 y1 = some q) : J w M_Ref_target 36 [some (.ref x0), some (.int x1), some (.int x2), none, none] [.int y0, .ref y1] (pic Γ φ) n x 0 0 (fq Γ n (.inl (some (.int q.1))) q.2) := by
  unfold f_Ref_target_L36 at H
  have g25 : Γ y1 = .inr 12 := by
    apply Classical.byContradiction
    intro q9
    rw [if_neg q9] at H
    cases H
  rw [if_pos g25] at H
  refine F_putI (ci := 12) (k := 0) hG (cf_Ref hw) (fl_Ref_303 hw) (by decide) (by decide) rfl d_Ref_target_36 rfl rfl rfl g25 ?_
  refine J_aload_n d_Ref_target_39 rfl ?_
  have g26 : Γ x0 = .inr 12 := by
    apply Classical.byContradiction
    intro q9
    rw [if_neg q9] at H
    cases H
  rw [if_pos g26] at H
  refine F_getI (ci := 12) (k := 0) hG (cf_Ref hw) (fl_Ref_303 hw) (by decide) (by decide) rfl d_Ref_target_40 g26 ?_
  refine J_if_le (tgt := 48) d_Ref_target_43 (by decide) ?_ ?_
  · intro c27
    rw [if_pos c27] at H
    refine J_iconst (v := 0) d_Ref_target_48 (by decide) ?_
    refine J_istore_n d_Ref_target_49 (Nat.le_of_ble_eq_true rfl) ?_
    refine J.ls (ls' := [some (.ref x0), some (.int x1), some (.int x2), some (.int (0 : Int32)), none]) rfl ?_
    refine J_iconst (v := 0) d_Ref_target_50 (by decide) ?_
    refine J_istore d_Ref_target_51 (Nat.le_of_ble_eq_true rfl) ?_
    refine J.ls (ls' := [some (.ref x0), some (.int x1), some (.int x2), some (.int (0 : Int32)), some (.int (0 : Int32))]) rfl ?_
    refine J.drop [true, true, true, true, true] rfl ?_
    exact p_Ref_target_L53 hw hG  _ H
  · intro c27
    rw [if_neg c27] at H
    refine J_iconst (v := 0) d_Ref_target_46 (by decide) ?_
    have H := Option.some.inj H
    subst H
    exact J_iret (st := []) d_Ref_target_47 rfl rfl ⟨rfl, rfl, rfl⟩
def f_Ref_target (Γ : gm_T) (φ : ph_T) (this : Nat) (p0 : Int32) (p1 : Int32) : Option (Int32 × ph_T) :=
  @ite _ (Γ this = .inr 12) _ (
  Option.bind (f_Ref_in Γ φ (Int32.toInt64 p0) (0 : Int64) (Int32.toInt64 (φ.1 this 2))) fun q29 =>
  if q29.1 = 0 then
    f_Ref_target_L36 Γ  q29.2 this p0 p1 (1 : Int32) this
  else
    Option.bind (f_Ref_in Γ q29.2 (Int32.toInt64 p1) (0 : Int64) (3 : Int64)) fun q30 =>
    if q30.1 = 0 then
      f_Ref_target_L36 Γ  q30.2 this p0 p1 (2 : Int32) this
    else
      f_Ref_target_L36 Γ  q30.2 this p0 p1 (0 : Int32) this
  ) none
set_option maxRecDepth 100000 in
set_option maxHeartbeats 4000000 in
theorem p_Ref_target {w : jw_T} (hw : jok w) {Γ : gm_T} {n : Nat} (hG : gd w Γ n) {x : Bool} {φ : ph_T} {this : Nat} {p0 : Int32} {p1 : Int32} {q : Int32 × ph_T} (H : f_Ref_target Γ φ this p0 p1 = some q) : jc w M_Ref_target [.ref this, .int p0, .int p1] (pic Γ φ) n x 0 0 (fq Γ n (.inl (some (.int q.1))) q.2) := by
  refine jc.of (by simp only [jent_r, jent_i, jent_l, jent_a, jent_0]; exact Nat.le_of_ble_eq_true rfl) ?_
  have hls : jents [.ref this, .int p0, .int p1] (jm_nL M_Ref_target) = [some (.ref this), some (.int p0), some (.int p1), none, none] := by simp only [jents, jent_r, jent_i, jent_l, jent_a, jent_0]; rfl
  rw [hls]
  clear hls
  unfold f_Ref_target at H
  refine J_aload_n d_Ref_target_0 rfl ?_
  refine J_iload_n d_Ref_target_1 rfl ?_
  refine J_i2l d_Ref_target_2 ?_
  refine J_lconst (v := 0) d_Ref_target_3 (by decide) ?_
  refine J_aload_n d_Ref_target_4 rfl ?_
  have g28 : Γ this = .inr 12 := by
    apply Classical.byContradiction
    intro q9
    rw [if_neg q9] at H
    cases H
  rw [if_pos g28] at H
  refine F_getI (ci := 12) (k := 2) hG (cf_Ref hw) (fl_Ref_294 hw) (by decide) (by decide) rfl d_Ref_target_5 g28 ?_
  refine J_i2l d_Ref_target_8 ?_
  obtain ⟨q29, hq29, H⟩ := Option.bind_eq_some_iff.mp H
  refine J_callS (kc := 0) (ks := 0) (kc' := 0) (ks' := 0) (as := [.long (Int32.toInt64 p0), .long (0 : Int64), .long (Int32.toInt64 (φ.1 this 2))]) (st := [.ref this]) (mf_Ref_in hw) (ms_Ref_599 hw) d_Ref_target_9 ln_Ref_in (by decide) (by first | exact Nat.le_of_ble_eq_true rfl | (simp only [List.map_cons, List.map_nil, List.sum_cons, List.sum_nil, va_rf_cat]; exact Nat.le_of_ble_eq_true rfl)) rfl (p_Ref_in hw hG hq29) ?_ (fun E h' n' x' e1 => by cases e1.1)
  intro v9 h9 n9 x9 e9
  obtain ⟨e91, e92, e93⟩ := e9
  cases e91
  subst e92
  subst e93
  clear x
  rename Bool => x
  show J _ _ _ _ (_ :: _) _ _ _ _ _ _
  refine J_if_ne (tgt := 19) d_Ref_target_12 (by decide) ?_ ?_
  · intro c32
    rw [if_neg c32] at H
    refine J_iload_n d_Ref_target_19 rfl ?_
    refine J_i2l d_Ref_target_20 ?_
    refine J_lconst (v := 0) d_Ref_target_21 (by decide) ?_
    refine J_ldc2 (v := 3) d_Ref_target_22 (kn_Ref_312 hw) ?_
    obtain ⟨q30, hq30, H⟩ := Option.bind_eq_some_iff.mp H
    refine J_callS (kc := 0) (ks := 0) (kc' := 0) (ks' := 0) (as := [.long (Int32.toInt64 p1), .long (0 : Int64), .long (3 : Int64)]) (st := [.ref this]) (mf_Ref_in hw) (ms_Ref_599 hw) d_Ref_target_25 ln_Ref_in (by decide) (by first | exact Nat.le_of_ble_eq_true rfl | (simp only [List.map_cons, List.map_nil, List.sum_cons, List.sum_nil, va_rf_cat]; exact Nat.le_of_ble_eq_true rfl)) rfl (p_Ref_in hw hG hq30) ?_ (fun E h' n' x' e1 => by cases e1.1)
    intro v9 h9 n9 x9 e9
    obtain ⟨e91, e92, e93⟩ := e9
    cases e91
    subst e92
    subst e93
    clear x
    rename Bool => x
    show J _ _ _ _ (_ :: _) _ _ _ _ _ _
    refine J_if_ne (tgt := 35) d_Ref_target_28 (by decide) ?_ ?_
    · intro c31
      rw [if_neg c31] at H
      refine J_iconst (v := 0) d_Ref_target_35 (by decide) ?_
      refine J.drop [true, true, true, false, false] rfl ?_
      exact p_Ref_target_L36 hw hG  H
    · intro c31
      rw [if_pos c31] at H
      refine J_iconst (v := 2) d_Ref_target_31 (by decide) ?_
      refine J_goto (tgt := 36) d_Ref_target_32 (by decide) ?_
      refine J.drop [true, true, true, false, false] rfl ?_
      exact p_Ref_target_L36 hw hG  H
  · intro c32
    rw [if_pos c32] at H
    refine J_iconst (v := 1) d_Ref_target_15 (by decide) ?_
    refine J_goto (tgt := 36) d_Ref_target_16 (by decide) ?_
    refine J.drop [true, true, true, false, false] rfl ?_
    exact p_Ref_target_L36 hw hG  H
