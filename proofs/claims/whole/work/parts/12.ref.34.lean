theorem ln_Ref_judge : (parseMethodDescriptor y_Ref_judge.desc).map (fun q => q.parameters.length) = some 1 := by decide +kernel
def f_Ref_judge_L13 (Γ : gm_T)  (φ : ph_T) (x0 : Nat) (x1 : Int32) (y0 : Int32) (y1 : Nat) : Option (Int32 × ph_T) :=
  @ite _ (Γ y1 = .inr 12) _ (
  @ite _ (Γ x0 = .inr 12) _ (
  if ((uI φ y1 0 y0).1 x0 0) ≤ 0 then
    Option.bind (f_Ref_watch Γ (uI φ y1 0 y0) x0 ((8 : Int32) + x1) ((5 : Int32) * x1) (1 : Int32)) fun q3 =>
    Option.bind (f_Ref_blank Γ q3.2 x0 x1) fun q4 =>
    Option.bind (q4.2.2.2 x0 86) fun a5 =>
    Option.bind (gA Γ a5 0) fun N6 =>
    Option.bind (ix ((8 : Int32) + x1) N6) fun k7 =>
    some ((q4.2.1 a5 k7), q4.2)
  else
    some ((0 : Int32), (uI φ y1 0 y0))
  ) none
  ) none
set_option maxRecDepth 100000 in
set_option maxHeartbeats 4000000 in
theorem p_Ref_judge_L13 {w : jw_T} (hw : jok w) {Γ : gm_T} {n : Nat} (hG : gd w Γ n)  {x : Bool} {φ : ph_T} {x0 : Nat} {x1 : Int32} {y0 : Int32} {y1 : Nat} {q : Int32 × ph_T} (H : f_Ref_judge_L13 Γ  φ x0 x1 y0 y1 = some q) : J w M_Ref_judge 13 [some (.ref x0), some (.int x1)] [.int y0, .ref y1] (pic Γ φ) n x 0 0 (fq Γ n (.inl (some (.int q.1))) q.2) := by
  unfold f_Ref_judge_L13 at H
  have g1 : Γ y1 = .inr 12 := by
    apply Classical.byContradiction
    intro q9
    rw [if_neg q9] at H
    cases H
  rw [if_pos g1] at H
  refine F_putI (ci := 12) (k := 0) hG (cf_Ref hw) (fl_Ref_303 hw) (by decide) (by decide) rfl d_Ref_judge_13 rfl rfl rfl g1 ?_
  refine J_aload_n d_Ref_judge_16 rfl ?_
  have g2 : Γ x0 = .inr 12 := by
    apply Classical.byContradiction
    intro q9
    rw [if_neg q9] at H
    cases H
  rw [if_pos g2] at H
  refine F_getI (ci := 12) (k := 0) hG (cf_Ref hw) (fl_Ref_303 hw) (by decide) (by decide) rfl d_Ref_judge_17 g2 ?_
  refine J_if_le (tgt := 25) d_Ref_judge_20 (by decide) ?_ ?_
  · intro c8
    rw [if_pos c8] at H
    refine J_aload_n d_Ref_judge_25 rfl ?_
    refine J_bipush (v := 8) d_Ref_judge_26 (by decide) ?_
    refine J_iload_n d_Ref_judge_28 rfl ?_
    refine J_iadd d_Ref_judge_29 ?_
    refine J_iconst (v := 5) d_Ref_judge_30 (by decide) ?_
    refine J_iload_n d_Ref_judge_31 rfl ?_
    refine J_imul d_Ref_judge_32 ?_
    refine J_iconst (v := 1) d_Ref_judge_33 (by decide) ?_
    obtain ⟨q3, hq3, H⟩ := Option.bind_eq_some_iff.mp H
    refine J_callV (kc := 0) (ks := 0) (kc' := 0) (ks' := 0) (a := x0) (ci := 12) (as := [.int ((8 : Int32) + x1), .int ((5 : Int32) * x1), .int (1 : Int32)]) (st := []) (mf_Ref_watch hw) (mv_Ref_587 hw) d_Ref_judge_34 ln_Ref_watch (by decide) (by first | exact Nat.le_of_ble_eq_true rfl | (simp only [List.map_cons, List.map_nil, List.sum_cons, List.sum_nil, va_rf_cat]; exact Nat.le_of_ble_eq_true rfl)) rfl ((hG _).1 _ g2 (by decide)).1 ((hG _).1 _ g2 (by decide)).2 (by unfold pic; rw [g2]; rfl) (jcl_at hw rfl) rfl (p_Ref_watch hw hG hq3) ?_ (fun E h' n' x' e1 => by cases e1.1)
    intro v9 h9 n9 x9 e9
    obtain ⟨e91, e92, e93⟩ := e9
    cases e91
    subst e92
    subst e93
    clear x
    rename Bool => x
    show J _ _ _ _ [] _ _ _ _ _ _
    refine J_aload_n d_Ref_judge_37 rfl ?_
    refine J_iload_n d_Ref_judge_38 rfl ?_
    obtain ⟨q4, hq4, H⟩ := Option.bind_eq_some_iff.mp H
    refine J_callV (kc := 0) (ks := 0) (kc' := 0) (ks' := 0) (a := x0) (ci := 12) (as := [.int x1]) (st := []) (mf_Ref_blank hw) (mv_Ref_642 hw) d_Ref_judge_39 ln_Ref_blank (by decide) (by first | exact Nat.le_of_ble_eq_true rfl | (simp only [List.map_cons, List.map_nil, List.sum_cons, List.sum_nil, va_rf_cat]; exact Nat.le_of_ble_eq_true rfl)) rfl ((hG _).1 _ g2 (by decide)).1 ((hG _).1 _ g2 (by decide)).2 (by unfold pic; rw [g2]; rfl) (jcl_at hw rfl) rfl (p_Ref_blank hw hG hq4) ?_ (fun E h' n' x' e1 => by cases e1.1)
    intro v9 h9 n9 x9 e9
    obtain ⟨e91, e92, e93⟩ := e9
    cases e91
    subst e92
    subst e93
    clear x
    rename Bool => x
    show J _ _ _ _ [] _ _ _ _ _ _
    refine J_aload_n d_Ref_judge_42 rfl ?_
    refine F_getR (ci := 12) (k := 86) hG (cf_Ref hw) (fl_Ref_238 hw) (by decide) (by decide) rfl d_Ref_judge_43 g2 ?_
    refine J_bipush (v := 8) d_Ref_judge_46 (by decide) ?_
    refine J_iload_n d_Ref_judge_48 rfl ?_
    refine J_iadd d_Ref_judge_49 ?_
    obtain ⟨a5, ha5, H⟩ := Option.bind_eq_some_iff.mp H
    rw [j_rf ha5]
    obtain ⟨N6, hN6, H⟩ := Option.bind_eq_some_iff.mp H
    obtain ⟨k7, hk7, H⟩ := Option.bind_eq_some_iff.mp H
    refine F_iald k7 hw hG d_Ref_judge_50 (gA_some hN6) (ix_some hk7) ?_
    have H := Option.some.inj H
    subst H
    exact J_iret (st := []) d_Ref_judge_51 rfl rfl ⟨rfl, rfl, rfl⟩
  · intro c8
    rw [if_neg c8] at H
    refine J_iconst (v := 0) d_Ref_judge_23 (by decide) ?_
    have H := Option.some.inj H
    subst H
    exact J_iret (st := []) d_Ref_judge_24 rfl rfl ⟨rfl, rfl, rfl⟩
def f_Ref_judge (Γ : gm_T) (φ : ph_T) (this : Nat) (p0 : Int32) : Option (Int32 × ph_T) :=
  Option.bind (f_Ref_isWatcher Γ φ p0) fun q9 =>
  if q9.1 = 0 then
    f_Ref_judge_L13 Γ  q9.2 this p0 (1 : Int32) this
  else
    f_Ref_judge_L13 Γ  q9.2 this p0 (0 : Int32) this
set_option maxRecDepth 100000 in
set_option maxHeartbeats 4000000 in
theorem p_Ref_judge {w : jw_T} (hw : jok w) {Γ : gm_T} {n : Nat} (hG : gd w Γ n) {x : Bool} {φ : ph_T} {this : Nat} {p0 : Int32} {q : Int32 × ph_T} (H : f_Ref_judge Γ φ this p0 = some q) : jc w M_Ref_judge [.ref this, .int p0] (pic Γ φ) n x 0 0 (fq Γ n (.inl (some (.int q.1))) q.2) := by
  refine jc.of (by simp only [jent_r, jent_i, jent_l, jent_a, jent_0]; exact Nat.le_of_ble_eq_true rfl) ?_
  have hls : jents [.ref this, .int p0] (jm_nL M_Ref_judge) = [some (.ref this), some (.int p0)] := by simp only [jents, jent_r, jent_i, jent_l, jent_a, jent_0]; rfl
  rw [hls]
  clear hls
  unfold f_Ref_judge at H
  refine J_aload_n d_Ref_judge_0 rfl ?_
  refine J_iload_n d_Ref_judge_1 rfl ?_
  obtain ⟨q9, hq9, H⟩ := Option.bind_eq_some_iff.mp H
  refine J_callS (kc := 0) (ks := 0) (kc' := 0) (ks' := 0) (as := [.int p0]) (st := [.ref this]) (mf_Ref_isWatcher hw) (ms_Ref_637 hw) d_Ref_judge_2 ln_Ref_isWatcher (by decide) (by first | exact Nat.le_of_ble_eq_true rfl | (simp only [List.map_cons, List.map_nil, List.sum_cons, List.sum_nil, va_rf_cat]; exact Nat.le_of_ble_eq_true rfl)) rfl (p_Ref_isWatcher hw hG hq9) ?_ (fun E h' n' x' e1 => by cases e1.1)
  intro v9 h9 n9 x9 e9
  obtain ⟨e91, e92, e93⟩ := e9
  cases e91
  subst e92
  subst e93
  clear x
  rename Bool => x
  show J _ _ _ _ (_ :: _) _ _ _ _ _ _
  refine J_if_eq (tgt := 12) d_Ref_judge_5 (by decide) ?_ ?_
  · intro c10
    rw [if_pos c10] at H
    refine J_iconst (v := 1) d_Ref_judge_12 (by decide) ?_
    refine J.drop [true, true] rfl ?_
    exact p_Ref_judge_L13 hw hG  H
  · intro c10
    rw [if_neg c10] at H
    refine J_iconst (v := 0) d_Ref_judge_8 (by decide) ?_
    refine J_goto (tgt := 13) d_Ref_judge_9 (by decide) ?_
    refine J.drop [true, true] rfl ?_
    exact p_Ref_judge_L13 hw hG  H
theorem ln_Ref_watched : (parseMethodDescriptor y_Ref_watched.desc).map (fun q => q.parameters.length) = some 2 := by decide +kernel
def f_Ref_watched_L121 (Γ : gm_T)  (φ : ph_T) (y0 : Int32) : Option (Int32 × ph_T) :=
  some (y0, φ)
set_option maxRecDepth 100000 in
set_option maxHeartbeats 4000000 in
theorem p_Ref_watched_L121 {w : jw_T} (hw : jok w) {Γ : gm_T} {n : Nat} (hG : gd w Γ n)  {x : Bool} {φ : ph_T} {y0 : Int32} {q : Int32 × ph_T} (H : f_Ref_watched_L121 Γ  φ y0 = some q) : J w M_Ref_watched 121 [none, none, none, none] [.int y0] (pic Γ φ) n x 0 0 (fq Γ n (.inl (some (.int q.1))) q.2) := by
  unfold f_Ref_watched_L121 at H
  have H := Option.some.inj H
  subst H
  exact J_iret (st := []) d_Ref_watched_121 rfl rfl ⟨rfl, rfl, rfl⟩
def f_Ref_watched_L29 (Γ : gm_T)  (φ : ph_T) (x0 : Nat) (x1 : Int32) (x2 : Int32) (y0 : Int32) (y1 : Nat) : Option (Int32 × ph_T) :=
  @ite _ (Γ y1 = .inr 12) _ (
  @ite _ (Γ x0 = .inr 12) _ (
  if ((uI φ y1 0 y0).1 x0 0) ≤ 0 then
    if x2 = 0 then
      Option.bind (φ.2.2 x0 86) fun a22 =>
      Option.bind (gA Γ a22 0) fun N23 =>
      Option.bind (ix ((8 : Int32) + x1) N23) fun k24 =>
      f_Ref_watched_L121 Γ  (uI φ y1 0 y0) ((uI φ y1 0 y0).1 a22 k24)
    else
      if x2 = (1 : Int32) then
        Option.bind (φ.2.2 x0 87) fun a18 =>
        Option.bind (gA Γ a18 0) fun N19 =>
        Option.bind (ix ((8 : Int32) + x1) N19) fun k20 =>
        f_Ref_watched_L121 Γ  (uI φ y1 0 y0) ((uI φ y1 0 y0).1 a18 k20)
      else
        if x2 = (2 : Int32) then
          Option.bind (φ.2.2 x0 88) fun a14 =>
          Option.bind (gA Γ a14 0) fun N15 =>
          Option.bind (ix ((8 : Int32) + x1) N15) fun k16 =>
          f_Ref_watched_L121 Γ  (uI φ y1 0 y0) ((uI φ y1 0 y0).1 a14 k16)
        else
          if x2 = (3 : Int32) then
            Option.bind (φ.2.2 x0 85) fun a10 =>
            Option.bind (gA Γ a10 0) fun N11 =>
            Option.bind (ix ((8 : Int32) + x1) N11) fun k12 =>
            f_Ref_watched_L121 Γ  (uI φ y1 0 y0) ((uI φ y1 0 y0).1 a10 k12)
          else
            if x2 = (4 : Int32) then
              Option.bind (φ.2.2 x0 89) fun a6 =>
              Option.bind (gA Γ a6 0) fun N7 =>
              Option.bind (ix ((8 : Int32) + x1) N7) fun k8 =>
              f_Ref_watched_L121 Γ  (uI φ y1 0 y0) ((uI φ y1 0 y0).1 a6 k8)
            else
              Option.bind (φ.2.2 x0 90) fun a3 =>
              Option.bind (gA Γ a3 0) fun N4 =>
              Option.bind (ix ((8 : Int32) + x1) N4) fun k5 =>
              f_Ref_watched_L121 Γ  (uI φ y1 0 y0) ((uI φ y1 0 y0).1 a3 k5)
  else
    some ((0 : Int32), (uI φ y1 0 y0))
  ) none
  ) none
set_option maxRecDepth 100000 in
set_option maxHeartbeats 4000000 in
theorem p_Ref_watched_L29 {w : jw_T} (hw : jok w) {Γ : gm_T} {n : Nat} (hG : gd w Γ n)  {x : Bool} {φ : ph_T} {x0 : Nat} {x1 : Int32} {x2 : Int32} {y0 : Int32} {y1 : Nat} {q : Int32 × ph_T} (H : f_Ref_watched_L29 Γ  φ x0 x1 x2 y0 y1 = some q) : J w M_Ref_watched 29 [some (.ref x0), some (.int x1), some (.int x2), none] [.int y0, .ref y1] (pic Γ φ) n x 0 0 (fq Γ n (.inl (some (.int q.1))) q.2) := by
  unfold f_Ref_watched_L29 at H
  have g1 : Γ y1 = .inr 12 := by
    apply Classical.byContradiction
    intro q9
    rw [if_neg q9] at H
    cases H
  rw [if_pos g1] at H
  refine F_putI (ci := 12) (k := 0) hG (cf_Ref hw) (fl_Ref_303 hw) (by decide) (by decide) rfl d_Ref_watched_29 rfl rfl rfl g1 ?_
  refine J_aload_n d_Ref_watched_32 rfl ?_
  have g2 : Γ x0 = .inr 12 := by
    apply Classical.byContradiction
    intro q9
    rw [if_neg q9] at H
    cases H
  rw [if_pos g2] at H
  refine F_getI (ci := 12) (k := 0) hG (cf_Ref hw) (fl_Ref_303 hw) (by decide) (by decide) rfl d_Ref_watched_33 g2 ?_
  refine J_if_le (tgt := 41) d_Ref_watched_36 (by decide) ?_ ?_
  · intro c26
    rw [if_pos c26] at H
    refine J_bipush (v := 8) d_Ref_watched_41 (by decide) ?_
    refine J_iload_n d_Ref_watched_43 rfl ?_
    refine J_iadd d_Ref_watched_44 ?_
    refine J_istore_n d_Ref_watched_45 (Nat.le_of_ble_eq_true rfl) ?_
    refine J.ls (ls' := [some (.ref x0), some (.int x1), some (.int x2), some (.int ((8 : Int32) + x1))]) rfl ?_
    refine J_iload_n d_Ref_watched_46 rfl ?_
    refine J_if_ne (tgt := 59) d_Ref_watched_47 (by decide) ?_ ?_
    · intro c25
      rw [if_neg c25] at H
      refine J_iload_n d_Ref_watched_59 rfl ?_
      refine J_iconst (v := 1) d_Ref_watched_60 (by decide) ?_
      refine J_icmp_ne (tgt := 73) d_Ref_watched_61 (by decide) ?_ ?_
      · intro c21
        rw [if_neg c21] at H
        refine J_iload_n d_Ref_watched_73 rfl ?_
        refine J_iconst (v := 2) d_Ref_watched_74 (by decide) ?_
        refine J_icmp_ne (tgt := 87) d_Ref_watched_75 (by decide) ?_ ?_
        · intro c17
          rw [if_neg c17] at H
          refine J_iload_n d_Ref_watched_87 rfl ?_
          refine J_iconst (v := 3) d_Ref_watched_88 (by decide) ?_
          refine J_icmp_ne (tgt := 101) d_Ref_watched_89 (by decide) ?_ ?_
          · intro c13
            rw [if_neg c13] at H
            refine J_iload_n d_Ref_watched_101 rfl ?_
            refine J_iconst (v := 4) d_Ref_watched_102 (by decide) ?_
            refine J_icmp_ne (tgt := 115) d_Ref_watched_103 (by decide) ?_ ?_
            · intro c9
              rw [if_neg c9] at H
              refine J_aload_n d_Ref_watched_115 rfl ?_
              refine F_getR (ci := 12) (k := 90) hG (cf_Ref hw) (fl_Ref_250 hw) (by decide) (by decide) rfl d_Ref_watched_116 g2 ?_
              show J _ _ _ _ (va_rf (φ.2.2 x0 90) :: _) _ _ _ _ _ _
              refine J_iload_n d_Ref_watched_119 rfl ?_
              obtain ⟨a3, ha3, H⟩ := Option.bind_eq_some_iff.mp H
              rw [j_rf ha3]
              obtain ⟨N4, hN4, H⟩ := Option.bind_eq_some_iff.mp H
              obtain ⟨k5, hk5, H⟩ := Option.bind_eq_some_iff.mp H
              refine F_iald k5 hw hG d_Ref_watched_120 (gA_some hN4) (ix_some hk5) ?_
              refine J.drop [false, false, false, false] rfl ?_
              exact p_Ref_watched_L121 hw hG  H
            · intro c9
              rw [if_pos c9] at H
              refine J_aload_n d_Ref_watched_106 rfl ?_
              refine F_getR (ci := 12) (k := 89) hG (cf_Ref hw) (fl_Ref_247 hw) (by decide) (by decide) rfl d_Ref_watched_107 g2 ?_
              show J _ _ _ _ (va_rf (φ.2.2 x0 89) :: _) _ _ _ _ _ _
              refine J_iload_n d_Ref_watched_110 rfl ?_
              obtain ⟨a6, ha6, H⟩ := Option.bind_eq_some_iff.mp H
              rw [j_rf ha6]
              obtain ⟨N7, hN7, H⟩ := Option.bind_eq_some_iff.mp H
              obtain ⟨k8, hk8, H⟩ := Option.bind_eq_some_iff.mp H
              refine F_iald k8 hw hG d_Ref_watched_111 (gA_some hN7) (ix_some hk8) ?_
              refine J_goto (tgt := 121) d_Ref_watched_112 (by decide) ?_
              refine J.drop [false, false, false, false] rfl ?_
              exact p_Ref_watched_L121 hw hG  H
          · intro c13
            rw [if_pos c13] at H
            refine J_aload_n d_Ref_watched_92 rfl ?_
            refine F_getR (ci := 12) (k := 85) hG (cf_Ref hw) (fl_Ref_235 hw) (by decide) (by decide) rfl d_Ref_watched_93 g2 ?_
            show J _ _ _ _ (va_rf (φ.2.2 x0 85) :: _) _ _ _ _ _ _
            refine J_iload_n d_Ref_watched_96 rfl ?_
            obtain ⟨a10, ha10, H⟩ := Option.bind_eq_some_iff.mp H
            rw [j_rf ha10]
            obtain ⟨N11, hN11, H⟩ := Option.bind_eq_some_iff.mp H
            obtain ⟨k12, hk12, H⟩ := Option.bind_eq_some_iff.mp H
            refine F_iald k12 hw hG d_Ref_watched_97 (gA_some hN11) (ix_some hk12) ?_
            refine J_goto (tgt := 121) d_Ref_watched_98 (by decide) ?_
            refine J.drop [false, false, false, false] rfl ?_
            exact p_Ref_watched_L121 hw hG  H
        · intro c17
          rw [if_pos c17] at H
          refine J_aload_n d_Ref_watched_78 rfl ?_
          refine F_getR (ci := 12) (k := 88) hG (cf_Ref hw) (fl_Ref_244 hw) (by decide) (by decide) rfl d_Ref_watched_79 g2 ?_
          show J _ _ _ _ (va_rf (φ.2.2 x0 88) :: _) _ _ _ _ _ _
          refine J_iload_n d_Ref_watched_82 rfl ?_
          obtain ⟨a14, ha14, H⟩ := Option.bind_eq_some_iff.mp H
          rw [j_rf ha14]
          obtain ⟨N15, hN15, H⟩ := Option.bind_eq_some_iff.mp H
          obtain ⟨k16, hk16, H⟩ := Option.bind_eq_some_iff.mp H
          refine F_iald k16 hw hG d_Ref_watched_83 (gA_some hN15) (ix_some hk16) ?_
          refine J_goto (tgt := 121) d_Ref_watched_84 (by decide) ?_
          refine J.drop [false, false, false, false] rfl ?_
          exact p_Ref_watched_L121 hw hG  H
      · intro c21
        rw [if_pos c21] at H
        refine J_aload_n d_Ref_watched_64 rfl ?_
        refine F_getR (ci := 12) (k := 87) hG (cf_Ref hw) (fl_Ref_241 hw) (by decide) (by decide) rfl d_Ref_watched_65 g2 ?_
        show J _ _ _ _ (va_rf (φ.2.2 x0 87) :: _) _ _ _ _ _ _
        refine J_iload_n d_Ref_watched_68 rfl ?_
        obtain ⟨a18, ha18, H⟩ := Option.bind_eq_some_iff.mp H
        rw [j_rf ha18]
        obtain ⟨N19, hN19, H⟩ := Option.bind_eq_some_iff.mp H
        obtain ⟨k20, hk20, H⟩ := Option.bind_eq_some_iff.mp H
        refine F_iald k20 hw hG d_Ref_watched_69 (gA_some hN19) (ix_some hk20) ?_
        refine J_goto (tgt := 121) d_Ref_watched_70 (by decide) ?_
        refine J.drop [false, false, false, false] rfl ?_
        exact p_Ref_watched_L121 hw hG  H
    · intro c25
      rw [if_pos c25] at H
      refine J_aload_n d_Ref_watched_50 rfl ?_
      refine F_getR (ci := 12) (k := 86) hG (cf_Ref hw) (fl_Ref_238 hw) (by decide) (by decide) rfl d_Ref_watched_51 g2 ?_
      show J _ _ _ _ (va_rf (φ.2.2 x0 86) :: _) _ _ _ _ _ _
      refine J_iload_n d_Ref_watched_54 rfl ?_
      obtain ⟨a22, ha22, H⟩ := Option.bind_eq_some_iff.mp H
      rw [j_rf ha22]
      obtain ⟨N23, hN23, H⟩ := Option.bind_eq_some_iff.mp H
      obtain ⟨k24, hk24, H⟩ := Option.bind_eq_some_iff.mp H
      refine F_iald k24 hw hG d_Ref_watched_55 (gA_some hN23) (ix_some hk24) ?_
      refine J_goto (tgt := 121) d_Ref_watched_56 (by decide) ?_
      refine J.drop [false, false, false, false] rfl ?_
      exact p_Ref_watched_L121 hw hG  H
  · intro c26
    rw [if_neg c26] at H
    refine J_iconst (v := 0) d_Ref_watched_39 (by decide) ?_
    have H := Option.some.inj H
    subst H
    exact J_iret (st := []) d_Ref_watched_40 rfl rfl ⟨rfl, rfl, rfl⟩
def f_Ref_watched (Γ : gm_T) (φ : ph_T) (this : Nat) (p0 : Int32) (p1 : Int32) : Option (Int32 × ph_T) :=
  Option.bind (f_Ref_isWatcher Γ φ p0) fun q27 =>
  if q27.1 = 0 then
    f_Ref_watched_L29 Γ  q27.2 this p0 p1 (1 : Int32) this
  else
    Option.bind (f_Ref_in Γ q27.2 (Int32.toInt64 p1) (0 : Int64) (5 : Int64)) fun q28 =>
    if q28.1 = 0 then
      f_Ref_watched_L29 Γ  q28.2 this p0 p1 (2 : Int32) this
    else
      f_Ref_watched_L29 Γ  q28.2 this p0 p1 (0 : Int32) this
set_option maxRecDepth 100000 in
set_option maxHeartbeats 4000000 in
theorem p_Ref_watched {w : jw_T} (hw : jok w) {Γ : gm_T} {n : Nat} (hG : gd w Γ n) {x : Bool} {φ : ph_T} {this : Nat} {p0 : Int32} {p1 : Int32} {q : Int32 × ph_T} (H : f_Ref_watched Γ φ this p0 p1 = some q) : jc w M_Ref_watched [.ref this, .int p0, .int p1] (pic Γ φ) n x 0 0 (fq Γ n (.inl (some (.int q.1))) q.2) := by
  refine jc.of (by simp only [jent_r, jent_i, jent_l, jent_a, jent_0]; exact Nat.le_of_ble_eq_true rfl) ?_
  have hls : jents [.ref this, .int p0, .int p1] (jm_nL M_Ref_watched) = [some (.ref this), some (.int p0), some (.int p1), none] := by simp only [jents, jent_r, jent_i, jent_l, jent_a, jent_0]; rfl
  rw [hls]
  clear hls
  unfold f_Ref_watched at H
  refine J_aload_n d_Ref_watched_0 rfl ?_
  refine J_iload_n d_Ref_watched_1 rfl ?_
  obtain ⟨q27, hq27, H⟩ := Option.bind_eq_some_iff.mp H
  refine J_callS (kc := 0) (ks := 0) (kc' := 0) (ks' := 0) (as := [.int p0]) (st := [.ref this]) (mf_Ref_isWatcher hw) (ms_Ref_637 hw) d_Ref_watched_2 ln_Ref_isWatcher (by decide) (by first | exact Nat.le_of_ble_eq_true rfl | (simp only [List.map_cons, List.map_nil, List.sum_cons, List.sum_nil, va_rf_cat]; exact Nat.le_of_ble_eq_true rfl)) rfl (p_Ref_isWatcher hw hG hq27) ?_ (fun E h' n' x' e1 => by cases e1.1)
  intro v9 h9 n9 x9 e9
  obtain ⟨e91, e92, e93⟩ := e9
  cases e91
  subst e92
  subst e93
  clear x
  rename Bool => x
  show J _ _ _ _ (_ :: _) _ _ _ _ _ _
  refine J_if_ne (tgt := 12) d_Ref_watched_5 (by decide) ?_ ?_
  · intro c30
    rw [if_neg c30] at H
    refine J_iload_n d_Ref_watched_12 rfl ?_
    refine J_i2l d_Ref_watched_13 ?_
    refine J_lconst (v := 0) d_Ref_watched_14 (by decide) ?_
    refine J_ldc2 (v := 5) d_Ref_watched_15 (kn_Ref_645 hw) ?_
    obtain ⟨q28, hq28, H⟩ := Option.bind_eq_some_iff.mp H
    refine J_callS (kc := 0) (ks := 0) (kc' := 0) (ks' := 0) (as := [.long (Int32.toInt64 p1), .long (0 : Int64), .long (5 : Int64)]) (st := [.ref this]) (mf_Ref_in hw) (ms_Ref_599 hw) d_Ref_watched_18 ln_Ref_in (by decide) (by first | exact Nat.le_of_ble_eq_true rfl | (simp only [List.map_cons, List.map_nil, List.sum_cons, List.sum_nil, va_rf_cat]; exact Nat.le_of_ble_eq_true rfl)) rfl (p_Ref_in hw hG hq28) ?_ (fun E h' n' x' e1 => by cases e1.1)
    intro v9 h9 n9 x9 e9
    obtain ⟨e91, e92, e93⟩ := e9
    cases e91
    subst e92
    subst e93
    clear x
    rename Bool => x
    show J _ _ _ _ (_ :: _) _ _ _ _ _ _
    refine J_if_ne (tgt := 28) d_Ref_watched_21 (by decide) ?_ ?_
    · intro c29
      rw [if_neg c29] at H
      refine J_iconst (v := 0) d_Ref_watched_28 (by decide) ?_
      refine J.drop [true, true, true, false] rfl ?_
      exact p_Ref_watched_L29 hw hG  H
    · intro c29
      rw [if_pos c29] at H
      refine J_iconst (v := 2) d_Ref_watched_24 (by decide) ?_
      refine J_goto (tgt := 29) d_Ref_watched_25 (by decide) ?_
      refine J.drop [true, true, true, false] rfl ?_
      exact p_Ref_watched_L29 hw hG  H
  · intro c30
    rw [if_pos c30] at H
    refine J_iconst (v := 1) d_Ref_watched_8 (by decide) ?_
    refine J_goto (tgt := 29) d_Ref_watched_9 (by decide) ?_
    refine J.drop [true, true, true, false] rfl ?_
    exact p_Ref_watched_L29 hw hG  H
theorem ln_Ref_again : (parseMethodDescriptor y_Ref_again.desc).map (fun q => q.parameters.length) = some 1 := by decide +kernel
def f_Ref_again_L36 (Γ : gm_T)  (φ : ph_T) : Option (Unit × ph_T) :=
  some ((), φ)
set_option maxRecDepth 100000 in
set_option maxHeartbeats 4000000 in
theorem p_Ref_again_L36 {w : jw_T} (hw : jok w) {Γ : gm_T} {n : Nat} (hG : gd w Γ n)  {x : Bool} {φ : ph_T} {q : Unit × ph_T} (H : f_Ref_again_L36 Γ  φ  = some q) : J w M_Ref_again 36 [none, none] [] (pic Γ φ) n x 0 0 (fq Γ n (.inl none) q.2) := by
  unfold f_Ref_again_L36 at H
  have H := Option.some.inj H
  subst H
  exact J_vret (st := []) d_Ref_again_36 rfl ⟨rfl, rfl, rfl⟩
def f_Ref_again_L13 (Γ : gm_T)  (φ : ph_T) (x0 : Nat) (x1 : Int32) (y0 : Int32) (y1 : Nat) : Option (Unit × ph_T) :=
  @ite _ (Γ y1 = .inr 12) _ (
  @ite _ (Γ x0 = .inr 12) _ (
  if ((uI φ y1 0 y0).1 x0 0) = 0 then
    Option.bind (f_Ref_beginMonitor Γ (uI φ y1 0 y0) x0 ((8 : Int32) + x1)) fun q3 =>
    Option.bind (f_Ref_blank Γ q3.2 x0 x1) fun q4 =>
    f_Ref_again_L36 Γ  q4.2 
  else
    f_Ref_again_L36 Γ  (uI φ y1 0 y0) 
  ) none
  ) none
set_option maxRecDepth 100000 in
set_option maxHeartbeats 4000000 in
theorem p_Ref_again_L13 {w : jw_T} (hw : jok w) {Γ : gm_T} {n : Nat} (hG : gd w Γ n)  {x : Bool} {φ : ph_T} {x0 : Nat} {x1 : Int32} {y0 : Int32} {y1 : Nat} {q : Unit × ph_T} (H : f_Ref_again_L13 Γ  φ x0 x1 y0 y1 = some q) : J w M_Ref_again 13 [some (.ref x0), some (.int x1)] [.int y0, .ref y1] (pic Γ φ) n x 0 0 (fq Γ n (.inl none) q.2) := by
  unfold f_Ref_again_L13 at H
  have g1 : Γ y1 = .inr 12 := by
    apply Classical.byContradiction
    intro q9
    rw [if_neg q9] at H
    cases H
  rw [if_pos g1] at H
  refine F_putI (ci := 12) (k := 0) hG (cf_Ref hw) (fl_Ref_303 hw) (by decide) (by decide) rfl d_Ref_again_13 rfl rfl rfl g1 ?_
  refine J_aload_n d_Ref_again_16 rfl ?_
  have g2 : Γ x0 = .inr 12 := by
    apply Classical.byContradiction
    intro q9
    rw [if_neg q9] at H
    cases H
  rw [if_pos g2] at H
  refine F_getI (ci := 12) (k := 0) hG (cf_Ref hw) (fl_Ref_303 hw) (by decide) (by decide) rfl d_Ref_again_17 g2 ?_
  refine J_if_ne (tgt := 36) d_Ref_again_20 (by decide) ?_ ?_
  · intro c5
    rw [if_neg c5] at H
    refine J.drop [false, false] rfl ?_
    exact p_Ref_again_L36 hw hG  H
  · intro c5
    rw [if_pos c5] at H
    refine J_aload_n d_Ref_again_23 rfl ?_
    refine J_bipush (v := 8) d_Ref_again_24 (by decide) ?_
    refine J_iload_n d_Ref_again_26 rfl ?_
    refine J_iadd d_Ref_again_27 ?_
    obtain ⟨q3, hq3, H⟩ := Option.bind_eq_some_iff.mp H
    refine J_callV (kc := 0) (ks := 0) (kc' := 0) (ks' := 0) (a := x0) (ci := 12) (as := [.int ((8 : Int32) + x1)]) (st := []) (mf_Ref_beginMonitor hw) (mv_Ref_647 hw) d_Ref_again_28 ln_Ref_beginMonitor (by decide) (by first | exact Nat.le_of_ble_eq_true rfl | (simp only [List.map_cons, List.map_nil, List.sum_cons, List.sum_nil, va_rf_cat]; exact Nat.le_of_ble_eq_true rfl)) rfl ((hG _).1 _ g2 (by decide)).1 ((hG _).1 _ g2 (by decide)).2 (by unfold pic; rw [g2]; rfl) (jcl_at hw rfl) rfl (p_Ref_beginMonitor hw hG hq3) ?_ (fun E h' n' x' e1 => by cases e1.1)
    intro v9 h9 n9 x9 e9
    obtain ⟨e91, e92, e93⟩ := e9
    cases e91
    subst e92
    subst e93
    clear x
    rename Bool => x
    show J _ _ _ _ [] _ _ _ _ _ _
    refine J_aload_n d_Ref_again_31 rfl ?_
    refine J_iload_n d_Ref_again_32 rfl ?_
    obtain ⟨q4, hq4, H⟩ := Option.bind_eq_some_iff.mp H
    refine J_callV (kc := 0) (ks := 0) (kc' := 0) (ks' := 0) (a := x0) (ci := 12) (as := [.int x1]) (st := []) (mf_Ref_blank hw) (mv_Ref_642 hw) d_Ref_again_33 ln_Ref_blank (by decide) (by first | exact Nat.le_of_ble_eq_true rfl | (simp only [List.map_cons, List.map_nil, List.sum_cons, List.sum_nil, va_rf_cat]; exact Nat.le_of_ble_eq_true rfl)) rfl ((hG _).1 _ g2 (by decide)).1 ((hG _).1 _ g2 (by decide)).2 (by unfold pic; rw [g2]; rfl) (jcl_at hw rfl) rfl (p_Ref_blank hw hG hq4) ?_ (fun E h' n' x' e1 => by cases e1.1)
    intro v9 h9 n9 x9 e9
    obtain ⟨e91, e92, e93⟩ := e9
    cases e91
    subst e92
    subst e93
    clear x
    rename Bool => x
    show J _ _ _ _ [] _ _ _ _ _ _
    refine J.drop [false, false] rfl ?_
    exact p_Ref_again_L36 hw hG  H
def f_Ref_again (Γ : gm_T) (φ : ph_T) (this : Nat) (p0 : Int32) : Option (Unit × ph_T) :=
  Option.bind (f_Ref_isWatcher Γ φ p0) fun q6 =>
  if q6.1 = 0 then
    f_Ref_again_L13 Γ  q6.2 this p0 (1 : Int32) this
  else
    f_Ref_again_L13 Γ  q6.2 this p0 (0 : Int32) this
set_option maxRecDepth 100000 in
set_option maxHeartbeats 4000000 in
theorem p_Ref_again {w : jw_T} (hw : jok w) {Γ : gm_T} {n : Nat} (hG : gd w Γ n) {x : Bool} {φ : ph_T} {this : Nat} {p0 : Int32} {q : Unit × ph_T} (H : f_Ref_again Γ φ this p0 = some q) : jc w M_Ref_again [.ref this, .int p0] (pic Γ φ) n x 0 0 (fq Γ n (.inl none) q.2) := by
  refine jc.of (by simp only [jent_r, jent_i, jent_l, jent_a, jent_0]; exact Nat.le_of_ble_eq_true rfl) ?_
  have hls : jents [.ref this, .int p0] (jm_nL M_Ref_again) = [some (.ref this), some (.int p0)] := by simp only [jents, jent_r, jent_i, jent_l, jent_a, jent_0]; rfl
  rw [hls]
  clear hls
  unfold f_Ref_again at H
  refine J_aload_n d_Ref_again_0 rfl ?_
  refine J_iload_n d_Ref_again_1 rfl ?_
  obtain ⟨q6, hq6, H⟩ := Option.bind_eq_some_iff.mp H
  refine J_callS (kc := 0) (ks := 0) (kc' := 0) (ks' := 0) (as := [.int p0]) (st := [.ref this]) (mf_Ref_isWatcher hw) (ms_Ref_637 hw) d_Ref_again_2 ln_Ref_isWatcher (by decide) (by first | exact Nat.le_of_ble_eq_true rfl | (simp only [List.map_cons, List.map_nil, List.sum_cons, List.sum_nil, va_rf_cat]; exact Nat.le_of_ble_eq_true rfl)) rfl (p_Ref_isWatcher hw hG hq6) ?_ (fun E h' n' x' e1 => by cases e1.1)
  intro v9 h9 n9 x9 e9
  obtain ⟨e91, e92, e93⟩ := e9
  cases e91
  subst e92
  subst e93
  clear x
  rename Bool => x
  show J _ _ _ _ (_ :: _) _ _ _ _ _ _
  refine J_if_eq (tgt := 12) d_Ref_again_5 (by decide) ?_ ?_
  · intro c7
    rw [if_pos c7] at H
    refine J_iconst (v := 1) d_Ref_again_12 (by decide) ?_
    refine J.drop [true, true] rfl ?_
    exact p_Ref_again_L13 hw hG  H
  · intro c7
    rw [if_neg c7] at H
    refine J_iconst (v := 0) d_Ref_again_8 (by decide) ?_
    refine J_goto (tgt := 13) d_Ref_again_9 (by decide) ?_
    refine J.drop [true, true] rfl ?_
    exact p_Ref_again_L13 hw hG  H
