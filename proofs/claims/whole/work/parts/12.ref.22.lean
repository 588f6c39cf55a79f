theorem ln_Ref_goSlave : (parseMethodDescriptor y_Ref_goSlave.desc).map (fun q => q.parameters.length) = some 2 := by decide +kernel
def f_Ref_goSlave_L99 (Γ : gm_T)  (φ : ph_T) : Option (Unit × ph_T) :=
  some ((), φ)
set_option maxRecDepth 100000 in
set_option maxHeartbeats 4000000 in
theorem p_Ref_goSlave_L99 {w : jw_T} (hw : jok w) {Γ : gm_T} {n : Nat} (hG : gd w Γ n)  {x : Bool} {φ : ph_T} {q : Unit × ph_T} (H : f_Ref_goSlave_L99 Γ  φ  = some q) : J w M_Ref_goSlave 99 [none, none, none, none] [] (pic Γ φ) n x 0 0 (fq Γ n (.inl none) q.2) := by
  unfold f_Ref_goSlave_L99 at H
  have H := Option.some.inj H
  subst H
  exact J_vret (st := []) d_Ref_goSlave_99 rfl ⟨rfl, rfl, rfl⟩
def f_Ref_goSlave (Γ : gm_T) (φ : ph_T) (this : Nat) (p0 : Int32) (p1 : Int32) : Option (Unit × ph_T) :=
  if p1 = (2 : Int32) then
    @ite _ (Γ this = .inr 12) _ (
    Option.bind (f_Ref_writeGoes Γ φ this p0) fun q25 =>
    f_Ref_goSlave_L99 Γ  q25.2 
    ) none
  else
    if p1 = (4 : Int32) then
      @ite _ (Γ this = .inr 12) _ (
      Option.bind (f_Ref_readGoes Γ φ this p0) fun q22 =>
      f_Ref_goSlave_L99 Γ  q22.2 
      ) none
    else
      @ite _ (Γ this = .inr 12) _ (
      Option.bind (f_Ref_rowOf Γ φ this (1 : Int32) p0 p1) fun q2 =>
      Option.bind (f_Ref_take Γ q2.2 this q2.1) fun q3 =>
      if p1 = 0 then
        Option.bind (q3.2.2.2 this 35) fun a16 =>
        Option.bind (gA Γ a16 1) fun N17 =>
        Option.bind (ix (((5 : Int32) * ((4 : Int32) + p0)) + p1) N17) fun k18 =>
        Option.bind (f_Ref_writeCame Γ q3.2 this p0 (q3.2.2.1 a16 k18)) fun q19 =>
        f_Ref_goSlave_L99 Γ  q19.2 
      else
        if p1 = (1 : Int32) then
          Option.bind (q3.2.2.2 this 35) fun a8 =>
          Option.bind (gA Γ a8 1) fun N9 =>
          Option.bind (ix (((5 : Int32) * ((4 : Int32) + p0)) + p1) N9) fun k10 =>
          Option.bind (q3.2.2.2 this 36) fun a11 =>
          Option.bind (gA Γ a11 0) fun N12 =>
          Option.bind (ix (((5 : Int32) * ((4 : Int32) + p0)) + p1) N12) fun k13 =>
          Option.bind (f_Ref_beatCame Γ q3.2 this p0 (q3.2.2.1 a8 k10) (q3.2.1 a11 k13)) fun q14 =>
          f_Ref_goSlave_L99 Γ  q14.2 
        else
          Option.bind (q3.2.2.2 this 35) fun a4 =>
          Option.bind (gA Γ a4 1) fun N5 =>
          Option.bind (ix (((5 : Int32) * ((4 : Int32) + p0)) + p1) N5) fun k6 =>
          Option.bind (f_Ref_readComes Γ q3.2 this p0 (q3.2.2.1 a4 k6)) fun q7 =>
          f_Ref_goSlave_L99 Γ  q7.2 
      ) none
set_option maxRecDepth 100000 in
set_option maxHeartbeats 4000000 in
theorem p_Ref_goSlave {w : jw_T} (hw : jok w) {Γ : gm_T} {n : Nat} (hG : gd w Γ n) {x : Bool} {φ : ph_T} {this : Nat} {p0 : Int32} {p1 : Int32} {q : Unit × ph_T} (H : f_Ref_goSlave Γ φ this p0 p1 = some q) : jc w M_Ref_goSlave [.ref this, .int p0, .int p1] (pic Γ φ) n x 0 0 (fq Γ n (.inl none) q.2) := by
  refine jc.of (by simp only [jent_r, jent_i, jent_l, jent_a, jent_0]; exact Nat.le_of_ble_eq_true rfl) ?_
  have hls : jents [.ref this, .int p0, .int p1] (jm_nL M_Ref_goSlave) = [some (.ref this), some (.int p0), some (.int p1), none] := by simp only [jents, jent_r, jent_i, jent_l, jent_a, jent_0]; rfl
  rw [hls]
  clear hls
  unfold f_Ref_goSlave at H
  refine J_iconst (v := 5) d_Ref_goSlave_0 (by decide) ?_
  refine J_iconst (v := 4) d_Ref_goSlave_1 (by decide) ?_
  refine J_iload_n d_Ref_goSlave_2 rfl ?_
  refine J_iadd d_Ref_goSlave_3 ?_
  refine J_imul d_Ref_goSlave_4 ?_
  refine J_iload_n d_Ref_goSlave_5 rfl ?_
  refine J_iadd d_Ref_goSlave_6 ?_
  refine J_istore_n d_Ref_goSlave_7 (Nat.le_of_ble_eq_true rfl) ?_
  refine J.ls (ls' := [some (.ref this), some (.int p0), some (.int p1), some (.int (((5 : Int32) * ((4 : Int32) + p0)) + p1))]) rfl ?_
  refine J_iload_n d_Ref_goSlave_8 rfl ?_
  refine J_iconst (v := 2) d_Ref_goSlave_9 (by decide) ?_
  refine J_icmp_ne (tgt := 21) d_Ref_goSlave_10 (by decide) ?_ ?_
  · intro c26
    rw [if_neg c26] at H
    refine J_iload_n d_Ref_goSlave_21 rfl ?_
    refine J_iconst (v := 4) d_Ref_goSlave_22 (by decide) ?_
    refine J_icmp_ne (tgt := 34) d_Ref_goSlave_23 (by decide) ?_ ?_
    · intro c23
      rw [if_neg c23] at H
      refine J_aload_n d_Ref_goSlave_34 rfl ?_
      refine J_aload_n d_Ref_goSlave_35 rfl ?_
      refine J_iconst (v := 1) d_Ref_goSlave_36 (by decide) ?_
      refine J_iload_n d_Ref_goSlave_37 rfl ?_
      refine J_iload_n d_Ref_goSlave_38 rfl ?_
      have g1 : Γ this = .inr 12 := by
        apply Classical.byContradiction
        intro q9
        rw [if_neg q9] at H
        cases H
      rw [if_pos g1] at H
      obtain ⟨q2, hq2, H⟩ := Option.bind_eq_some_iff.mp H
      refine J_callV (kc := 0) (ks := 0) (kc' := 0) (ks' := 0) (a := this) (ci := 12) (as := [.int (1 : Int32), .int p0, .int p1]) (st := [.ref this]) (mf_Ref_rowOf hw) (mv_Ref_388 hw) d_Ref_goSlave_39 ln_Ref_rowOf (by decide) (by first | exact Nat.le_of_ble_eq_true rfl | (simp only [List.map_cons, List.map_nil, List.sum_cons, List.sum_nil, va_rf_cat]; exact Nat.le_of_ble_eq_true rfl)) rfl ((hG _).1 _ g1 (by decide)).1 ((hG _).1 _ g1 (by decide)).2 (by unfold pic; rw [g1]; rfl) (jcl_at hw rfl) rfl (p_Ref_rowOf hw hG hq2) ?_ (fun E h' n' x' e1 => by cases e1.1)
      intro v9 h9 n9 x9 e9
      obtain ⟨e91, e92, e93⟩ := e9
      cases e91
      subst e92
      subst e93
      clear x
      rename Bool => x
      show J _ _ _ _ (_ :: _) _ _ _ _ _ _
      obtain ⟨q3, hq3, H⟩ := Option.bind_eq_some_iff.mp H
      refine J_callV (kc := 0) (ks := 0) (kc' := 0) (ks' := 0) (a := this) (ci := 12) (as := [.int q2.1]) (st := []) (mf_Ref_take hw) (mv_Ref_473 hw) d_Ref_goSlave_42 ln_Ref_take (by decide) (by first | exact Nat.le_of_ble_eq_true rfl | (simp only [List.map_cons, List.map_nil, List.sum_cons, List.sum_nil, va_rf_cat]; exact Nat.le_of_ble_eq_true rfl)) rfl ((hG _).1 _ g1 (by decide)).1 ((hG _).1 _ g1 (by decide)).2 (by unfold pic; rw [g1]; rfl) (jcl_at hw rfl) rfl (p_Ref_take hw hG hq3) ?_ (fun E h' n' x' e1 => by cases e1.1)
      intro v9 h9 n9 x9 e9
      obtain ⟨e91, e92, e93⟩ := e9
      cases e91
      subst e92
      subst e93
      clear x
      rename Bool => x
      show J _ _ _ _ [] _ _ _ _ _ _
      refine J_iload_n d_Ref_goSlave_45 rfl ?_
      refine J_if_ne (tgt := 63) d_Ref_goSlave_46 (by decide) ?_ ?_
      · intro c20
        rw [if_neg c20] at H
        refine J_iload_n d_Ref_goSlave_63 rfl ?_
        refine J_iconst (v := 1) d_Ref_goSlave_64 (by decide) ?_
        refine J_icmp_ne (tgt := 88) d_Ref_goSlave_65 (by decide) ?_ ?_
        · intro c15
          rw [if_neg c15] at H
          refine J_aload_n d_Ref_goSlave_88 rfl ?_
          refine J_iload_n d_Ref_goSlave_89 rfl ?_
          refine J_aload_n d_Ref_goSlave_90 rfl ?_
          refine F_getR (ci := 12) (k := 35) hG (cf_Ref hw) (fl_Ref_94 hw) (by decide) (by decide) rfl d_Ref_goSlave_91 g1 ?_
          refine J_iload_n d_Ref_goSlave_94 rfl ?_
          obtain ⟨a4, ha4, H⟩ := Option.bind_eq_some_iff.mp H
          rw [j_rf ha4]
          obtain ⟨N5, hN5, H⟩ := Option.bind_eq_some_iff.mp H
          obtain ⟨k6, hk6, H⟩ := Option.bind_eq_some_iff.mp H
          refine F_lald k6 hw hG d_Ref_goSlave_95 (gA_some hN5) (ix_some hk6) ?_
          obtain ⟨q7, hq7, H⟩ := Option.bind_eq_some_iff.mp H
          refine J_callV (kc := 0) (ks := 0) (kc' := 0) (ks' := 0) (a := this) (ci := 12) (as := [.int p0, .long (q3.2.2.1 a4 k6)]) (st := []) (mf_Ref_readComes hw) (mv_Ref_520 hw) d_Ref_goSlave_96 ln_Ref_readComes (by decide) (by first | exact Nat.le_of_ble_eq_true rfl | (simp only [List.map_cons, List.map_nil, List.sum_cons, List.sum_nil, va_rf_cat]; exact Nat.le_of_ble_eq_true rfl)) rfl ((hG _).1 _ g1 (by decide)).1 ((hG _).1 _ g1 (by decide)).2 (by unfold pic; rw [g1]; rfl) (jcl_at hw rfl) rfl (p_Ref_readComes hw hG hq7) ?_ (fun E h' n' x' e1 => by cases e1.1)
          intro v9 h9 n9 x9 e9
          obtain ⟨e91, e92, e93⟩ := e9
          cases e91
          subst e92
          subst e93
          clear x
          rename Bool => x
          show J _ _ _ _ [] _ _ _ _ _ _
          refine J.drop [false, false, false, false] rfl ?_
          exact p_Ref_goSlave_L99 hw hG  H
        · intro c15
          rw [if_pos c15] at H
          refine J_aload_n d_Ref_goSlave_68 rfl ?_
          refine J_iload_n d_Ref_goSlave_69 rfl ?_
          refine J_aload_n d_Ref_goSlave_70 rfl ?_
          refine F_getR (ci := 12) (k := 35) hG (cf_Ref hw) (fl_Ref_94 hw) (by decide) (by decide) rfl d_Ref_goSlave_71 g1 ?_
          refine J_iload_n d_Ref_goSlave_74 rfl ?_
          obtain ⟨a8, ha8, H⟩ := Option.bind_eq_some_iff.mp H
          rw [j_rf ha8]
          obtain ⟨N9, hN9, H⟩ := Option.bind_eq_some_iff.mp H
          obtain ⟨k10, hk10, H⟩ := Option.bind_eq_some_iff.mp H
          refine F_lald k10 hw hG d_Ref_goSlave_75 (gA_some hN9) (ix_some hk10) ?_
          refine J_aload_n d_Ref_goSlave_76 rfl ?_
          refine F_getR (ci := 12) (k := 36) hG (cf_Ref hw) (fl_Ref_97 hw) (by decide) (by decide) rfl d_Ref_goSlave_77 g1 ?_
          refine J_iload_n d_Ref_goSlave_80 rfl ?_
          obtain ⟨a11, ha11, H⟩ := Option.bind_eq_some_iff.mp H
          rw [j_rf ha11]
          obtain ⟨N12, hN12, H⟩ := Option.bind_eq_some_iff.mp H
          obtain ⟨k13, hk13, H⟩ := Option.bind_eq_some_iff.mp H
          refine F_iald k13 hw hG d_Ref_goSlave_81 (gA_some hN12) (ix_some hk13) ?_
          obtain ⟨q14, hq14, H⟩ := Option.bind_eq_some_iff.mp H
          refine J_callV (kc := 0) (ks := 0) (kc' := 0) (ks' := 0) (a := this) (ci := 12) (as := [.int p0, .long (q3.2.2.1 a8 k10), .int (q3.2.1 a11 k13)]) (st := []) (mf_Ref_beatCame hw) (mv_Ref_516 hw) d_Ref_goSlave_82 ln_Ref_beatCame (by decide) (by first | exact Nat.le_of_ble_eq_true rfl | (simp only [List.map_cons, List.map_nil, List.sum_cons, List.sum_nil, va_rf_cat]; exact Nat.le_of_ble_eq_true rfl)) rfl ((hG _).1 _ g1 (by decide)).1 ((hG _).1 _ g1 (by decide)).2 (by unfold pic; rw [g1]; rfl) (jcl_at hw rfl) rfl (p_Ref_beatCame hw hG hq14) ?_ (fun E h' n' x' e1 => by cases e1.1)
          intro v9 h9 n9 x9 e9
          obtain ⟨e91, e92, e93⟩ := e9
          cases e91
          subst e92
          subst e93
          clear x
          rename Bool => x
          show J _ _ _ _ [] _ _ _ _ _ _
          refine J_goto (tgt := 99) d_Ref_goSlave_85 (by decide) ?_
          refine J.drop [false, false, false, false] rfl ?_
          exact p_Ref_goSlave_L99 hw hG  H
      · intro c20
        rw [if_pos c20] at H
        refine J_aload_n d_Ref_goSlave_49 rfl ?_
        refine J_iload_n d_Ref_goSlave_50 rfl ?_
        refine J_aload_n d_Ref_goSlave_51 rfl ?_
        refine F_getR (ci := 12) (k := 35) hG (cf_Ref hw) (fl_Ref_94 hw) (by decide) (by decide) rfl d_Ref_goSlave_52 g1 ?_
        refine J_iload_n d_Ref_goSlave_55 rfl ?_
        obtain ⟨a16, ha16, H⟩ := Option.bind_eq_some_iff.mp H
        rw [j_rf ha16]
        obtain ⟨N17, hN17, H⟩ := Option.bind_eq_some_iff.mp H
        obtain ⟨k18, hk18, H⟩ := Option.bind_eq_some_iff.mp H
        refine F_lald k18 hw hG d_Ref_goSlave_56 (gA_some hN17) (ix_some hk18) ?_
        obtain ⟨q19, hq19, H⟩ := Option.bind_eq_some_iff.mp H
        refine J_callV (kc := 0) (ks := 0) (kc' := 0) (ks' := 0) (a := this) (ci := 12) (as := [.int p0, .long (q3.2.2.1 a16 k18)]) (st := []) (mf_Ref_writeCame hw) (mv_Ref_513 hw) d_Ref_goSlave_57 ln_Ref_writeCame (by decide) (by first | exact Nat.le_of_ble_eq_true rfl | (simp only [List.map_cons, List.map_nil, List.sum_cons, List.sum_nil, va_rf_cat]; exact Nat.le_of_ble_eq_true rfl)) rfl ((hG _).1 _ g1 (by decide)).1 ((hG _).1 _ g1 (by decide)).2 (by unfold pic; rw [g1]; rfl) (jcl_at hw rfl) rfl (p_Ref_writeCame hw hG hq19) ?_ (fun E h' n' x' e1 => by cases e1.1)
        intro v9 h9 n9 x9 e9
        obtain ⟨e91, e92, e93⟩ := e9
        cases e91
        subst e92
        subst e93
        clear x
        rename Bool => x
        show J _ _ _ _ [] _ _ _ _ _ _
        refine J_goto (tgt := 99) d_Ref_goSlave_60 (by decide) ?_
        refine J.drop [false, false, false, false] rfl ?_
        exact p_Ref_goSlave_L99 hw hG  H
    · intro c23
      rw [if_pos c23] at H
      refine J_aload_n d_Ref_goSlave_26 rfl ?_
      refine J_iload_n d_Ref_goSlave_27 rfl ?_
      have g21 : Γ this = .inr 12 := by
        apply Classical.byContradiction
        intro q9
        rw [if_neg q9] at H
        cases H
      rw [if_pos g21] at H
      obtain ⟨q22, hq22, H⟩ := Option.bind_eq_some_iff.mp H
      refine J_callV (kc := 0) (ks := 0) (kc' := 0) (ks' := 0) (a := this) (ci := 12) (as := [.int p0]) (st := []) (mf_Ref_readGoes hw) (mv_Ref_510 hw) d_Ref_goSlave_28 ln_Ref_readGoes (by decide) (by first | exact Nat.le_of_ble_eq_true rfl | (simp only [List.map_cons, List.map_nil, List.sum_cons, List.sum_nil, va_rf_cat]; exact Nat.le_of_ble_eq_true rfl)) rfl ((hG _).1 _ g21 (by decide)).1 ((hG _).1 _ g21 (by decide)).2 (by unfold pic; rw [g21]; rfl) (jcl_at hw rfl) rfl (p_Ref_readGoes hw hG hq22) ?_ (fun E h' n' x' e1 => by cases e1.1)
      intro v9 h9 n9 x9 e9
      obtain ⟨e91, e92, e93⟩ := e9
      cases e91
      subst e92
      subst e93
      clear x
      rename Bool => x
      show J _ _ _ _ [] _ _ _ _ _ _
      refine J_goto (tgt := 99) d_Ref_goSlave_31 (by decide) ?_
      refine J.drop [false, false, false, false] rfl ?_
      exact p_Ref_goSlave_L99 hw hG  H
  · intro c26
    rw [if_pos c26] at H
    refine J_aload_n d_Ref_goSlave_13 rfl ?_
    refine J_iload_n d_Ref_goSlave_14 rfl ?_
    have g24 : Γ this = .inr 12 := by
      apply Classical.byContradiction
      intro q9
      rw [if_neg q9] at H
      cases H
    rw [if_pos g24] at H
    obtain ⟨q25, hq25, H⟩ := Option.bind_eq_some_iff.mp H
    refine J_callV (kc := 0) (ks := 0) (kc' := 0) (ks' := 0) (a := this) (ci := 12) (as := [.int p0]) (st := []) (mf_Ref_writeGoes hw) (mv_Ref_507 hw) d_Ref_goSlave_15 ln_Ref_writeGoes (by decide) (by first | exact Nat.le_of_ble_eq_true rfl | (simp only [List.map_cons, List.map_nil, List.sum_cons, List.sum_nil, va_rf_cat]; exact Nat.le_of_ble_eq_true rfl)) rfl ((hG _).1 _ g24 (by decide)).1 ((hG _).1 _ g24 (by decide)).2 (by unfold pic; rw [g24]; rfl) (jcl_at hw rfl) rfl (p_Ref_writeGoes hw hG hq25) ?_ (fun E h' n' x' e1 => by cases e1.1)
    intro v9 h9 n9 x9 e9
    obtain ⟨e91, e92, e93⟩ := e9
    cases e91
    subst e92
    subst e93
    clear x
    rename Bool => x
    show J _ _ _ _ [] _ _ _ _ _ _
    refine J_goto (tgt := 99) d_Ref_goSlave_18 (by decide) ?_
    refine J.drop [false, false, false, false] rfl ?_
    exact p_Ref_goSlave_L99 hw hG  H
theorem ln_Ref_targetOf : (parseMethodDescriptor y_Ref_targetOf.desc).map (fun q => q.parameters.length) = some 1 := by decide +kernel
def f_Ref_targetOf_L24 (Γ : gm_T)  (φ : ph_T) (y0 : Int32) : Option (Int32 × ph_T) :=
  some (y0, φ)
set_option maxRecDepth 100000 in
set_option maxHeartbeats 4000000 in
theorem p_Ref_targetOf_L24 {w : jw_T} (hw : jok w) {Γ : gm_T} {n : Nat} (hG : gd w Γ n)  {x : Bool} {φ : ph_T} {y0 : Int32} {q : Int32 × ph_T} (H : f_Ref_targetOf_L24 Γ  φ y0 = some q) : J w M_Ref_targetOf 24 [none, none, none] [.int y0] (pic Γ φ) n x 0 0 (fq Γ n (.inl (some (.int q.1))) q.2) := by
  unfold f_Ref_targetOf_L24 at H
  have H := Option.some.inj H
  subst H
  exact J_iret (st := []) d_Ref_targetOf_24 rfl rfl ⟨rfl, rfl, rfl⟩
def f_Ref_targetOf (Γ : gm_T) (φ : ph_T) (this : Nat) (p0 : Int32) : Option (Int32 × ph_T) :=
  @ite _ (Γ this = .inr 12) _ (
  @ite _ ((4096 : Int32) = 0) _ none (
  Option.bind (φ.2.2 this 7) fun a4 =>
  Option.bind (gA Γ a4 0) fun N5 =>
  Option.bind (ix (p0 / (4096 : Int32)) N5) fun k6 =>
  if (φ.1 a4 k6) = (-1 : Int32) then
    f_Ref_targetOf_L24 Γ  φ (φ.1 this 2)
  else
    f_Ref_targetOf_L24 Γ  φ (φ.1 a4 k6)
  )
  ) none
set_option maxRecDepth 100000 in
set_option maxHeartbeats 4000000 in
theorem p_Ref_targetOf {w : jw_T} (hw : jok w) {Γ : gm_T} {n : Nat} (hG : gd w Γ n) {x : Bool} {φ : ph_T} {this : Nat} {p0 : Int32} {q : Int32 × ph_T} (H : f_Ref_targetOf Γ φ this p0 = some q) : jc w M_Ref_targetOf [.ref this, .int p0] (pic Γ φ) n x 0 0 (fq Γ n (.inl (some (.int q.1))) q.2) := by
  refine jc.of (by simp only [jent_r, jent_i, jent_l, jent_a, jent_0]; exact Nat.le_of_ble_eq_true rfl) ?_
  have hls : jents [.ref this, .int p0] (jm_nL M_Ref_targetOf) = [some (.ref this), some (.int p0), none] := by simp only [jents, jent_r, jent_i, jent_l, jent_a, jent_0]; rfl
  rw [hls]
  clear hls
  unfold f_Ref_targetOf at H
  refine J_aload_n d_Ref_targetOf_0 rfl ?_
  have g2 : Γ this = .inr 12 := by
    apply Classical.byContradiction
    intro q9
    rw [if_neg q9] at H
    cases H
  rw [if_pos g2] at H
  refine F_getR (ci := 12) (k := 7) hG (cf_Ref hw) (fl_Ref_7 hw) (by decide) (by decide) rfl d_Ref_targetOf_1 g2 ?_
  refine J_iload_n d_Ref_targetOf_4 rfl ?_
  refine J_sipush (v := 4096) d_Ref_targetOf_5 (by decide) ?_
  have h3 : ¬ (4096 : Int32) = 0 := by
    intro q9
    rw [if_pos q9] at H
    cases H
  rw [if_neg h3] at H
  refine J_idiv d_Ref_targetOf_8 h3 ?_
  obtain ⟨a4, ha4, H⟩ := Option.bind_eq_some_iff.mp H
  rw [j_rf ha4]
  obtain ⟨N5, hN5, H⟩ := Option.bind_eq_some_iff.mp H
  obtain ⟨k6, hk6, H⟩ := Option.bind_eq_some_iff.mp H
  refine F_iald k6 hw hG d_Ref_targetOf_9 (gA_some hN5) (ix_some hk6) ?_
  refine J_istore_n d_Ref_targetOf_10 (Nat.le_of_ble_eq_true rfl) ?_
  refine J.ls (ls' := [some (.ref this), some (.int p0), some (.int (φ.1 a4 k6))]) rfl ?_
  refine J_iload_n d_Ref_targetOf_11 rfl ?_
  refine J_iconst (v := -1) d_Ref_targetOf_12 (by decide) ?_
  refine J_icmp_ne (tgt := 23) d_Ref_targetOf_13 (by decide) ?_ ?_
  · intro c7
    rw [if_neg c7] at H
    refine J_iload_n d_Ref_targetOf_23 rfl ?_
    refine J.drop [false, false, false] rfl ?_
    exact p_Ref_targetOf_L24 hw hG  H
  · intro c7
    rw [if_pos c7] at H
    refine J_aload_n d_Ref_targetOf_16 rfl ?_
    refine F_getI (ci := 12) (k := 2) hG (cf_Ref hw) (fl_Ref_294 hw) (by decide) (by decide) rfl d_Ref_targetOf_17 g2 ?_
    refine J_goto (tgt := 24) d_Ref_targetOf_20 (by decide) ?_
    refine J.drop [false, false, false] rfl ?_
    exact p_Ref_targetOf_L24 hw hG  H
theorem ln_Ref_mayWrite : (parseMethodDescriptor y_Ref_mayWrite.desc).map (fun q => q.parameters.length) = some 2 := by decide +kernel
def f_Ref_mayWrite_L167 (Γ : gm_T)  (φ : ph_T) (y0 : Int32) : Option (Int32 × ph_T) :=
  @ite _ (y0 = 0 ∨ y0 = 1) _ (
  some (y0, φ)
  ) none
set_option maxRecDepth 100000 in
set_option maxHeartbeats 4000000 in
theorem p_Ref_mayWrite_L167 {w : jw_T} (hw : jok w) {Γ : gm_T} {n : Nat} (hG : gd w Γ n)  {x : Bool} {φ : ph_T} {y0 : Int32} {q : Int32 × ph_T} (H : f_Ref_mayWrite_L167 Γ  φ y0 = some q) : J w M_Ref_mayWrite 167 [none, none, none, none, none, none, none, none] [.int y0] (pic Γ φ) n x 0 0 (fq Γ n (.inl (some (.int q.1))) q.2) := by
  unfold f_Ref_mayWrite_L167 at H
  have z1 : y0 = 0 ∨ y0 = 1 := by
    apply Classical.byContradiction
    intro q9
    rw [if_neg q9] at H
    cases H
  rw [if_pos z1] at H
  have H := Option.some.inj H
  subst H
  exact J_iret (st := []) d_Ref_mayWrite_167 rfl (narrow_z z1).1 ⟨rfl, rfl, rfl⟩
def f_Ref_mayWrite_L166 (Γ : gm_T)  (φ : ph_T) : Option (Int32 × ph_T) :=
  f_Ref_mayWrite_L167 Γ  φ (0 : Int32)
set_option maxRecDepth 100000 in
set_option maxHeartbeats 4000000 in
theorem p_Ref_mayWrite_L166 {w : jw_T} (hw : jok w) {Γ : gm_T} {n : Nat} (hG : gd w Γ n)  {x : Bool} {φ : ph_T} {q : Int32 × ph_T} (H : f_Ref_mayWrite_L166 Γ  φ  = some q) : J w M_Ref_mayWrite 166 [none, none, none, none, none, none, none, none] [] (pic Γ φ) n x 0 0 (fq Γ n (.inl (some (.int q.1))) q.2) := by
  unfold f_Ref_mayWrite_L166 at H
  refine J_iconst (v := 0) d_Ref_mayWrite_166 (by decide) ?_
  refine J.drop [false, false, false, false, false, false, false, false] rfl ?_
  exact p_Ref_mayWrite_L167 hw hG  H
def f_Ref_mayWrite_L142 (Γ : gm_T) (Kc74 : ph_T → Nat → Int32 → Int32 → Int32 → Int32 → Int32 → Int32 → Option (Int32 × ph_T)) (φ : ph_T) (x0 : Nat) (x1 : Int32) (x2 : Int32) (x4 : Int32) (x5 : Int32) (x6 : Int32) (x7 : Int32) : Option (Int32 × ph_T) :=
  Kc74 φ x0 x1 x2 x4 x5 x6 (x7 + (1 : Int32))
set_option maxRecDepth 100000 in
set_option maxHeartbeats 4000000 in
theorem p_Ref_mayWrite_L142 {w : jw_T} (hw : jok w) {Γ : gm_T} {n : Nat} (hG : gd w Γ n) {Kc74 : ph_T → Nat → Int32 → Int32 → Int32 → Int32 → Int32 → Int32 → Option (Int32 × ph_T)} (hKc74 : ∀ {x : Bool} {φ : ph_T} {x0 : Nat} {x1 : Int32} {x2 : Int32} {x4 : Int32} {x5 : Int32} {x6 : Int32} {x7 : Int32} {q : Int32 × ph_T}, Kc74 φ x0 x1 x2 x4 x5 x6 x7 = some q → J w M_Ref_mayWrite 74 [some (.ref x0), some (.int x1), some (.int x2), none, some (.int x4), some (.int x5), some (.int x6), some (.int x7)] [] (pic Γ φ) n x 0 0 (fq Γ n (.inl (some (.int q.1))) q.2)) {x : Bool} {φ : ph_T} {x0 : Nat} {x1 : Int32} {x2 : Int32} {x4 : Int32} {x5 : Int32} {x6 : Int32} {x7 : Int32} {q : Int32 × ph_T} (H : f_Ref_mayWrite_L142 Γ Kc74 φ x0 x1 x2 x4 x5 x6 x7 = some q) : J w M_Ref_mayWrite 142 [some (.ref x0), some (.int x1), some (.int x2), none, some (.int x4), some (.int x5), some (.int x6), some (.int x7)] [] (pic Γ φ) n x 0 0 (fq Γ n (.inl (some (.int q.1))) q.2) := by
  unfold f_Ref_mayWrite_L142 at H
  refine J_iinc (v := x7 + 1) d_Ref_mayWrite_142 rfl (by rw [show Int32.ofInt 1 = (1 : Int32) from by decide]) ?_
  refine J.ls (ls' := [some (.ref x0), some (.int x1), some (.int x2), none, some (.int x4), some (.int x5), some (.int x6), some (.int (x7 + (1 : Int32)))]) rfl ?_
  refine J_goto (tgt := 74) d_Ref_mayWrite_145 (by decide) ?_
  refine J.drop [true, true, true, false, true, true, true, true] rfl ?_
  exact hKc74 H
def f_Ref_mayWrite_L140 (Γ : gm_T) (Kc74 : ph_T → Nat → Int32 → Int32 → Int32 → Int32 → Int32 → Int32 → Option (Int32 × ph_T)) (φ : ph_T) (x0 : Nat) (x1 : Int32) (x2 : Int32) (x4 : Int32) (x5 : Int32) (x7 : Int32) (y0 : Int32) : Option (Int32 × ph_T) :=
  f_Ref_mayWrite_L142 Γ Kc74 φ x0 x1 x2 x4 x5 y0 x7
set_option maxRecDepth 100000 in
set_option maxHeartbeats 4000000 in
theorem p_Ref_mayWrite_L140 {w : jw_T} (hw : jok w) {Γ : gm_T} {n : Nat} (hG : gd w Γ n) {Kc74 : ph_T → Nat → Int32 → Int32 → Int32 → Int32 → Int32 → Int32 → Option (Int32 × ph_T)} (hKc74 : ∀ {x : Bool} {φ : ph_T} {x0 : Nat} {x1 : Int32} {x2 : Int32} {x4 : Int32} {x5 : Int32} {x6 : Int32} {x7 : Int32} {q : Int32 × ph_T}, Kc74 φ x0 x1 x2 x4 x5 x6 x7 = some q → J w M_Ref_mayWrite 74 [some (.ref x0), some (.int x1), some (.int x2), none, some (.int x4), some (.int x5), some (.int x6), some (.int x7)] [] (pic Γ φ) n x 0 0 (fq Γ n (.inl (some (.int q.1))) q.2)) {x : Bool} {φ : ph_T} {x0 : Nat} {x1 : Int32} {x2 : Int32} {x4 : Int32} {x5 : Int32} {x7 : Int32} {y0 : Int32} {q : Int32 × ph_T} (H : f_Ref_mayWrite_L140 Γ Kc74 φ x0 x1 x2 x4 x5 x7 y0 = some q) : J w M_Ref_mayWrite 140 [some (.ref x0), some (.int x1), some (.int x2), none, some (.int x4), some (.int x5), none, some (.int x7)] [.int y0] (pic Γ φ) n x 0 0 (fq Γ n (.inl (some (.int q.1))) q.2) := by
  unfold f_Ref_mayWrite_L140 at H
  refine J_istore d_Ref_mayWrite_140 (Nat.le_of_ble_eq_true rfl) ?_
  refine J.ls (ls' := [some (.ref x0), some (.int x1), some (.int x2), none, some (.int x4), some (.int x5), some (.int y0), some (.int x7)]) rfl ?_
  refine J.drop [true, true, true, false, true, true, true, true] rfl ?_
  exact p_Ref_mayWrite_L142 hw hG hKc74 H
def f_Ref_mayWrite_L139 (Γ : gm_T) (Kc74 : ph_T → Nat → Int32 → Int32 → Int32 → Int32 → Int32 → Int32 → Option (Int32 × ph_T)) (φ : ph_T) (x0 : Nat) (x1 : Int32) (x2 : Int32) (x4 : Int32) (x5 : Int32) (x7 : Int32) : Option (Int32 × ph_T) :=
  f_Ref_mayWrite_L140 Γ Kc74 φ x0 x1 x2 x4 x5 x7 (0 : Int32)
set_option maxRecDepth 100000 in
set_option maxHeartbeats 4000000 in
theorem p_Ref_mayWrite_L139 {w : jw_T} (hw : jok w) {Γ : gm_T} {n : Nat} (hG : gd w Γ n) {Kc74 : ph_T → Nat → Int32 → Int32 → Int32 → Int32 → Int32 → Int32 → Option (Int32 × ph_T)} (hKc74 : ∀ {x : Bool} {φ : ph_T} {x0 : Nat} {x1 : Int32} {x2 : Int32} {x4 : Int32} {x5 : Int32} {x6 : Int32} {x7 : Int32} {q : Int32 × ph_T}, Kc74 φ x0 x1 x2 x4 x5 x6 x7 = some q → J w M_Ref_mayWrite 74 [some (.ref x0), some (.int x1), some (.int x2), none, some (.int x4), some (.int x5), some (.int x6), some (.int x7)] [] (pic Γ φ) n x 0 0 (fq Γ n (.inl (some (.int q.1))) q.2)) {x : Bool} {φ : ph_T} {x0 : Nat} {x1 : Int32} {x2 : Int32} {x4 : Int32} {x5 : Int32} {x7 : Int32} {q : Int32 × ph_T} (H : f_Ref_mayWrite_L139 Γ Kc74 φ x0 x1 x2 x4 x5 x7 = some q) : J w M_Ref_mayWrite 139 [some (.ref x0), some (.int x1), some (.int x2), none, some (.int x4), some (.int x5), none, some (.int x7)] [] (pic Γ φ) n x 0 0 (fq Γ n (.inl (some (.int q.1))) q.2) := by
  unfold f_Ref_mayWrite_L139 at H
  refine J_iconst (v := 0) d_Ref_mayWrite_139 (by decide) ?_
  refine J.drop [true, true, true, false, true, true, false, true] rfl ?_
  exact p_Ref_mayWrite_L140 hw hG hKc74 H
def f_Ref_mayWrite_L135 (Γ : gm_T) (Kc74 : ph_T → Nat → Int32 → Int32 → Int32 → Int32 → Int32 → Int32 → Option (Int32 × ph_T)) (φ : ph_T) (x0 : Nat) (x1 : Int32) (x2 : Int32) (x4 : Int32) (x5 : Int32) (x7 : Int32) : Option (Int32 × ph_T) :=
  f_Ref_mayWrite_L140 Γ Kc74 φ x0 x1 x2 x4 x5 x7 (1 : Int32)
set_option maxRecDepth 100000 in
set_option maxHeartbeats 4000000 in
theorem p_Ref_mayWrite_L135 {w : jw_T} (hw : jok w) {Γ : gm_T} {n : Nat} (hG : gd w Γ n) {Kc74 : ph_T → Nat → Int32 → Int32 → Int32 → Int32 → Int32 → Int32 → Option (Int32 × ph_T)} (hKc74 : ∀ {x : Bool} {φ : ph_T} {x0 : Nat} {x1 : Int32} {x2 : Int32} {x4 : Int32} {x5 : Int32} {x6 : Int32} {x7 : Int32} {q : Int32 × ph_T}, Kc74 φ x0 x1 x2 x4 x5 x6 x7 = some q → J w M_Ref_mayWrite 74 [some (.ref x0), some (.int x1), some (.int x2), none, some (.int x4), some (.int x5), some (.int x6), some (.int x7)] [] (pic Γ φ) n x 0 0 (fq Γ n (.inl (some (.int q.1))) q.2)) {x : Bool} {φ : ph_T} {x0 : Nat} {x1 : Int32} {x2 : Int32} {x4 : Int32} {x5 : Int32} {x7 : Int32} {q : Int32 × ph_T} (H : f_Ref_mayWrite_L135 Γ Kc74 φ x0 x1 x2 x4 x5 x7 = some q) : J w M_Ref_mayWrite 135 [some (.ref x0), some (.int x1), some (.int x2), none, some (.int x4), some (.int x5), none, some (.int x7)] [] (pic Γ φ) n x 0 0 (fq Γ n (.inl (some (.int q.1))) q.2) := by
  unfold f_Ref_mayWrite_L135 at H
  refine J_iconst (v := 1) d_Ref_mayWrite_135 (by decide) ?_
  refine J_goto (tgt := 140) d_Ref_mayWrite_136 (by decide) ?_
  refine J.drop [true, true, true, false, true, true, false, true] rfl ?_
  exact p_Ref_mayWrite_L140 hw hG hKc74 H
def f_Ref_mayWrite_L74 (Γ : gm_T)  : Nat → ph_T → Nat → Int32 → Int32 → Int32 → Int32 → Int32 → Int32 → Option (Int32 × ph_T)
  | 0, _, _, _, _, _, _, _, _ => none
  | fu + 1, φ, x0, x1, x2, x4, x5, x6, x7 =>
    @ite _ (Γ x0 = .inr 12) _ (
    if (φ.1 x0 47) ≤ x7 then
      if x6 = 0 then
        f_Ref_mayWrite_L166 Γ  φ 
      else
        if (φ.1 x0 3) ≤ x5 then
          f_Ref_mayWrite_L166 Γ  φ 
        else
          f_Ref_mayWrite_L167 Γ  φ (1 : Int32)
    else
      Option.bind (φ.2.2 x0 43) fun a5 =>
      Option.bind (gA Γ a5 0) fun N6 =>
      Option.bind (ix x7 N6) fun k7 =>
      if (φ.1 a5 k7) = x1 then
        if x6 = 0 then
          f_Ref_mayWrite_L139 Γ (f_Ref_mayWrite_L74 Γ  fu) φ x0 x1 x2 x4 (x5 + (1 : Int32)) x7
        else
          Option.bind (φ.2.2 x0 45) fun a8 =>
          Option.bind (gA Γ a8 0) fun N9 =>
          Option.bind (ix x7 N9) fun k10 =>
          if (φ.1 a8 k10) = x2 then
            f_Ref_mayWrite_L135 Γ (f_Ref_mayWrite_L74 Γ  fu) φ x0 x1 x2 x4 (x5 + (1 : Int32)) x7
          else
            Option.bind (φ.2.2 x0 44) fun a11 =>
            Option.bind (gA Γ a11 0) fun N12 =>
            Option.bind (ix x7 N12) fun k13 =>
            if (φ.1 a11 k13) = x4 then
              f_Ref_mayWrite_L139 Γ (f_Ref_mayWrite_L74 Γ  fu) φ x0 x1 x2 x4 (x5 + (1 : Int32)) x7
            else
              Option.bind (φ.2.2 x0 46) fun a14 =>
              Option.bind (gA Γ a14 0) fun N15 =>
              Option.bind (ix x7 N15) fun k16 =>
              if (φ.1 a14 k16) = 0 then
                f_Ref_mayWrite_L135 Γ (f_Ref_mayWrite_L74 Γ  fu) φ x0 x1 x2 x4 (x5 + (1 : Int32)) x7
              else
                f_Ref_mayWrite_L139 Γ (f_Ref_mayWrite_L74 Γ  fu) φ x0 x1 x2 x4 (x5 + (1 : Int32)) x7
      else
        f_Ref_mayWrite_L142 Γ (f_Ref_mayWrite_L74 Γ  fu) φ x0 x1 x2 x4 x5 x6 x7
    ) none
set_option maxRecDepth 100000 in
set_option maxHeartbeats 4000000 in
theorem p_Ref_mayWrite_L74 {w : jw_T} (hw : jok w) {Γ : gm_T} {n : Nat} (hG : gd w Γ n)  : ∀ (fu : Nat) {x : Bool} {φ : ph_T} {x0 : Nat} {x1 : Int32} {x2 : Int32} {x4 : Int32} {x5 : Int32} {x6 : Int32} {x7 : Int32} {q : Int32 × ph_T}, f_Ref_mayWrite_L74 Γ  fu φ x0 x1 x2 x4 x5 x6 x7 = some q → J w M_Ref_mayWrite 74 [some (.ref x0), some (.int x1), some (.int x2), none, some (.int x4), some (.int x5), some (.int x6), some (.int x7)] [] (pic Γ φ) n x 0 0 (fq Γ n (.inl (some (.int q.1))) q.2) := by
  intro fu
  induction fu with
  | zero =>
    intro x φ x0 x1 x2 x4 x5 x6 x7 q H
    cases H
  | succ fu ih =>
    intro x φ x0 x1 x2 x4 x5 x6 x7 q H
    unfold f_Ref_mayWrite_L74 at H
    refine J_iload d_Ref_mayWrite_74 rfl ?_
    refine J_aload_n d_Ref_mayWrite_76 rfl ?_
    have g2 : Γ x0 = .inr 12 := by
      apply Classical.byContradiction
      intro q9
      rw [if_neg q9] at H
      cases H
    rw [if_pos g2] at H
    refine F_getI (ci := 12) (k := 47) hG (cf_Ref hw) (fl_Ref_526 hw) (by decide) (by decide) rfl d_Ref_mayWrite_77 g2 ?_
    refine J_icmp_ge (tgt := 148) d_Ref_mayWrite_80 (by decide) ?_ ?_
    · intro c22
      rw [if_pos c22] at H
      refine J_iload d_Ref_mayWrite_148 rfl ?_
      refine J_if_eq (tgt := 166) d_Ref_mayWrite_150 (by decide) ?_ ?_
      · intro c4
        rw [if_pos c4] at H
        refine J.drop [false, false, false, false, false, false, false, false] rfl ?_
        exact p_Ref_mayWrite_L166 hw hG  H
      · intro c4
        rw [if_neg c4] at H
        refine J_iload d_Ref_mayWrite_153 rfl ?_
        refine J_aload_n d_Ref_mayWrite_155 rfl ?_
        refine F_getI (ci := 12) (k := 3) hG (cf_Ref hw) (fl_Ref_297 hw) (by decide) (by decide) rfl d_Ref_mayWrite_156 g2 ?_
        refine J_icmp_ge (tgt := 166) d_Ref_mayWrite_159 (by decide) ?_ ?_
        · intro c3
          rw [if_pos c3] at H
          refine J.drop [false, false, false, false, false, false, false, false] rfl ?_
          exact p_Ref_mayWrite_L166 hw hG  H
        · intro c3
          rw [if_neg c3] at H
          refine J_iconst (v := 1) d_Ref_mayWrite_162 (by decide) ?_
          refine J_goto (tgt := 167) d_Ref_mayWrite_163 (by decide) ?_
          refine J.drop [false, false, false, false, false, false, false, false] rfl ?_
          exact p_Ref_mayWrite_L167 hw hG  H
    · intro c22
      rw [if_neg c22] at H
      refine J_aload_n d_Ref_mayWrite_83 rfl ?_
      refine F_getR (ci := 12) (k := 43) hG (cf_Ref hw) (fl_Ref_118 hw) (by decide) (by decide) rfl d_Ref_mayWrite_84 g2 ?_
      refine J_iload d_Ref_mayWrite_87 rfl ?_
      obtain ⟨a5, ha5, H⟩ := Option.bind_eq_some_iff.mp H
      rw [j_rf ha5]
      obtain ⟨N6, hN6, H⟩ := Option.bind_eq_some_iff.mp H
      obtain ⟨k7, hk7, H⟩ := Option.bind_eq_some_iff.mp H
      refine F_iald k7 hw hG d_Ref_mayWrite_89 (gA_some hN6) (ix_some hk7) ?_
      refine J_iload_n d_Ref_mayWrite_90 rfl ?_
      refine J_icmp_ne (tgt := 142) d_Ref_mayWrite_91 (by decide) ?_ ?_
      · intro c21
        rw [if_neg c21] at H
        refine J.drop [true, true, true, false, true, true, true, true] rfl ?_
        exact p_Ref_mayWrite_L142 hw hG ih H
      · intro c21
        rw [if_pos c21] at H
        refine J_iinc (v := x5 + 1) d_Ref_mayWrite_94 rfl (by rw [show Int32.ofInt 1 = (1 : Int32) from by decide]) ?_
        refine J.ls (ls' := [some (.ref x0), some (.int x1), some (.int x2), none, some (.int x4), some (.int (x5 + (1 : Int32))), some (.int x6), some (.int x7)]) rfl ?_
        refine J_iload d_Ref_mayWrite_97 rfl ?_
        refine J_if_eq (tgt := 139) d_Ref_mayWrite_99 (by decide) ?_ ?_
        · intro c20
          rw [if_pos c20] at H
          refine J.drop [true, true, true, false, true, true, false, true] rfl ?_
          exact p_Ref_mayWrite_L139 hw hG ih H
        · intro c20
          rw [if_neg c20] at H
          refine J_aload_n d_Ref_mayWrite_102 rfl ?_
          refine F_getR (ci := 12) (k := 45) hG (cf_Ref hw) (fl_Ref_124 hw) (by decide) (by decide) rfl d_Ref_mayWrite_103 g2 ?_
          refine J_iload d_Ref_mayWrite_106 rfl ?_
          obtain ⟨a8, ha8, H⟩ := Option.bind_eq_some_iff.mp H
          rw [j_rf ha8]
          obtain ⟨N9, hN9, H⟩ := Option.bind_eq_some_iff.mp H
          obtain ⟨k10, hk10, H⟩ := Option.bind_eq_some_iff.mp H
          refine F_iald k10 hw hG d_Ref_mayWrite_108 (gA_some hN9) (ix_some hk10) ?_
          refine J_iload_n d_Ref_mayWrite_109 rfl ?_
          refine J_icmp_eq (tgt := 135) d_Ref_mayWrite_110 (by decide) ?_ ?_
          · intro c19
            rw [if_pos c19] at H
            refine J.drop [true, true, true, false, true, true, false, true] rfl ?_
            exact p_Ref_mayWrite_L135 hw hG ih H
          · intro c19
            rw [if_neg c19] at H
            refine J_aload_n d_Ref_mayWrite_113 rfl ?_
            refine F_getR (ci := 12) (k := 44) hG (cf_Ref hw) (fl_Ref_121 hw) (by decide) (by decide) rfl d_Ref_mayWrite_114 g2 ?_
            refine J_iload d_Ref_mayWrite_117 rfl ?_
            obtain ⟨a11, ha11, H⟩ := Option.bind_eq_some_iff.mp H
            rw [j_rf ha11]
            obtain ⟨N12, hN12, H⟩ := Option.bind_eq_some_iff.mp H
            obtain ⟨k13, hk13, H⟩ := Option.bind_eq_some_iff.mp H
            refine F_iald k13 hw hG d_Ref_mayWrite_119 (gA_some hN12) (ix_some hk13) ?_
            refine J_iload d_Ref_mayWrite_120 rfl ?_
            refine J_icmp_eq (tgt := 139) d_Ref_mayWrite_122 (by decide) ?_ ?_
            · intro c18
              rw [if_pos c18] at H
              refine J.drop [true, true, true, false, true, true, false, true] rfl ?_
              exact p_Ref_mayWrite_L139 hw hG ih H
            · intro c18
              rw [if_neg c18] at H
              refine J_aload_n d_Ref_mayWrite_125 rfl ?_
              refine F_getR (ci := 12) (k := 46) hG (cf_Ref hw) (fl_Ref_127 hw) (by decide) (by decide) rfl d_Ref_mayWrite_126 g2 ?_
              refine J_iload d_Ref_mayWrite_129 rfl ?_
              obtain ⟨a14, ha14, H⟩ := Option.bind_eq_some_iff.mp H
              rw [j_rf ha14]
              obtain ⟨N15, hN15, H⟩ := Option.bind_eq_some_iff.mp H
              obtain ⟨k16, hk16, H⟩ := Option.bind_eq_some_iff.mp H
              refine F_iald k16 hw hG d_Ref_mayWrite_131 (gA_some hN15) (ix_some hk16) ?_
              refine J_if_ne (tgt := 139) d_Ref_mayWrite_132 (by decide) ?_ ?_
              · intro c17
                rw [if_neg c17] at H
                refine J.drop [true, true, true, false, true, true, false, true] rfl ?_
                exact p_Ref_mayWrite_L139 hw hG ih H
              · intro c17
                rw [if_pos c17] at H
                refine J.drop [true, true, true, false, true, true, false, true] rfl ?_
                exact p_Ref_mayWrite_L135 hw hG ih H
def f_Ref_mayWrite_L50 (Γ : gm_T)  (φ : ph_T) : Option (Int32 × ph_T) :=
  @ite _ ((0 : Int32) = 0 ∨ (0 : Int32) = 1) _ (
  some ((0 : Int32), φ)
  ) none
set_option maxRecDepth 100000 in
set_option maxHeartbeats 4000000 in
theorem p_Ref_mayWrite_L50 {w : jw_T} (hw : jok w) {Γ : gm_T} {n : Nat} (hG : gd w Γ n)  {x : Bool} {φ : ph_T} {q : Int32 × ph_T} (H : f_Ref_mayWrite_L50 Γ  φ  = some q) : J w M_Ref_mayWrite 50 [none, none, none, none, none, none, none, none] [] (pic Γ φ) n x 0 0 (fq Γ n (.inl (some (.int q.1))) q.2) := by
  unfold f_Ref_mayWrite_L50 at H
  refine J_iconst (v := 0) d_Ref_mayWrite_50 (by decide) ?_
  have z23 : (0 : Int32) = 0 ∨ (0 : Int32) = 1 := by
    apply Classical.byContradiction
    intro q9
    rw [if_neg q9] at H
    cases H
  rw [if_pos z23] at H
  have H := Option.some.inj H
  subst H
  exact J_iret (st := []) d_Ref_mayWrite_51 rfl (narrow_z z23).1 ⟨rfl, rfl, rfl⟩
def f_Ref_mayWrite (Γ : gm_T) (φ : ph_T) (this : Nat) (p0 : Int32) (p1 : Int32) : Option (Int32 × ph_T) :=
  @ite _ (Γ this = .inr 12) _ (
  Option.bind (f_Ref_rowOf Γ φ this (0 : Int32) p0 (0 : Int32)) fun q25 =>
  Option.bind (q25.2.2.2 this 42) fun a26 =>
  Option.bind (gA Γ a26 0) fun N27 =>
  Option.bind (ix q25.1 N27) fun k28 =>
  if (q25.2.1 a26 k28) = 0 then
    f_Ref_mayWrite_L50 Γ  q25.2 
  else
    Option.bind (q25.2.2.2 this 39) fun a29 =>
    Option.bind (gA Γ a29 1) fun N30 =>
    Option.bind (ix ((4 : Int32) * q25.1) N30) fun k31 =>
    Option.bind (f_Ref_addressOf Γ q25.2 (q25.2.2.1 a29 k31)) fun q32 =>
    Option.bind (f_Ref_targetOf Γ q32.2 this q32.1) fun q33 =>
    if q33.1 = p1 then
      Option.bind (f_Ref_rowOf Γ q33.2 this (1 : Int32) p1 (0 : Int32)) fun q34 =>
      Option.bind (f_Ref_hasRoom Γ q34.2 this q34.1) fun q35 =>
      if q35.1 = 0 then
        f_Ref_mayWrite_L50 Γ  q35.2 
      else
        Option.bind (q35.2.2.2 this 39) fun a36 =>
        Option.bind (gA Γ a36 1) fun N37 =>
        Option.bind (ix ((4 : Int32) * q25.1) N37) fun k38 =>
        Option.bind (f_Ref_idOf Γ q35.2 (q35.2.2.1 a36 k38)) fun q39 =>
        f_Ref_mayWrite_L74 Γ  jF q39.2 this p0 p1 q39.1 (0 : Int32) (1 : Int32) (0 : Int32)
    else
      f_Ref_mayWrite_L50 Γ  q33.2 
  ) none
set_option maxRecDepth 100000 in
set_option maxHeartbeats 4000000 in
theorem p_Ref_mayWrite {w : jw_T} (hw : jok w) {Γ : gm_T} {n : Nat} (hG : gd w Γ n) {x : Bool} {φ : ph_T} {this : Nat} {p0 : Int32} {p1 : Int32} {q : Int32 × ph_T} (H : f_Ref_mayWrite Γ φ this p0 p1 = some q) : jc w M_Ref_mayWrite [.ref this, .int p0, .int p1] (pic Γ φ) n x 0 0 (fq Γ n (.inl (some (.int q.1))) q.2) := by
  refine jc.of (by simp only [jent_r, jent_i, jent_l, jent_a, jent_0]; exact Nat.le_of_ble_eq_true rfl) ?_
  have hls : jents [.ref this, .int p0, .int p1] (jm_nL M_Ref_mayWrite) = [some (.ref this), some (.int p0), some (.int p1), none, none, none, none, none] := by simp only [jents, jent_r, jent_i, jent_l, jent_a, jent_0]; rfl
  rw [hls]
  clear hls
  unfold f_Ref_mayWrite at H
  refine J_aload_n d_Ref_mayWrite_0 rfl ?_
  refine J_iconst (v := 0) d_Ref_mayWrite_1 (by decide) ?_
  refine J_iload_n d_Ref_mayWrite_2 rfl ?_
  refine J_iconst (v := 0) d_Ref_mayWrite_3 (by decide) ?_
  have g24 : Γ this = .inr 12 := by
    apply Classical.byContradiction
    intro q9
    rw [if_neg q9] at H
    cases H
  rw [if_pos g24] at H
  obtain ⟨q25, hq25, H⟩ := Option.bind_eq_some_iff.mp H
  refine J_callV (kc := 0) (ks := 0) (kc' := 0) (ks' := 0) (a := this) (ci := 12) (as := [.int (0 : Int32), .int p0, .int (0 : Int32)]) (st := []) (mf_Ref_rowOf hw) (mv_Ref_388 hw) d_Ref_mayWrite_4 ln_Ref_rowOf (by decide) (by first | exact Nat.le_of_ble_eq_true rfl | (simp only [List.map_cons, List.map_nil, List.sum_cons, List.sum_nil, va_rf_cat]; exact Nat.le_of_ble_eq_true rfl)) rfl ((hG _).1 _ g24 (by decide)).1 ((hG _).1 _ g24 (by decide)).2 (by unfold pic; rw [g24]; rfl) (jcl_at hw rfl) rfl (p_Ref_rowOf hw hG hq25) ?_ (fun E h' n' x' e1 => by cases e1.1)
  intro v9 h9 n9 x9 e9
  obtain ⟨e91, e92, e93⟩ := e9
  cases e91
  subst e92
  subst e93
  clear x
  rename Bool => x
  show J _ _ _ _ (_ :: _) _ _ _ _ _ _
  refine J_istore_n d_Ref_mayWrite_7 (Nat.le_of_ble_eq_true rfl) ?_
  refine J.ls (ls' := [some (.ref this), some (.int p0), some (.int p1), some (.int q25.1), none, none, none, none]) rfl ?_
  refine J_aload_n d_Ref_mayWrite_8 rfl ?_
  refine F_getR (ci := 12) (k := 42) hG (cf_Ref hw) (fl_Ref_115 hw) (by decide) (by decide) rfl d_Ref_mayWrite_9 g24 ?_
  refine J_iload_n d_Ref_mayWrite_12 rfl ?_
  obtain ⟨a26, ha26, H⟩ := Option.bind_eq_some_iff.mp H
  rw [j_rf ha26]
  obtain ⟨N27, hN27, H⟩ := Option.bind_eq_some_iff.mp H
  obtain ⟨k28, hk28, H⟩ := Option.bind_eq_some_iff.mp H
  refine F_iald k28 hw hG d_Ref_mayWrite_13 (gA_some hN27) (ix_some hk28) ?_
  refine J_if_eq (tgt := 50) d_Ref_mayWrite_14 (by decide) ?_ ?_
  · intro c42
    rw [if_pos c42] at H
    refine J.drop [false, false, false, false, false, false, false, false] rfl ?_
    exact p_Ref_mayWrite_L50 hw hG  H
  · intro c42
    rw [if_neg c42] at H
    refine J_aload_n d_Ref_mayWrite_17 rfl ?_
    refine J_aload_n d_Ref_mayWrite_18 rfl ?_
    refine F_getR (ci := 12) (k := 39) hG (cf_Ref hw) (fl_Ref_106 hw) (by decide) (by decide) rfl d_Ref_mayWrite_19 g24 ?_
    refine J_iconst (v := 4) d_Ref_mayWrite_22 (by decide) ?_
    refine J_iload_n d_Ref_mayWrite_23 rfl ?_
    refine J_imul d_Ref_mayWrite_24 ?_
    obtain ⟨a29, ha29, H⟩ := Option.bind_eq_some_iff.mp H
    rw [j_rf ha29]
    obtain ⟨N30, hN30, H⟩ := Option.bind_eq_some_iff.mp H
    obtain ⟨k31, hk31, H⟩ := Option.bind_eq_some_iff.mp H
    refine F_lald k31 hw hG d_Ref_mayWrite_25 (gA_some hN30) (ix_some hk31) ?_
    obtain ⟨q32, hq32, H⟩ := Option.bind_eq_some_iff.mp H
    refine J_callS (kc := 0) (ks := 0) (kc' := 0) (ks' := 0) (as := [.long (q25.2.2.1 a29 k31)]) (st := [.ref this]) (mf_Ref_addressOf hw) (ms_Ref_314 hw) d_Ref_mayWrite_26 ln_Ref_addressOf (by decide) (by first | exact Nat.le_of_ble_eq_true rfl | (simp only [List.map_cons, List.map_nil, List.sum_cons, List.sum_nil, va_rf_cat]; exact Nat.le_of_ble_eq_true rfl)) rfl (p_Ref_addressOf hw hG hq32) ?_ (fun E h' n' x' e1 => by cases e1.1)
    intro v9 h9 n9 x9 e9
    obtain ⟨e91, e92, e93⟩ := e9
    cases e91
    subst e92
    subst e93
    clear x
    rename Bool => x
    show J _ _ _ _ (_ :: _) _ _ _ _ _ _
    obtain ⟨q33, hq33, H⟩ := Option.bind_eq_some_iff.mp H
    refine J_callV (kc := 0) (ks := 0) (kc' := 0) (ks' := 0) (a := this) (ci := 12) (as := [.int q32.1]) (st := []) (mf_Ref_targetOf hw) (mv_Ref_523 hw) d_Ref_mayWrite_29 ln_Ref_targetOf (by decide) (by first | exact Nat.le_of_ble_eq_true rfl | (simp only [List.map_cons, List.map_nil, List.sum_cons, List.sum_nil, va_rf_cat]; exact Nat.le_of_ble_eq_true rfl)) rfl ((hG _).1 _ g24 (by decide)).1 ((hG _).1 _ g24 (by decide)).2 (by unfold pic; rw [g24]; rfl) (jcl_at hw rfl) rfl (p_Ref_targetOf hw hG hq33) ?_ (fun E h' n' x' e1 => by cases e1.1)
    intro v9 h9 n9 x9 e9
    obtain ⟨e91, e92, e93⟩ := e9
    cases e91
    subst e92
    subst e93
    clear x
    rename Bool => x
    show J _ _ _ _ (_ :: _) _ _ _ _ _ _
    refine J_iload_n d_Ref_mayWrite_32 rfl ?_
    refine J_icmp_ne (tgt := 50) d_Ref_mayWrite_33 (by decide) ?_ ?_
    · intro c41
      rw [if_neg c41] at H
      refine J.drop [false, false, false, false, false, false, false, false] rfl ?_
      exact p_Ref_mayWrite_L50 hw hG  H
    · intro c41
      rw [if_pos c41] at H
      refine J_aload_n d_Ref_mayWrite_36 rfl ?_
      refine J_aload_n d_Ref_mayWrite_37 rfl ?_
      refine J_iconst (v := 1) d_Ref_mayWrite_38 (by decide) ?_
      refine J_iload_n d_Ref_mayWrite_39 rfl ?_
      refine J_iconst (v := 0) d_Ref_mayWrite_40 (by decide) ?_
      obtain ⟨q34, hq34, H⟩ := Option.bind_eq_some_iff.mp H
      refine J_callV (kc := 0) (ks := 0) (kc' := 0) (ks' := 0) (a := this) (ci := 12) (as := [.int (1 : Int32), .int p1, .int (0 : Int32)]) (st := [.ref this]) (mf_Ref_rowOf hw) (mv_Ref_388 hw) d_Ref_mayWrite_41 ln_Ref_rowOf (by decide) (by first | exact Nat.le_of_ble_eq_true rfl | (simp only [List.map_cons, List.map_nil, List.sum_cons, List.sum_nil, va_rf_cat]; exact Nat.le_of_ble_eq_true rfl)) rfl ((hG _).1 _ g24 (by decide)).1 ((hG _).1 _ g24 (by decide)).2 (by unfold pic; rw [g24]; rfl) (jcl_at hw rfl) rfl (p_Ref_rowOf hw hG hq34) ?_ (fun E h' n' x' e1 => by cases e1.1)
      intro v9 h9 n9 x9 e9
      obtain ⟨e91, e92, e93⟩ := e9
      cases e91
      subst e92
      subst e93
      clear x
      rename Bool => x
      show J _ _ _ _ (_ :: _) _ _ _ _ _ _
      obtain ⟨q35, hq35, H⟩ := Option.bind_eq_some_iff.mp H
      refine J_callV (kc := 0) (ks := 0) (kc' := 0) (ks' := 0) (a := this) (ci := 12) (as := [.int q34.1]) (st := []) (mf_Ref_hasRoom hw) (mv_Ref_392 hw) d_Ref_mayWrite_44 ln_Ref_hasRoom (by decide) (by first | exact Nat.le_of_ble_eq_true rfl | (simp only [List.map_cons, List.map_nil, List.sum_cons, List.sum_nil, va_rf_cat]; exact Nat.le_of_ble_eq_true rfl)) rfl ((hG _).1 _ g24 (by decide)).1 ((hG _).1 _ g24 (by decide)).2 (by unfold pic; rw [g24]; rfl) (jcl_at hw rfl) rfl (p_Ref_hasRoom hw hG hq35) ?_ (fun E h' n' x' e1 => by cases e1.1)
      intro v9 h9 n9 x9 e9
      obtain ⟨e91, e92, e93⟩ := e9
      cases e91
      subst e92
      subst e93
      clear x
      rename Bool => x
      show J _ _ _ _ (_ :: _) _ _ _ _ _ _
      refine J_if_ne (tgt := 52) d_Ref_mayWrite_47 (by decide) ?_ ?_
      · intro c40
        rw [if_neg c40] at H
        refine J_aload_n d_Ref_mayWrite_52 rfl ?_
        refine F_getR (ci := 12) (k := 39) hG (cf_Ref hw) (fl_Ref_106 hw) (by decide) (by decide) rfl d_Ref_mayWrite_53 g24 ?_
        refine J_iconst (v := 4) d_Ref_mayWrite_56 (by decide) ?_
        refine J_iload_n d_Ref_mayWrite_57 rfl ?_
        refine J_imul d_Ref_mayWrite_58 ?_
        obtain ⟨a36, ha36, H⟩ := Option.bind_eq_some_iff.mp H
        rw [j_rf ha36]
        obtain ⟨N37, hN37, H⟩ := Option.bind_eq_some_iff.mp H
        obtain ⟨k38, hk38, H⟩ := Option.bind_eq_some_iff.mp H
        refine F_lald k38 hw hG d_Ref_mayWrite_59 (gA_some hN37) (ix_some hk38) ?_
        obtain ⟨q39, hq39, H⟩ := Option.bind_eq_some_iff.mp H
        refine J_callS (kc := 0) (ks := 0) (kc' := 0) (ks' := 0) (as := [.long (q35.2.2.1 a36 k38)]) (st := []) (mf_Ref_idOf hw) (ms_Ref_396 hw) d_Ref_mayWrite_60 ln_Ref_idOf (by decide) (by first | exact Nat.le_of_ble_eq_true rfl | (simp only [List.map_cons, List.map_nil, List.sum_cons, List.sum_nil, va_rf_cat]; exact Nat.le_of_ble_eq_true rfl)) rfl (p_Ref_idOf hw hG hq39) ?_ (fun E h' n' x' e1 => by cases e1.1)
        intro v9 h9 n9 x9 e9
        obtain ⟨e91, e92, e93⟩ := e9
        cases e91
        subst e92
        subst e93
        clear x
        rename Bool => x
        show J _ _ _ _ (_ :: _) _ _ _ _ _ _
        refine J_istore d_Ref_mayWrite_63 (Nat.le_of_ble_eq_true rfl) ?_
        refine J.ls (ls' := [some (.ref this), some (.int p0), some (.int p1), some (.int q25.1), some (.int q39.1), none, none, none]) rfl ?_
        refine J_iconst (v := 0) d_Ref_mayWrite_65 (by decide) ?_
        refine J_istore d_Ref_mayWrite_66 (Nat.le_of_ble_eq_true rfl) ?_
        refine J.ls (ls' := [some (.ref this), some (.int p0), some (.int p1), some (.int q25.1), some (.int q39.1), some (.int (0 : Int32)), none, none]) rfl ?_
        refine J_iconst (v := 1) d_Ref_mayWrite_68 (by decide) ?_
        refine J_istore d_Ref_mayWrite_69 (Nat.le_of_ble_eq_true rfl) ?_
        refine J.ls (ls' := [some (.ref this), some (.int p0), some (.int p1), some (.int q25.1), some (.int q39.1), some (.int (0 : Int32)), some (.int (1 : Int32)), none]) rfl ?_
        refine J_iconst (v := 0) d_Ref_mayWrite_71 (by decide) ?_
        refine J_istore d_Ref_mayWrite_72 (Nat.le_of_ble_eq_true rfl) ?_
        refine J.ls (ls' := [some (.ref this), some (.int p0), some (.int p1), some (.int q25.1), some (.int q39.1), some (.int (0 : Int32)), some (.int (1 : Int32)), some (.int (0 : Int32))]) rfl ?_
        refine J.drop [true, true, true, false, true, true, true, true] rfl ?_
        exact p_Ref_mayWrite_L74 hw hG  _ H
      · intro c40
        rw [if_pos c40] at H
        refine J.drop [false, false, false, false, false, false, false, false] rfl ?_
        exact p_Ref_mayWrite_L50 hw hG  H
