theorem ln_Ref_goSlave : (parseMethodDescriptor y_Ref_goSlave.desc).map (fun q => q.parameters.length) = some 2 := by decide +kernel
def f_Ref_goSlave_L99 (Γ : gm_T)  (φ : ph_T) : Option (Unit × ph_T) :=
  some ((), φ)
set_option maxRecDepth 100000 in
set_option maxHeartbeats 4000000 in
theorem p_Ref_goSlave_L99 {w : jw_T} (hw : jok w) {Γ : gm_T} {n : Nat} (hG : gd w Γ n)  {x : Bool} {φ : ph_T} {q : Unit × ph_T} (H : f_Ref_goSlave_L99 Γ  φ  = some q) : J w M_Ref_goSlave 99 [none, none, none, none] [] (pic Γ φ) n x 0 0 (fq Γ n (.inl none) q.2) := by
  unfold f_Ref_goSlave_L99 at H
  cases H
  exact J_vret (st := []) d_Ref_goSlave_99 rfl ⟨rfl, rfl, rfl⟩
def f_Ref_goSlave (Γ : gm_T) (φ : ph_T) (this : Nat) (p0 : Int32) (p1 : Int32) : Option (Unit × ph_T) :=
  if p1 = (2 : Int32) then
    @ite _ (Γ this = .inr 12) _ (
    Option.bind (f_Ref_writeGoes Γ φ this p0) fun q25 =>
    f_Ref_goSlave_L99 Γ  q25.2 
    ) none
  else
    if p1 = (4 : Int32) then
      @ite _ (Γ this = .inr 12) _ (
      Option.bind (f_Ref_readGoes Γ φ this p0) fun q22 =>
      f_Ref_goSlave_L99 Γ  q22.2 
      ) none
    else
      @ite _ (Γ this = .inr 12) _ (
      Option.bind (f_Ref_rowOf Γ φ this (1 : Int32) p0 p1) fun q2 =>
      Option.bind (f_Ref_take Γ q2.2 this q2.1) fun q3 =>
      if p1 = 0 then
        Option.bind (q3.2.2.2 this 35) fun a16 =>
        Option.bind (gA Γ a16 1) fun N17 =>
        Option.bind (ix (((5 : Int32) * ((4 : Int32) + p0)) + p1) N17) fun k18 =>
        Option.bind (f_Ref_writeCame Γ q3.2 this p0 (q3.2.2.1 a16 k18)) fun q19 =>
        f_Ref_goSlave_L99 Γ  q19.2 
      else
        if p1 = (1 : Int32) then
          Option.bind (q3.2.2.2 this 35) fun a8 =>
          Option.bind (gA Γ a8 1) fun N9 =>
          Option.bind (ix (((5 : Int32) * ((4 : Int32) + p0)) + p1) N9) fun k10 =>
          Option.bind (q3.2.2.2 this 36) fun a11 =>
          Option.bind (gA Γ a11 0) fun N12 =>
          Option.bind (ix (((5 : Int32) * ((4 : Int32) + p0)) + p1) N12) fun k13 =>
          Option.bind (f_Ref_beatCame Γ q3.2 this p0 (q3.2.2.1 a8 k10) (q3.2.1 a11 k13)) fun q14 =>
          f_Ref_goSlave_L99 Γ  q14.2 
        else
          Option.bind (q3.2.2.2 this 35) fun a4 =>
          Option.bind (gA Γ a4 1) fun N5 =>
          Option.bind (ix (((5 : Int32) * ((4 : Int32) + p0)) + p1) N5) fun k6 =>
          Option.bind (f_Ref_readComes Γ q3.2 this p0 (q3.2.2.1 a4 k6)) fun q7 =>
          f_Ref_goSlave_L99 Γ  q7.2 
      ) none
set_option maxRecDepth 100000 in
set_option maxHeartbeats 4000000 in
theorem p_Ref_goSlave {w : jw_T} (hw : jok w) {Γ : gm_T} {n : Nat} (hG : gd w Γ n) {x : Bool} {φ : ph_T} {this : Nat} {p0 : Int32} {p1 : Int32} {q : Unit × ph_T} (H : f_Ref_goSlave Γ φ this p0 p1 = some q) : jc w M_Ref_goSlave [.ref this, .int p0, .int p1] (pic Γ φ) n x 0 0 (fq Γ n (.inl none) q.2) := by
  refine jc.of (by simp only [jent_r, jent_i, jent_l, jent_a, jent_0]; exact Nat.le_of_ble_eq_true rfl) ?_
  have hls : jents [.ref this, .int p0, .int p1] (jm_nL M_Ref_goSlave) = [some (.ref this), some (.int p0), some (.int p1), none] := by simp only [jents, jent_r, jent_i, jent_l, jent_a, jent_0]; rfl
  rw [hls]
  clear hls
  unfold f_Ref_goSlave at H
  refine J_iconst (v := 5) d_Ref_goSlave_0 (by decide) ?_
  refine J_iconst (v := 4) d_Ref_goSlave_1 (by decide) ?_
  refine J_iload_n d_Ref_goSlave_2 rfl ?_
  refine J_iadd d_Ref_goSlave_3 ?_
  refine J_imul d_Ref_goSlave_4 ?_
  refine J_iload_n d_Ref_goSlave_5 rfl ?_
  refine J_iadd d_Ref_goSlave_6 ?_
  refine J_istore_n d_Ref_goSlave_7 (Nat.le_of_ble_eq_true rfl) ?_
  refine J_iload_n d_Ref_goSlave_8 rfl ?_
  refine J_iconst (v := 2) d_Ref_goSlave_9 (by decide) ?_
  refine J_icmp_ne (tgt := 21) d_Ref_goSlave_10 (by decide) ?_ ?_
  · intro c26
    rw [if_neg c26] at H
    refine J_iload_n d_Ref_goSlave_21 rfl ?_
    refine J_iconst (v := 4) d_Ref_goSlave_22 (by decide) ?_
    refine J_icmp_ne (tgt := 34) d_Ref_goSlave_23 (by decide) ?_ ?_
    · intro c23
      rw [if_neg c23] at H
      refine J_aload_n d_Ref_goSlave_34 rfl ?_
      refine J_aload_n d_Ref_goSlave_35 rfl ?_
      refine J_iconst (v := 1) d_Ref_goSlave_36 (by decide) ?_
      refine J_iload_n d_Ref_goSlave_37 rfl ?_
      refine J_iload_n d_Ref_goSlave_38 rfl ?_
      have g1 : Γ this = .inr 12 := by
        apply Classical.byContradiction
        intro q9
        rw [if_neg q9] at H
        cases H
      rw [if_pos g1] at H
      obtain ⟨q2, hq2, H⟩ := Option.bind_eq_some_iff.mp H
      refine J_callV (kc := 0) (ks := 0) (kc' := 0) (ks' := 0) (a := this) (ci := 12) (as := [.int (1 : Int32), .int p0, .int p1]) (st := [.ref this]) (mf_Ref_rowOf hw) (mv_Ref_388 hw) d_Ref_goSlave_39 ln_Ref_rowOf (by decide) (by first | exact Nat.le_of_ble_eq_true rfl | (simp only [List.map_cons, List.map_nil, List.sum_cons, List.sum_nil, va_rf_cat]; exact Nat.le_of_ble_eq_true rfl)) rfl ((hG _).1 _ g1 (by decide)).1 ((hG _).1 _ g1 (by decide)).2 (by unfold pic; rw [g1]; rfl) (jcl_at hw rfl) rfl (p_Ref_rowOf hw hG hq2) ?_ (fun E h' n' x' e1 => by cases e1.1)
      intro v9 h9 n9 x9 e9
      obtain ⟨e91, e92, e93⟩ := e9
      cases e91
      subst e92
      subst e93
      clear x
      rename Bool => x
      show J _ _ _ _ (_ :: _) _ _ _ _ _ _
      obtain ⟨q3, hq3, H⟩ := Option.bind_eq_some_iff.mp H
      refine J_callV (kc := 0) (ks := 0) (kc' := 0) (ks' := 0) (a := this) (ci := 12) (as := [.int q2.1]) (st := []) (mf_Ref_take hw) (mv_Ref_473 hw) d_Ref_goSlave_42 ln_Ref_take (by decide) (by first | exact Nat.le_of_ble_eq_true rfl | (simp only [List.map_cons, List.map_nil, List.sum_cons, List.sum_nil, va_rf_cat]; exact Nat.le_of_ble_eq_true rfl)) rfl ((hG _).1 _ g1 (by decide)).1 ((hG _).1 _ g1 (by decide)).2 (by unfold pic; rw [g1]; rfl) (jcl_at hw rfl) rfl (p_Ref_take hw hG hq3) ?_ (fun E h' n' x' e1 => by cases e1.1)
      intro v9 h9 n9 x9 e9
      obtain ⟨e91, e92, e93⟩ := e9
      cases e91
      subst e92
      subst e93
      clear x
      rename Bool => x
      show J _ _ _ _ [] _ _ _ _ _ _
      refine J_iload_n d_Ref_goSlave_45 rfl ?_
      refine J_if_ne (tgt := 63) d_Ref_goSlave_46 (by decide) ?_ ?_
      · intro c20
        rw [if_neg c20] at H
        refine J_iload_n d_Ref_goSlave_63 rfl ?_
        refine J_iconst (v := 1) d_Ref_goSlave_64 (by decide) ?_
        refine J_icmp_ne (tgt := 88) d_Ref_goSlave_65 (by decide) ?_ ?_
        · intro c15
          rw [if_neg c15] at H
          refine J_aload_n d_Ref_goSlave_88 rfl ?_
          refine J_iload_n d_Ref_goSlave_89 rfl ?_
          refine J_aload_n d_Ref_goSlave_90 rfl ?_
          refine F_getR (ci := 12) (k := 35) hG (cf_Ref hw) (fl_Ref_94 hw) (by decide) (by decide) rfl d_Ref_goSlave_91 g1 ?_
          refine J_iload_n d_Ref_goSlave_94 rfl ?_
          obtain ⟨a4, ha4, H⟩ := Option.bind_eq_some_iff.mp H
          rw [j_rf ha4]
          obtain ⟨N5, hN5, H⟩ := Option.bind_eq_some_iff.mp H
          obtain ⟨k6, hk6, H⟩ := Option.bind_eq_some_iff.mp H
          refine F_lald k6 hw hG d_Ref_goSlave_95 (gA_some hN5) (ix_some hk6) ?_
          obtain ⟨q7, hq7, H⟩ := Option.bind_eq_some_iff.mp H
          refine J_callV (kc := 0) (ks := 0) (kc' := 0) (ks' := 0) (a := this) (ci := 12) (as := [.int p0, .long (q3.2.2.1 a4 k6)]) (st := []) (mf_Ref_readComes hw) (mv_Ref_520 hw) d_Ref_goSlave_96 ln_Ref_readComes (by decide) (by first | exact Nat.le_of_ble_eq_true rfl | (simp only [List.map_cons, List.map_nil, List.sum_cons, List.sum_nil, va_rf_cat]; exact Nat.le_of_ble_eq_true rfl)) rfl ((hG _).1 _ g1 (by decide)).1 ((hG _).1 _ g1 (by decide)).2 (by unfold pic; rw [g1]; rfl) (jcl_at hw rfl) rfl (p_Ref_readComes hw hG hq7) ?_ (fun E h' n' x' e1 => by cases e1.1)
          intro v9 h9 n9 x9 e9
          obtain ⟨e91, e92, e93⟩ := e9
          cases e91
          subst e92
          subst e93
          clear x
          rename Bool => x
          show J _ _ _ _ [] _ _ _ _ _ _
          refine J.drop [false, false, false, false] rfl ?_
          exact p_Ref_goSlave_L99 hw hG  H
        · intro c15
          rw [if_pos c15] at H
          refine J_aload_n d_Ref_goSlave_68 rfl ?_
          refine J_iload_n d_Ref_goSlave_69 rfl ?_
          refine J_aload_n d_Ref_goSlave_70 rfl ?_
          refine F_getR (ci := 12) (k := 35) hG (cf_Ref hw) (fl_Ref_94 hw) (by decide) (by decide) rfl d_Ref_goSlave_71 g1 ?_
          refine J_iload_n d_Ref_goSlave_74 rfl ?_
          obtain ⟨a8, ha8, H⟩ := Option.bind_eq_some_iff.mp H
          rw [j_rf ha8]
          obtain ⟨N9, hN9, H⟩ := Option.bind_eq_some_iff.mp H
          obtain ⟨k10, hk10, H⟩ := Option.bind_eq_some_iff.mp H
          refine F_lald k10 hw hG d_Ref_goSlave_75 (gA_some hN9) (ix_some hk10) ?_
          refine J_aload_n d_Ref_goSlave_76 rfl ?_
          refine F_getR (ci := 12) (k := 36) hG (cf_Ref hw) (fl_Ref_97 hw) (by decide) (by decide) rfl d_Ref_goSlave_77 g1 ?_
          refine J_iload_n d_Ref_goSlave_80 rfl ?_
          obtain ⟨a11, ha11, H⟩ := Option.bind_eq_some_iff.mp H
          rw [j_rf ha11]
          obtain ⟨N12, hN12, H⟩ := Option.bind_eq_some_iff.mp H
          obtain ⟨k13, hk13, H⟩ := Option.bind_eq_some_iff.mp H
          refine F_iald k13 hw hG d_Ref_goSlave_81 (gA_some hN12) (ix_some hk13) ?_
          obtain ⟨q14, hq14, H⟩ := Option.bind_eq_some_iff.mp H
          refine J_callV (kc := 0) (ks := 0) (kc' := 0) (ks' := 0) (a := this) (ci := 12) (as := [.int p0, .long (q3.2.2.1 a8 k10), .int (q3.2.1 a11 k13)]) (st := []) (mf_Ref_beatCame hw) (mv_Ref_516 hw) d_Ref_goSlave_82 ln_Ref_beatCame (by decide) (by first | exact Nat.le_of_ble_eq_true rfl | (simp only [List.map_cons, List.map_nil, List.sum_cons, List.sum_nil, va_rf_cat]; exact Nat.le_of_ble_eq_true rfl)) rfl ((hG _).1 _ g1 (by decide)).1 ((hG _).1 _ g1 (by decide)).2 (by unfold pic; rw [g1]; rfl) (jcl_at hw rfl) rfl (p_Ref_beatCame hw hG hq14) ?_ (fun E h' n' x' e1 => by cases e1.1)
          intro v9 h9 n9 x9 e9
          obtain ⟨e91, e92, e93⟩ := e9
          cases e91
          subst e92
          subst e93
          clear x
          rename Bool => x
          show J _ _ _ _ [] _ _ _ _ _ _
          refine J_goto (tgt := 99) d_Ref_goSlave_85 (by decide) ?_
          refine J.drop [false, false, false, false] rfl ?_
          exact p_Ref_goSlave_L99 hw hG  H
      · intro c20
        rw [if_pos c20] at H
        refine J_aload_n d_Ref_goSlave_49 rfl ?_
        refine J_iload_n d_Ref_goSlave_50 rfl ?_
        refine J_aload_n d_Ref_goSlave_51 rfl ?_
        refine F_getR (ci := 12) (k := 35) hG (cf_Ref hw) (fl_Ref_94 hw) (by decide) (by decide) rfl d_Ref_goSlave_52 g1 ?_
        refine J_iload_n d_Ref_goSlave_55 rfl ?_
        obtain ⟨a16, ha16, H⟩ := Option.bind_eq_some_iff.mp H
        rw [j_rf ha16]
        obtain ⟨N17, hN17, H⟩ := Option.bind_eq_some_iff.mp H
        obtain ⟨k18, hk18, H⟩ := Option.bind_eq_some_iff.mp H
        refine F_lald k18 hw hG d_Ref_goSlave_56 (gA_some hN17) (ix_some hk18) ?_
        obtain ⟨q19, hq19, H⟩ := Option.bind_eq_some_iff.mp H
        refine J_callV (kc := 0) (ks := 0) (kc' := 0) (ks' := 0) (a := this) (ci := 12) (as := [.int p0, .long (q3.2.2.1 a16 k18)]) (st := []) (mf_Ref_writeCame hw) (mv_Ref_513 hw) d_Ref_goSlave_57 ln_Ref_writeCame (by decide) (by first | exact Nat.le_of_ble_eq_true rfl | (simp only [List.map_cons, List.map_nil, List.sum_cons, List.sum_nil, va_rf_cat]; exact Nat.le_of_ble_eq_true rfl)) rfl ((hG _).1 _ g1 (by decide)).1 ((hG _).1 _ g1 (by decide)).2 (by unfold pic; rw [g1]; rfl) (jcl_at hw rfl) rfl (p_Ref_writeCame hw hG hq19) ?_ (fun E h' n' x' e1 => by cases e1.1)
        intro v9 h9 n9 x9 e9
        obtain ⟨e91, e92, e93⟩ := e9
        cases e91
        subst e92
        subst e93
        clear x
        rename Bool => x
        show J _ _ _ _ [] _ _ _ _ _ _
        refine J_goto (tgt := 99) d_Ref_goSlave_60 (by decide) ?_
        refine J.drop [false, false, false, false] rfl ?_
        exact p_Ref_goSlave_L99 hw hG  H
    · intro c23
      rw [if_pos c23] at H
      refine J_aload_n d_Ref_goSlave_26 rfl ?_
      refine J_iload_n d_Ref_goSlave_27 rfl ?_
      have g21 : Γ this = .inr 12 := by
        apply Classical.byContradiction
        intro q9
        rw [if_neg q9] at H
        cases H
      rw [if_pos g21] at H
      obtain ⟨q22, hq22, H⟩ := Option.bind_eq_some_iff.mp H
      refine J_callV (kc := 0) (ks := 0) (kc' := 0) (ks' := 0) (a := this) (ci := 12) (as := [.int p0]) (st := []) (mf_Ref_readGoes hw) (mv_Ref_510 hw) d_Ref_goSlave_28 ln_Ref_readGoes (by decide) (by first | exact Nat.le_of_ble_eq_true rfl | (simp only [List.map_cons, List.map_nil, List.sum_cons, List.sum_nil, va_rf_cat]; exact Nat.le_of_ble_eq_true rfl)) rfl ((hG _).1 _ g21 (by decide)).1 ((hG _).1 _ g21 (by decide)).2 (by unfold pic; rw [g21]; rfl) (jcl_at hw rfl) rfl (p_Ref_readGoes hw hG hq22) ?_ (fun E h' n' x' e1 => by cases e1.1)
      intro v9 h9 n9 x9 e9
      obtain ⟨e91, e92, e93⟩ := e9
      cases e91
      subst e92
      subst e93
      clear x
      rename Bool => x
      show J _ _ _ _ [] _ _ _ _ _ _
      refine J_goto (tgt := 99) d_Ref_goSlave_31 (by decide) ?_
      refine J.drop [false, false, false, false] rfl ?_
      exact p_Ref_goSlave_L99 hw hG  H
  · intro c26
    rw [if_pos c26] at H
    refine J_aload_n d_Ref_goSlave_13 rfl ?_
    refine J_iload_n d_Ref_goSlave_14 rfl ?_
    have g24 : Γ this = .inr 12 := by
      apply Classical.byContradiction
      intro q9
      rw [if_neg q9] at H
      cases H
    rw [if_pos g24] at H
    obtain ⟨q25, hq25, H⟩ := Option.bind_eq_some_iff.mp H
    refine J_callV (kc := 0) (ks := 0) (kc' := 0) (ks' := 0) (a := this) (ci := 12) (as := [.int p0]) (st := []) (mf_Ref_writeGoes hw) (mv_Ref_507 hw) d_Ref_goSlave_15 ln_Ref_writeGoes (by decide) (by first | exact Nat.le_of_ble_eq_true rfl | (simp only [List.map_cons, List.map_nil, List.sum_cons, List.sum_nil, va_rf_cat]; exact Nat.le_of_ble_eq_true rfl)) rfl ((hG _).1 _ g24 (by decide)).1 ((hG _).1 _ g24 (by decide)).2 (by unfold pic; rw [g24]; rfl) (jcl_at hw rfl) rfl (p_Ref_writeGoes hw hG hq25) ?_ (fun E h' n' x' e1 => by cases e1.1)
    intro v9 h9 n9 x9 e9
    obtain ⟨e91, e92, e93⟩ := e9
    cases e91
    subst e92
    subst e93
    clear x
    rename Bool => x
    show J _ _ _ _ [] _ _ _ _ _ _
    refine J_goto (tgt := 99) d_Ref_goSlave_18 (by decide) ?_
    refine J.drop [false, false, false, false] rfl ?_
    exact p_Ref_goSlave_L99 hw hG  H
theorem ln_Ref_targetOf : (parseMethodDescriptor y_Ref_targetOf.desc).map (fun q => q.parameters.length) = some 1 := by decide +kernel
def f_Ref_targetOf_L24 (Γ : gm_T)  (φ : ph_T) (y0 : Int32) : Option (Int32 × ph_T) :=
  some (y0, φ)
set_option maxRecDepth 100000 in
set_option maxHeartbeats 4000000 in
theorem p_Ref_targetOf_L24 {w : jw_T} (hw : jok w) {Γ : gm_T} {n : Nat} (hG : gd w Γ n)  {x : Bool} {φ : ph_T} {y0 : Int32} {q : Int32 × ph_T} (H : f_Ref_targetOf_L24 Γ  φ y0 = some q) : J w M_Ref_targetOf 24 [none, none, none] [.int y0] (pic Γ φ) n x 0 0 (fq Γ n (.inl (some (.int q.1))) q.2) := by
  unfold f_Ref_targetOf_L24 at H
  cases H
  exact J_iret (st := []) d_Ref_targetOf_24 rfl rfl ⟨rfl, rfl, rfl⟩
def f_Ref_targetOf (Γ : gm_T) (φ : ph_T) (this : Nat) (p0 : Int32) : Option (Int32 × ph_T) :=
  @ite _ (Γ this = .inr 12) _ (
  @ite _ ((4096 : Int32) = 0) _ none (
  Option.bind (φ.2.2 this 7) fun a4 =>
  Option.bind (gA Γ a4 0) fun N5 =>
  Option.bind (ix (p0 / (4096 : Int32)) N5) fun k6 =>
  if (φ.1 a4 k6) = (-1 : Int32) then
    f_Ref_targetOf_L24 Γ  φ (φ.1 this 2)
  else
    f_Ref_targetOf_L24 Γ  φ (φ.1 a4 k6)
  )
  ) none
set_option maxRecDepth 100000 in
set_option maxHeartbeats 4000000 in
theorem p_Ref_targetOf {w : jw_T} (hw : jok w) {Γ : gm_T} {n : Nat} (hG : gd w Γ n) {x : Bool} {φ : ph_T} {this : Nat} {p0 : Int32} {q : Int32 × ph_T} (H : f_Ref_targetOf Γ φ this p0 = some q) : jc w M_Ref_targetOf [.ref this, .int p0] (pic Γ φ) n x 0 0 (fq Γ n (.inl (some (.int q.1))) q.2) := by
  refine jc.of (by simp only [jent_r, jent_i, jent_l, jent_a, jent_0]; exact Nat.le_of_ble_eq_true rfl) ?_
  have hls : jents [.ref this, .int p0] (jm_nL M_Ref_targetOf) = [some (.ref this), some (.int p0), none] := by simp only [jents, jent_r, jent_i, jent_l, jent_a, jent_0]; rfl
  rw [hls]
  clear hls
  unfold f_Ref_targetOf at H
  refine J_aload_n d_Ref_targetOf_0 rfl ?_
  have g2 : Γ this = .inr 12 := by
    apply Classical.byContradiction
    intro q9
    rw [if_neg q9] at H
    cases H
  rw [if_pos g2] at H
  refine F_getR (ci := 12) (k := 7) hG (cf_Ref hw) (fl_Ref_7 hw) (by decide) (by decide) rfl d_Ref_targetOf_1 g2 ?_
  refine J_iload_n d_Ref_targetOf_4 rfl ?_
  refine J_sipush (v := 4096) d_Ref_targetOf_5 (by decide) ?_
  have h3 : ¬ (4096 : Int32) = 0 := by
    intro q9
    rw [if_pos q9] at H
    cases H
  rw [if_neg h3] at H
  refine J_idiv d_Ref_targetOf_8 h3 ?_
  obtain ⟨a4, ha4, H⟩ := Option.bind_eq_some_iff.mp H
  rw [j_rf ha4]
  obtain ⟨N5, hN5, H⟩ := Option.bind_eq_some_iff.mp H
  obtain ⟨k6, hk6, H⟩ := Option.bind_eq_some_iff.mp H
  refine F_iald k6 hw hG d_Ref_targetOf_9 (gA_some hN5) (ix_some hk6) ?_
  refine J_istore_n d_Ref_targetOf_10 (Nat.le_of_ble_eq_true rfl) ?_
  refine J_iload_n d_Ref_targetOf_11 rfl ?_
  refine J_iconst (v := -1) d_Ref_targetOf_12 (by decide) ?_
  refine J_icmp_ne (tgt := 23) d_Ref_targetOf_13 (by decide) ?_ ?_
  · intro c7
    rw [if_neg c7] at H
    refine J_iload_n d_Ref_targetOf_23 rfl ?_
    refine J.drop [false, false, false] rfl ?_
    exact p_Ref_targetOf_L24 hw hG  H
  · intro c7
    rw [if_pos c7] at H
    refine J_aload_n d_Ref_targetOf_16 rfl ?_
    refine F_getI (ci := 12) (k := 2) hG (cf_Ref hw) (fl_Ref_294 hw) (by decide) (by decide) rfl d_Ref_targetOf_17 g2 ?_
    refine J_goto (tgt := 24) d_Ref_targetOf_20 (by decide) ?_
    refine J.drop [false, false, false] rfl ?_
    exact p_Ref_targetOf_L24 hw hG  H
theorem ln_Ref_mayWrite : (parseMethodDescriptor y_Ref_mayWrite.desc).map (fun q => q.parameters.length) = some 2 := by decide +kernel
def f_Ref_mayWrite_L167 (Γ : gm_T)  (φ : ph_T) (y0 : Int32) : Option (Int32 × ph_T) :=
  @ite _ (y0 = 0 ∨ y0 = 1) _ (
  some (y0, φ)
  ) none
set_option maxRecDepth 100000 in
set_option maxHeartbeats 4000000 in
theorem p_Ref_mayWrite_L167 {w : jw_T} (hw : jok w) {Γ : gm_T} {n : Nat} (hG : gd w Γ n)  {x : Bool} {φ : ph_T} {y0 : Int32} {q : Int32 × ph_T} (H : f_Ref_mayWrite_L167 Γ  φ y0 = some q) : J w M_Ref_mayWrite 167 [none, none, none, none, none, none, none, none] [.int y0] (pic Γ φ) n x 0 0 (fq Γ n (.inl (some (.int q.1))) q.2) := by
  unfold f_Ref_mayWrite_L167 at H
  have z1 : y0 = 0 ∨ y0 = 1 := by
    apply Classical.byContradiction
    intro q9
    rw [if_neg q9] at H
    cases H
  rw [if_pos z1] at H
  cases H
  exact J_iret (st := []) d_Ref_mayWrite_167 rfl (narrow_z z1).1 ⟨rfl, rfl, rfl⟩
def f_Ref_mayWrite_L166 (Γ : gm_T)  (φ : ph_T) : Option (Int32 × ph_T) :=
  f_Ref_mayWrite_L167 Γ  φ (0 : Int32)
set_option maxRecDepth 100000 in
set_option maxHeartbeats 4000000 in
theorem p_Ref_mayWrite_L166 {w : jw_T} (hw : jok w) {Γ : gm_T} {n : Nat} (hG : gd w Γ n)  {x : Bool} {φ : ph_T} {q : Int32 × ph_T} (H : f_Ref_mayWrite_L166 Γ  φ  = some q) : J w M_Ref_mayWrite 166 [none, none, none, none, none, none, none, none] [] (pic Γ φ) n x 0 0 (fq Γ n (.inl (some (.int q.1))) q.2) := by
  unfold f_Ref_mayWrite_L166 at H
  refine J_iconst (v := 0) d_Ref_mayWrite_166 (by decide) ?_
  refine J.drop [false, false, false, false, false, false, false, false] rfl ?_
  exact p_Ref_mayWrite_L167 hw hG  H
def f_Ref_mayWrite_L142 (Γ : gm_T) (Kc74 : ph_T → Nat → Int32 → Int32 → Int32 → Int32 → Int32 → Int32 → Option (Int32 × ph_T)) (φ : ph_T) (x0 : Nat) (x1 : Int32) (x2 : Int32) (x4 : Int32) (x5 : Int32) (x6 : Int32) (x7 : Int32) : Option (Int32 × ph_T) :=
  Kc74 φ x0 x1 x2 x4 x5 x6 (x7 + (1 : Int32))
set_option maxRecDepth 100000 in
set_option maxHeartbeats 4000000 in
theorem p_Ref_mayWrite_L142 {w : jw_T} (hw : jok w) {Γ : gm_T} {n : Nat} (hG : gd w Γ n) {Kc74 : ph_T → Nat → Int32 → Int32 → Int32 → Int32 → Int32 → Int32 → Option (Int32 × ph_T)} (hKc74 : ∀ {x : Bool} {φ : ph_T} {x0 : Nat} {x1 : Int32} {x2 : Int32} {x4 : Int32} {x5 : Int32} {x6 : Int32} {x7 : Int32} {q : Int32 × ph_T}, Kc74 φ x0 x1 x2 x4 x5 x6 x7 = some q → J w M_Ref_mayWrite 74 [some (.ref x0), some (.int x1), some (.int x2), none, some (.int x4), some (.int x5), some (.int x6), some (.int x7)] [] (pic Γ φ) n x 0 0 (fq Γ n (.inl (some (.int q.1))) q.2)) {x : Bool} {φ : ph_T} {x0 : Nat} {x1 : Int32} {x2 : Int32} {x4 : Int32} {x5 : Int32} {x6 : Int32} {x7 : Int32} {q : Int32 × ph_T} (H : f_Ref_mayWrite_L142 Γ Kc74 φ x0 x1 x2 x4 x5 x6 x7 = some q) : J w M_Ref_mayWrite 142 [some (.ref x0), some (.int x1), some (.int x2), none, some (.int x4), some (.int x5), some (.int x6), some (.int x7)] [] (pic Γ φ) n x 0 0 (fq Γ n (.inl (some (.int q.1))) q.2) := by
  unfold f_Ref_mayWrite_L142 at H
  refine J_iinc (v := x7 + 1) d_Ref_mayWrite_142 rfl (by rw [show Int32.ofInt 1 = (1 : Int32) from by decide]) ?_
  refine J_goto (tgt := 74) d_Ref_mayWrite_145 (by decide) ?_
  refine J.drop [true, true, true, false, true, true, true, true] rfl ?_
  exact hKc74 H
def f_Ref_mayWrite_L140 (Γ : gm_T) (Kc74 : ph_T → Nat → Int32 → Int32 → Int32 → Int32 → Int32 → Int32 → Option (Int32 × ph_T)) (φ : ph_T) (x0 : Nat) (x1 : Int32) (x2 : Int32) (x4 : Int32) (x5 : Int32) (x7 : Int32) (y0 : Int32) : Option (Int32 × ph_T) :=
  f_Ref_mayWrite_L142 Γ Kc74 φ x0 x1 x2 x4 x5 y0 x7
set_option maxRecDepth 100000 in
set_option maxHeartbeats 4000000 in
theorem p_Ref_mayWrite_L140 {w : jw_T} (hw : jok w) {Γ : gm_T} {n : Nat} (hG : gd w Γ n) {Kc74 : ph_T → Nat → Int32 → Int32 → Int32 → Int32 → Int32 → Int32 → Option (Int32 × ph_T)} (hKc74 : ∀ {x : Bool} {φ : ph_T} {x0 : Nat} {x1 : Int32} {x2 : Int32} {x4 : Int32} {x5 : Int32} {x6 : Int32} {x7 : Int32} {q : Int32 × ph_T}, Kc74 φ x0 x1 x2 x4 x5 x6 x7 = some q → J w M_Ref_mayWrite 74 [some (.ref x0), some (.int x1), some (.int x2), none, some (.int x4), some (.int x5), some (.int x6), some (.int x7)] [] (pic Γ φ) n x 0 0 (fq Γ n (.inl (some (.int q.1))) q.2)) {x : Bool} {φ : ph_T} {x0 : Nat} {x1 : Int32} {x2 : Int32} {x4 : Int32} {x5 : Int32} {x7 : Int32} {y0 : Int32} {q : Int32 × ph_T} (H : f_Ref_mayWrite_L140 Γ Kc74 φ x0 x1 x2 x4 x5 x7 y0 = some q) : J w M_Ref_mayWrite 140 [some (.ref x0), some (.int x1), some (.int x2), none, some (.int x4), some (.int x5), none, some (.int x7)] [.int y0] (pic Γ φ) n x 0 0 (fq Γ n (.inl (some (.int q.1))) q.2) := by
  unfold f_Ref_mayWrite_L140 at H
  refine J_istore d_Ref_mayWrite_140 (Nat.le_of_ble_eq_true rfl) ?_
  refine J.drop [true, true, true, false, true, true, true, true] rfl ?_
  exact p_Ref_mayWrite_L142 hw hG hKc74 H
def f_Ref_mayWrite_L139 (Γ : gm_T) (Kc74 : ph_T → Nat → Int32 → Int32 → Int32 → Int32 → Int32 → Int32 → Option (Int32 × ph_T)) (φ : ph_T) (x0 : Nat) (x1 : Int32) (x2 : Int32) (x4 : Int32) (x5 : Int32) (x7 : Int32) : Option (Int32 × ph_T) :=
  f_Ref_mayWrite_L140 Γ Kc74 φ x0 x1 x2 x4 x5 x7 (0 : Int32)
set_option maxRecDepth 100000 in
set_option maxHeartbeats 4000000 in
theorem p_Ref_mayWrite_L139 {w : jw_T} (hw : jok w) {Γ : gm_T} {n : Nat} (hG : gd w Γ n) {Kc74 : ph_T → Nat → Int32 → Int32 → Int32 → Int32 → Int32 → Int32 → Option (Int32 × ph_T)} (hKc74 : ∀ {x : Bool} {φ : ph_T} {x0 : Nat} {x1 : Int32} {x2 : Int32} {x4 : Int32} {x5 : Int32} {x6 : Int32} {x7 : Int32} {q : Int32 × ph_T}, Kc74 φ x0 x1 x2 x4 x5 x6 x7 = some q → J w M_Ref_mayWrite 74 [some (.ref x0), some (.int x1), some (.int x2), none, some (.int x4), some (.int x5), some (.int x6), some (.int x7)] [] (pic Γ φ) n x 0 0 (fq Γ n (.inl (some (.int q.1))) q.2)) {x : Bool} {φ : ph_T} {x0 : Nat} {x1 : Int32} {x2 : Int32} {x4 : Int32} {x5 : Int32} {x7 : Int32} {q : Int32 × ph_T} (H : f_Ref_mayWrite_L139 Γ Kc74 φ x0 x1 x2 x4 x5 x7 = some q) : J w M_Ref_mayWrite 139 [some (.ref x0), some (.int x1), some (.int x2), none, some (.int x4), some (.int x5), none, some (.int x7)] [] (pic Γ φ) n x 0 0 (fq Γ n (.inl (some (.int q.1))) q.2) := by
  unfold f_Ref_mayWrite_L139 at H
  refine J_iconst (v := 0) d_Ref_mayWrite_139 (by decide) ?_
  refine J.drop [true, true, true, false, true, true, false, true] rfl ?_
  exact p_Ref_mayWrite_L140 hw hG hKc74 H
def f_Ref_mayWrite_L135 (Γ : gm_T) (Kc74 : ph_T → Nat → Int32 → Int32 → Int32 → Int32 → Int32 → Int32 → Option (Int32 × ph_T)) (φ : ph_T) (x0 : Nat) (x1 : Int32) (x2 : Int32) (x4 : Int32) (x5 : Int32) (x7 : Int32) : Option (Int32 × ph_T) :=
  f_Ref_mayWrite_L140 Γ Kc74 φ x0 x1 x2 x4 x5 x7 (1 : Int32)
set_option maxRecDepth 100000 in
set_option maxHeartbeats 4000000 in
theorem p_Ref_mayWrite_L135 {w : jw_T} (hw : jok w) {Γ : gm_T} {n : Nat} (hG : gd w Γ n) {Kc74 : ph_T → Nat → Int32 → Int32 → Int32 → Int32 → Int32 → Int32 → Option (Int32 × ph_T)} (hKc74 : ∀ {x : Bool} {φ : ph_T} {x0 : Nat} {x1 : Int32} {x2 : Int32} {x4 : Int32} {x5 : Int32} {x6 : Int32} {x7 : Int32} {q : Int32 × ph_T}, Kc74 φ x0 x1 x2 x4 x5 x6 x7 = some q → J w M_Ref_mayWrite 74 [some (.ref x0), some (.int x1), some (.int x2), none, some (.int x4), some (.int x5), some (.int x6), some (.int x7)] [] (pic Γ φ) n x 0 0 (fq Γ n (.inl (some (.int q.1))) q.2)) {x : Bool} {φ : ph_T} {x0 : Nat} {x1 : Int32} {x2 : Int32} {x4 : Int32} {x5 : Int32} {x7 : Int32} {q : Int32 × ph_T} (H : f_Ref_mayWrite_L135 Γ Kc74 φ x0 x1 x2 x4 x5 x7 = some q) : J w M_Ref_mayWrite 135 [some (.ref x0), some (.int x1), some (.int x2), none, some (.int x4), some (.int x5), none, some (.int x7)] [] (pic Γ φ) n x 0 0 (fq Γ n (.inl (some (.int q.1))) q.2) := by
  unfold f_Ref_mayWrite_L135 at H
  refine J_iconst (v := 1) d_Ref_mayWrite_135 (by decide) ?_
  refine J_goto (tgt := 140) d_Ref_mayWrite_136 (by decide) ?_
  refine J.drop [true, true, true, false, true, true, false, true] rfl ?_
  exact p_Ref_mayWrite_L140 hw hG hKc74 H
def f_Ref_mayWrite_L74 (Γ : gm_T)  : Nat → ph_T → Nat → Int32 → Int32 → Int32 → Int32 → Int32 → Int32 → Option (Int32 × ph_T)
  | 0, _, _, _, _, _, _, _, _ => none
  | fu + 1, φ, x0, x1, x2, x4, x5, x6, x7 =>
    @ite _ (Γ x0 = .inr 12) _ (
    if (φ.1 x0 47) ≤ x7 then
      if x6 = 0 then
        f_Ref_mayWrite_L166 Γ  φ 
      else
        if (φ.1 x0 3) ≤ x5 then
          f_Ref_mayWrite_L166 Γ  φ 
        else
          f_Ref_mayWrite_L167 Γ  φ (1 : Int32)
    else
      Option.bind (φ.2.2 x0 43) fun a5 =>
      Option.bind (gA Γ a5 0) fun N6 =>
      Option.bind (ix x7 N6) fun k7 =>
      if (φ.1 a5 k7) = x1 then
        if x6 = 0 then
          f_Ref_mayWrite_L139 Γ (f_Ref_mayWrite_L74 Γ  fu) φ x0 x1 x2 x4 (x5 + (1 : Int32)) x7
        else
          Option.bind (φ.2.2 x0 45) fun a8 =>
          Option.bind (gA Γ a8 0) fun N9 =>
          Option.bind (ix x7 N9) fun k10 =>
          if (φ.1 a8 k10) = x2 then
            f_Ref_mayWrite_L135 Γ (f_Ref_mayWrite_L74 Γ  fu) φ x0 x1 x2 x4 (x5 + (1 : Int32)) x7
          else
            Option.bind (φ.2.2 x0 44) fun a11 =>
            Option.bind (gA Γ a11 0) fun N12 =>
            Option.bind (ix x7 N12) fun k13 =>
            if (φ.1 a11 k13) = x4 then
              f_Ref_mayWrite_L139 Γ (f_Ref_mayWrite_L74 Γ  fu) φ x0 x1 x2 x4 (x5 + (1 : Int32)) x7
            else
              Option.bind (φ.2.2 x0 46) fun a14 =>
              Option.bind (gA Γ a14 0) fun N15 =>
              Option.bind (ix x7 N15) fun k16 =>
              if (φ.1 a14 k16) = 0 then
                f_Ref_mayWrite_L135 Γ (f_Ref_mayWrite_L74 Γ  fu) φ x0 x1 x2 x4 (x5 + (1 : Int32)) x7
              else
                f_Ref_mayWrite_L139 Γ (f_Ref_mayWrite_L74 Γ  fu) φ x0 x1 x2 x4 (x5 + (1 : Int32)) x7
      else
        f_Ref_mayWrite_L142 Γ (f_Ref_mayWrite_L74 Γ  fu) φ x0 x1 x2 x4 x5 x6 x7
    ) none
set_option maxRecDepth 100000 in
set_option maxHeartbeats 4000000 in
theorem p_Ref_mayWrite_L74 {w : jw_T} (hw : jok w) {Γ : gm_T} {n : Nat} (hG : gd w Γ n)  : ∀ (fu : Nat) {x : Bool} {φ : ph_T} {x0 : Nat} {x1 : Int32} {x2 : Int32} {x4 : Int32} {x5 : Int32} {x6 : Int32} {x7 : Int32} {q : Int32 × ph_T}, f_Ref_mayWrite_L74 Γ  fu φ x0 x1 x2 x4 x5 x6 x7 = some q → J w M_Ref_mayWrite 74 [some (.ref x0), some (.int x1), some (.int x2), none, some (.int x4), some (.int x5), some (.int x6), some (.int x7)] [] (pic Γ φ) n x 0 0 (fq Γ n (.inl (some (.int q.1))) q.2) := by
  intro fu
  induction fu with
  | zero =>
    intro x φ x0 x1 x2 x4 x5 x6 x7 q H
    cases H
  | succ fu ih =>
    intro x φ x0 x1 x2 x4 x5 x6 x7 q H
    unfold f_Ref_mayWrite_L74 at H
    refine J_iload d_Ref_mayWrite_74 rfl ?_
    refine J_aload_n d_Ref_mayWrite_76 rfl ?_
    have g2 : Γ x0 = .inr 12 := by
      apply Classical.byContradiction
      intro q9
      rw [if_neg q9] at H
      cases H
    rw [if_pos g2] at H
    refine F_getI (ci := 12) (k := 47) hG (cf_Ref hw) (fl_Ref_526 hw) (by decide) (by decide) rfl d_Ref_mayWrite_77 g2 ?_
    refine J_icmp_ge (tgt := 148) d_Ref_mayWrite_80 (by decide) ?_ ?_
    · intro c22
      rw [if_pos c22] at H
      refine J_iload d_Ref_mayWrite_148 rfl ?_
      refine J_if_eq (tgt := 166) d_Ref_mayWrite_150 (by decide) ?_ ?_
      · intro c4
        rw [if_pos c4] at H
        refine J.drop [false, false, false, false, false, false, false, false] rfl ?_
        exact p_Ref_mayWrite_L166 hw hG  H
      · intro c4
        rw [if_neg c4] at H
        refine J_iload d_Ref_mayWrite_153 rfl ?_
        refine J_aload_n d_Ref_mayWrite_155 rfl ?_
        refine F_getI (ci := 12) (k := 3) hG (cf_Ref hw) (fl_Ref_297 hw) (by decide) (by decide) rfl d_Ref_mayWrite_156 g2 ?_
        refine J_icmp_ge (tgt := 166) d_Ref_mayWrite_159 (by decide) ?_ ?_
        · intro c3
          rw [if_pos c3] at H
          refine J.drop [false, false, false, false, false, false, false, false] rfl ?_
          exact p_Ref_mayWrite_L166 hw hG  H
        · intro c3
          rw [if_neg c3] at H
          refine J_iconst (v := 1) d_Ref_mayWrite_162 (by decide) ?_
          refine J_goto (tgt := 167) d_Ref_mayWrite_163 (by decide) ?_
          refine J.drop [false, false, false, false, false, false, false, false] rfl ?_
          exact p_Ref_mayWrite_L167 hw hG  H
    · intro c22
      rw [if_neg c22] at H
      refine J_aload_n d_Ref_mayWrite_83 rfl ?_
      refine F_getR (ci := 12) (k := 43) hG (cf_Ref hw) (fl_Ref_118 hw) (by decide) (by decide) rfl d_Ref_mayWrite_84 g2 ?_
      refine J_iload d_Ref_mayWrite_87 rfl ?_
      obtain ⟨a5, ha5, H⟩ := Option.bind_eq_some_iff.mp H
      rw [j_rf ha5]
      obtain ⟨N6, hN6, H⟩ := Option.bind_eq_some_iff.mp H
      obtain ⟨k7, hk7, H⟩ := Option.bind_eq_some_iff.mp H
      refine F_iald k7 hw hG d_Ref_mayWrite_89 (gA_some hN6) (ix_some hk7) ?_
      refine J_iload_n d_Ref_mayWrite_90 rfl ?_
      refine J_icmp_ne (tgt := 142) d_Ref_mayWrite_91 (by decide) ?_ ?_
      · intro c21
        rw [if_neg c21] at H
        refine J.drop [true, true, true, false, true, true, true, true] rfl ?_
        exact p_Ref_mayWrite_L142 hw hG ih H
      · intro c21
        rw [if_pos c21] at H
        refine J_iinc (v := x5 + 1) d_Ref_mayWrite_94 rfl (by rw [show Int32.ofInt 1 = (1 : Int32) from by decide]) ?_
        refine J_iload d_Ref_mayWrite_97 rfl ?_
        refine J_if_eq (tgt := 139) d_Ref_mayWrite_99 (by decide) ?_ ?_
        · intro c20
          rw [if_pos c20] at H
          refine J.drop [true, true, true, false, true, true, false, true] rfl ?_
          exact p_Ref_mayWrite_L139 hw hG ih H
        · intro c20
          rw [if_neg c20] at H
          refine J_aload_n d_Ref_mayWrite_102 rfl ?_
          refine F_getR (ci := 12) (k := 45) hG (cf_Ref hw) (fl_Ref_124 hw) (by decide) (by decide) rfl d_Ref_mayWrite_103 g2 ?_
          refine J_iload d_Ref_mayWrite_106 rfl ?_
          obtain ⟨a8, ha8, H⟩ := Option.bind_eq_some_iff.mp H
          rw [j_rf ha8]
          obtain ⟨N9, hN9, H⟩ := Option.bind_eq_some_iff.mp H
          obtain ⟨k10, hk10, H⟩ := Option.bind_eq_some_iff.mp H
          refine F_iald k10 hw hG d_Ref_mayWrite_108 (gA_some hN9) (ix_some hk10) ?_
          refine J_iload_n d_Ref_mayWrite_109 rfl ?_
          refine J_icmp_eq (tgt := 135) d_Ref_mayWrite_110 (by decide) ?_ ?_
          · intro c19
            rw [if_pos c19] at H
            refine J.drop [true, true, true, false, true, true, false, true] rfl ?_
            exact p_Ref_mayWrite_L135 hw hG ih H
          · intro c19
            rw [if_neg c19] at H
            refine J_aload_n d_Ref_mayWrite_113 rfl ?_
            refine F_getR (ci := 12) (k := 44) hG (cf_Ref hw) (fl_Ref_121 hw) (by decide) (by decide) rfl d_Ref_mayWrite_114 g2 ?_
            refine J_iload d_Ref_mayWrite_117 rfl ?_
            obtain ⟨a11, ha11, H⟩ := Option.bind_eq_some_iff.mp H
            rw [j_rf ha11]
            obtain ⟨N12, hN12, H⟩ := Option.bind_eq_some_iff.mp H
            obtain ⟨k13, hk13, H⟩ := Option.bind_eq_some_iff.mp H
            refine F_iald k13 hw hG d_Ref_mayWrite_119 (gA_some hN12) (ix_some hk13) ?_
            refine J_iload d_Ref_mayWrite_120 rfl ?_
            refine J_icmp_eq (tgt := 139) d_Ref_mayWrite_122 (by decide) ?_ ?_
            · intro c18
              rw [if_pos c18] at H
              refine J.drop [true, true, true, false, true, true, false, true] rfl ?_
              exact p_Ref_mayWrite_L139 hw hG ih H
            · intro c18
              rw [if_neg c18] at H
              refine J_aload_n d_Ref_mayWrite_125 rfl ?_
              refine F_getR (ci := 12) (k := 46) hG (cf_Ref hw) (fl_Ref_127 hw) (by decide) (by decide) rfl d_Ref_mayWrite_126 g2 ?_
              refine J_iload d_Ref_mayWrite_129 rfl ?_
              obtain ⟨a14, ha14, H⟩ := Option.bind_eq_some_iff.mp H
              rw [j_rf ha14]
              obtain ⟨N15, hN15, H⟩ := Option.bind_eq_some_iff.mp H
              obtain ⟨k16, hk16, H⟩ := Option.bind_eq_some_iff.mp H
              refine F_iald k16 hw hG d_Ref_mayWrite_131 (gA_some hN15) (ix_some hk16) ?_
              refine J_if_ne (tgt := 139) d_Ref_mayWrite_132 (by decide) ?_ ?_
              · intro c17
                rw [if_neg c17] at H
                refine J.drop [true, true, true, false, true, true, false, true] rfl ?_
                exact p_Ref_mayWrite_L139 hw hG ih H
              · intro c17
                rw [if_pos c17] at H
                refine J.drop [true, true, true, false, true, true, false, true] rfl ?_
                exact p_Ref_mayWrite_L135 hw hG ih H
def f_Ref_mayWrite_L50 (Γ : gm_T)  (φ : ph_T) : Option (Int32 × ph_T) :=
  @ite _ ((0 : Int32) = 0 ∨ (0 : Int32) = 1) _ (
  some ((0 : Int32), φ)
  ) none
set_option maxRecDepth 100000 in
set_option maxHeartbeats 4000000 in
theorem p_Ref_mayWrite_L50 {w : jw_T} (hw : jok w) {Γ : gm_T} {n : Nat} (hG : gd w Γ n)  {x : Bool} {φ : ph_T} {q : Int32 × ph_T} (H : f_Ref_mayWrite_L50 Γ  φ  = some q) : J w M_Ref_mayWrite 50 [none, none, none, none, none, none, none, none] [] (pic Γ φ) n x 0 0 (fq Γ n (.inl (some (.int q.1))) q.2) := by
  unfold f_Ref_mayWrite_L50 at H
  refine J_iconst (v := 0) d_Ref_mayWrite_50 (by decide) ?_
  have z23 : (0 : Int32) = 0 ∨ (0 : Int32) = 1 := by
    apply Classical.byContradiction
    intro q9
    rw [if_neg q9] at H
    cases H
  rw [if_pos z23] at H
  cases H
  exact J_iret (st := []) d_Ref_mayWrite_51 rfl (narrow_z z23).1 ⟨rfl, rfl, rfl⟩
def f_Ref_mayWrite (Γ : gm_T) (φ : ph_T) (this : Nat) (p0 : Int32) (p1 : Int32) : Option (Int32 × ph_T) :=
  @ite _ (Γ this = .inr 12) _ (
  Option.bind (f_Ref_rowOf Γ φ this (0 : Int32) p0 (0 : Int32)) fun q25 =>
  Option.bind (q25.2.2.2 this 42) fun a26 =>
  Option.bind (gA Γ a26 0) fun N27 =>
  Option.bind (ix q25.1 N27) fun k28 =>
  if (q25.2.1 a26 k28) = 0 then
    f_Ref_mayWrite_L50 Γ  q25.2 
  else
    Option.bind (q25.2.2.2 this 39) fun a29 =>
    Option.bind (gA Γ a29 1) fun N30 =>
    Option.bind (ix ((4 : Int32) * q25.1) N30) fun k31 =>
    Option.bind (f_Ref_addressOf Γ q25.2 (q25.2.2.1 a29 k31)) fun q32 =>
    Option.bind (f_Ref_targetOf Γ q32.2 this q32.1) fun q33 =>
    if q33.1 = p1 then
      Option.bind (f_Ref_rowOf Γ q33.2 this (1 : Int32) p1 (0 : Int32)) fun q34 =>
      Option.bind (f_Ref_hasRoom Γ q34.2 this q34.1) fun q35 =>
      if q35.1 = 0 then
        f_Ref_mayWrite_L50 Γ  q35.2 
      else
        Option.bind (q35.2.2.2 this 39) fun a36 =>
        Option.bind (gA Γ a36 1) fun N37 =>
        Option.bind (ix ((4 : Int32) * q25.1) N37) fun k38 =>
        Option.bind (f_Ref_idOf Γ q35.2 (q35.2.2.1 a36 k38)) fun q39 =>
        f_Ref_mayWrite_L74 Γ  jF q39.2 this p0 p1 q39.1 (0 : Int32) (1 : Int32) (0 : Int32)
    else
      f_Ref_mayWrite_L50 Γ  q33.2 
  ) none
set_option maxRecDepth 100000 in
set_option maxHeartbeats 4000000 in
theorem p_Ref_mayWrite {w : jw_T} (hw : jok w) {Γ : gm_T} {n : Nat} (hG : gd w Γ n) {x : Bool} {φ : ph_T} {this : Nat} {p0 : Int32} {p1 : Int32} {q : Int32 × ph_T} (H : f_Ref_mayWrite Γ φ this p0 p1 = some q) : jc w M_Ref_mayWrite [.ref this, .int p0, .int p1] (pic Γ φ) n x 0 0 (fq Γ n (.inl (some (.int q.1))) q.2) := by
  refine jc.of (by simp only [jent_r, jent_i, jent_l, jent_a, jent_0]; exact Nat.le_of_ble_eq_true rfl) ?_
  have hls : jents [.ref this, .int p0, .int p1] (jm_nL M_Ref_mayWrite) = [some (.ref this), some (.int p0), some (.int p1), none, none, none, none, none] := by simp only [jents, jent_r, jent_i, jent_l, jent_a, jent_0]; rfl
  rw [hls]
  clear hls
  unfold f_Ref_mayWrite at H
  refine J_aload_n d_Ref_mayWrite_0 rfl ?_
  refine J_iconst (v := 0) d_Ref_mayWrite_1 (by decide) ?_
  refine J_iload_n d_Ref_mayWrite_2 rfl ?_
  refine J_iconst (v := 0) d_Ref_mayWrite_3 (by decide) ?_
  have g24 : Γ this = .inr 12 := by
    apply Classical.byContradiction
    intro q9
    rw [if_neg q9] at H
    cases H
  rw [if_pos g24] at H
  obtain ⟨q25, hq25, H⟩ := Option.bind_eq_some_iff.mp H
  refine J_callV (kc := 0) (ks := 0) (kc' := 0) (ks' := 0) (a := this) (ci := 12) (as := [.int (0 : Int32), .int p0, .int (0 : Int32)]) (st := []) (mf_Ref_rowOf hw) (mv_Ref_388 hw) d_Ref_mayWrite_4 ln_Ref_rowOf (by decide) (by first | exact Nat.le_of_ble_eq_true rfl | (simp only [List.map_cons, List.map_nil, List.sum_cons, List.sum_nil, va_rf_cat]; exact Nat.le_of_ble_eq_true rfl)) rfl ((hG _).1 _ g24 (by decide)).1 ((hG _).1 _ g24 (by decide)).2 (by unfold pic; rw [g24]; rfl) (jcl_at hw rfl) rfl (p_Ref_rowOf hw hG hq25) ?_ (fun E h' n' x' e1 => by cases e1.1)
  intro v9 h9 n9 x9 e9
  obtain ⟨e91, e92, e93⟩ := e9
  cases e91
  subst e92
  subst e93
  clear x
  rename Bool => x
  show J _ _ _ _ (_ :: _) _ _ _ _ _ _
  refine J_istore_n d_Ref_mayWrite_7 (Nat.le_of_ble_eq_true rfl) ?_
  refine J_aload_n d_Ref_mayWrite_8 rfl ?_
  refine F_getR (ci := 12) (k := 42) hG (cf_Ref hw) (fl_Ref_115 hw) (by decide) (by decide) rfl d_Ref_mayWrite_9 g24 ?_
  refine J_iload_n d_Ref_mayWrite_12 rfl ?_
  obtain ⟨a26, ha26, H⟩ := Option.bind_eq_some_iff.mp H
  rw [j_rf ha26]
  obtain ⟨N27, hN27, H⟩ := Option.bind_eq_some_iff.mp H
  obtain ⟨k28, hk28, H⟩ := Option.bind_eq_some_iff.mp H
  refine F_iald k28 hw hG d_Ref_mayWrite_13 (gA_some hN27) (ix_some hk28) ?_
  refine J_if_eq (tgt := 50) d_Ref_mayWrite_14 (by decide) ?_ ?_
  · intro c42
    rw [if_pos c42] at H
    refine J.drop [false, false, false, false, false, false, false, false] rfl ?_
    exact p_Ref_mayWrite_L50 hw hG  H
  · intro c42
    rw [if_neg c42] at H
    refine J_aload_n d_Ref_mayWrite_17 rfl ?_
    refine J_aload_n d_Ref_mayWrite_18 rfl ?_
    refine F_getR (ci := 12) (k := 39) hG (cf_Ref hw) (fl_Ref_106 hw) (by decide) (by decide) rfl d_Ref_mayWrite_19 g24 ?_
    refine J_iconst (v := 4) d_Ref_mayWrite_22 (by decide) ?_
    refine J_iload_n d_Ref_mayWrite_23 rfl ?_
    refine J_imul d_Ref_mayWrite_24 ?_
    obtain ⟨a29, ha29, H⟩ := Option.bind_eq_some_iff.mp H
    rw [j_rf ha29]
    obtain ⟨N30, hN30, H⟩ := Option.bind_eq_some_iff.mp H
    obtain ⟨k31, hk31, H⟩ := Option.bind_eq_some_iff.mp H
    refine F_lald k31 hw hG d_Ref_mayWrite_25 (gA_some hN30) (ix_some hk31) ?_
    obtain ⟨q32, hq32, H⟩ := Option.bind_eq_some_iff.mp H
    refine J_callS (kc := 0) (ks := 0) (kc' := 0) (ks' := 0) (as := [.long (q25.2.2.1 a29 k31)]) (st := [.ref this]) (mf_Ref_addressOf hw) (ms_Ref_314 hw) d_Ref_mayWrite_26 ln_Ref_addressOf (by decide) (by first | exact Nat.le_of_ble_eq_true rfl | (simp only [List.map_cons, List.map_nil, List.sum_cons, List.sum_nil, va_rf_cat]; exact Nat.le_of_ble_eq_true rfl)) rfl (p_Ref_addressOf hw hG hq32) ?_ (fun E h' n' x' e1 => by cases e1.1)
    intro v9 h9 n9 x9 e9
    obtain ⟨e91, e92, e93⟩ := e9
    cases e91
    subst e92
    subst e93
    clear x
    rename Bool => x
    show J _ _ _ _ (_ :: _) _ _ _ _ _ _
    obtain ⟨q33, hq33, H⟩ := Option.bind_eq_some_iff.mp H
    refine J_callV (kc := 0) (ks := 0) (kc' := 0) (ks' := 0) (a := this) (ci := 12) (as := [.int q32.1]) (st := []) (mf_Ref_targetOf hw) (mv_Ref_523 hw) d_Ref_mayWrite_29 ln_Ref_targetOf (by decide) (by first | exact Nat.le_of_ble_eq_true rfl | (simp only [List.map_cons, List.map_nil, List.sum_cons, List.sum_nil, va_rf_cat]; exact Nat.le_of_ble_eq_true rfl)) rfl ((hG _).1 _ g24 (by decide)).1 ((hG _).1 _ g24 (by decide)).2 (by unfold pic; rw [g24]; rfl) (jcl_at hw rfl) rfl (p_Ref_targetOf hw hG hq33) ?_ (fun E h' n' x' e1 => by cases e1.1)
    intro v9 h9 n9 x9 e9
    obtain ⟨e91, e92, e93⟩ := e9
    cases e91
    subst e92
    subst e93
    clear x
    rename Bool => x
    show J _ _ _ _ (_ :: _) _ _ _ _ _ _
    refine J_iload_n d_Ref_mayWrite_32 rfl ?_
    refine J_icmp_ne (tgt := 50) d_Ref_mayWrite_33 (by decide) ?_ ?_
    · intro c41
      rw [if_neg c41] at H
      refine J.drop [false, false, false, false, false, false, false, false] rfl ?_
      exact p_Ref_mayWrite_L50 hw hG  H
    · intro c41
      rw [if_pos c41] at H
      refine J_aload_n d_Ref_mayWrite_36 rfl ?_
      refine J_aload_n d_Ref_mayWrite_37 rfl ?_
      refine J_iconst (v := 1) d_Ref_mayWrite_38 (by decide) ?_
      refine J_iload_n d_Ref_mayWrite_39 rfl ?_
      refine J_iconst (v := 0) d_Ref_mayWrite_40 (by decide) ?_
      obtain ⟨q34, hq34, H⟩ := Option.bind_eq_some_iff.mp H
      refine J_callV (kc := 0) (ks := 0) (kc' := 0) (ks' := 0) (a := this) (ci := 12) (as := [.int (1 : Int32), .int p1, .int (0 : Int32)]) (st := [.ref this]) (mf_Ref_rowOf hw) (mv_Ref_388 hw) d_Ref_mayWrite_41 ln_Ref_rowOf (by decide) (by first | exact Nat.le_of_ble_eq_true rfl | (simp only [List.map_cons, List.map_nil, List.sum_cons, List.sum_nil, va_rf_cat]; exact Nat.le_of_ble_eq_true rfl)) rfl ((hG _).1 _ g24 (by decide)).1 ((hG _).1 _ g24 (by decide)).2 (by unfold pic; rw [g24]; rfl) (jcl_at hw rfl) rfl (p_Ref_rowOf hw hG hq34) ?_ (fun E h' n' x' e1 => by cases e1.1)
      intro v9 h9 n9 x9 e9
      obtain ⟨e91, e92, e93⟩ := e9
      cases e91
      subst e92
      subst e93
      clear x
      rename Bool => x
      show J _ _ _ _ (_ :: _) _ _ _ _ _ _
      obtain ⟨q35, hq35, H⟩ := Option.bind_eq_some_iff.mp H
      refine J_callV (kc := 0) (ks := 0) (kc' := 0) (ks' := 0) (a := this) (ci := 12) (as := [.int q34.1]) (st := []) (mf_Ref_hasRoom hw) (mv_Ref_392 hw) d_Ref_mayWrite_44 ln_Ref_hasRoom (by decide) (by first | exact Nat.le_of_ble_eq_true rfl | (simp only [List.map_cons, List.map_nil, List.sum_cons, List.sum_nil, va_rf_cat]; exact Nat.le_of_ble_eq_true rfl)) rfl ((hG _).1 _ g24 (by decide)).1 ((hG _).1 _ g24 (by decide)).2 (by unfold pic; rw [g24]; rfl) (jcl_at hw rfl) rfl (p_Ref_hasRoom hw hG hq35) ?_ (fun E h' n' x' e1 => by cases e1.1)
      intro v9 h9 n9 x9 e9
      obtain ⟨e91, e92, e93⟩ := e9
      cases e91
      subst e92
      subst e93
      clear x
      rename Bool => x
      show J _ _ _ _ (_ :: _) _ _ _ _ _ _
      refine J_if_ne (tgt := 52) d_Ref_mayWrite_47 (by decide) ?_ ?_
      · intro c40
        rw [if_neg c40] at H
        refine J_aload_n d_Ref_mayWrite_52 rfl ?_
        refine F_getR (ci := 12) (k := 39) hG (cf_Ref hw) (fl_Ref_106 hw) (by decide) (by decide) rfl d_Ref_mayWrite_53 g24 ?_
        refine J_iconst (v := 4) d_Ref_mayWrite_56 (by decide) ?_
        refine J_iload_n d_Ref_mayWrite_57 rfl ?_
        refine J_imul d_Ref_mayWrite_58 ?_
        obtain ⟨a36, ha36, H⟩ := Option.bind_eq_some_iff.mp H
        rw [j_rf ha36]
        obtain ⟨N37, hN37, H⟩ := Option.bind_eq_some_iff.mp H
        obtain ⟨k38, hk38, H⟩ := Option.bind_eq_some_iff.mp H
        refine F_lald k38 hw hG d_Ref_mayWrite_59 (gA_some hN37) (ix_some hk38) ?_
        obtain ⟨q39, hq39, H⟩ := Option.bind_eq_some_iff.mp H
        refine J_callS (kc := 0) (ks := 0) (kc' := 0) (ks' := 0) (as := [.long (q35.2.2.1 a36 k38)]) (st := []) (mf_Ref_idOf hw) (ms_Ref_396 hw) d_Ref_mayWrite_60 ln_Ref_idOf (by decide) (by first | exact Nat.le_of_ble_eq_true rfl | (simp only [List.map_cons, List.map_nil, List.sum_cons, List.sum_nil, va_rf_cat]; exact Nat.le_of_ble_eq_true rfl)) rfl (p_Ref_idOf hw hG hq39) ?_ (fun E h' n' x' e1 => by cases e1.1)
        intro v9 h9 n9 x9 e9
        obtain ⟨e91, e92, e93⟩ := e9
        cases e91
        subst e92
        subst e93
        clear x
        rename Bool => x
        show J _ _ _ _ (_ :: _) _ _ _ _ _ _
        refine J_istore d_Ref_mayWrite_63 (Nat.le_of_ble_eq_true rfl) ?_
        refine J_iconst (v := 0) d_Ref_mayWrite_65 (by decide) ?_
        refine J_istore d_Ref_mayWrite_66 (Nat.le_of_ble_eq_true rfl) ?_
        refine J_iconst (v := 1) d_Ref_mayWrite_68 (by decide) ?_
        refine J_istore d_Ref_mayWrite_69 (Nat.le_of_ble_eq_true rfl) ?_
        refine J_iconst (v := 0) d_Ref_mayWrite_71 (by decide) ?_
        refine J_istore d_Ref_mayWrite_72 (Nat.le_of_ble_eq_true rfl) ?_
        refine J.drop [true, true, true, false, true, true, true, true] rfl ?_
        exact p_Ref_mayWrite_L74 hw hG  _ H
      · intro c40
        rw [if_pos c40] at H
        refine J.drop [false, false, false, false, false, false, false, false] rfl ?_
        exact p_Ref_mayWrite_L50 hw hG  H
theorem ln_Ref_mayRead : (parseMethodDescriptor y_Ref_mayRead.desc).map (fun q => q.parameters.length) = some 2 := by decide +kernel
def f_Ref_mayRead_L157 (Γ : gm_T)  (φ : ph_T) (y0 : Int32) : Option (Int32 × ph_T) :=
  @ite _ (y0 = 0 ∨ y0 = 1) _ (
  some (y0, φ)
  ) none
set_option maxRecDepth 100000 in
set_option maxHeartbeats 4000000 in
theorem p_Ref_mayRead_L157 {w : jw_T} (hw : jok w) {Γ : gm_T} {n : Nat} (hG : gd w Γ n)  {x : Bool} {φ : ph_T} {y0 : Int32} {q : Int32 × ph_T} (H : f_Ref_mayRead_L157 Γ  φ y0 = some q) : J w M_Ref_mayRead 157 [none, none, none, none, none, none, none, none] [.int y0] (pic Γ φ) n x 0 0 (fq Γ n (.inl (some (.int q.1))) q.2) := by
  unfold f_Ref_mayRead_L157 at H
  have z1 : y0 = 0 ∨ y0 = 1 := by
    apply Classical.byContradiction
    intro q9
    rw [if_neg q9] at H
    cases H
  rw [if_pos z1] at H
  cases H
  exact J_iret (st := []) d_Ref_mayRead_157 rfl (narrow_z z1).1 ⟨rfl, rfl, rfl⟩
def f_Ref_mayRead_L156 (Γ : gm_T)  (φ : ph_T) : Option (Int32 × ph_T) :=
  f_Ref_mayRead_L157 Γ  φ (0 : Int32)
set_option maxRecDepth 100000 in
set_option maxHeartbeats 4000000 in
theorem p_Ref_mayRead_L156 {w : jw_T} (hw : jok w) {Γ : gm_T} {n : Nat} (hG : gd w Γ n)  {x : Bool} {φ : ph_T} {q : Int32 × ph_T} (H : f_Ref_mayRead_L156 Γ  φ  = some q) : J w M_Ref_mayRead 156 [none, none, none, none, none, none, none, none] [] (pic Γ φ) n x 0 0 (fq Γ n (.inl (some (.int q.1))) q.2) := by
  unfold f_Ref_mayRead_L156 at H
  refine J_iconst (v := 0) d_Ref_mayRead_156 (by decide) ?_
  refine J.drop [false, false, false, false, false, false, false, false] rfl ?_
  exact p_Ref_mayRead_L157 hw hG  H
def f_Ref_mayRead_L132 (Γ : gm_T) (Kc74 : ph_T → Nat → Int32 → Int32 → Int32 → Int32 → Int32 → Int32 → Option (Int32 × ph_T)) (φ : ph_T) (x0 : Nat) (x1 : Int32) (x2 : Int32) (x4 : Int32) (x5 : Int32) (x6 : Int32) (x7 : Int32) : Option (Int32 × ph_T) :=
  Kc74 φ x0 x1 x2 x4 x5 x6 (x7 + (1 : Int32))
set_option maxRecDepth 100000 in
set_option maxHeartbeats 4000000 in
theorem p_Ref_mayRead_L132 {w : jw_T} (hw : jok w) {Γ : gm_T} {n : Nat} (hG : gd w Γ n) {Kc74 : ph_T → Nat → Int32 → Int32 → Int32 → Int32 → Int32 → Int32 → Option (Int32 × ph_T)} (hKc74 : ∀ {x : Bool} {φ : ph_T} {x0 : Nat} {x1 : Int32} {x2 : Int32} {x4 : Int32} {x5 : Int32} {x6 : Int32} {x7 : Int32} {q : Int32 × ph_T}, Kc74 φ x0 x1 x2 x4 x5 x6 x7 = some q → J w M_Ref_mayRead 74 [some (.ref x0), some (.int x1), some (.int x2), none, some (.int x4), some (.int x5), some (.int x6), some (.int x7)] [] (pic Γ φ) n x 0 0 (fq Γ n (.inl (some (.int q.1))) q.2)) {x : Bool} {φ : ph_T} {x0 : Nat} {x1 : Int32} {x2 : Int32} {x4 : Int32} {x5 : Int32} {x6 : Int32} {x7 : Int32} {q : Int32 × ph_T} (H : f_Ref_mayRead_L132 Γ Kc74 φ x0 x1 x2 x4 x5 x6 x7 = some q) : J w M_Ref_mayRead 132 [some (.ref x0), some (.int x1), some (.int x2), none, some (.int x4), some (.int x5), some (.int x6), some (.int x7)] [] (pic Γ φ) n x 0 0 (fq Γ n (.inl (some (.int q.1))) q.2) := by
  unfold f_Ref_mayRead_L132 at H
  refine J_iinc (v := x7 + 1) d_Ref_mayRead_132 rfl (by rw [show Int32.ofInt 1 = (1 : Int32) from by decide]) ?_
  refine J_goto (tgt := 74) d_Ref_mayRead_135 (by decide) ?_
  refine J.drop [true, true, true, false, true, true, true, true] rfl ?_
  exact hKc74 H
def f_Ref_mayRead_L130 (Γ : gm_T) (Kc74 : ph_T → Nat → Int32 → Int32 → Int32 → Int32 → Int32 → Int32 → Option (Int32 × ph_T)) (φ : ph_T) (x0 : Nat) (x1 : Int32) (x2 : Int32) (x4 : Int32) (x5 : Int32) (x7 : Int32) (y0 : Int32) : Option (Int32 × ph_T) :=
  f_Ref_mayRead_L132 Γ Kc74 φ x0 x1 x2 x4 x5 y0 x7
set_option maxRecDepth 100000 in
set_option maxHeartbeats 4000000 in
theorem p_Ref_mayRead_L130 {w : jw_T} (hw : jok w) {Γ : gm_T} {n : Nat} (hG : gd w Γ n) {Kc74 : ph_T → Nat → Int32 → Int32 → Int32 → Int32 → Int32 → Int32 → Option (Int32 × ph_T)} (hKc74 : ∀ {x : Bool} {φ : ph_T} {x0 : Nat} {x1 : Int32} {x2 : Int32} {x4 : Int32} {x5 : Int32} {x6 : Int32} {x7 : Int32} {q : Int32 × ph_T}, Kc74 φ x0 x1 x2 x4 x5 x6 x7 = some q → J w M_Ref_mayRead 74 [some (.ref x0), some (.int x1), some (.int x2), none, some (.int x4), some (.int x5), some (.int x6), some (.int x7)] [] (pic Γ φ) n x 0 0 (fq Γ n (.inl (some (.int q.1))) q.2)) {x : Bool} {φ : ph_T} {x0 : Nat} {x1 : Int32} {x2 : Int32} {x4 : Int32} {x5 : Int32} {x7 : Int32} {y0 : Int32} {q : Int32 × ph_T} (H : f_Ref_mayRead_L130 Γ Kc74 φ x0 x1 x2 x4 x5 x7 y0 = some q) : J w M_Ref_mayRead 130 [some (.ref x0), some (.int x1), some (.int x2), none, some (.int x4), some (.int x5), none, some (.int x7)] [.int y0] (pic Γ φ) n x 0 0 (fq Γ n (.inl (some (.int q.1))) q.2) := by
  unfold f_Ref_mayRead_L130 at H
  refine J_istore d_Ref_mayRead_130 (Nat.le_of_ble_eq_true rfl) ?_
  refine J.drop [true, true, true, false, true, true, true, true] rfl ?_
  exact p_Ref_mayRead_L132 hw hG hKc74 H
def f_Ref_mayRead_L129 (Γ : gm_T) (Kc74 : ph_T → Nat → Int32 → Int32 → Int32 → Int32 → Int32 → Int32 → Option (Int32 × ph_T)) (φ : ph_T) (x0 : Nat) (x1 : Int32) (x2 : Int32) (x4 : Int32) (x5 : Int32) (x7 : Int32) : Option (Int32 × ph_T) :=
  f_Ref_mayRead_L130 Γ Kc74 φ x0 x1 x2 x4 x5 x7 (0 : Int32)
set_option maxRecDepth 100000 in
set_option maxHeartbeats 4000000 in
theorem p_Ref_mayRead_L129 {w : jw_T} (hw : jok w) {Γ : gm_T} {n : Nat} (hG : gd w Γ n) {Kc74 : ph_T → Nat → Int32 → Int32 → Int32 → Int32 → Int32 → Int32 → Option (Int32 × ph_T)} (hKc74 : ∀ {x : Bool} {φ : ph_T} {x0 : Nat} {x1 : Int32} {x2 : Int32} {x4 : Int32} {x5 : Int32} {x6 : Int32} {x7 : Int32} {q : Int32 × ph_T}, Kc74 φ x0 x1 x2 x4 x5 x6 x7 = some q → J w M_Ref_mayRead 74 [some (.ref x0), some (.int x1), some (.int x2), none, some (.int x4), some (.int x5), some (.int x6), some (.int x7)] [] (pic Γ φ) n x 0 0 (fq Γ n (.inl (some (.int q.1))) q.2)) {x : Bool} {φ : ph_T} {x0 : Nat} {x1 : Int32} {x2 : Int32} {x4 : Int32} {x5 : Int32} {x7 : Int32} {q : Int32 × ph_T} (H : f_Ref_mayRead_L129 Γ Kc74 φ x0 x1 x2 x4 x5 x7 = some q) : J w M_Ref_mayRead 129 [some (.ref x0), some (.int x1), some (.int x2), none, some (.int x4), some (.int x5), none, some (.int x7)] [] (pic Γ φ) n x 0 0 (fq Γ n (.inl (some (.int q.1))) q.2) := by
  unfold f_Ref_mayRead_L129 at H
  refine J_iconst (v := 0) d_Ref_mayRead_129 (by decide) ?_
  refine J.drop [true, true, true, false, true, true, false, true] rfl ?_
  exact p_Ref_mayRead_L130 hw hG hKc74 H
def f_Ref_mayRead_L125 (Γ : gm_T) (Kc74 : ph_T → Nat → Int32 → Int32 → Int32 → Int32 → Int32 → Int32 → Option (Int32 × ph_T)) (φ : ph_T) (x0 : Nat) (x1 : Int32) (x2 : Int32) (x4 : Int32) (x5 : Int32) (x7 : Int32) : Option (Int32 × ph_T) :=
  f_Ref_mayRead_L130 Γ Kc74 φ x0 x1 x2 x4 x5 x7 (1 : Int32)
set_option maxRecDepth 100000 in
set_option maxHeartbeats 4000000 in
theorem p_Ref_mayRead_L125 {w : jw_T} (hw : jok w) {Γ : gm_T} {n : Nat} (hG : gd w Γ n) {Kc74 : ph_T → Nat → Int32 → Int32 → Int32 → Int32 → Int32 → Int32 → Option (Int32 × ph_T)} (hKc74 : ∀ {x : Bool} {φ : ph_T} {x0 : Nat} {x1 : Int32} {x2 : Int32} {x4 : Int32} {x5 : Int32} {x6 : Int32} {x7 : Int32} {q : Int32 × ph_T}, Kc74 φ x0 x1 x2 x4 x5 x6 x7 = some q → J w M_Ref_mayRead 74 [some (.ref x0), some (.int x1), some (.int x2), none, some (.int x4), some (.int x5), some (.int x6), some (.int x7)] [] (pic Γ φ) n x 0 0 (fq Γ n (.inl (some (.int q.1))) q.2)) {x : Bool} {φ : ph_T} {x0 : Nat} {x1 : Int32} {x2 : Int32} {x4 : Int32} {x5 : Int32} {x7 : Int32} {q : Int32 × ph_T} (H : f_Ref_mayRead_L125 Γ Kc74 φ x0 x1 x2 x4 x5 x7 = some q) : J w M_Ref_mayRead 125 [some (.ref x0), some (.int x1), some (.int x2), none, some (.int x4), some (.int x5), none, some (.int x7)] [] (pic Γ φ) n x 0 0 (fq Γ n (.inl (some (.int q.1))) q.2) := by
  unfold f_Ref_mayRead_L125 at H
  refine J_iconst (v := 1) d_Ref_mayRead_125 (by decide) ?_
  refine J_goto (tgt := 130) d_Ref_mayRead_126 (by decide) ?_
  refine J.drop [true, true, true, false, true, true, false, true] rfl ?_
  exact p_Ref_mayRead_L130 hw hG hKc74 H
def f_Ref_mayRead_L74 (Γ : gm_T)  : Nat → ph_T → Nat → Int32 → Int32 → Int32 → Int32 → Int32 → Int32 → Option (Int32 × ph_T)
  | 0, _, _, _, _, _, _, _, _ => none
  | fu + 1, φ, x0, x1, x2, x4, x5, x6, x7 =>
    @ite _ (Γ x0 = .inr 12) _ (
    if (φ.1 x0 51) ≤ x7 then
      if x6 = 0 then
        f_Ref_mayRead_L156 Γ  φ 
      else
        if (φ.1 x0 3) ≤ x5 then
          f_Ref_mayRead_L156 Γ  φ 
        else
          f_Ref_mayRead_L157 Γ  φ (1 : Int32)
    else
      Option.bind (φ.2.2 x0 48) fun a5 =>
      Option.bind (gA Γ a5 0) fun N6 =>
      Option.bind (ix x7 N6) fun k7 =>
      if (φ.1 a5 k7) = x1 then
        if x6 = 0 then
          f_Ref_mayRead_L129 Γ (f_Ref_mayRead_L74 Γ  fu) φ x0 x1 x2 x4 (x5 + (1 : Int32)) x7
        else
          Option.bind (φ.2.2 x0 50) fun a8 =>
          Option.bind (gA Γ a8 0) fun N9 =>
          Option.bind (ix x7 N9) fun k10 =>
          if (φ.1 a8 k10) = x2 then
            f_Ref_mayRead_L125 Γ (f_Ref_mayRead_L74 Γ  fu) φ x0 x1 x2 x4 (x5 + (1 : Int32)) x7
          else
            Option.bind (φ.2.2 x0 49) fun a11 =>
            Option.bind (gA Γ a11 0) fun N12 =>
            Option.bind (ix x7 N12) fun k13 =>
            if (φ.1 a11 k13) = x4 then
              f_Ref_mayRead_L129 Γ (f_Ref_mayRead_L74 Γ  fu) φ x0 x1 x2 x4 (x5 + (1 : Int32)) x7
            else
              f_Ref_mayRead_L125 Γ (f_Ref_mayRead_L74 Γ  fu) φ x0 x1 x2 x4 (x5 + (1 : Int32)) x7
      else
        f_Ref_mayRead_L132 Γ (f_Ref_mayRead_L74 Γ  fu) φ x0 x1 x2 x4 x5 x6 x7
    ) none
set_option maxRecDepth 100000 in
set_option maxHeartbeats 4000000 in
theorem p_Ref_mayRead_L74 {w : jw_T} (hw : jok w) {Γ : gm_T} {n : Nat} (hG : gd w Γ n)  : ∀ (fu : Nat) {x : Bool} {φ : ph_T} {x0 : Nat} {x1 : Int32} {x2 : Int32} {x4 : Int32} {x5 : Int32} {x6 : Int32} {x7 : Int32} {q : Int32 × ph_T}, f_Ref_mayRead_L74 Γ  fu φ x0 x1 x2 x4 x5 x6 x7 = some q → J w M_Ref_mayRead 74 [some (.ref x0), some (.int x1), some (.int x2), none, some (.int x4), some (.int x5), some (.int x6), some (.int x7)] [] (pic Γ φ) n x 0 0 (fq Γ n (.inl (some (.int q.1))) q.2) := by
  intro fu
  induction fu with
  | zero =>
    intro x φ x0 x1 x2 x4 x5 x6 x7 q H
    cases H
  | succ fu ih =>
    intro x φ x0 x1 x2 x4 x5 x6 x7 q H
    unfold f_Ref_mayRead_L74 at H
    refine J_iload d_Ref_mayRead_74 rfl ?_
    refine J_aload_n d_Ref_mayRead_76 rfl ?_
    have g2 : Γ x0 = .inr 12 := by
      apply Classical.byContradiction
      intro q9
      rw [if_neg q9] at H
      cases H
    rw [if_pos g2] at H
    refine F_getI (ci := 12) (k := 51) hG (cf_Ref hw) (fl_Ref_529 hw) (by decide) (by decide) rfl d_Ref_mayRead_77 g2 ?_
    refine J_icmp_ge (tgt := 138) d_Ref_mayRead_80 (by decide) ?_ ?_
    · intro c18
      rw [if_pos c18] at H
      refine J_iload d_Ref_mayRead_138 rfl ?_
      refine J_if_eq (tgt := 156) d_Ref_mayRead_140 (by decide) ?_ ?_
      · intro c4
        rw [if_pos c4] at H
        refine J.drop [false, false, false, false, false, false, false, false] rfl ?_
        exact p_Ref_mayRead_L156 hw hG  H
      · intro c4
        rw [if_neg c4] at H
        refine J_iload d_Ref_mayRead_143 rfl ?_
        refine J_aload_n d_Ref_mayRead_145 rfl ?_
        refine F_getI (ci := 12) (k := 3) hG (cf_Ref hw) (fl_Ref_297 hw) (by decide) (by decide) rfl d_Ref_mayRead_146 g2 ?_
        refine J_icmp_ge (tgt := 156) d_Ref_mayRead_149 (by decide) ?_ ?_
        · intro c3
          rw [if_pos c3] at H
          refine J.drop [false, false, false, false, false, false, false, false] rfl ?_
          exact p_Ref_mayRead_L156 hw hG  H
        · intro c3
          rw [if_neg c3] at H
          refine J_iconst (v := 1) d_Ref_mayRead_152 (by decide) ?_
          refine J_goto (tgt := 157) d_Ref_mayRead_153 (by decide) ?_
          refine J.drop [false, false, false, false, false, false, false, false] rfl ?_
          exact p_Ref_mayRead_L157 hw hG  H
    · intro c18
      rw [if_neg c18] at H
      refine J_aload_n d_Ref_mayRead_83 rfl ?_
      refine F_getR (ci := 12) (k := 48) hG (cf_Ref hw) (fl_Ref_130 hw) (by decide) (by decide) rfl d_Ref_mayRead_84 g2 ?_
      refine J_iload d_Ref_mayRead_87 rfl ?_
      obtain ⟨a5, ha5, H⟩ := Option.bind_eq_some_iff.mp H
      rw [j_rf ha5]
      obtain ⟨N6, hN6, H⟩ := Option.bind_eq_some_iff.mp H
      obtain ⟨k7, hk7, H⟩ := Option.bind_eq_some_iff.mp H
      refine F_iald k7 hw hG d_Ref_mayRead_89 (gA_some hN6) (ix_some hk7) ?_
      refine J_iload_n d_Ref_mayRead_90 rfl ?_
      refine J_icmp_ne (tgt := 132) d_Ref_mayRead_91 (by decide) ?_ ?_
      · intro c17
        rw [if_neg c17] at H
        refine J.drop [true, true, true, false, true, true, true, true] rfl ?_
        exact p_Ref_mayRead_L132 hw hG ih H
      · intro c17
        rw [if_pos c17] at H
        refine J_iinc (v := x5 + 1) d_Ref_mayRead_94 rfl (by rw [show Int32.ofInt 1 = (1 : Int32) from by decide]) ?_
        refine J_iload d_Ref_mayRead_97 rfl ?_
        refine J_if_eq (tgt := 129) d_Ref_mayRead_99 (by decide) ?_ ?_
        · intro c16
          rw [if_pos c16] at H
          refine J.drop [true, true, true, false, true, true, false, true] rfl ?_
          exact p_Ref_mayRead_L129 hw hG ih H
        · intro c16
          rw [if_neg c16] at H
          refine J_aload_n d_Ref_mayRead_102 rfl ?_
          refine F_getR (ci := 12) (k := 50) hG (cf_Ref hw) (fl_Ref_136 hw) (by decide) (by decide) rfl d_Ref_mayRead_103 g2 ?_
          refine J_iload d_Ref_mayRead_106 rfl ?_
          obtain ⟨a8, ha8, H⟩ := Option.bind_eq_some_iff.mp H
          rw [j_rf ha8]
          obtain ⟨N9, hN9, H⟩ := Option.bind_eq_some_iff.mp H
          obtain ⟨k10, hk10, H⟩ := Option.bind_eq_some_iff.mp H
          refine F_iald k10 hw hG d_Ref_mayRead_108 (gA_some hN9) (ix_some hk10) ?_
          refine J_iload_n d_Ref_mayRead_109 rfl ?_
          refine J_icmp_eq (tgt := 125) d_Ref_mayRead_110 (by decide) ?_ ?_
          · intro c15
            rw [if_pos c15] at H
            refine J.drop [true, true, true, false, true, true, false, true] rfl ?_
            exact p_Ref_mayRead_L125 hw hG ih H
          · intro c15
            rw [if_neg c15] at H
            refine J_aload_n d_Ref_mayRead_113 rfl ?_
            refine F_getR (ci := 12) (k := 49) hG (cf_Ref hw) (fl_Ref_133 hw) (by decide) (by decide) rfl d_Ref_mayRead_114 g2 ?_
            refine J_iload d_Ref_mayRead_117 rfl ?_
            obtain ⟨a11, ha11, H⟩ := Option.bind_eq_some_iff.mp H
            rw [j_rf ha11]
            obtain ⟨N12, hN12, H⟩ := Option.bind_eq_some_iff.mp H
            obtain ⟨k13, hk13, H⟩ := Option.bind_eq_some_iff.mp H
            refine F_iald k13 hw hG d_Ref_mayRead_119 (gA_some hN12) (ix_some hk13) ?_
            refine J_iload d_Ref_mayRead_120 rfl ?_
            refine J_icmp_eq (tgt := 129) d_Ref_mayRead_122 (by decide) ?_ ?_
            · intro c14
              rw [if_pos c14] at H
              refine J.drop [true, true, true, false, true, true, false, true] rfl ?_
              exact p_Ref_mayRead_L129 hw hG ih H
            · intro c14
              rw [if_neg c14] at H
              refine J.drop [true, true, true, false, true, true, false, true] rfl ?_
              exact p_Ref_mayRead_L125 hw hG ih H
def f_Ref_mayRead_L50 (Γ : gm_T)  (φ : ph_T) : Option (Int32 × ph_T) :=
  @ite _ ((0 : Int32) = 0 ∨ (0 : Int32) = 1) _ (
  some ((0 : Int32), φ)
  ) none
set_option maxRecDepth 100000 in
set_option maxHeartbeats 4000000 in
theorem p_Ref_mayRead_L50 {w : jw_T} (hw : jok w) {Γ : gm_T} {n : Nat} (hG : gd w Γ n)  {x : Bool} {φ : ph_T} {q : Int32 × ph_T} (H : f_Ref_mayRead_L50 Γ  φ  = some q) : J w M_Ref_mayRead 50 [none, none, none, none, none, none, none, none] [] (pic Γ φ) n x 0 0 (fq Γ n (.inl (some (.int q.1))) q.2) := by
  unfold f_Ref_mayRead_L50 at H
  refine J_iconst (v := 0) d_Ref_mayRead_50 (by decide) ?_
  have z19 : (0 : Int32) = 0 ∨ (0 : Int32) = 1 := by
    apply Classical.byContradiction
    intro q9
    rw [if_neg q9] at H
    cases H
  rw [if_pos z19] at H
  cases H
  exact J_iret (st := []) d_Ref_mayRead_51 rfl (narrow_z z19).1 ⟨rfl, rfl, rfl⟩
def f_Ref_mayRead (Γ : gm_T) (φ : ph_T) (this : Nat) (p0 : Int32) (p1 : Int32) : Option (Int32 × ph_T) :=
  @ite _ (Γ this = .inr 12) _ (
  Option.bind (f_Ref_rowOf Γ φ this (0 : Int32) p0 (3 : Int32)) fun q21 =>
  Option.bind (q21.2.2.2 this 42) fun a22 =>
  Option.bind (gA Γ a22 0) fun N23 =>
  Option.bind (ix q21.1 N23) fun k24 =>
  if (q21.2.1 a22 k24) = 0 then
    f_Ref_mayRead_L50 Γ  q21.2 
  else
    Option.bind (q21.2.2.2 this 39) fun a25 =>
    Option.bind (gA Γ a25 1) fun N26 =>
    Option.bind (ix ((4 : Int32) * q21.1) N26) fun k27 =>
    Option.bind (f_Ref_addressOf Γ q21.2 (q21.2.2.1 a25 k27)) fun q28 =>
    Option.bind (f_Ref_targetOf Γ q28.2 this q28.1) fun q29 =>
    if q29.1 = p1 then
      Option.bind (f_Ref_rowOf Γ q29.2 this (1 : Int32) p1 (3 : Int32)) fun q30 =>
      Option.bind (f_Ref_hasRoom Γ q30.2 this q30.1) fun q31 =>
      if q31.1 = 0 then
        f_Ref_mayRead_L50 Γ  q31.2 
      else
        Option.bind (q31.2.2.2 this 39) fun a32 =>
        Option.bind (gA Γ a32 1) fun N33 =>
        Option.bind (ix ((4 : Int32) * q21.1) N33) fun k34 =>
        Option.bind (f_Ref_idOf Γ q31.2 (q31.2.2.1 a32 k34)) fun q35 =>
        f_Ref_mayRead_L74 Γ  jF q35.2 this p0 p1 q35.1 (0 : Int32) (1 : Int32) (0 : Int32)
    else
      f_Ref_mayRead_L50 Γ  q29.2 
  ) none
set_option maxRecDepth 100000 in
set_option maxHeartbeats 4000000 in
theorem p_Ref_mayRead {w : jw_T} (hw : jok w) {Γ : gm_T} {n : Nat} (hG : gd w Γ n) {x : Bool} {φ : ph_T} {this : Nat} {p0 : Int32} {p1 : Int32} {q : Int32 × ph_T} (H : f_Ref_mayRead Γ φ this p0 p1 = some q) : jc w M_Ref_mayRead [.ref this, .int p0, .int p1] (pic Γ φ) n x 0 0 (fq Γ n (.inl (some (.int q.1))) q.2) := by
  refine jc.of (by simp only [jent_r, jent_i, jent_l, jent_a, jent_0]; exact Nat.le_of_ble_eq_true rfl) ?_
  have hls : jents [.ref this, .int p0, .int p1] (jm_nL M_Ref_mayRead) = [some (.ref this), some (.int p0), some (.int p1), none, none, none, none, none] := by simp only [jents, jent_r, jent_i, jent_l, jent_a, jent_0]; rfl
  rw [hls]
  clear hls
  unfold f_Ref_mayRead at H
  refine J_aload_n d_Ref_mayRead_0 rfl ?_
  refine J_iconst (v := 0) d_Ref_mayRead_1 (by decide) ?_
  refine J_iload_n d_Ref_mayRead_2 rfl ?_
  refine J_iconst (v := 3) d_Ref_mayRead_3 (by decide) ?_
  have g20 : Γ this = .inr 12 := by
    apply Classical.byContradiction
    intro q9
    rw [if_neg q9] at H
    cases H
  rw [if_pos g20] at H
  obtain ⟨q21, hq21, H⟩ := Option.bind_eq_some_iff.mp H
  refine J_callV (kc := 0) (ks := 0) (kc' := 0) (ks' := 0) (a := this) (ci := 12) (as := [.int (0 : Int32), .int p0, .int (3 : Int32)]) (st := []) (mf_Ref_rowOf hw) (mv_Ref_388 hw) d_Ref_mayRead_4 ln_Ref_rowOf (by decide) (by first | exact Nat.le_of_ble_eq_true rfl | (simp only [List.map_cons, List.map_nil, List.sum_cons, List.sum_nil, va_rf_cat]; exact Nat.le_of_ble_eq_true rfl)) rfl ((hG _).1 _ g20 (by decide)).1 ((hG _).1 _ g20 (by decide)).2 (by unfold pic; rw [g20]; rfl) (jcl_at hw rfl) rfl (p_Ref_rowOf hw hG hq21) ?_ (fun E h' n' x' e1 => by cases e1.1)
  intro v9 h9 n9 x9 e9
  obtain ⟨e91, e92, e93⟩ := e9
  cases e91
  subst e92
  subst e93
  clear x
  rename Bool => x
  show J _ _ _ _ (_ :: _) _ _ _ _ _ _
  refine J_istore_n d_Ref_mayRead_7 (Nat.le_of_ble_eq_true rfl) ?_
  refine J_aload_n d_Ref_mayRead_8 rfl ?_
  refine F_getR (ci := 12) (k := 42) hG (cf_Ref hw) (fl_Ref_115 hw) (by decide) (by decide) rfl d_Ref_mayRead_9 g20 ?_
  refine J_iload_n d_Ref_mayRead_12 rfl ?_
  obtain ⟨a22, ha22, H⟩ := Option.bind_eq_some_iff.mp H
  rw [j_rf ha22]
  obtain ⟨N23, hN23, H⟩ := Option.bind_eq_some_iff.mp H
  obtain ⟨k24, hk24, H⟩ := Option.bind_eq_some_iff.mp H
  refine F_iald k24 hw hG d_Ref_mayRead_13 (gA_some hN23) (ix_some hk24) ?_
  refine J_if_eq (tgt := 50) d_Ref_mayRead_14 (by decide) ?_ ?_
  · intro c38
    rw [if_pos c38] at H
    refine J.drop [false, false, false, false, false, false, false, false] rfl ?_
    exact p_Ref_mayRead_L50 hw hG  H
  · intro c38
    rw [if_neg c38] at H
    refine J_aload_n d_Ref_mayRead_17 rfl ?_
    refine J_aload_n d_Ref_mayRead_18 rfl ?_
    refine F_getR (ci := 12) (k := 39) hG (cf_Ref hw) (fl_Ref_106 hw) (by decide) (by decide) rfl d_Ref_mayRead_19 g20 ?_
    refine J_iconst (v := 4) d_Ref_mayRead_22 (by decide) ?_
    refine J_iload_n d_Ref_mayRead_23 rfl ?_
    refine J_imul d_Ref_mayRead_24 ?_
    obtain ⟨a25, ha25, H⟩ := Option.bind_eq_some_iff.mp H
    rw [j_rf ha25]
    obtain ⟨N26, hN26, H⟩ := Option.bind_eq_some_iff.mp H
    obtain ⟨k27, hk27, H⟩ := Option.bind_eq_some_iff.mp H
    refine F_lald k27 hw hG d_Ref_mayRead_25 (gA_some hN26) (ix_some hk27) ?_
    obtain ⟨q28, hq28, H⟩ := Option.bind_eq_some_iff.mp H
    refine J_callS (kc := 0) (ks := 0) (kc' := 0) (ks' := 0) (as := [.long (q21.2.2.1 a25 k27)]) (st := [.ref this]) (mf_Ref_addressOf hw) (ms_Ref_314 hw) d_Ref_mayRead_26 ln_Ref_addressOf (by decide) (by first | exact Nat.le_of_ble_eq_true rfl | (simp only [List.map_cons, List.map_nil, List.sum_cons, List.sum_nil, va_rf_cat]; exact Nat.le_of_ble_eq_true rfl)) rfl (p_Ref_addressOf hw hG hq28) ?_ (fun E h' n' x' e1 => by cases e1.1)
    intro v9 h9 n9 x9 e9
    obtain ⟨e91, e92, e93⟩ := e9
    cases e91
    subst e92
    subst e93
    clear x
    rename Bool => x
    show J _ _ _ _ (_ :: _) _ _ _ _ _ _
    obtain ⟨q29, hq29, H⟩ := Option.bind_eq_some_iff.mp H
    refine J_callV (kc := 0) (ks := 0) (kc' := 0) (ks' := 0) (a := this) (ci := 12) (as := [.int q28.1]) (st := []) (mf_Ref_targetOf hw) (mv_Ref_523 hw) d_Ref_mayRead_29 ln_Ref_targetOf (by decide) (by first | exact Nat.le_of_ble_eq_true rfl | (simp only [List.map_cons, List.map_nil, List.sum_cons, List.sum_nil, va_rf_cat]; exact Nat.le_of_ble_eq_true rfl)) rfl ((hG _).1 _ g20 (by decide)).1 ((hG _).1 _ g20 (by decide)).2 (by unfold pic; rw [g20]; rfl) (jcl_at hw rfl) rfl (p_Ref_targetOf hw hG hq29) ?_ (fun E h' n' x' e1 => by cases e1.1)
    intro v9 h9 n9 x9 e9
    obtain ⟨e91, e92, e93⟩ := e9
    cases e91
    subst e92
    subst e93
    clear x
    rename Bool => x
    show J _ _ _ _ (_ :: _) _ _ _ _ _ _
    refine J_iload_n d_Ref_mayRead_32 rfl ?_
    refine J_icmp_ne (tgt := 50) d_Ref_mayRead_33 (by decide) ?_ ?_
    · intro c37
      rw [if_neg c37] at H
      refine J.drop [false, false, false, false, false, false, false, false] rfl ?_
      exact p_Ref_mayRead_L50 hw hG  H
    · intro c37
      rw [if_pos c37] at H
      refine J_aload_n d_Ref_mayRead_36 rfl ?_
      refine J_aload_n d_Ref_mayRead_37 rfl ?_
      refine J_iconst (v := 1) d_Ref_mayRead_38 (by decide) ?_
      refine J_iload_n d_Ref_mayRead_39 rfl ?_
      refine J_iconst (v := 3) d_Ref_mayRead_40 (by decide) ?_
      obtain ⟨q30, hq30, H⟩ := Option.bind_eq_some_iff.mp H
      refine J_callV (kc := 0) (ks := 0) (kc' := 0) (ks' := 0) (a := this) (ci := 12) (as := [.int (1 : Int32), .int p1, .int (3 : Int32)]) (st := [.ref this]) (mf_Ref_rowOf hw) (mv_Ref_388 hw) d_Ref_mayRead_41 ln_Ref_rowOf (by decide) (by first | exact Nat.le_of_ble_eq_true rfl | (simp only [List.map_cons, List.map_nil, List.sum_cons, List.sum_nil, va_rf_cat]; exact Nat.le_of_ble_eq_true rfl)) rfl ((hG _).1 _ g20 (by decide)).1 ((hG _).1 _ g20 (by decide)).2 (by unfold pic; rw [g20]; rfl) (jcl_at hw rfl) rfl (p_Ref_rowOf hw hG hq30) ?_ (fun E h' n' x' e1 => by cases e1.1)
      intro v9 h9 n9 x9 e9
      obtain ⟨e91, e92, e93⟩ := e9
      cases e91
      subst e92
      subst e93
      clear x
      rename Bool => x
      show J _ _ _ _ (_ :: _) _ _ _ _ _ _
      obtain ⟨q31, hq31, H⟩ := Option.bind_eq_some_iff.mp H
      refine J_callV (kc := 0) (ks := 0) (kc' := 0) (ks' := 0) (a := this) (ci := 12) (as := [.int q30.1]) (st := []) (mf_Ref_hasRoom hw) (mv_Ref_392 hw) d_Ref_mayRead_44 ln_Ref_hasRoom (by decide) (by first | exact Nat.le_of_ble_eq_true rfl | (simp only [List.map_cons, List.map_nil, List.sum_cons, List.sum_nil, va_rf_cat]; exact Nat.le_of_ble_eq_true rfl)) rfl ((hG _).1 _ g20 (by decide)).1 ((hG _).1 _ g20 (by decide)).2 (by unfold pic; rw [g20]; rfl) (jcl_at hw rfl) rfl (p_Ref_hasRoom hw hG hq31) ?_ (fun E h' n' x' e1 => by cases e1.1)
      intro v9 h9 n9 x9 e9
      obtain ⟨e91, e92, e93⟩ := e9
      cases e91
      subst e92
      subst e93
      clear x
      rename Bool => x
      show J _ _ _ _ (_ :: _) _ _ _ _ _ _
      refine J_if_ne (tgt := 52) d_Ref_mayRead_47 (by decide) ?_ ?_
      · intro c36
        rw [if_neg c36] at H
        refine J_aload_n d_Ref_mayRead_52 rfl ?_
        refine F_getR (ci := 12) (k := 39) hG (cf_Ref hw) (fl_Ref_106 hw) (by decide) (by decide) rfl d_Ref_mayRead_53 g20 ?_
        refine J_iconst (v := 4) d_Ref_mayRead_56 (by decide) ?_
        refine J_iload_n d_Ref_mayRead_57 rfl ?_
        refine J_imul d_Ref_mayRead_58 ?_
        obtain ⟨a32, ha32, H⟩ := Option.bind_eq_some_iff.mp H
        rw [j_rf ha32]
        obtain ⟨N33, hN33, H⟩ := Option.bind_eq_some_iff.mp H
        obtain ⟨k34, hk34, H⟩ := Option.bind_eq_some_iff.mp H
        refine F_lald k34 hw hG d_Ref_mayRead_59 (gA_some hN33) (ix_some hk34) ?_
        obtain ⟨q35, hq35, H⟩ := Option.bind_eq_some_iff.mp H
        refine J_callS (kc := 0) (ks := 0) (kc' := 0) (ks' := 0) (as := [.long (q31.2.2.1 a32 k34)]) (st := []) (mf_Ref_idOf hw) (ms_Ref_396 hw) d_Ref_mayRead_60 ln_Ref_idOf (by decide) (by first | exact Nat.le_of_ble_eq_true rfl | (simp only [List.map_cons, List.map_nil, List.sum_cons, List.sum_nil, va_rf_cat]; exact Nat.le_of_ble_eq_true rfl)) rfl (p_Ref_idOf hw hG hq35) ?_ (fun E h' n' x' e1 => by cases e1.1)
        intro v9 h9 n9 x9 e9
        obtain ⟨e91, e92, e93⟩ := e9
        cases e91
        subst e92
        subst e93
        clear x
        rename Bool => x
        show J _ _ _ _ (_ :: _) _ _ _ _ _ _
        refine J_istore d_Ref_mayRead_63 (Nat.le_of_ble_eq_true rfl) ?_
        refine J_iconst (v := 0) d_Ref_mayRead_65 (by decide) ?_
        refine J_istore d_Ref_mayRead_66 (Nat.le_of_ble_eq_true rfl) ?_
        refine J_iconst (v := 1) d_Ref_mayRead_68 (by decide) ?_
        refine J_istore d_Ref_mayRead_69 (Nat.le_of_ble_eq_true rfl) ?_
        refine J_iconst (v := 0) d_Ref_mayRead_71 (by decide) ?_
        refine J_istore d_Ref_mayRead_72 (Nat.le_of_ble_eq_true rfl) ?_
        refine J.drop [true, true, true, false, true, true, true, true] rfl ?_
        exact p_Ref_mayRead_L74 hw hG  _ H
      · intro c36
        rw [if_pos c36] at H
        refine J.drop [false, false, false, false, false, false, false, false] rfl ?_
        exact p_Ref_mayRead_L50 hw hG  H
theorem ln_Ref_urgencyOf : (parseMethodDescriptor y_Ref_urgencyOf.desc).map (fun q => q.parameters.length) = some 1 := by decide +kernel
def f_Ref_urgencyOf (Γ : gm_T) (φ : ph_T) (p0 : Int64) : Option (Int32 × ph_T) :=
  some ((Int64.toInt32 ((p0 >>> (Int32.toInt64 (31 : Int32) &&& 63)) &&& (15 : Int64))), φ)
set_option maxRecDepth 100000 in
set_option maxHeartbeats 4000000 in
theorem p_Ref_urgencyOf {w : jw_T} (hw : jok w) {Γ : gm_T} {n : Nat} (hG : gd w Γ n) {x : Bool} {φ : ph_T} {p0 : Int64} {q : Int32 × ph_T} (H : f_Ref_urgencyOf Γ φ p0 = some q) : jc w M_Ref_urgencyOf [.long p0] (pic Γ φ) n x 0 0 (fq Γ n (.inl (some (.int q.1))) q.2) := by
  refine jc.of (by simp only [jent_r, jent_i, jent_l, jent_a, jent_0]; exact Nat.le_of_ble_eq_true rfl) ?_
  have hls : jents [.long p0] (jm_nL M_Ref_urgencyOf) = [some (.long p0), none] := by simp only [jents, jent_r, jent_i, jent_l, jent_a, jent_0]; rfl
  rw [hls]
  clear hls
  unfold f_Ref_urgencyOf at H
  refine J_lload_n d_Ref_urgencyOf_0 rfl ?_
  refine J_bipush (v := 31) d_Ref_urgencyOf_1 (by decide) ?_
  refine J_lshr d_Ref_urgencyOf_3 ?_
  refine J_ldc2 (v := 15) d_Ref_urgencyOf_4 (kn_Ref_310 hw) ?_
  refine J_land d_Ref_urgencyOf_7 ?_
  refine J_l2i d_Ref_urgencyOf_8 ?_
  cases H
  exact J_iret (st := []) d_Ref_urgencyOf_9 rfl rfl ⟨rfl, rfl, rfl⟩
theorem ln_Ref_isBetter : (parseMethodDescriptor y_Ref_isBetter.desc).map (fun q => q.parameters.length) = some 3 := by decide +kernel
def f_Ref_isBetter_L129 (Γ : gm_T)  (φ : ph_T) (y0 : Int32) : Option (Int32 × ph_T) :=
  @ite _ (y0 = 0 ∨ y0 = 1) _ (
  some (y0, φ)
  ) none
set_option maxRecDepth 100000 in
set_option maxHeartbeats 4000000 in
theorem p_Ref_isBetter_L129 {w : jw_T} (hw : jok w) {Γ : gm_T} {n : Nat} (hG : gd w Γ n)  {x : Bool} {φ : ph_T} {y0 : Int32} {q : Int32 × ph_T} (H : f_Ref_isBetter_L129 Γ  φ y0 = some q) : J w M_Ref_isBetter 129 [none, none, none, none, none, none] [.int y0] (pic Γ φ) n x 0 0 (fq Γ n (.inl (some (.int q.1))) q.2) := by
  unfold f_Ref_isBetter_L129 at H
  have z1 : y0 = 0 ∨ y0 = 1 := by
    apply Classical.byContradiction
    intro q9
    rw [if_neg q9] at H
    cases H
  rw [if_pos z1] at H
  cases H
  exact J_iret (st := []) d_Ref_isBetter_129 rfl (narrow_z z1).1 ⟨rfl, rfl, rfl⟩
def f_Ref_isBetter_L128 (Γ : gm_T)  (φ : ph_T) : Option (Int32 × ph_T) :=
  f_Ref_isBetter_L129 Γ  φ (0 : Int32)
set_option maxRecDepth 100000 in
set_option maxHeartbeats 4000000 in
theorem p_Ref_isBetter_L128 {w : jw_T} (hw : jok w) {Γ : gm_T} {n : Nat} (hG : gd w Γ n)  {x : Bool} {φ : ph_T} {q : Int32 × ph_T} (H : f_Ref_isBetter_L128 Γ  φ  = some q) : J w M_Ref_isBetter 128 [none, none, none, none, none, none] [] (pic Γ φ) n x 0 0 (fq Γ n (.inl (some (.int q.1))) q.2) := by
  unfold f_Ref_isBetter_L128 at H
  refine J_iconst (v := 0) d_Ref_isBetter_128 (by decide) ?_
  refine J.drop [false, false, false, false, false, false] rfl ?_
  exact p_Ref_isBetter_L129 hw hG  H
def f_Ref_isBetter_L92 (Γ : gm_T)  (φ : ph_T) (y0 : Int32) : Option (Int32 × ph_T) :=
  @ite _ (y0 = 0 ∨ y0 = 1) _ (
  some (y0, φ)
  ) none
set_option maxRecDepth 100000 in
set_option maxHeartbeats 4000000 in
theorem p_Ref_isBetter_L92 {w : jw_T} (hw : jok w) {Γ : gm_T} {n : Nat} (hG : gd w Γ n)  {x : Bool} {φ : ph_T} {y0 : Int32} {q : Int32 × ph_T} (H : f_Ref_isBetter_L92 Γ  φ y0 = some q) : J w M_Ref_isBetter 92 [none, none, none, none, none, none] [.int y0] (pic Γ φ) n x 0 0 (fq Γ n (.inl (some (.int q.1))) q.2) := by
  unfold f_Ref_isBetter_L92 at H
  have z2 : y0 = 0 ∨ y0 = 1 := by
    apply Classical.byContradiction
    intro q9
    rw [if_neg q9] at H
    cases H
  rw [if_pos z2] at H
  cases H
  exact J_iret (st := []) d_Ref_isBetter_92 rfl (narrow_z z2).1 ⟨rfl, rfl, rfl⟩
def f_Ref_isBetter_L91 (Γ : gm_T)  (φ : ph_T) : Option (Int32 × ph_T) :=
  f_Ref_isBetter_L92 Γ  φ (0 : Int32)
set_option maxRecDepth 100000 in
set_option maxHeartbeats 4000000 in
theorem p_Ref_isBetter_L91 {w : jw_T} (hw : jok w) {Γ : gm_T} {n : Nat} (hG : gd w Γ n)  {x : Bool} {φ : ph_T} {q : Int32 × ph_T} (H : f_Ref_isBetter_L91 Γ  φ  = some q) : J w M_Ref_isBetter 91 [none, none, none, none, none, none] [] (pic Γ φ) n x 0 0 (fq Γ n (.inl (some (.int q.1))) q.2) := by
  unfold f_Ref_isBetter_L91 at H
  refine J_iconst (v := 0) d_Ref_isBetter_91 (by decide) ?_
  refine J.drop [false, false, false, false, false, false] rfl ?_
  exact p_Ref_isBetter_L92 hw hG  H
def f_Ref_isBetter_L87 (Γ : gm_T)  (φ : ph_T) : Option (Int32 × ph_T) :=
  f_Ref_isBetter_L92 Γ  φ (1 : Int32)
set_option maxRecDepth 100000 in
set_option maxHeartbeats 4000000 in
theorem p_Ref_isBetter_L87 {w : jw_T} (hw : jok w) {Γ : gm_T} {n : Nat} (hG : gd w Γ n)  {x : Bool} {φ : ph_T} {q : Int32 × ph_T} (H : f_Ref_isBetter_L87 Γ  φ  = some q) : J w M_Ref_isBetter 87 [none, none, none, none, none, none] [] (pic Γ φ) n x 0 0 (fq Γ n (.inl (some (.int q.1))) q.2) := by
  unfold f_Ref_isBetter_L87 at H
  refine J_iconst (v := 1) d_Ref_isBetter_87 (by decide) ?_
  refine J_goto (tgt := 92) d_Ref_isBetter_88 (by decide) ?_
  refine J.drop [false, false, false, false, false, false] rfl ?_
  exact p_Ref_isBetter_L92 hw hG  H
def f_Ref_isBetter_L39 (Γ : gm_T)  (φ : ph_T) (y0 : Int32) : Option (Int32 × ph_T) :=
  @ite _ (y0 = 0 ∨ y0 = 1) _ (
  some (y0, φ)
  ) none
set_option maxRecDepth 100000 in
set_option maxHeartbeats 4000000 in
theorem p_Ref_isBetter_L39 {w : jw_T} (hw : jok w) {Γ : gm_T} {n : Nat} (hG : gd w Γ n)  {x : Bool} {φ : ph_T} {y0 : Int32} {q : Int32 × ph_T} (H : f_Ref_isBetter_L39 Γ  φ y0 = some q) : J w M_Ref_isBetter 39 [none, none, none, none, none, none] [.int y0] (pic Γ φ) n x 0 0 (fq Γ n (.inl (some (.int q.1))) q.2) := by
  unfold f_Ref_isBetter_L39 at H
  have z3 : y0 = 0 ∨ y0 = 1 := by
    apply Classical.byContradiction
    intro q9
    rw [if_neg q9] at H
    cases H
  rw [if_pos z3] at H
  cases H
  exact J_iret (st := []) d_Ref_isBetter_39 rfl (narrow_z z3).1 ⟨rfl, rfl, rfl⟩
def f_Ref_isBetter (Γ : gm_T) (φ : ph_T) (this : Nat) (p0 : Int32) (p1 : Int32) (p2 : Int32) : Option (Int32 × ph_T) :=
  @ite _ (Γ this = .inr 12) _ (
  Option.bind (f_Ref_rowOf Γ φ this (0 : Int32) p0 p2) fun q5 =>
  Option.bind (f_Ref_rowOf Γ q5.2 this (0 : Int32) p1 p2) fun q6 =>
  if (q6.2.1 this 4) = 0 then
    if p1 ≤ p0 then
      f_Ref_isBetter_L39 Γ  q6.2 (0 : Int32)
    else
      f_Ref_isBetter_L39 Γ  q6.2 (1 : Int32)
  else
    if (q6.2.1 this 4) = (2 : Int32) then
      Option.bind (q6.2.2.2 this 41) fun a17 =>
      Option.bind (gA Γ a17 0) fun N18 =>
      Option.bind (ix ((4 : Int32) * q5.1) N18) fun k19 =>
      Option.bind (gA Γ a17 0) fun N20 =>
      Option.bind (ix ((4 : Int32) * q6.1) N20) fun k21 =>
      if (q6.2.1 a17 k19) < (q6.2.1 a17 k21) then
        f_Ref_isBetter_L87 Γ  q6.2 
      else
        Option.bind (gA Γ a17 0) fun N22 =>
        Option.bind (ix ((4 : Int32) * q5.1) N22) fun k23 =>
        Option.bind (gA Γ a17 0) fun N24 =>
        Option.bind (ix ((4 : Int32) * q6.1) N24) fun k25 =>
        if (q6.2.1 a17 k23) = (q6.2.1 a17 k25) then
          if p1 ≤ p0 then
            f_Ref_isBetter_L91 Γ  q6.2 
          else
            f_Ref_isBetter_L87 Γ  q6.2 
        else
          f_Ref_isBetter_L91 Γ  q6.2 
    else
      if (q6.2.1 this 4) = (3 : Int32) then
        Option.bind (q6.2.2.2 this 39) fun a7 =>
        Option.bind (gA Γ a7 1) fun N8 =>
        Option.bind (ix ((4 : Int32) * q5.1) N8) fun k9 =>
        Option.bind (f_Ref_urgencyOf Γ q6.2 (q6.2.2.1 a7 k9)) fun q10 =>
        Option.bind (q10.2.2.2 this 39) fun a11 =>
        Option.bind (gA Γ a11 1) fun N12 =>
        Option.bind (ix ((4 : Int32) * q6.1) N12) fun k13 =>
        Option.bind (f_Ref_urgencyOf Γ q10.2 (q10.2.2.1 a11 k13)) fun q14 =>
        if q10.1 ≤ q14.1 then
          f_Ref_isBetter_L128 Γ  q14.2 
        else
          f_Ref_isBetter_L129 Γ  q14.2 (1 : Int32)
      else
        f_Ref_isBetter_L128 Γ  q6.2 
  ) none
set_option maxRecDepth 100000 in
set_option maxHeartbeats 4000000 in
theorem p_Ref_isBetter {w : jw_T} (hw : jok w) {Γ : gm_T} {n : Nat} (hG : gd w Γ n) {x : Bool} {φ : ph_T} {this : Nat} {p0 : Int32} {p1 : Int32} {p2 : Int32} {q : Int32 × ph_T} (H : f_Ref_isBetter Γ φ this p0 p1 p2 = some q) : jc w M_Ref_isBetter [.ref this, .int p0, .int p1, .int p2] (pic Γ φ) n x 0 0 (fq Γ n (.inl (some (.int q.1))) q.2) := by
  refine jc.of (by simp only [jent_r, jent_i, jent_l, jent_a, jent_0]; exact Nat.le_of_ble_eq_true rfl) ?_
  have hls : jents [.ref this, .int p0, .int p1, .int p2] (jm_nL M_Ref_isBetter) = [some (.ref this), some (.int p0), some (.int p1), some (.int p2), none, none] := by simp only [jents, jent_r, jent_i, jent_l, jent_a, jent_0]; rfl
  rw [hls]
  clear hls
  unfold f_Ref_isBetter at H
  refine J_iconst (v := 4) d_Ref_isBetter_0 (by decide) ?_
  refine J_aload_n d_Ref_isBetter_1 rfl ?_
  refine J_iconst (v := 0) d_Ref_isBetter_2 (by decide) ?_
  refine J_iload_n d_Ref_isBetter_3 rfl ?_
  refine J_iload_n d_Ref_isBetter_4 rfl ?_
  have g4 : Γ this = .inr 12 := by
    apply Classical.byContradiction
    intro q9
    rw [if_neg q9] at H
    cases H
  rw [if_pos g4] at H
  obtain ⟨q5, hq5, H⟩ := Option.bind_eq_some_iff.mp H
  refine J_callV (kc := 0) (ks := 0) (kc' := 0) (ks' := 0) (a := this) (ci := 12) (as := [.int (0 : Int32), .int p0, .int p2]) (st := [.int (4 : Int32)]) (mf_Ref_rowOf hw) (mv_Ref_388 hw) d_Ref_isBetter_5 ln_Ref_rowOf (by decide) (by first | exact Nat.le_of_ble_eq_true rfl | (simp only [List.map_cons, List.map_nil, List.sum_cons, List.sum_nil, va_rf_cat]; exact Nat.le_of_ble_eq_true rfl)) rfl ((hG _).1 _ g4 (by decide)).1 ((hG _).1 _ g4 (by decide)).2 (by unfold pic; rw [g4]; rfl) (jcl_at hw rfl) rfl (p_Ref_rowOf hw hG hq5) ?_ (fun E h' n' x' e1 => by cases e1.1)
  intro v9 h9 n9 x9 e9
  obtain ⟨e91, e92, e93⟩ := e9
  cases e91
  subst e92
  subst e93
  clear x
  rename Bool => x
  show J _ _ _ _ (_ :: _) _ _ _ _ _ _
  refine J_imul d_Ref_isBetter_8 ?_
  refine J_istore d_Ref_isBetter_9 (Nat.le_of_ble_eq_true rfl) ?_
  refine J_iconst (v := 4) d_Ref_isBetter_11 (by decide) ?_
  refine J_aload_n d_Ref_isBetter_12 rfl ?_
  refine J_iconst (v := 0) d_Ref_isBetter_13 (by decide) ?_
  refine J_iload_n d_Ref_isBetter_14 rfl ?_
  refine J_iload_n d_Ref_isBetter_15 rfl ?_
  obtain ⟨q6, hq6, H⟩ := Option.bind_eq_some_iff.mp H
  refine J_callV (kc := 0) (ks := 0) (kc' := 0) (ks' := 0) (a := this) (ci := 12) (as := [.int (0 : Int32), .int p1, .int p2]) (st := [.int (4 : Int32)]) (mf_Ref_rowOf hw) (mv_Ref_388 hw) d_Ref_isBetter_16 ln_Ref_rowOf (by decide) (by first | exact Nat.le_of_ble_eq_true rfl | (simp only [List.map_cons, List.map_nil, List.sum_cons, List.sum_nil, va_rf_cat]; exact Nat.le_of_ble_eq_true rfl)) rfl ((hG _).1 _ g4 (by decide)).1 ((hG _).1 _ g4 (by decide)).2 (by unfold pic; rw [g4]; rfl) (jcl_at hw rfl) rfl (p_Ref_rowOf hw hG hq6) ?_ (fun E h' n' x' e1 => by cases e1.1)
  intro v9 h9 n9 x9 e9
  obtain ⟨e91, e92, e93⟩ := e9
  cases e91
  subst e92
  subst e93
  clear x
  rename Bool => x
  show J _ _ _ _ (_ :: _) _ _ _ _ _ _
  refine J_imul d_Ref_isBetter_19 ?_
  refine J_istore d_Ref_isBetter_20 (Nat.le_of_ble_eq_true rfl) ?_
  refine J_aload_n d_Ref_isBetter_22 rfl ?_
  refine F_getI (ci := 12) (k := 4) hG (cf_Ref hw) (fl_Ref_532 hw) (by decide) (by decide) rfl d_Ref_isBetter_23 g4 ?_
  refine J_if_ne (tgt := 40) d_Ref_isBetter_26 (by decide) ?_ ?_
  · intro c31
    rw [if_neg c31] at H
    refine J_aload_n d_Ref_isBetter_40 rfl ?_
    refine F_getI (ci := 12) (k := 4) hG (cf_Ref hw) (fl_Ref_532 hw) (by decide) (by decide) rfl d_Ref_isBetter_41 g4 ?_
    refine J_iconst (v := 2) d_Ref_isBetter_44 (by decide) ?_
    refine J_icmp_ne (tgt := 93) d_Ref_isBetter_45 (by decide) ?_ ?_
    · intro c29
      rw [if_neg c29] at H
      refine J_aload_n d_Ref_isBetter_93 rfl ?_
      refine F_getI (ci := 12) (k := 4) hG (cf_Ref hw) (fl_Ref_532 hw) (by decide) (by decide) rfl d_Ref_isBetter_94 g4 ?_
      refine J_iconst (v := 3) d_Ref_isBetter_97 (by decide) ?_
      refine J_icmp_ne (tgt := 128) d_Ref_isBetter_98 (by decide) ?_ ?_
      · intro c16
        rw [if_neg c16] at H
        refine J.drop [false, false, false, false, false, false] rfl ?_
        exact p_Ref_isBetter_L128 hw hG  H
      · intro c16
        rw [if_pos c16] at H
        refine J_aload_n d_Ref_isBetter_101 rfl ?_
        refine F_getR (ci := 12) (k := 39) hG (cf_Ref hw) (fl_Ref_106 hw) (by decide) (by decide) rfl d_Ref_isBetter_102 g4 ?_
        refine J_iload d_Ref_isBetter_105 rfl ?_
        obtain ⟨a7, ha7, H⟩ := Option.bind_eq_some_iff.mp H
        rw [j_rf ha7]
        obtain ⟨N8, hN8, H⟩ := Option.bind_eq_some_iff.mp H
        obtain ⟨k9, hk9, H⟩ := Option.bind_eq_some_iff.mp H
        refine F_lald k9 hw hG d_Ref_isBetter_107 (gA_some hN8) (ix_some hk9) ?_
        obtain ⟨q10, hq10, H⟩ := Option.bind_eq_some_iff.mp H
        refine J_callS (kc := 0) (ks := 0) (kc' := 0) (ks' := 0) (as := [.long (q6.2.2.1 a7 k9)]) (st := []) (mf_Ref_urgencyOf hw) (ms_Ref_535 hw) d_Ref_isBetter_108 ln_Ref_urgencyOf (by decide) (by first | exact Nat.le_of_ble_eq_true rfl | (simp only [List.map_cons, List.map_nil, List.sum_cons, List.sum_nil, va_rf_cat]; exact Nat.le_of_ble_eq_true rfl)) rfl (p_Ref_urgencyOf hw hG hq10) ?_ (fun E h' n' x' e1 => by cases e1.1)
        intro v9 h9 n9 x9 e9
        obtain ⟨e91, e92, e93⟩ := e9
        cases e91
        subst e92
        subst e93
        clear x
        rename Bool => x
        show J _ _ _ _ (_ :: _) _ _ _ _ _ _
        refine J_aload_n d_Ref_isBetter_111 rfl ?_
        refine F_getR (ci := 12) (k := 39) hG (cf_Ref hw) (fl_Ref_106 hw) (by decide) (by decide) rfl d_Ref_isBetter_112 g4 ?_
        refine J_iload d_Ref_isBetter_115 rfl ?_
        obtain ⟨a11, ha11, H⟩ := Option.bind_eq_some_iff.mp H
        rw [j_rf ha11]
        obtain ⟨N12, hN12, H⟩ := Option.bind_eq_some_iff.mp H
        obtain ⟨k13, hk13, H⟩ := Option.bind_eq_some_iff.mp H
        refine F_lald k13 hw hG d_Ref_isBetter_117 (gA_some hN12) (ix_some hk13) ?_
        obtain ⟨q14, hq14, H⟩ := Option.bind_eq_some_iff.mp H
        refine J_callS (kc := 0) (ks := 0) (kc' := 0) (ks' := 0) (as := [.long (q10.2.2.1 a11 k13)]) (st := [.int q10.1]) (mf_Ref_urgencyOf hw) (ms_Ref_535 hw) d_Ref_isBetter_118 ln_Ref_urgencyOf (by decide) (by first | exact Nat.le_of_ble_eq_true rfl | (simp only [List.map_cons, List.map_nil, List.sum_cons, List.sum_nil, va_rf_cat]; exact Nat.le_of_ble_eq_true rfl)) rfl (p_Ref_urgencyOf hw hG hq14) ?_ (fun E h' n' x' e1 => by cases e1.1)
        intro v9 h9 n9 x9 e9
        obtain ⟨e91, e92, e93⟩ := e9
        cases e91
        subst e92
        subst e93
        clear x
        rename Bool => x
        show J _ _ _ _ (_ :: _) _ _ _ _ _ _
        refine J_icmp_le (tgt := 128) d_Ref_isBetter_121 (by decide) ?_ ?_
        · intro c15
          rw [if_pos c15] at H
          refine J.drop [false, false, false, false, false, false] rfl ?_
          exact p_Ref_isBetter_L128 hw hG  H
        · intro c15
          rw [if_neg c15] at H
          refine J_iconst (v := 1) d_Ref_isBetter_124 (by decide) ?_
          refine J_goto (tgt := 129) d_Ref_isBetter_125 (by decide) ?_
          refine J.drop [false, false, false, false, false, false] rfl ?_
          exact p_Ref_isBetter_L129 hw hG  H
    · intro c29
      rw [if_pos c29] at H
      refine J_aload_n d_Ref_isBetter_48 rfl ?_
      refine F_getR (ci := 12) (k := 41) hG (cf_Ref hw) (fl_Ref_112 hw) (by decide) (by decide) rfl d_Ref_isBetter_49 g4 ?_
      refine J_iload d_Ref_isBetter_52 rfl ?_
      obtain ⟨a17, ha17, H⟩ := Option.bind_eq_some_iff.mp H
      rw [j_rf ha17]
      obtain ⟨N18, hN18, H⟩ := Option.bind_eq_some_iff.mp H
      obtain ⟨k19, hk19, H⟩ := Option.bind_eq_some_iff.mp H
      refine F_iald k19 hw hG d_Ref_isBetter_54 (gA_some hN18) (ix_some hk19) ?_
      refine J_aload_n d_Ref_isBetter_55 rfl ?_
      refine F_getR (ci := 12) (k := 41) hG (cf_Ref hw) (fl_Ref_112 hw) (by decide) (by decide) rfl d_Ref_isBetter_56 g4 ?_
      refine J_iload d_Ref_isBetter_59 rfl ?_
      try rw [j_rf ha17]
      obtain ⟨N20, hN20, H⟩ := Option.bind_eq_some_iff.mp H
      obtain ⟨k21, hk21, H⟩ := Option.bind_eq_some_iff.mp H
      refine F_iald k21 hw hG d_Ref_isBetter_61 (gA_some hN20) (ix_some hk21) ?_
      refine J_icmp_lt (tgt := 87) d_Ref_isBetter_62 (by decide) ?_ ?_
      · intro c28
        rw [if_pos c28] at H
        refine J.drop [false, false, false, false, false, false] rfl ?_
        exact p_Ref_isBetter_L87 hw hG  H
      · intro c28
        rw [if_neg c28] at H
        refine J_aload_n d_Ref_isBetter_65 rfl ?_
        refine F_getR (ci := 12) (k := 41) hG (cf_Ref hw) (fl_Ref_112 hw) (by decide) (by decide) rfl d_Ref_isBetter_66 g4 ?_
        refine J_iload d_Ref_isBetter_69 rfl ?_
        try rw [j_rf ha17]
        obtain ⟨N22, hN22, H⟩ := Option.bind_eq_some_iff.mp H
        obtain ⟨k23, hk23, H⟩ := Option.bind_eq_some_iff.mp H
        refine F_iald k23 hw hG d_Ref_isBetter_71 (gA_some hN22) (ix_some hk23) ?_
        refine J_aload_n d_Ref_isBetter_72 rfl ?_
        refine F_getR (ci := 12) (k := 41) hG (cf_Ref hw) (fl_Ref_112 hw) (by decide) (by decide) rfl d_Ref_isBetter_73 g4 ?_
        refine J_iload d_Ref_isBetter_76 rfl ?_
        try rw [j_rf ha17]
        obtain ⟨N24, hN24, H⟩ := Option.bind_eq_some_iff.mp H
        obtain ⟨k25, hk25, H⟩ := Option.bind_eq_some_iff.mp H
        refine F_iald k25 hw hG d_Ref_isBetter_78 (gA_some hN24) (ix_some hk25) ?_
        refine J_icmp_ne (tgt := 91) d_Ref_isBetter_79 (by decide) ?_ ?_
        · intro c27
          rw [if_neg c27] at H
          refine J.drop [false, false, false, false, false, false] rfl ?_
          exact p_Ref_isBetter_L91 hw hG  H
        · intro c27
          rw [if_pos c27] at H
          refine J_iload_n d_Ref_isBetter_82 rfl ?_
          refine J_iload_n d_Ref_isBetter_83 rfl ?_
          refine J_icmp_ge (tgt := 91) d_Ref_isBetter_84 (by decide) ?_ ?_
          · intro c26
            rw [if_pos c26] at H
            refine J.drop [false, false, false, false, false, false] rfl ?_
            exact p_Ref_isBetter_L91 hw hG  H
          · intro c26
            rw [if_neg c26] at H
            refine J.drop [false, false, false, false, false, false] rfl ?_
            exact p_Ref_isBetter_L87 hw hG  H
  · intro c31
    rw [if_pos c31] at H
    refine J_iload_n d_Ref_isBetter_29 rfl ?_
    refine J_iload_n d_Ref_isBetter_30 rfl ?_
    refine J_icmp_ge (tgt := 38) d_Ref_isBetter_31 (by decide) ?_ ?_
    · intro c30
      rw [if_pos c30] at H
      refine J_iconst (v := 0) d_Ref_isBetter_38 (by decide) ?_
      refine J.drop [false, false, false, false, false, false] rfl ?_
      exact p_Ref_isBetter_L39 hw hG  H
    · intro c30
      rw [if_neg c30] at H
      refine J_iconst (v := 1) d_Ref_isBetter_34 (by decide) ?_
      refine J_goto (tgt := 39) d_Ref_isBetter_35 (by decide) ?_
      refine J.drop [false, false, false, false, false, false] rfl ?_
      exact p_Ref_isBetter_L39 hw hG  H
theorem ln_Ref_choose : (parseMethodDescriptor y_Ref_choose.desc).map (fun q => q.parameters.length) = some 2 := by decide +kernel
def f_Ref_choose_L99 (Γ : gm_T) (Kc26 : ph_T → Nat → Int32 → Int32 → Int32 → Int32 → Int32 → Option (Int32 × ph_T)) (φ : ph_T) (x0 : Nat) (x1 : Int32) (x2 : Int32) (x3 : Int32) (x5 : Int32) (y0 : Int32) : Option (Int32 × ph_T) :=
  Kc26 φ x0 x1 x2 x3 y0 (x5 + (1 : Int32))
set_option maxRecDepth 100000 in
set_option maxHeartbeats 4000000 in
theorem p_Ref_choose_L99 {w : jw_T} (hw : jok w) {Γ : gm_T} {n : Nat} (hG : gd w Γ n) {Kc26 : ph_T → Nat → Int32 → Int32 → Int32 → Int32 → Int32 → Option (Int32 × ph_T)} (hKc26 : ∀ {x : Bool} {φ : ph_T} {x0 : Nat} {x1 : Int32} {x2 : Int32} {x3 : Int32} {x4 : Int32} {x5 : Int32} {q : Int32 × ph_T}, Kc26 φ x0 x1 x2 x3 x4 x5 = some q → J w M_Ref_choose 26 [some (.ref x0), some (.int x1), some (.int x2), some (.int x3), some (.int x4), some (.int x5), none, none] [] (pic Γ φ) n x 0 0 (fq Γ n (.inl (some (.int q.1))) q.2)) {x : Bool} {φ : ph_T} {x0 : Nat} {x1 : Int32} {x2 : Int32} {x3 : Int32} {x5 : Int32} {y0 : Int32} {q : Int32 × ph_T} (H : f_Ref_choose_L99 Γ Kc26 φ x0 x1 x2 x3 x5 y0 = some q) : J w M_Ref_choose 99 [some (.ref x0), some (.int x1), some (.int x2), some (.int x3), none, some (.int x5), none, none] [.int y0] (pic Γ φ) n x 0 0 (fq Γ n (.inl (some (.int q.1))) q.2) := by
  unfold f_Ref_choose_L99 at H
  refine J_istore d_Ref_choose_99 (Nat.le_of_ble_eq_true rfl) ?_
  refine J_iinc (v := x5 + 1) d_Ref_choose_101 rfl (by rw [show Int32.ofInt 1 = (1 : Int32) from by decide]) ?_
  refine J_goto (tgt := 26) d_Ref_choose_104 (by decide) ?_
  refine J.drop [true, true, true, true, true, true, false, false] rfl ?_
  exact hKc26 H
def f_Ref_choose_L97 (Γ : gm_T) (Kc26 : ph_T → Nat → Int32 → Int32 → Int32 → Int32 → Int32 → Option (Int32 × ph_T)) (φ : ph_T) (x0 : Nat) (x1 : Int32) (x2 : Int32) (x3 : Int32) (x4 : Int32) (x5 : Int32) : Option (Int32 × ph_T) :=
  f_Ref_choose_L99 Γ Kc26 φ x0 x1 x2 x3 x5 x4
set_option maxRecDepth 100000 in
set_option maxHeartbeats 4000000 in
theorem p_Ref_choose_L97 {w : jw_T} (hw : jok w) {Γ : gm_T} {n : Nat} (hG : gd w Γ n) {Kc26 : ph_T → Nat → Int32 → Int32 → Int32 → Int32 → Int32 → Option (Int32 × ph_T)} (hKc26 : ∀ {x : Bool} {φ : ph_T} {x0 : Nat} {x1 : Int32} {x2 : Int32} {x3 : Int32} {x4 : Int32} {x5 : Int32} {q : Int32 × ph_T}, Kc26 φ x0 x1 x2 x3 x4 x5 = some q → J w M_Ref_choose 26 [some (.ref x0), some (.int x1), some (.int x2), some (.int x3), some (.int x4), some (.int x5), none, none] [] (pic Γ φ) n x 0 0 (fq Γ n (.inl (some (.int q.1))) q.2)) {x : Bool} {φ : ph_T} {x0 : Nat} {x1 : Int32} {x2 : Int32} {x3 : Int32} {x4 : Int32} {x5 : Int32} {q : Int32 × ph_T} (H : f_Ref_choose_L97 Γ Kc26 φ x0 x1 x2 x3 x4 x5 = some q) : J w M_Ref_choose 97 [some (.ref x0), some (.int x1), some (.int x2), some (.int x3), some (.int x4), some (.int x5), none, none] [] (pic Γ φ) n x 0 0 (fq Γ n (.inl (some (.int q.1))) q.2) := by
  unfold f_Ref_choose_L97 at H
  refine J_iload d_Ref_choose_97 rfl ?_
  refine J.drop [true, true, true, true, false, true, false, false] rfl ?_
  exact p_Ref_choose_L99 hw hG hKc26 H
def f_Ref_choose_L92 (Γ : gm_T) (Kc26 : ph_T → Nat → Int32 → Int32 → Int32 → Int32 → Int32 → Option (Int32 × ph_T)) (φ : ph_T) (x0 : Nat) (x1 : Int32) (x2 : Int32) (x3 : Int32) (x5 : Int32) (x6 : Int32) : Option (Int32 × ph_T) :=
  f_Ref_choose_L99 Γ Kc26 φ x0 x1 x2 x3 x5 x6
set_option maxRecDepth 100000 in
set_option maxHeartbeats 4000000 in
theorem p_Ref_choose_L92 {w : jw_T} (hw : jok w) {Γ : gm_T} {n : Nat} (hG : gd w Γ n) {Kc26 : ph_T → Nat → Int32 → Int32 → Int32 → Int32 → Int32 → Option (Int32 × ph_T)} (hKc26 : ∀ {x : Bool} {φ : ph_T} {x0 : Nat} {x1 : Int32} {x2 : Int32} {x3 : Int32} {x4 : Int32} {x5 : Int32} {q : Int32 × ph_T}, Kc26 φ x0 x1 x2 x3 x4 x5 = some q → J w M_Ref_choose 26 [some (.ref x0), some (.int x1), some (.int x2), some (.int x3), some (.int x4), some (.int x5), none, none] [] (pic Γ φ) n x 0 0 (fq Γ n (.inl (some (.int q.1))) q.2)) {x : Bool} {φ : ph_T} {x0 : Nat} {x1 : Int32} {x2 : Int32} {x3 : Int32} {x5 : Int32} {x6 : Int32} {q : Int32 × ph_T} (H : f_Ref_choose_L92 Γ Kc26 φ x0 x1 x2 x3 x5 x6 = some q) : J w M_Ref_choose 92 [some (.ref x0), some (.int x1), some (.int x2), some (.int x3), none, some (.int x5), some (.int x6), none] [] (pic Γ φ) n x 0 0 (fq Γ n (.inl (some (.int q.1))) q.2) := by
  unfold f_Ref_choose_L92 at H
  refine J_iload d_Ref_choose_92 rfl ?_
  refine J_goto (tgt := 99) d_Ref_choose_94 (by decide) ?_
  refine J.drop [true, true, true, true, false, true, false, false] rfl ?_
  exact p_Ref_choose_L99 hw hG hKc26 H
def f_Ref_choose_L67 (Γ : gm_T) (Kc26 : ph_T → Nat → Int32 → Int32 → Int32 → Int32 → Int32 → Option (Int32 × ph_T)) (φ : ph_T) (x0 : Nat) (x1 : Int32) (x2 : Int32) (x3 : Int32) (x4 : Int32) (x5 : Int32) (x6 : Int32) (y0 : Int32) : Option (Int32 × ph_T) :=
  if y0 = 0 then
    f_Ref_choose_L97 Γ Kc26 φ x0 x1 x2 x3 x4 x5
  else
    if x4 = (-1 : Int32) then
      f_Ref_choose_L92 Γ Kc26 φ x0 x1 x2 x3 x5 x6
    else
      @ite _ (Γ x0 = .inr 12) _ (
      Option.bind (f_Ref_isBetter Γ φ x0 x6 x4 x2) fun q3 =>
      if q3.1 = 0 then
        f_Ref_choose_L97 Γ Kc26 q3.2 x0 x1 x2 x3 x4 x5
      else
        f_Ref_choose_L92 Γ Kc26 q3.2 x0 x1 x2 x3 x5 x6
      ) none
set_option maxRecDepth 100000 in
set_option maxHeartbeats 4000000 in
theorem p_Ref_choose_L67 {w : jw_T} (hw : jok w) {Γ : gm_T} {n : Nat} (hG : gd w Γ n) {Kc26 : ph_T → Nat → Int32 → Int32 → Int32 → Int32 → Int32 → Option (Int32 × ph_T)} (hKc26 : ∀ {x : Bool} {φ : ph_T} {x0 : Nat} {x1 : Int32} {x2 : Int32} {x3 : Int32} {x4 : Int32} {x5 : Int32} {q : Int32 × ph_T}, Kc26 φ x0 x1 x2 x3 x4 x5 = some q → J w M_Ref_choose 26 [some (.ref x0), some (.int x1), some (.int x2), some (.int x3), some (.int x4), some (.int x5), none, none] [] (pic Γ φ) n x 0 0 (fq Γ n (.inl (some (.int q.1))) q.2)) {x : Bool} {φ : ph_T} {x0 : Nat} {x1 : Int32} {x2 : Int32} {x3 : Int32} {x4 : Int32} {x5 : Int32} {x6 : Int32} {y0 : Int32} {q : Int32 × ph_T} (H : f_Ref_choose_L67 Γ Kc26 φ x0 x1 x2 x3 x4 x5 x6 y0 = some q) : J w M_Ref_choose 67 [some (.ref x0), some (.int x1), some (.int x2), some (.int x3), some (.int x4), some (.int x5), some (.int x6), none] [.int y0] (pic Γ φ) n x 0 0 (fq Γ n (.inl (some (.int q.1))) q.2) := by
  unfold f_Ref_choose_L67 at H
  refine J_istore d_Ref_choose_67 (Nat.le_of_ble_eq_true rfl) ?_
  refine J_iload d_Ref_choose_69 rfl ?_
  refine J_if_eq (tgt := 97) d_Ref_choose_71 (by decide) ?_ ?_
  · intro c6
    rw [if_pos c6] at H
    refine J.drop [true, true, true, true, true, true, false, false] rfl ?_
    exact p_Ref_choose_L97 hw hG hKc26 H
  · intro c6
    rw [if_neg c6] at H
    refine J_iload d_Ref_choose_74 rfl ?_
    refine J_iconst (v := -1) d_Ref_choose_76 (by decide) ?_
    refine J_icmp_eq (tgt := 92) d_Ref_choose_77 (by decide) ?_ ?_
    · intro c5
      rw [if_pos c5] at H
      refine J.drop [true, true, true, true, false, true, true, false] rfl ?_
      exact p_Ref_choose_L92 hw hG hKc26 H
    · intro c5
      rw [if_neg c5] at H
      refine J_aload_n d_Ref_choose_80 rfl ?_
      refine J_iload d_Ref_choose_81 rfl ?_
      refine J_iload d_Ref_choose_83 rfl ?_
      refine J_iload_n d_Ref_choose_85 rfl ?_
      have g2 : Γ x0 = .inr 12 := by
        apply Classical.byContradiction
        intro q9
        rw [if_neg q9] at H
        cases H
      rw [if_pos g2] at H
      obtain ⟨q3, hq3, H⟩ := Option.bind_eq_some_iff.mp H
      refine J_callV (kc := 0) (ks := 0) (kc' := 0) (ks' := 0) (a := x0) (ci := 12) (as := [.int x6, .int x4, .int x2]) (st := []) (mf_Ref_isBetter hw) (mv_Ref_544 hw) d_Ref_choose_86 ln_Ref_isBetter (by decide) (by first | exact Nat.le_of_ble_eq_true rfl | (simp only [List.map_cons, List.map_nil, List.sum_cons, List.sum_nil, va_rf_cat]; exact Nat.le_of_ble_eq_true rfl)) rfl ((hG _).1 _ g2 (by decide)).1 ((hG _).1 _ g2 (by decide)).2 (by unfold pic; rw [g2]; rfl) (jcl_at hw rfl) rfl (p_Ref_isBetter hw hG hq3) ?_ (fun E h' n' x' e1 => by cases e1.1)
      intro v9 h9 n9 x9 e9
      obtain ⟨e91, e92, e93⟩ := e9
      cases e91
      subst e92
      subst e93
      clear x
      rename Bool => x
      show J _ _ _ _ (_ :: _) _ _ _ _ _ _
      refine J_if_eq (tgt := 97) d_Ref_choose_89 (by decide) ?_ ?_
      · intro c4
        rw [if_pos c4] at H
        refine J.drop [true, true, true, true, true, true, false, false] rfl ?_
        exact p_Ref_choose_L97 hw hG hKc26 H
      · intro c4
        rw [if_neg c4] at H
        refine J.drop [true, true, true, true, false, true, true, false] rfl ?_
        exact p_Ref_choose_L92 hw hG hKc26 H
def f_Ref_choose_L26 (Γ : gm_T)  : Nat → ph_T → Nat → Int32 → Int32 → Int32 → Int32 → Int32 → Option (Int32 × ph_T)
  | 0, _, _, _, _, _, _, _ => none
  | fu + 1, φ, x0, x1, x2, x3, x4, x5 =>
    @ite _ (Γ x0 = .inr 12) _ (
    if (φ.1 x0 1) < x5 then
      some (x4, φ)
    else
      @ite _ ((φ.1 x0 1) = 0) _ none (
      if x2 = 0 then
        Option.bind (f_Ref_mayWrite Γ φ x0 ((x3 + x5) - (x3 + x5) / (φ.1 x0 1) * (φ.1 x0 1)) x1) fun q10 =>
        f_Ref_choose_L67 Γ (f_Ref_choose_L26 Γ  fu) q10.2 x0 x1 x2 x3 x4 x5 ((x3 + x5) - (x3 + x5) / (φ.1 x0 1) * (φ.1 x0 1)) q10.1
      else
        Option.bind (f_Ref_mayRead Γ φ x0 ((x3 + x5) - (x3 + x5) / (φ.1 x0 1) * (φ.1 x0 1)) x1) fun q9 =>
        f_Ref_choose_L67 Γ (f_Ref_choose_L26 Γ  fu) q9.2 x0 x1 x2 x3 x4 x5 ((x3 + x5) - (x3 + x5) / (φ.1 x0 1) * (φ.1 x0 1)) q9.1
      )
    ) none
set_option maxRecDepth 100000 in
set_option maxHeartbeats 4000000 in
theorem p_Ref_choose_L26 {w : jw_T} (hw : jok w) {Γ : gm_T} {n : Nat} (hG : gd w Γ n)  : ∀ (fu : Nat) {x : Bool} {φ : ph_T} {x0 : Nat} {x1 : Int32} {x2 : Int32} {x3 : Int32} {x4 : Int32} {x5 : Int32} {q : Int32 × ph_T}, f_Ref_choose_L26 Γ  fu φ x0 x1 x2 x3 x4 x5 = some q → J w M_Ref_choose 26 [some (.ref x0), some (.int x1), some (.int x2), some (.int x3), some (.int x4), some (.int x5), none, none] [] (pic Γ φ) n x 0 0 (fq Γ n (.inl (some (.int q.1))) q.2) := by
  intro fu
  induction fu with
  | zero =>
    intro x φ x0 x1 x2 x3 x4 x5 q H
    cases H
  | succ fu ih =>
    intro x φ x0 x1 x2 x3 x4 x5 q H
    unfold f_Ref_choose_L26 at H
    refine J_iload d_Ref_choose_26 rfl ?_
    refine J_aload_n d_Ref_choose_28 rfl ?_
    have g7 : Γ x0 = .inr 12 := by
      apply Classical.byContradiction
      intro q9
      rw [if_neg q9] at H
      cases H
    rw [if_pos g7] at H
    refine F_getI (ci := 12) (k := 1) hG (cf_Ref hw) (fl_Ref_290 hw) (by decide) (by decide) rfl d_Ref_choose_29 g7 ?_
    refine J_icmp_gt (tgt := 107) d_Ref_choose_32 (by decide) ?_ ?_
    · intro c12
      rw [if_pos c12] at H
      refine J_iload d_Ref_choose_107 rfl ?_
      cases H
      exact J_iret (st := []) d_Ref_choose_109 rfl rfl ⟨rfl, rfl, rfl⟩
    · intro c12
      rw [if_neg c12] at H
      refine J_iload_n d_Ref_choose_35 rfl ?_
      refine J_iload d_Ref_choose_36 rfl ?_
      refine J_iadd d_Ref_choose_38 ?_
      refine J_aload_n d_Ref_choose_39 rfl ?_
      refine F_getI (ci := 12) (k := 1) hG (cf_Ref hw) (fl_Ref_290 hw) (by decide) (by decide) rfl d_Ref_choose_40 g7 ?_
      have h8 : ¬ (φ.1 x0 1) = 0 := by
        intro q9
        rw [if_pos q9] at H
        cases H
      rw [if_neg h8] at H
      refine J_irem d_Ref_choose_43 h8 ?_
      refine J_istore d_Ref_choose_44 (Nat.le_of_ble_eq_true rfl) ?_
      refine J_iload_n d_Ref_choose_46 rfl ?_
      refine J_if_ne (tgt := 60) d_Ref_choose_47 (by decide) ?_ ?_
      · intro c11
        rw [if_neg c11] at H
        refine J_aload_n d_Ref_choose_60 rfl ?_
        refine J_iload d_Ref_choose_61 rfl ?_
        refine J_iload_n d_Ref_choose_63 rfl ?_
        obtain ⟨q9, hq9, H⟩ := Option.bind_eq_some_iff.mp H
        refine J_callV (kc := 0) (ks := 0) (kc' := 0) (ks' := 0) (a := x0) (ci := 12) (as := [.int ((x3 + x5) - (x3 + x5) / (φ.1 x0 1) * (φ.1 x0 1)), .int x1]) (st := []) (mf_Ref_mayRead hw) (mv_Ref_541 hw) d_Ref_choose_64 ln_Ref_mayRead (by decide) (by first | exact Nat.le_of_ble_eq_true rfl | (simp only [List.map_cons, List.map_nil, List.sum_cons, List.sum_nil, va_rf_cat]; exact Nat.le_of_ble_eq_true rfl)) rfl ((hG _).1 _ g7 (by decide)).1 ((hG _).1 _ g7 (by decide)).2 (by unfold pic; rw [g7]; rfl) (jcl_at hw rfl) rfl (p_Ref_mayRead hw hG hq9) ?_ (fun E h' n' x' e1 => by cases e1.1)
        intro v9 h9 n9 x9 e9
        obtain ⟨e91, e92, e93⟩ := e9
        cases e91
        subst e92
        subst e93
        clear x
        rename Bool => x
        show J _ _ _ _ (_ :: _) _ _ _ _ _ _
        refine J.drop [true, true, true, true, true, true, true, false] rfl ?_
        exact p_Ref_choose_L67 hw hG ih H
      · intro c11
        rw [if_pos c11] at H
        refine J_aload_n d_Ref_choose_50 rfl ?_
        refine J_iload d_Ref_choose_51 rfl ?_
        refine J_iload_n d_Ref_choose_53 rfl ?_
        obtain ⟨q10, hq10, H⟩ := Option.bind_eq_some_iff.mp H
        refine J_callV (kc := 0) (ks := 0) (kc' := 0) (ks' := 0) (a := x0) (ci := 12) (as := [.int ((x3 + x5) - (x3 + x5) / (φ.1 x0 1) * (φ.1 x0 1)), .int x1]) (st := []) (mf_Ref_mayWrite hw) (mv_Ref_538 hw) d_Ref_choose_54 ln_Ref_mayWrite (by decide) (by first | exact Nat.le_of_ble_eq_true rfl | (simp only [List.map_cons, List.map_nil, List.sum_cons, List.sum_nil, va_rf_cat]; exact Nat.le_of_ble_eq_true rfl)) rfl ((hG _).1 _ g7 (by decide)).1 ((hG _).1 _ g7 (by decide)).2 (by unfold pic; rw [g7]; rfl) (jcl_at hw rfl) rfl (p_Ref_mayWrite hw hG hq10) ?_ (fun E h' n' x' e1 => by cases e1.1)
        intro v9 h9 n9 x9 e9
        obtain ⟨e91, e92, e93⟩ := e9
        cases e91
        subst e92
        subst e93
        clear x
        rename Bool => x
        show J _ _ _ _ (_ :: _) _ _ _ _ _ _
        refine J_goto (tgt := 67) d_Ref_choose_57 (by decide) ?_
        refine J.drop [true, true, true, true, true, true, true, false] rfl ?_
        exact p_Ref_choose_L67 hw hG ih H
def f_Ref_choose_L19 (Γ : gm_T)  (φ : ph_T) (x0 : Nat) (x1 : Int32) (x2 : Int32) (y0 : Int32) : Option (Int32 × ph_T) :=
  f_Ref_choose_L26 Γ  jF φ x0 x1 x2 y0 (-1 : Int32) (1 : Int32)
set_option maxRecDepth 100000 in
set_option maxHeartbeats 4000000 in
theorem p_Ref_choose_L19 {w : jw_T} (hw : jok w) {Γ : gm_T} {n : Nat} (hG : gd w Γ n)  {x : Bool} {φ : ph_T} {x0 : Nat} {x1 : Int32} {x2 : Int32} {y0 : Int32} {q : Int32 × ph_T} (H : f_Ref_choose_L19 Γ  φ x0 x1 x2 y0 = some q) : J w M_Ref_choose 19 [some (.ref x0), some (.int x1), some (.int x2), none, none, none, none, none] [.int y0] (pic Γ φ) n x 0 0 (fq Γ n (.inl (some (.int q.1))) q.2) := by
  unfold f_Ref_choose_L19 at H
  refine J_istore_n d_Ref_choose_19 (Nat.le_of_ble_eq_true rfl) ?_
  refine J_iconst (v := -1) d_Ref_choose_20 (by decide) ?_
  refine J_istore d_Ref_choose_21 (Nat.le_of_ble_eq_true rfl) ?_
  refine J_iconst (v := 1) d_Ref_choose_23 (by decide) ?_
  refine J_istore d_Ref_choose_24 (Nat.le_of_ble_eq_true rfl) ?_
  refine J.drop [true, true, true, true, true, true, false, false] rfl ?_
  exact p_Ref_choose_L26 hw hG  _ H
def f_Ref_choose (Γ : gm_T) (φ : ph_T) (this : Nat) (p0 : Int32) (p1 : Int32) : Option (Int32 × ph_T) :=
  if p1 = 0 then
    @ite _ (Γ this = .inr 12) _ (
    Option.bind (φ.2.2 this 52) fun a18 =>
    Option.bind (gA Γ a18 0) fun N19 =>
    Option.bind (ix p0 N19) fun k20 =>
    f_Ref_choose_L19 Γ  φ this p0 p1 (φ.1 a18 k20)
    ) none
  else
    @ite _ (Γ this = .inr 12) _ (
    Option.bind (φ.2.2 this 53) fun a14 =>
    Option.bind (gA Γ a14 0) fun N15 =>
    Option.bind (ix p0 N15) fun k16 =>
    f_Ref_choose_L19 Γ  φ this p0 p1 (φ.1 a14 k16)
    ) none
set_option maxRecDepth 100000 in
set_option maxHeartbeats 4000000 in
theorem p_Ref_choose {w : jw_T} (hw : jok w) {Γ : gm_T} {n : Nat} (hG : gd w Γ n) {x : Bool} {φ : ph_T} {this : Nat} {p0 : Int32} {p1 : Int32} {q : Int32 × ph_T} (H : f_Ref_choose Γ φ this p0 p1 = some q) : jc w M_Ref_choose [.ref this, .int p0, .int p1] (pic Γ φ) n x 0 0 (fq Γ n (.inl (some (.int q.1))) q.2) := by
  refine jc.of (by simp only [jent_r, jent_i, jent_l, jent_a, jent_0]; exact Nat.le_of_ble_eq_true rfl) ?_
  have hls : jents [.ref this, .int p0, .int p1] (jm_nL M_Ref_choose) = [some (.ref this), some (.int p0), some (.int p1), none, none, none, none, none] := by simp only [jents, jent_r, jent_i, jent_l, jent_a, jent_0]; rfl
  rw [hls]
  clear hls
  unfold f_Ref_choose at H
  refine J_iload_n d_Ref_choose_0 rfl ?_
  refine J_if_ne (tgt := 13) d_Ref_choose_1 (by decide) ?_ ?_
  · intro c21
    rw [if_neg c21] at H
    refine J_aload_n d_Ref_choose_13 rfl ?_
    have g13 : Γ this = .inr 12 := by
      apply Classical.byContradiction
      intro q9
      rw [if_neg q9] at H
      cases H
    rw [if_pos g13] at H
    refine F_getR (ci := 12) (k := 53) hG (cf_Ref hw) (fl_Ref_142 hw) (by decide) (by decide) rfl d_Ref_choose_14 g13 ?_
    refine J_iload_n d_Ref_choose_17 rfl ?_
    obtain ⟨a14, ha14, H⟩ := Option.bind_eq_some_iff.mp H
    rw [j_rf ha14]
    obtain ⟨N15, hN15, H⟩ := Option.bind_eq_some_iff.mp H
    obtain ⟨k16, hk16, H⟩ := Option.bind_eq_some_iff.mp H
    refine F_iald k16 hw hG d_Ref_choose_18 (gA_some hN15) (ix_some hk16) ?_
    refine J.drop [true, true, true, false, false, false, false, false] rfl ?_
    exact p_Ref_choose_L19 hw hG  H
  · intro c21
    rw [if_pos c21] at H
    refine J_aload_n d_Ref_choose_4 rfl ?_
    have g17 : Γ this = .inr 12 := by
      apply Classical.byContradiction
      intro q9
      rw [if_neg q9] at H
      cases H
    rw [if_pos g17] at H
    refine F_getR (ci := 12) (k := 52) hG (cf_Ref hw) (fl_Ref_139 hw) (by decide) (by decide) rfl d_Ref_choose_5 g17 ?_
    refine J_iload_n d_Ref_choose_8 rfl ?_
    obtain ⟨a18, ha18, H⟩ := Option.bind_eq_some_iff.mp H
    rw [j_rf ha18]
    obtain ⟨N19, hN19, H⟩ := Option.bind_eq_some_iff.mp H
    obtain ⟨k20, hk20, H⟩ := Option.bind_eq_some_iff.mp H
    refine F_iald k20 hw hG d_Ref_choose_9 (gA_some hN19) (ix_some hk20) ?_
    refine J_goto (tgt := 19) d_Ref_choose_10 (by decide) ?_
    refine J.drop [true, true, true, false, false, false, false, false] rfl ?_
    exact p_Ref_choose_L19 hw hG  H
theorem ln_Ref_moveAddress : (parseMethodDescriptor y_Ref_moveAddress.desc).map (fun q => q.parameters.length) = some 2 := by decide +kernel
def f_Ref_moveAddress_L187 (Γ : gm_T)  (φ : ph_T) : Option (Unit × ph_T) :=
  some ((), φ)
set_option maxRecDepth 100000 in
set_option maxHeartbeats 4000000 in
theorem p_Ref_moveAddress_L187 {w : jw_T} (hw : jok w) {Γ : gm_T} {n : Nat} (hG : gd w Γ n)  {x : Bool} {φ : ph_T} {q : Unit × ph_T} (H : f_Ref_moveAddress_L187 Γ  φ  = some q) : J w M_Ref_moveAddress 187 [none, none, none, none, none, none, none] [] (pic Γ φ) n x 0 0 (fq Γ n (.inl none) q.2) := by
  unfold f_Ref_moveAddress_L187 at H
  cases H
  exact J_vret (st := []) d_Ref_moveAddress_187 rfl ⟨rfl, rfl, rfl⟩
def f_Ref_moveAddress (Γ : gm_T) (φ : ph_T) (this : Nat) (p0 : Int32) (p1 : Int32) : Option (Unit × ph_T) :=
  @ite _ (Γ this = .inr 12) _ (
  Option.bind (f_Ref_choose Γ φ this p0 p1) fun q2 =>
  if q2.1 = (-1 : Int32) then
    some ((), q2.2)
  else
    Option.bind (f_Ref_rowOf Γ q2.2 this (0 : Int32) q2.1 p1) fun q3 =>
    Option.bind (q3.2.2.2 this 39) fun a4 =>
    Option.bind (gA Γ a4 1) fun N5 =>
    Option.bind (ix ((4 : Int32) * q3.1) N5) fun k6 =>
    Option.bind (f_Ref_take Γ q3.2 this q3.1) fun q7 =>
    Option.bind (f_Ref_rowOf Γ q7.2 this (1 : Int32) p0 p1) fun q8 =>
    Option.bind (f_Ref_put Γ q8.2 this q8.1 ((q3.2.2.1 a4 k6) + ((16 : Int64) * (Int32.toInt64 q2.1))) (0 : Int32) (q8.2.1 this 6)) fun q9 =>
    if p1 = 0 then
      Option.bind (q9.2.2.2 this 52) fun a23 =>
      Option.bind (gA Γ a23 0) fun N24 =>
      Option.bind (ix p0 N24) fun k25 =>
      Option.bind ((uI q9.2 a23 k25 q2.1).2.2 this 43) fun a26 =>
      Option.bind (gA Γ a26 0) fun N27 =>
      Option.bind (ix ((uI q9.2 a23 k25 q2.1).1 this 47) N27) fun k28 =>
      Option.bind (f_Ref_idOf Γ (uI (uI q9.2 a23 k25 q2.1) a26 k28 q2.1) (q3.2.2.1 a4 k6)) fun q29 =>
      Option.bind ((uI (uI q9.2 a23 k25 q2.1) a26 k28 q2.1).2.2 this 44) fun a30 =>
      Option.bind (gA Γ a30 0) fun N31 =>
      Option.bind (ix ((uI (uI q9.2 a23 k25 q2.1) a26 k28 q2.1).1 this 47) N31) fun k32 =>
      Option.bind ((uI q29.2 a30 k32 q29.1).2.2 this 45) fun a33 =>
      Option.bind (gA Γ a33 0) fun N34 =>
      Option.bind (ix ((uI q29.2 a30 k32 q29.1).1 this 47) N34) fun k35 =>
      Option.bind (f_Ref_lengthOf Γ (uI (uI q29.2 a30 k32 q29.1) a33 k35 p0) (q3.2.2.1 a4 k6)) fun q36 =>
      Option.bind ((uI (uI q29.2 a30 k32 q29.1) a33 k35 p0).2.2 this 46) fun a37 =>
      Option.bind (gA Γ a37 0) fun N38 =>
      Option.bind (ix ((uI (uI q29.2 a30 k32 q29.1) a33 k35 p0).1 this 47) N38) fun k39 =>
      f_Ref_moveAddress_L187 Γ  (uI (uI q36.2 a37 k39 q36.1) this 47 (((uI q36.2 a37 k39 q36.1).1 this 47) + (1 : Int32))) 
    else
      Option.bind (q9.2.2.2 this 53) fun a10 =>
      Option.bind (gA Γ a10 0) fun N11 =>
      Option.bind (ix p0 N11) fun k12 =>
      Option.bind ((uI q9.2 a10 k12 q2.1).2.2 this 48) fun a13 =>
      Option.bind (gA Γ a13 0) fun N14 =>
      Option.bind (ix ((uI q9.2 a10 k12 q2.1).1 this 51) N14) fun k15 =>
      Option.bind (f_Ref_idOf Γ (uI (uI q9.2 a10 k12 q2.1) a13 k15 q2.1) (q3.2.2.1 a4 k6)) fun q16 =>
      Option.bind ((uI (uI q9.2 a10 k12 q2.1) a13 k15 q2.1).2.2 this 49) fun a17 =>
      Option.bind (gA Γ a17 0) fun N18 =>
      Option.bind (ix ((uI (uI q9.2 a10 k12 q2.1) a13 k15 q2.1).1 this 51) N18) fun k19 =>
      Option.bind ((uI q16.2 a17 k19 q16.1).2.2 this 50) fun a20 =>
      Option.bind (gA Γ a20 0) fun N21 =>
      Option.bind (ix ((uI q16.2 a17 k19 q16.1).1 this 51) N21) fun k22 =>
      f_Ref_moveAddress_L187 Γ  (uI (uI (uI q16.2 a17 k19 q16.1) a20 k22 p0) this 51 (((uI (uI q16.2 a17 k19 q16.1) a20 k22 p0).1 this 51) + (1 : Int32))) 
  ) none
set_option maxRecDepth 100000 in
set_option maxHeartbeats 4000000 in
theorem p_Ref_moveAddress {w : jw_T} (hw : jok w) {Γ : gm_T} {n : Nat} (hG : gd w Γ n) {x : Bool} {φ : ph_T} {this : Nat} {p0 : Int32} {p1 : Int32} {q : Unit × ph_T} (H : f_Ref_moveAddress Γ φ this p0 p1 = some q) : jc w M_Ref_moveAddress [.ref this, .int p0, .int p1] (pic Γ φ) n x 0 0 (fq Γ n (.inl none) q.2) := by
  refine jc.of (by simp only [jent_r, jent_i, jent_l, jent_a, jent_0]; exact Nat.le_of_ble_eq_true rfl) ?_
  have hls : jents [.ref this, .int p0, .int p1] (jm_nL M_Ref_moveAddress) = [some (.ref this), some (.int p0), some (.int p1), none, none, none, none] := by simp only [jents, jent_r, jent_i, jent_l, jent_a, jent_0]; rfl
  rw [hls]
  clear hls
  unfold f_Ref_moveAddress at H
  refine J_aload_n d_Ref_moveAddress_0 rfl ?_
  refine J_iload_n d_Ref_moveAddress_1 rfl ?_
  refine J_iload_n d_Ref_moveAddress_2 rfl ?_
  have g1 : Γ this = .inr 12 := by
    apply Classical.byContradiction
    intro q9
    rw [if_neg q9] at H
    cases H
  rw [if_pos g1] at H
  obtain ⟨q2, hq2, H⟩ := Option.bind_eq_some_iff.mp H
  refine J_callV (kc := 0) (ks := 0) (kc' := 0) (ks' := 0) (a := this) (ci := 12) (as := [.int p0, .int p1]) (st := []) (mf_Ref_choose hw) (mv_Ref_548 hw) d_Ref_moveAddress_3 ln_Ref_choose (by decide) (by first | exact Nat.le_of_ble_eq_true rfl | (simp only [List.map_cons, List.map_nil, List.sum_cons, List.sum_nil, va_rf_cat]; exact Nat.le_of_ble_eq_true rfl)) rfl ((hG _).1 _ g1 (by decide)).1 ((hG _).1 _ g1 (by decide)).2 (by unfold pic; rw [g1]; rfl) (jcl_at hw rfl) rfl (p_Ref_choose hw hG hq2) ?_ (fun E h' n' x' e1 => by cases e1.1)
  intro v9 h9 n9 x9 e9
  obtain ⟨e91, e92, e93⟩ := e9
  cases e91
  subst e92
  subst e93
  clear x
  rename Bool => x
  show J _ _ _ _ (_ :: _) _ _ _ _ _ _
  refine J_istore_n d_Ref_moveAddress_6 (Nat.le_of_ble_eq_true rfl) ?_
  refine J_iload_n d_Ref_moveAddress_7 rfl ?_
  refine J_iconst (v := -1) d_Ref_moveAddress_8 (by decide) ?_
  refine J_icmp_ne (tgt := 13) d_Ref_moveAddress_9 (by decide) ?_ ?_
  · intro c41
    rw [if_neg c41] at H
    refine J_aload_n d_Ref_moveAddress_13 rfl ?_
    refine J_iconst (v := 0) d_Ref_moveAddress_14 (by decide) ?_
    refine J_iload_n d_Ref_moveAddress_15 rfl ?_
    refine J_iload_n d_Ref_moveAddress_16 rfl ?_
    obtain ⟨q3, hq3, H⟩ := Option.bind_eq_some_iff.mp H
    refine J_callV (kc := 0) (ks := 0) (kc' := 0) (ks' := 0) (a := this) (ci := 12) (as := [.int (0 : Int32), .int q2.1, .int p1]) (st := []) (mf_Ref_rowOf hw) (mv_Ref_388 hw) d_Ref_moveAddress_17 ln_Ref_rowOf (by decide) (by first | exact Nat.le_of_ble_eq_true rfl | (simp only [List.map_cons, List.map_nil, List.sum_cons, List.sum_nil, va_rf_cat]; exact Nat.le_of_ble_eq_true rfl)) rfl ((hG _).1 _ g1 (by decide)).1 ((hG _).1 _ g1 (by decide)).2 (by unfold pic; rw [g1]; rfl) (jcl_at hw rfl) rfl (p_Ref_rowOf hw hG hq3) ?_ (fun E h' n' x' e1 => by cases e1.1)
    intro v9 h9 n9 x9 e9
    obtain ⟨e91, e92, e93⟩ := e9
    cases e91
    subst e92
    subst e93
    clear x
    rename Bool => x
    show J _ _ _ _ (_ :: _) _ _ _ _ _ _
    refine J_istore d_Ref_moveAddress_20 (Nat.le_of_ble_eq_true rfl) ?_
    refine J_aload_n d_Ref_moveAddress_22 rfl ?_
    refine F_getR (ci := 12) (k := 39) hG (cf_Ref hw) (fl_Ref_106 hw) (by decide) (by decide) rfl d_Ref_moveAddress_23 g1 ?_
    refine J_iconst (v := 4) d_Ref_moveAddress_26 (by decide) ?_
    refine J_iload d_Ref_moveAddress_27 rfl ?_
    refine J_imul d_Ref_moveAddress_29 ?_
    obtain ⟨a4, ha4, H⟩ := Option.bind_eq_some_iff.mp H
    rw [j_rf ha4]
    obtain ⟨N5, hN5, H⟩ := Option.bind_eq_some_iff.mp H
    obtain ⟨k6, hk6, H⟩ := Option.bind_eq_some_iff.mp H
    refine F_lald k6 hw hG d_Ref_moveAddress_30 (gA_some hN5) (ix_some hk6) ?_
    refine J_lstore d_Ref_moveAddress_31 (Nat.le_of_ble_eq_true rfl) ?_
    refine J_aload_n d_Ref_moveAddress_33 rfl ?_
    refine J_iload d_Ref_moveAddress_34 rfl ?_
    obtain ⟨q7, hq7, H⟩ := Option.bind_eq_some_iff.mp H
    refine J_callV (kc := 0) (ks := 0) (kc' := 0) (ks' := 0) (a := this) (ci := 12) (as := [.int q3.1]) (st := []) (mf_Ref_take hw) (mv_Ref_473 hw) d_Ref_moveAddress_36 ln_Ref_take (by decide) (by first | exact Nat.le_of_ble_eq_true rfl | (simp only [List.map_cons, List.map_nil, List.sum_cons, List.sum_nil, va_rf_cat]; exact Nat.le_of_ble_eq_true rfl)) rfl ((hG _).1 _ g1 (by decide)).1 ((hG _).1 _ g1 (by decide)).2 (by unfold pic; rw [g1]; rfl) (jcl_at hw rfl) rfl (p_Ref_take hw hG hq7) ?_ (fun E h' n' x' e1 => by cases e1.1)
    intro v9 h9 n9 x9 e9
    obtain ⟨e91, e92, e93⟩ := e9
    cases e91
    subst e92
    subst e93
    clear x
    rename Bool => x
    show J _ _ _ _ [] _ _ _ _ _ _
    refine J_aload_n d_Ref_moveAddress_39 rfl ?_
    refine J_aload_n d_Ref_moveAddress_40 rfl ?_
    refine J_iconst (v := 1) d_Ref_moveAddress_41 (by decide) ?_
    refine J_iload_n d_Ref_moveAddress_42 rfl ?_
    refine J_iload_n d_Ref_moveAddress_43 rfl ?_
    obtain ⟨q8, hq8, H⟩ := Option.bind_eq_some_iff.mp H
    refine J_callV (kc := 0) (ks := 0) (kc' := 0) (ks' := 0) (a := this) (ci := 12) (as := [.int (1 : Int32), .int p0, .int p1]) (st := [.ref this]) (mf_Ref_rowOf hw) (mv_Ref_388 hw) d_Ref_moveAddress_44 ln_Ref_rowOf (by decide) (by first | exact Nat.le_of_ble_eq_true rfl | (simp only [List.map_cons, List.map_nil, List.sum_cons, List.sum_nil, va_rf_cat]; exact Nat.le_of_ble_eq_true rfl)) rfl ((hG _).1 _ g1 (by decide)).1 ((hG _).1 _ g1 (by decide)).2 (by unfold pic; rw [g1]; rfl) (jcl_at hw rfl) rfl (p_Ref_rowOf hw hG hq8) ?_ (fun E h' n' x' e1 => by cases e1.1)
    intro v9 h9 n9 x9 e9
    obtain ⟨e91, e92, e93⟩ := e9
    cases e91
    subst e92
    subst e93
    clear x
    rename Bool => x
    show J _ _ _ _ (_ :: _) _ _ _ _ _ _
    refine J_lload d_Ref_moveAddress_47 rfl ?_
    refine J_ldc2 (v := 16) d_Ref_moveAddress_49 (kn_Ref_551 hw) ?_
    refine J_iload_n d_Ref_moveAddress_52 rfl ?_
    refine J_i2l d_Ref_moveAddress_53 ?_
    refine J_lmul d_Ref_moveAddress_54 ?_
    refine J_ladd d_Ref_moveAddress_55 ?_
    refine J_iconst (v := 0) d_Ref_moveAddress_56 (by decide) ?_
    refine J_aload_n d_Ref_moveAddress_57 rfl ?_
    refine F_getI (ci := 12) (k := 6) hG (cf_Ref hw) (fl_Ref_348 hw) (by decide) (by decide) rfl d_Ref_moveAddress_58 g1 ?_
    obtain ⟨q9, hq9, H⟩ := Option.bind_eq_some_iff.mp H
    refine J_callV (kc := 0) (ks := 0) (kc' := 0) (ks' := 0) (a := this) (ci := 12) (as := [.int q8.1, .long ((q3.2.2.1 a4 k6) + ((16 : Int64) * (Int32.toInt64 q2.1))), .int (0 : Int32), .int (q8.2.1 this 6)]) (st := []) (mf_Ref_put hw) (mv_Ref_469 hw) d_Ref_moveAddress_61 ln_Ref_put (by decide) (by first | exact Nat.le_of_ble_eq_true rfl | (simp only [List.map_cons, List.map_nil, List.sum_cons, List.sum_nil, va_rf_cat]; exact Nat.le_of_ble_eq_true rfl)) rfl ((hG _).1 _ g1 (by decide)).1 ((hG _).1 _ g1 (by decide)).2 (by unfold pic; rw [g1]; rfl) (jcl_at hw rfl) rfl (p_Ref_put hw hG hq9) ?_ (fun E h' n' x' e1 => by cases e1.1)
    intro v9 h9 n9 x9 e9
    obtain ⟨e91, e92, e93⟩ := e9
    cases e91
    subst e92
    subst e93
    clear x
    rename Bool => x
    show J _ _ _ _ [] _ _ _ _ _ _
    refine J_iload_n d_Ref_moveAddress_64 rfl ?_
    refine J_if_ne (tgt := 136) d_Ref_moveAddress_65 (by decide) ?_ ?_
    · intro c40
      rw [if_neg c40] at H
      refine J_aload_n d_Ref_moveAddress_136 rfl ?_
      refine F_getR (ci := 12) (k := 53) hG (cf_Ref hw) (fl_Ref_142 hw) (by decide) (by decide) rfl d_Ref_moveAddress_137 g1 ?_
      refine J_iload_n d_Ref_moveAddress_140 rfl ?_
      refine J_iload_n d_Ref_moveAddress_141 rfl ?_
      obtain ⟨a10, ha10, H⟩ := Option.bind_eq_some_iff.mp H
      rw [j_rf ha10]
      obtain ⟨N11, hN11, H⟩ := Option.bind_eq_some_iff.mp H
      obtain ⟨k12, hk12, H⟩ := Option.bind_eq_some_iff.mp H
      refine F_iast k12 hw hG d_Ref_moveAddress_142 (gA_some hN11) (ix_some hk12) ?_
      refine J_aload_n d_Ref_moveAddress_143 rfl ?_
      refine F_getR (ci := 12) (k := 48) hG (cf_Ref hw) (fl_Ref_130 hw) (by decide) (by decide) rfl d_Ref_moveAddress_144 g1 ?_
      refine J_aload_n d_Ref_moveAddress_147 rfl ?_
      refine F_getI (ci := 12) (k := 51) hG (cf_Ref hw) (fl_Ref_529 hw) (by decide) (by decide) rfl d_Ref_moveAddress_148 g1 ?_
      refine J_iload_n d_Ref_moveAddress_151 rfl ?_
      obtain ⟨a13, ha13, H⟩ := Option.bind_eq_some_iff.mp H
      rw [j_rf ha13]
      obtain ⟨N14, hN14, H⟩ := Option.bind_eq_some_iff.mp H
      obtain ⟨k15, hk15, H⟩ := Option.bind_eq_some_iff.mp H
      refine F_iast k15 hw hG d_Ref_moveAddress_152 (gA_some hN14) (ix_some hk15) ?_
      refine J_aload_n d_Ref_moveAddress_153 rfl ?_
      refine F_getR (ci := 12) (k := 49) hG (cf_Ref hw) (fl_Ref_133 hw) (by decide) (by decide) rfl d_Ref_moveAddress_154 g1 ?_
      refine J_aload_n d_Ref_moveAddress_157 rfl ?_
      refine F_getI (ci := 12) (k := 51) hG (cf_Ref hw) (fl_Ref_529 hw) (by decide) (by decide) rfl d_Ref_moveAddress_158 g1 ?_
      refine J_lload d_Ref_moveAddress_161 rfl ?_
      obtain ⟨q16, hq16, H⟩ := Option.bind_eq_some_iff.mp H
      refine J_callS (kc := 0) (ks := 0) (kc' := 0) (ks' := 0) (as := [.long (q3.2.2.1 a4 k6)]) (st := [.int ((uI (uI q9.2 a10 k12 q2.1) a13 k15 q2.1).1 this 51), va_rf ((uI (uI q9.2 a10 k12 q2.1) a13 k15 q2.1).2.2 this 49)]) (mf_Ref_idOf hw) (ms_Ref_396 hw) d_Ref_moveAddress_163 ln_Ref_idOf (by decide) (by first | exact Nat.le_of_ble_eq_true rfl | (simp only [List.map_cons, List.map_nil, List.sum_cons, List.sum_nil, va_rf_cat]; exact Nat.le_of_ble_eq_true rfl)) rfl (p_Ref_idOf hw hG hq16) ?_ (fun E h' n' x' e1 => by cases e1.1)
      intro v9 h9 n9 x9 e9
      obtain ⟨e91, e92, e93⟩ := e9
      cases e91
      subst e92
      subst e93
      clear x
      rename Bool => x
      show J _ _ _ _ (_ :: _) _ _ _ _ _ _
      obtain ⟨a17, ha17, H⟩ := Option.bind_eq_some_iff.mp H
      rw [j_rf ha17]
      obtain ⟨N18, hN18, H⟩ := Option.bind_eq_some_iff.mp H
      obtain ⟨k19, hk19, H⟩ := Option.bind_eq_some_iff.mp H
      refine F_iast k19 hw hG d_Ref_moveAddress_166 (gA_some hN18) (ix_some hk19) ?_
      refine J_aload_n d_Ref_moveAddress_167 rfl ?_
      refine F_getR (ci := 12) (k := 50) hG (cf_Ref hw) (fl_Ref_136 hw) (by decide) (by decide) rfl d_Ref_moveAddress_168 g1 ?_
      refine J_aload_n d_Ref_moveAddress_171 rfl ?_
      refine F_getI (ci := 12) (k := 51) hG (cf_Ref hw) (fl_Ref_529 hw) (by decide) (by decide) rfl d_Ref_moveAddress_172 g1 ?_
      refine J_iload_n d_Ref_moveAddress_175 rfl ?_
      obtain ⟨a20, ha20, H⟩ := Option.bind_eq_some_iff.mp H
      rw [j_rf ha20]
      obtain ⟨N21, hN21, H⟩ := Option.bind_eq_some_iff.mp H
      obtain ⟨k22, hk22, H⟩ := Option.bind_eq_some_iff.mp H
      refine F_iast k22 hw hG d_Ref_moveAddress_176 (gA_some hN21) (ix_some hk22) ?_
      refine J_aload_n d_Ref_moveAddress_177 rfl ?_
      refine J_dup d_Ref_moveAddress_178 rfl ?_
      refine F_getI (ci := 12) (k := 51) hG (cf_Ref hw) (fl_Ref_529 hw) (by decide) (by decide) rfl d_Ref_moveAddress_179 g1 ?_
      refine J_iconst (v := 1) d_Ref_moveAddress_182 (by decide) ?_
      refine J_iadd d_Ref_moveAddress_183 ?_
      refine F_putI (ci := 12) (k := 51) hG (cf_Ref hw) (fl_Ref_529 hw) (by decide) (by decide) rfl d_Ref_moveAddress_184 rfl rfl rfl g1 ?_
      refine J.drop [false, false, false, false, false, false, false] rfl ?_
      exact p_Ref_moveAddress_L187 hw hG  H
    · intro c40
      rw [if_pos c40] at H
      refine J_aload_n d_Ref_moveAddress_68 rfl ?_
      refine F_getR (ci := 12) (k := 52) hG (cf_Ref hw) (fl_Ref_139 hw) (by decide) (by decide) rfl d_Ref_moveAddress_69 g1 ?_
      refine J_iload_n d_Ref_moveAddress_72 rfl ?_
      refine J_iload_n d_Ref_moveAddress_73 rfl ?_
      obtain ⟨a23, ha23, H⟩ := Option.bind_eq_some_iff.mp H
      rw [j_rf ha23]
      obtain ⟨N24, hN24, H⟩ := Option.bind_eq_some_iff.mp H
      obtain ⟨k25, hk25, H⟩ := Option.bind_eq_some_iff.mp H
      refine F_iast k25 hw hG d_Ref_moveAddress_74 (gA_some hN24) (ix_some hk25) ?_
      refine J_aload_n d_Ref_moveAddress_75 rfl ?_
      refine F_getR (ci := 12) (k := 43) hG (cf_Ref hw) (fl_Ref_118 hw) (by decide) (by decide) rfl d_Ref_moveAddress_76 g1 ?_
      refine J_aload_n d_Ref_moveAddress_79 rfl ?_
      refine F_getI (ci := 12) (k := 47) hG (cf_Ref hw) (fl_Ref_526 hw) (by decide) (by decide) rfl d_Ref_moveAddress_80 g1 ?_
      refine J_iload_n d_Ref_moveAddress_83 rfl ?_
      obtain ⟨a26, ha26, H⟩ := Option.bind_eq_some_iff.mp H
      rw [j_rf ha26]
      obtain ⟨N27, hN27, H⟩ := Option.bind_eq_some_iff.mp H
      obtain ⟨k28, hk28, H⟩ := Option.bind_eq_some_iff.mp H
      refine F_iast k28 hw hG d_Ref_moveAddress_84 (gA_some hN27) (ix_some hk28) ?_
      refine J_aload_n d_Ref_moveAddress_85 rfl ?_
      refine F_getR (ci := 12) (k := 44) hG (cf_Ref hw) (fl_Ref_121 hw) (by decide) (by decide) rfl d_Ref_moveAddress_86 g1 ?_
      refine J_aload_n d_Ref_moveAddress_89 rfl ?_
      refine F_getI (ci := 12) (k := 47) hG (cf_Ref hw) (fl_Ref_526 hw) (by decide) (by decide) rfl d_Ref_moveAddress_90 g1 ?_
      refine J_lload d_Ref_moveAddress_93 rfl ?_
      obtain ⟨q29, hq29, H⟩ := Option.bind_eq_some_iff.mp H
      refine J_callS (kc := 0) (ks := 0) (kc' := 0) (ks' := 0) (as := [.long (q3.2.2.1 a4 k6)]) (st := [.int ((uI (uI q9.2 a23 k25 q2.1) a26 k28 q2.1).1 this 47), va_rf ((uI (uI q9.2 a23 k25 q2.1) a26 k28 q2.1).2.2 this 44)]) (mf_Ref_idOf hw) (ms_Ref_396 hw) d_Ref_moveAddress_95 ln_Ref_idOf (by decide) (by first | exact Nat.le_of_ble_eq_true rfl | (simp only [List.map_cons, List.map_nil, List.sum_cons, List.sum_nil, va_rf_cat]; exact Nat.le_of_ble_eq_true rfl)) rfl (p_Ref_idOf hw hG hq29) ?_ (fun E h' n' x' e1 => by cases e1.1)
      intro v9 h9 n9 x9 e9
      obtain ⟨e91, e92, e93⟩ := e9
      cases e91
      subst e92
      subst e93
      clear x
      rename Bool => x
      show J _ _ _ _ (_ :: _) _ _ _ _ _ _
      obtain ⟨a30, ha30, H⟩ := Option.bind_eq_some_iff.mp H
      rw [j_rf ha30]
      obtain ⟨N31, hN31, H⟩ := Option.bind_eq_some_iff.mp H
      obtain ⟨k32, hk32, H⟩ := Option.bind_eq_some_iff.mp H
      refine F_iast k32 hw hG d_Ref_moveAddress_98 (gA_some hN31) (ix_some hk32) ?_
      refine J_aload_n d_Ref_moveAddress_99 rfl ?_
      refine F_getR (ci := 12) (k := 45) hG (cf_Ref hw) (fl_Ref_124 hw) (by decide) (by decide) rfl d_Ref_moveAddress_100 g1 ?_
      refine J_aload_n d_Ref_moveAddress_103 rfl ?_
      refine F_getI (ci := 12) (k := 47) hG (cf_Ref hw) (fl_Ref_526 hw) (by decide) (by decide) rfl d_Ref_moveAddress_104 g1 ?_
      refine J_iload_n d_Ref_moveAddress_107 rfl ?_
      obtain ⟨a33, ha33, H⟩ := Option.bind_eq_some_iff.mp H
      rw [j_rf ha33]
      obtain ⟨N34, hN34, H⟩ := Option.bind_eq_some_iff.mp H
      obtain ⟨k35, hk35, H⟩ := Option.bind_eq_some_iff.mp H
      refine F_iast k35 hw hG d_Ref_moveAddress_108 (gA_some hN34) (ix_some hk35) ?_
      refine J_aload_n d_Ref_moveAddress_109 rfl ?_
      refine F_getR (ci := 12) (k := 46) hG (cf_Ref hw) (fl_Ref_127 hw) (by decide) (by decide) rfl d_Ref_moveAddress_110 g1 ?_
      refine J_aload_n d_Ref_moveAddress_113 rfl ?_
      refine F_getI (ci := 12) (k := 47) hG (cf_Ref hw) (fl_Ref_526 hw) (by decide) (by decide) rfl d_Ref_moveAddress_114 g1 ?_
      refine J_lload d_Ref_moveAddress_117 rfl ?_
      obtain ⟨q36, hq36, H⟩ := Option.bind_eq_some_iff.mp H
      refine J_callS (kc := 0) (ks := 0) (kc' := 0) (ks' := 0) (as := [.long (q3.2.2.1 a4 k6)]) (st := [.int ((uI (uI q29.2 a30 k32 q29.1) a33 k35 p0).1 this 47), va_rf ((uI (uI q29.2 a30 k32 q29.1) a33 k35 p0).2.2 this 46)]) (mf_Ref_lengthOf hw) (ms_Ref_321 hw) d_Ref_moveAddress_119 ln_Ref_lengthOf (by decide) (by first | exact Nat.le_of_ble_eq_true rfl | (simp only [List.map_cons, List.map_nil, List.sum_cons, List.sum_nil, va_rf_cat]; exact Nat.le_of_ble_eq_true rfl)) rfl (p_Ref_lengthOf hw hG hq36) ?_ (fun E h' n' x' e1 => by cases e1.1)
      intro v9 h9 n9 x9 e9
      obtain ⟨e91, e92, e93⟩ := e9
      cases e91
      subst e92
      subst e93
      clear x
      rename Bool => x
      show J _ _ _ _ (_ :: _) _ _ _ _ _ _
      obtain ⟨a37, ha37, H⟩ := Option.bind_eq_some_iff.mp H
      rw [j_rf ha37]
      obtain ⟨N38, hN38, H⟩ := Option.bind_eq_some_iff.mp H
      obtain ⟨k39, hk39, H⟩ := Option.bind_eq_some_iff.mp H
      refine F_iast k39 hw hG d_Ref_moveAddress_122 (gA_some hN38) (ix_some hk39) ?_
      refine J_aload_n d_Ref_moveAddress_123 rfl ?_
      refine J_dup d_Ref_moveAddress_124 rfl ?_
      refine F_getI (ci := 12) (k := 47) hG (cf_Ref hw) (fl_Ref_526 hw) (by decide) (by decide) rfl d_Ref_moveAddress_125 g1 ?_
      refine J_iconst (v := 1) d_Ref_moveAddress_128 (by decide) ?_
      refine J_iadd d_Ref_moveAddress_129 ?_
      refine F_putI (ci := 12) (k := 47) hG (cf_Ref hw) (fl_Ref_526 hw) (by decide) (by decide) rfl d_Ref_moveAddress_130 rfl rfl rfl g1 ?_
      refine J_goto (tgt := 187) d_Ref_moveAddress_133 (by decide) ?_
      refine J.drop [false, false, false, false, false, false, false] rfl ?_
      exact p_Ref_moveAddress_L187 hw hG  H
  · intro c41
    rw [if_pos c41] at H
    cases H
    exact J_vret (st := []) d_Ref_moveAddress_12 rfl ⟨rfl, rfl, rfl⟩
theorem ln_Ref_moveData : (parseMethodDescriptor y_Ref_moveData.desc).map (fun q => q.parameters.length) = some 1 := by decide +kernel
def f_Ref_moveData_L199 (Γ : gm_T)  (φ : ph_T) : Option (Unit × ph_T) :=
  some ((), φ)
set_option maxRecDepth 100000 in
set_option maxHeartbeats 4000000 in
theorem p_Ref_moveData_L199 {w : jw_T} (hw : jok w) {Γ : gm_T} {n : Nat} (hG : gd w Γ n)  {x : Bool} {φ : ph_T} {q : Unit × ph_T} (H : f_Ref_moveData_L199 Γ  φ  = some q) : J w M_Ref_moveData 199 [none, none, none, none, none, none] [] (pic Γ φ) n x 0 0 (fq Γ n (.inl none) q.2) := by
  unfold f_Ref_moveData_L199 at H
  cases H
  exact J_vret (st := []) d_Ref_moveData_199 rfl ⟨rfl, rfl, rfl⟩
def f_Ref_moveData_L121 (Γ : gm_T) (Kc83 : ph_T → Nat → Int32 → Int32 → Int32 → Int32 → Option (Unit × ph_T)) (φ : ph_T) (x0 : Nat) (x2 : Int32) (x3 : Int32) (x5 : Int32) (y0 : Int32) : Option (Unit × ph_T) :=
  Kc83 φ x0 x2 x3 y0 (x5 + (-1 : Int32))
set_option maxRecDepth 100000 in
set_option maxHeartbeats 4000000 in
theorem p_Ref_moveData_L121 {w : jw_T} (hw : jok w) {Γ : gm_T} {n : Nat} (hG : gd w Γ n) {Kc83 : ph_T → Nat → Int32 → Int32 → Int32 → Int32 → Option (Unit × ph_T)} (hKc83 : ∀ {x : Bool} {φ : ph_T} {x0 : Nat} {x2 : Int32} {x3 : Int32} {x4 : Int32} {x5 : Int32} {q : Unit × ph_T}, Kc83 φ x0 x2 x3 x4 x5 = some q → J w M_Ref_moveData 83 [some (.ref x0), none, some (.int x2), some (.int x3), some (.int x4), some (.int x5)] [] (pic Γ φ) n x 0 0 (fq Γ n (.inl none) q.2)) {x : Bool} {φ : ph_T} {x0 : Nat} {x2 : Int32} {x3 : Int32} {x5 : Int32} {y0 : Int32} {q : Unit × ph_T} (H : f_Ref_moveData_L121 Γ Kc83 φ x0 x2 x3 x5 y0 = some q) : J w M_Ref_moveData 121 [some (.ref x0), none, some (.int x2), some (.int x3), none, some (.int x5)] [.int y0] (pic Γ φ) n x 0 0 (fq Γ n (.inl none) q.2) := by
  unfold f_Ref_moveData_L121 at H
  refine J_istore d_Ref_moveData_121 (Nat.le_of_ble_eq_true rfl) ?_
  refine J_iinc (v := x5 + -1) d_Ref_moveData_123 rfl (by rw [show Int32.ofInt (-1) = (-1 : Int32) from by decide]) ?_
  refine J_goto (tgt := 83) d_Ref_moveData_126 (by decide) ?_
  refine J.drop [true, false, true, true, true, true] rfl ?_
  exact hKc83 H
def f_Ref_moveData_L119 (Γ : gm_T) (Kc83 : ph_T → Nat → Int32 → Int32 → Int32 → Int32 → Option (Unit × ph_T)) (φ : ph_T) (x0 : Nat) (x2 : Int32) (x3 : Int32) (x4 : Int32) (x5 : Int32) : Option (Unit × ph_T) :=
  f_Ref_moveData_L121 Γ Kc83 φ x0 x2 x3 x5 x4
set_option maxRecDepth 100000 in
set_option maxHeartbeats 4000000 in
theorem p_Ref_moveData_L119 {w : jw_T} (hw : jok w) {Γ : gm_T} {n : Nat} (hG : gd w Γ n) {Kc83 : ph_T → Nat → Int32 → Int32 → Int32 → Int32 → Option (Unit × ph_T)} (hKc83 : ∀ {x : Bool} {φ : ph_T} {x0 : Nat} {x2 : Int32} {x3 : Int32} {x4 : Int32} {x5 : Int32} {q : Unit × ph_T}, Kc83 φ x0 x2 x3 x4 x5 = some q → J w M_Ref_moveData 83 [some (.ref x0), none, some (.int x2), some (.int x3), some (.int x4), some (.int x5)] [] (pic Γ φ) n x 0 0 (fq Γ n (.inl none) q.2)) {x : Bool} {φ : ph_T} {x0 : Nat} {x2 : Int32} {x3 : Int32} {x4 : Int32} {x5 : Int32} {q : Unit × ph_T} (H : f_Ref_moveData_L119 Γ Kc83 φ x0 x2 x3 x4 x5 = some q) : J w M_Ref_moveData 119 [some (.ref x0), none, some (.int x2), some (.int x3), some (.int x4), some (.int x5)] [] (pic Γ φ) n x 0 0 (fq Γ n (.inl none) q.2) := by
  unfold f_Ref_moveData_L119 at H
  refine J_iload d_Ref_moveData_119 rfl ?_
  refine J.drop [true, false, true, true, false, true] rfl ?_
  exact p_Ref_moveData_L121 hw hG hKc83 H
def f_Ref_moveData_L83 (Γ : gm_T)  : Nat → ph_T → Nat → Int32 → Int32 → Int32 → Int32 → Option (Unit × ph_T)
  | 0, _, _, _, _, _, _ => none
  | fu + 1, φ, x0, x2, x3, x4, x5 =>
    if x5 < 0 then
      @ite _ (Γ x0 = .inr 12) _ (
      Option.bind (φ.2.2 x0 45) fun a2 =>
      Option.bind (gA Γ a2 0) fun N3 =>
      Option.bind (ix x3 N3) fun k4 =>
      Option.bind (f_Ref_rowOf Γ φ x0 (1 : Int32) (φ.1 a2 k4) (1 : Int32)) fun q5 =>
      if x4 = x3 then
        Option.bind (f_Ref_hasRoom Γ q5.2 x0 q5.1) fun q6 =>
        if q6.1 = 0 then
          f_Ref_moveData_L199 Γ  q6.2 
        else
          Option.bind (q6.2.2.2 x0 39) fun a7 =>
          Option.bind (gA Γ a7 1) fun N8 =>
          Option.bind (ix ((4 : Int32) * x2) N8) fun k9 =>
          Option.bind (q6.2.2.2 x0 40) fun a10 =>
          Option.bind (gA Γ a10 0) fun N11 =>
          Option.bind (ix ((4 : Int32) * x2) N11) fun k12 =>
          Option.bind (f_Ref_put Γ q6.2 x0 q5.1 (q6.2.2.1 a7 k9) (q6.2.1 a10 k12) (q6.2.1 x0 6)) fun q13 =>
          Option.bind (f_Ref_take Γ q13.2 x0 x2) fun q14 =>
          Option.bind (q14.2.2.2 x0 46) fun a15 =>
          Option.bind (gA Γ a15 0) fun N16 =>
          Option.bind (ix x3 N16) fun k17 =>
          Option.bind (gA Γ a15 0) fun N18 =>
          Option.bind (ix x3 N18) fun k19 =>
          f_Ref_moveData_L199 Γ  (uI q14.2 a15 k19 ((q14.2.1 a15 k17) - (1 : Int32))) 
      else
        f_Ref_moveData_L199 Γ  q5.2 
      ) none
    else
      @ite _ (Γ x0 = .inr 12) _ (
      Option.bind (φ.2.2 x0 45) fun a23 =>
      Option.bind (gA Γ a23 0) fun N24 =>
      Option.bind (ix x5 N24) fun k25 =>
      Option.bind (gA Γ a23 0) fun N26 =>
      Option.bind (ix x3 N26) fun k27 =>
      if (φ.1 a23 k25) = (φ.1 a23 k27) then
        Option.bind (φ.2.2 x0 46) fun a28 =>
        Option.bind (gA Γ a28 0) fun N29 =>
        Option.bind (ix x5 N29) fun k30 =>
        if (φ.1 a28 k30) ≤ 0 then
          f_Ref_moveData_L119 Γ (f_Ref_moveData_L83 Γ  fu) φ x0 x2 x3 x4 x5
        else
          f_Ref_moveData_L121 Γ (f_Ref_moveData_L83 Γ  fu) φ x0 x2 x3 x5 x5
      else
        f_Ref_moveData_L119 Γ (f_Ref_moveData_L83 Γ  fu) φ x0 x2 x3 x4 x5
      ) none
set_option maxRecDepth 100000 in
set_option maxHeartbeats 4000000 in
theorem p_Ref_moveData_L83 {w : jw_T} (hw : jok w) {Γ : gm_T} {n : Nat} (hG : gd w Γ n)  : ∀ (fu : Nat) {x : Bool} {φ : ph_T} {x0 : Nat} {x2 : Int32} {x3 : Int32} {x4 : Int32} {x5 : Int32} {q : Unit × ph_T}, f_Ref_moveData_L83 Γ  fu φ x0 x2 x3 x4 x5 = some q → J w M_Ref_moveData 83 [some (.ref x0), none, some (.int x2), some (.int x3), some (.int x4), some (.int x5)] [] (pic Γ φ) n x 0 0 (fq Γ n (.inl none) q.2) := by
  intro fu
  induction fu with
  | zero =>
    intro x φ x0 x2 x3 x4 x5 q H
    cases H
  | succ fu ih =>
    intro x φ x0 x2 x3 x4 x5 q H
    unfold f_Ref_moveData_L83 at H
    refine J_iload d_Ref_moveData_83 rfl ?_
    refine J_if_lt (tgt := 129) d_Ref_moveData_85 (by decide) ?_ ?_
    · intro c33
      rw [if_pos c33] at H
      refine J_aload_n d_Ref_moveData_129 rfl ?_
      refine J_iconst (v := 1) d_Ref_moveData_130 (by decide) ?_
      refine J_aload_n d_Ref_moveData_131 rfl ?_
      have g1 : Γ x0 = .inr 12 := by
        apply Classical.byContradiction
        intro q9
        rw [if_neg q9] at H
        cases H
      rw [if_pos g1] at H
      refine F_getR (ci := 12) (k := 45) hG (cf_Ref hw) (fl_Ref_124 hw) (by decide) (by decide) rfl d_Ref_moveData_132 g1 ?_
      refine J_iload_n d_Ref_moveData_135 rfl ?_
      obtain ⟨a2, ha2, H⟩ := Option.bind_eq_some_iff.mp H
      rw [j_rf ha2]
      obtain ⟨N3, hN3, H⟩ := Option.bind_eq_some_iff.mp H
      obtain ⟨k4, hk4, H⟩ := Option.bind_eq_some_iff.mp H
      refine F_iald k4 hw hG d_Ref_moveData_136 (gA_some hN3) (ix_some hk4) ?_
      refine J_iconst (v := 1) d_Ref_moveData_137 (by decide) ?_
      obtain ⟨q5, hq5, H⟩ := Option.bind_eq_some_iff.mp H
      refine J_callV (kc := 0) (ks := 0) (kc' := 0) (ks' := 0) (a := x0) (ci := 12) (as := [.int (1 : Int32), .int (φ.1 a2 k4), .int (1 : Int32)]) (st := []) (mf_Ref_rowOf hw) (mv_Ref_388 hw) d_Ref_moveData_138 ln_Ref_rowOf (by decide) (by first | exact Nat.le_of_ble_eq_true rfl | (simp only [List.map_cons, List.map_nil, List.sum_cons, List.sum_nil, va_rf_cat]; exact Nat.le_of_ble_eq_true rfl)) rfl ((hG _).1 _ g1 (by decide)).1 ((hG _).1 _ g1 (by decide)).2 (by unfold pic; rw [g1]; rfl) (jcl_at hw rfl) rfl (p_Ref_rowOf hw hG hq5) ?_ (fun E h' n' x' e1 => by cases e1.1)
      intro v9 h9 n9 x9 e9
      obtain ⟨e91, e92, e93⟩ := e9
      cases e91
      subst e92
      subst e93
      clear x
      rename Bool => x
      show J _ _ _ _ (_ :: _) _ _ _ _ _ _
      refine J_istore d_Ref_moveData_141 (Nat.le_of_ble_eq_true rfl) ?_
      refine J_iload d_Ref_moveData_143 rfl ?_
      refine J_iload_n d_Ref_moveData_145 rfl ?_
      refine J_icmp_ne (tgt := 199) d_Ref_moveData_146 (by decide) ?_ ?_
      · intro c21
        rw [if_neg c21] at H
        refine J.drop [false, false, false, false, false, false] rfl ?_
        exact p_Ref_moveData_L199 hw hG  H
      · intro c21
        rw [if_pos c21] at H
        refine J_aload_n d_Ref_moveData_149 rfl ?_
        refine J_iload d_Ref_moveData_150 rfl ?_
        obtain ⟨q6, hq6, H⟩ := Option.bind_eq_some_iff.mp H
        refine J_callV (kc := 0) (ks := 0) (kc' := 0) (ks' := 0) (a := x0) (ci := 12) (as := [.int q5.1]) (st := []) (mf_Ref_hasRoom hw) (mv_Ref_392 hw) d_Ref_moveData_152 ln_Ref_hasRoom (by decide) (by first | exact Nat.le_of_ble_eq_true rfl | (simp only [List.map_cons, List.map_nil, List.sum_cons, List.sum_nil, va_rf_cat]; exact Nat.le_of_ble_eq_true rfl)) rfl ((hG _).1 _ g1 (by decide)).1 ((hG _).1 _ g1 (by decide)).2 (by unfold pic; rw [g1]; rfl) (jcl_at hw rfl) rfl (p_Ref_hasRoom hw hG hq6) ?_ (fun E h' n' x' e1 => by cases e1.1)
        intro v9 h9 n9 x9 e9
        obtain ⟨e91, e92, e93⟩ := e9
        cases e91
        subst e92
        subst e93
        clear x
        rename Bool => x
        show J _ _ _ _ (_ :: _) _ _ _ _ _ _
        refine J_if_eq (tgt := 199) d_Ref_moveData_155 (by decide) ?_ ?_
        · intro c20
          rw [if_pos c20] at H
          refine J.drop [false, false, false, false, false, false] rfl ?_
          exact p_Ref_moveData_L199 hw hG  H
        · intro c20
          rw [if_neg c20] at H
          refine J_aload_n d_Ref_moveData_158 rfl ?_
          refine J_iload d_Ref_moveData_159 rfl ?_
          refine J_aload_n d_Ref_moveData_161 rfl ?_
          refine F_getR (ci := 12) (k := 39) hG (cf_Ref hw) (fl_Ref_106 hw) (by decide) (by decide) rfl d_Ref_moveData_162 g1 ?_
          refine J_iconst (v := 4) d_Ref_moveData_165 (by decide) ?_
          refine J_iload_n d_Ref_moveData_166 rfl ?_
          refine J_imul d_Ref_moveData_167 ?_
          obtain ⟨a7, ha7, H⟩ := Option.bind_eq_some_iff.mp H
          rw [j_rf ha7]
          obtain ⟨N8, hN8, H⟩ := Option.bind_eq_some_iff.mp H
          obtain ⟨k9, hk9, H⟩ := Option.bind_eq_some_iff.mp H
          refine F_lald k9 hw hG d_Ref_moveData_168 (gA_some hN8) (ix_some hk9) ?_
          refine J_aload_n d_Ref_moveData_169 rfl ?_
          refine F_getR (ci := 12) (k := 40) hG (cf_Ref hw) (fl_Ref_109 hw) (by decide) (by decide) rfl d_Ref_moveData_170 g1 ?_
          refine J_iconst (v := 4) d_Ref_moveData_173 (by decide) ?_
          refine J_iload_n d_Ref_moveData_174 rfl ?_
          refine J_imul d_Ref_moveData_175 ?_
          obtain ⟨a10, ha10, H⟩ := Option.bind_eq_some_iff.mp H
          rw [j_rf ha10]
          obtain ⟨N11, hN11, H⟩ := Option.bind_eq_some_iff.mp H
          obtain ⟨k12, hk12, H⟩ := Option.bind_eq_some_iff.mp H
          refine F_iald k12 hw hG d_Ref_moveData_176 (gA_some hN11) (ix_some hk12) ?_
          refine J_aload_n d_Ref_moveData_177 rfl ?_
          refine F_getI (ci := 12) (k := 6) hG (cf_Ref hw) (fl_Ref_348 hw) (by decide) (by decide) rfl d_Ref_moveData_178 g1 ?_
          obtain ⟨q13, hq13, H⟩ := Option.bind_eq_some_iff.mp H
          refine J_callV (kc := 0) (ks := 0) (kc' := 0) (ks' := 0) (a := x0) (ci := 12) (as := [.int q5.1, .long (q6.2.2.1 a7 k9), .int (q6.2.1 a10 k12), .int (q6.2.1 x0 6)]) (st := []) (mf_Ref_put hw) (mv_Ref_469 hw) d_Ref_moveData_181 ln_Ref_put (by decide) (by first | exact Nat.le_of_ble_eq_true rfl | (simp only [List.map_cons, List.map_nil, List.sum_cons, List.sum_nil, va_rf_cat]; exact Nat.le_of_ble_eq_true rfl)) rfl ((hG _).1 _ g1 (by decide)).1 ((hG _).1 _ g1 (by decide)).2 (by unfold pic; rw [g1]; rfl) (jcl_at hw rfl) rfl (p_Ref_put hw hG hq13) ?_ (fun E h' n' x' e1 => by cases e1.1)
          intro v9 h9 n9 x9 e9
          obtain ⟨e91, e92, e93⟩ := e9
          cases e91
          subst e92
          subst e93
          clear x
          rename Bool => x
          show J _ _ _ _ [] _ _ _ _ _ _
          refine J_aload_n d_Ref_moveData_184 rfl ?_
          refine J_iload_n d_Ref_moveData_185 rfl ?_
          obtain ⟨q14, hq14, H⟩ := Option.bind_eq_some_iff.mp H
          refine J_callV (kc := 0) (ks := 0) (kc' := 0) (ks' := 0) (a := x0) (ci := 12) (as := [.int x2]) (st := []) (mf_Ref_take hw) (mv_Ref_473 hw) d_Ref_moveData_186 ln_Ref_take (by decide) (by first | exact Nat.le_of_ble_eq_true rfl | (simp only [List.map_cons, List.map_nil, List.sum_cons, List.sum_nil, va_rf_cat]; exact Nat.le_of_ble_eq_true rfl)) rfl ((hG _).1 _ g1 (by decide)).1 ((hG _).1 _ g1 (by decide)).2 (by unfold pic; rw [g1]; rfl) (jcl_at hw rfl) rfl (p_Ref_take hw hG hq14) ?_ (fun E h' n' x' e1 => by cases e1.1)
          intro v9 h9 n9 x9 e9
          obtain ⟨e91, e92, e93⟩ := e9
          cases e91
          subst e92
          subst e93
          clear x
          rename Bool => x
          show J _ _ _ _ [] _ _ _ _ _ _
          refine J_aload_n d_Ref_moveData_189 rfl ?_
          refine F_getR (ci := 12) (k := 46) hG (cf_Ref hw) (fl_Ref_127 hw) (by decide) (by decide) rfl d_Ref_moveData_190 g1 ?_
          refine J_iload_n d_Ref_moveData_193 rfl ?_
          refine J_dup2 d_Ref_moveData_194 rfl (va_rf_cat _) ?_
          obtain ⟨a15, ha15, H⟩ := Option.bind_eq_some_iff.mp H
          rw [j_rf ha15]
          obtain ⟨N16, hN16, H⟩ := Option.bind_eq_some_iff.mp H
          obtain ⟨k17, hk17, H⟩ := Option.bind_eq_some_iff.mp H
          refine F_iald k17 hw hG d_Ref_moveData_195 (gA_some hN16) (ix_some hk17) ?_
          refine J_iconst (v := 1) d_Ref_moveData_196 (by decide) ?_
          refine J_isub d_Ref_moveData_197 ?_
          obtain ⟨N18, hN18, H⟩ := Option.bind_eq_some_iff.mp H
          obtain ⟨k19, hk19, H⟩ := Option.bind_eq_some_iff.mp H
          refine F_iast k19 hw hG d_Ref_moveData_198 (gA_some hN18) (ix_some hk19) ?_
          refine J.drop [false, false, false, false, false, false] rfl ?_
          exact p_Ref_moveData_L199 hw hG  H
    · intro c33
      rw [if_neg c33] at H
      refine J_aload_n d_Ref_moveData_88 rfl ?_
      have g22 : Γ x0 = .inr 12 := by
        apply Classical.byContradiction
        intro q9
        rw [if_neg q9] at H
        cases H
      rw [if_pos g22] at H
      refine F_getR (ci := 12) (k := 45) hG (cf_Ref hw) (fl_Ref_124 hw) (by decide) (by decide) rfl d_Ref_moveData_89 g22 ?_
      refine J_iload d_Ref_moveData_92 rfl ?_
      obtain ⟨a23, ha23, H⟩ := Option.bind_eq_some_iff.mp H
      rw [j_rf ha23]
      obtain ⟨N24, hN24, H⟩ := Option.bind_eq_some_iff.mp H
      obtain ⟨k25, hk25, H⟩ := Option.bind_eq_some_iff.mp H
      refine F_iald k25 hw hG d_Ref_moveData_94 (gA_some hN24) (ix_some hk25) ?_
      refine J_aload_n d_Ref_moveData_95 rfl ?_
      refine F_getR (ci := 12) (k := 45) hG (cf_Ref hw) (fl_Ref_124 hw) (by decide) (by decide) rfl d_Ref_moveData_96 g22 ?_
      refine J_iload_n d_Ref_moveData_99 rfl ?_
      try rw [j_rf ha23]
      obtain ⟨N26, hN26, H⟩ := Option.bind_eq_some_iff.mp H
      obtain ⟨k27, hk27, H⟩ := Option.bind_eq_some_iff.mp H
      refine F_iald k27 hw hG d_Ref_moveData_100 (gA_some hN26) (ix_some hk27) ?_
      refine J_icmp_ne (tgt := 119) d_Ref_moveData_101 (by decide) ?_ ?_
      · intro c32
        rw [if_neg c32] at H
        refine J.drop [true, false, true, true, true, true] rfl ?_
        exact p_Ref_moveData_L119 hw hG ih H
      · intro c32
        rw [if_pos c32] at H
        refine J_aload_n d_Ref_moveData_104 rfl ?_
        refine F_getR (ci := 12) (k := 46) hG (cf_Ref hw) (fl_Ref_127 hw) (by decide) (by decide) rfl d_Ref_moveData_105 g22 ?_
        refine J_iload d_Ref_moveData_108 rfl ?_
        obtain ⟨a28, ha28, H⟩ := Option.bind_eq_some_iff.mp H
        rw [j_rf ha28]
        obtain ⟨N29, hN29, H⟩ := Option.bind_eq_some_iff.mp H
        obtain ⟨k30, hk30, H⟩ := Option.bind_eq_some_iff.mp H
        refine F_iald k30 hw hG d_Ref_moveData_110 (gA_some hN29) (ix_some hk30) ?_
        refine J_if_le (tgt := 119) d_Ref_moveData_111 (by decide) ?_ ?_
        · intro c31
          rw [if_pos c31] at H
          refine J.drop [true, false, true, true, true, true] rfl ?_
          exact p_Ref_moveData_L119 hw hG ih H
        · intro c31
          rw [if_neg c31] at H
          refine J_iload d_Ref_moveData_114 rfl ?_
          refine J_goto (tgt := 121) d_Ref_moveData_116 (by decide) ?_
          refine J.drop [true, false, true, true, false, true] rfl ?_
          exact p_Ref_moveData_L121 hw hG ih H
def f_Ref_moveData_L71 (Γ : gm_T)  (φ : ph_T) : Option (Unit × ph_T) :=
  some ((), φ)
set_option maxRecDepth 100000 in
set_option maxHeartbeats 4000000 in
theorem p_Ref_moveData_L71 {w : jw_T} (hw : jok w) {Γ : gm_T} {n : Nat} (hG : gd w Γ n)  {x : Bool} {φ : ph_T} {q : Unit × ph_T} (H : f_Ref_moveData_L71 Γ  φ  = some q) : J w M_Ref_moveData 71 [none, none, none, none, none, none] [] (pic Γ φ) n x 0 0 (fq Γ n (.inl none) q.2) := by
  unfold f_Ref_moveData_L71 at H
  cases H
  exact J_vret (st := []) d_Ref_moveData_71 rfl ⟨rfl, rfl, rfl⟩
def f_Ref_moveData_L50 (Γ : gm_T) (Kc18 : ph_T → Nat → Int32 → Int32 → Int32 → Int32 → Option (Unit × ph_T)) (φ : ph_T) (x0 : Nat) (x1 : Int32) (x2 : Int32) (x4 : Int32) (y0 : Int32) : Option (Unit × ph_T) :=
  Kc18 φ x0 x1 x2 y0 (x4 + (-1 : Int32))
set_option maxRecDepth 100000 in
set_option maxHeartbeats 4000000 in
theorem p_Ref_moveData_L50 {w : jw_T} (hw : jok w) {Γ : gm_T} {n : Nat} (hG : gd w Γ n) {Kc18 : ph_T → Nat → Int32 → Int32 → Int32 → Int32 → Option (Unit × ph_T)} (hKc18 : ∀ {x : Bool} {φ : ph_T} {x0 : Nat} {x1 : Int32} {x2 : Int32} {x3 : Int32} {x4 : Int32} {q : Unit × ph_T}, Kc18 φ x0 x1 x2 x3 x4 = some q → J w M_Ref_moveData 18 [some (.ref x0), some (.int x1), some (.int x2), some (.int x3), some (.int x4), none] [] (pic Γ φ) n x 0 0 (fq Γ n (.inl none) q.2)) {x : Bool} {φ : ph_T} {x0 : Nat} {x1 : Int32} {x2 : Int32} {x4 : Int32} {y0 : Int32} {q : Unit × ph_T} (H : f_Ref_moveData_L50 Γ Kc18 φ x0 x1 x2 x4 y0 = some q) : J w M_Ref_moveData 50 [some (.ref x0), some (.int x1), some (.int x2), none, some (.int x4), none] [.int y0] (pic Γ φ) n x 0 0 (fq Γ n (.inl none) q.2) := by
  unfold f_Ref_moveData_L50 at H
  refine J_istore_n d_Ref_moveData_50 (Nat.le_of_ble_eq_true rfl) ?_
  refine J_iinc (v := x4 + -1) d_Ref_moveData_51 rfl (by rw [show Int32.ofInt (-1) = (-1 : Int32) from by decide]) ?_
  refine J_goto (tgt := 18) d_Ref_moveData_54 (by decide) ?_
  refine J.drop [true, true, true, true, true, false] rfl ?_
  exact hKc18 H
def f_Ref_moveData_L49 (Γ : gm_T) (Kc18 : ph_T → Nat → Int32 → Int32 → Int32 → Int32 → Option (Unit × ph_T)) (φ : ph_T) (x0 : Nat) (x1 : Int32) (x2 : Int32) (x3 : Int32) (x4 : Int32) : Option (Unit × ph_T) :=
  f_Ref_moveData_L50 Γ Kc18 φ x0 x1 x2 x4 x3
set_option maxRecDepth 100000 in
set_option maxHeartbeats 4000000 in
theorem p_Ref_moveData_L49 {w : jw_T} (hw : jok w) {Γ : gm_T} {n : Nat} (hG : gd w Γ n) {Kc18 : ph_T → Nat → Int32 → Int32 → Int32 → Int32 → Option (Unit × ph_T)} (hKc18 : ∀ {x : Bool} {φ : ph_T} {x0 : Nat} {x1 : Int32} {x2 : Int32} {x3 : Int32} {x4 : Int32} {q : Unit × ph_T}, Kc18 φ x0 x1 x2 x3 x4 = some q → J w M_Ref_moveData 18 [some (.ref x0), some (.int x1), some (.int x2), some (.int x3), some (.int x4), none] [] (pic Γ φ) n x 0 0 (fq Γ n (.inl none) q.2)) {x : Bool} {φ : ph_T} {x0 : Nat} {x1 : Int32} {x2 : Int32} {x3 : Int32} {x4 : Int32} {q : Unit × ph_T} (H : f_Ref_moveData_L49 Γ Kc18 φ x0 x1 x2 x3 x4 = some q) : J w M_Ref_moveData 49 [some (.ref x0), some (.int x1), some (.int x2), some (.int x3), some (.int x4), none] [] (pic Γ φ) n x 0 0 (fq Γ n (.inl none) q.2) := by
  unfold f_Ref_moveData_L49 at H
  refine J_iload_n d_Ref_moveData_49 rfl ?_
  refine J.drop [true, true, true, false, true, false] rfl ?_
  exact p_Ref_moveData_L50 hw hG hKc18 H
def f_Ref_moveData_L18 (Γ : gm_T)  : Nat → ph_T → Nat → Int32 → Int32 → Int32 → Int32 → Option (Unit × ph_T)
  | 0, _, _, _, _, _, _ => none
  | fu + 1, φ, x0, x1, x2, x3, x4 =>
    if x4 < 0 then
      @ite _ (Γ x0 = .inr 12) _ (
      Option.bind (φ.2.2 x0 42) fun a35 =>
      Option.bind (gA Γ a35 0) fun N36 =>
      Option.bind (ix x2 N36) fun k37 =>
      if (φ.1 a35 k37) = 0 then
        f_Ref_moveData_L71 Γ  φ 
      else
        if x3 = (-1 : Int32) then
          f_Ref_moveData_L71 Γ  φ 
        else
          f_Ref_moveData_L83 Γ  jF φ x0 x2 x3 (-1 : Int32) ((φ.1 x0 47) - (1 : Int32))
      ) none
    else
      @ite _ (Γ x0 = .inr 12) _ (
      Option.bind (φ.2.2 x0 43) fun a41 =>
      Option.bind (gA Γ a41 0) fun N42 =>
      Option.bind (ix x4 N42) fun k43 =>
      if (φ.1 a41 k43) = x1 then
        Option.bind (φ.2.2 x0 46) fun a44 =>
        Option.bind (gA Γ a44 0) fun N45 =>
        Option.bind (ix x4 N45) fun k46 =>
        if (φ.1 a44 k46) ≤ 0 then
          f_Ref_moveData_L49 Γ (f_Ref_moveData_L18 Γ  fu) φ x0 x1 x2 x3 x4
        else
          f_Ref_moveData_L50 Γ (f_Ref_moveData_L18 Γ  fu) φ x0 x1 x2 x4 x4
      else
        f_Ref_moveData_L49 Γ (f_Ref_moveData_L18 Γ  fu) φ x0 x1 x2 x3 x4
      ) none
set_option maxRecDepth 100000 in
set_option maxHeartbeats 4000000 in
theorem p_Ref_moveData_L18 {w : jw_T} (hw : jok w) {Γ : gm_T} {n : Nat} (hG : gd w Γ n)  : ∀ (fu : Nat) {x : Bool} {φ : ph_T} {x0 : Nat} {x1 : Int32} {x2 : Int32} {x3 : Int32} {x4 : Int32} {q : Unit × ph_T}, f_Ref_moveData_L18 Γ  fu φ x0 x1 x2 x3 x4 = some q → J w M_Ref_moveData 18 [some (.ref x0), some (.int x1), some (.int x2), some (.int x3), some (.int x4), none] [] (pic Γ φ) n x 0 0 (fq Γ n (.inl none) q.2) := by
  intro fu
  induction fu with
  | zero =>
    intro x φ x0 x1 x2 x3 x4 q H
    cases H
  | succ fu ih =>
    intro x φ x0 x1 x2 x3 x4 q H
    unfold f_Ref_moveData_L18 at H
    refine J_iload d_Ref_moveData_18 rfl ?_
    refine J_if_lt (tgt := 57) d_Ref_moveData_20 (by decide) ?_ ?_
    · intro c49
      rw [if_pos c49] at H
      refine J_aload_n d_Ref_moveData_57 rfl ?_
      have g34 : Γ x0 = .inr 12 := by
        apply Classical.byContradiction
        intro q9
        rw [if_neg q9] at H
        cases H
      rw [if_pos g34] at H
      refine F_getR (ci := 12) (k := 42) hG (cf_Ref hw) (fl_Ref_115 hw) (by decide) (by decide) rfl d_Ref_moveData_58 g34 ?_
      refine J_iload_n d_Ref_moveData_61 rfl ?_
      obtain ⟨a35, ha35, H⟩ := Option.bind_eq_some_iff.mp H
      rw [j_rf ha35]
      obtain ⟨N36, hN36, H⟩ := Option.bind_eq_some_iff.mp H
      obtain ⟨k37, hk37, H⟩ := Option.bind_eq_some_iff.mp H
      refine F_iald k37 hw hG d_Ref_moveData_62 (gA_some hN36) (ix_some hk37) ?_
      refine J_if_eq (tgt := 71) d_Ref_moveData_63 (by decide) ?_ ?_
      · intro c39
        rw [if_pos c39] at H
        refine J.drop [false, false, false, false, false, false] rfl ?_
        exact p_Ref_moveData_L71 hw hG  H
      · intro c39
        rw [if_neg c39] at H
        refine J_iload_n d_Ref_moveData_66 rfl ?_
        refine J_iconst (v := -1) d_Ref_moveData_67 (by decide) ?_
        refine J_icmp_ne (tgt := 72) d_Ref_moveData_68 (by decide) ?_ ?_
        · intro c38
          rw [if_neg c38] at H
          refine J_iconst (v := -1) d_Ref_moveData_72 (by decide) ?_
          refine J_istore d_Ref_moveData_73 (Nat.le_of_ble_eq_true rfl) ?_
          refine J_aload_n d_Ref_moveData_75 rfl ?_
          refine F_getI (ci := 12) (k := 47) hG (cf_Ref hw) (fl_Ref_526 hw) (by decide) (by decide) rfl d_Ref_moveData_76 g34 ?_
          refine J_iconst (v := 1) d_Ref_moveData_79 (by decide) ?_
          refine J_isub d_Ref_moveData_80 ?_
          refine J_istore d_Ref_moveData_81 (Nat.le_of_ble_eq_true rfl) ?_
          refine J.drop [true, false, true, true, true, true] rfl ?_
          exact p_Ref_moveData_L83 hw hG  _ H
        · intro c38
          rw [if_pos c38] at H
          refine J.drop [false, false, false, false, false, false] rfl ?_
          exact p_Ref_moveData_L71 hw hG  H
    · intro c49
      rw [if_neg c49] at H
      refine J_aload_n d_Ref_moveData_23 rfl ?_
      have g40 : Γ x0 = .inr 12 := by
        apply Classical.byContradiction
        intro q9
        rw [if_neg q9] at H
        cases H
      rw [if_pos g40] at H
      refine F_getR (ci := 12) (k := 43) hG (cf_Ref hw) (fl_Ref_118 hw) (by decide) (by decide) rfl d_Ref_moveData_24 g40 ?_
      refine J_iload d_Ref_moveData_27 rfl ?_
      obtain ⟨a41, ha41, H⟩ := Option.bind_eq_some_iff.mp H
      rw [j_rf ha41]
      obtain ⟨N42, hN42, H⟩ := Option.bind_eq_some_iff.mp H
      obtain ⟨k43, hk43, H⟩ := Option.bind_eq_some_iff.mp H
      refine F_iald k43 hw hG d_Ref_moveData_29 (gA_some hN42) (ix_some hk43) ?_
      refine J_iload_n d_Ref_moveData_30 rfl ?_
      refine J_icmp_ne (tgt := 49) d_Ref_moveData_31 (by decide) ?_ ?_
      · intro c48
        rw [if_neg c48] at H
        refine J.drop [true, true, true, true, true, false] rfl ?_
        exact p_Ref_moveData_L49 hw hG ih H
      · intro c48
        rw [if_pos c48] at H
        refine J_aload_n d_Ref_moveData_34 rfl ?_
        refine F_getR (ci := 12) (k := 46) hG (cf_Ref hw) (fl_Ref_127 hw) (by decide) (by decide) rfl d_Ref_moveData_35 g40 ?_
        refine J_iload d_Ref_moveData_38 rfl ?_
        obtain ⟨a44, ha44, H⟩ := Option.bind_eq_some_iff.mp H
        rw [j_rf ha44]
        obtain ⟨N45, hN45, H⟩ := Option.bind_eq_some_iff.mp H
        obtain ⟨k46, hk46, H⟩ := Option.bind_eq_some_iff.mp H
        refine F_iald k46 hw hG d_Ref_moveData_40 (gA_some hN45) (ix_some hk46) ?_
        refine J_if_le (tgt := 49) d_Ref_moveData_41 (by decide) ?_ ?_
        · intro c47
          rw [if_pos c47] at H
          refine J.drop [true, true, true, true, true, false] rfl ?_
          exact p_Ref_moveData_L49 hw hG ih H
        · intro c47
          rw [if_neg c47] at H
          refine J_iload d_Ref_moveData_44 rfl ?_
          refine J_goto (tgt := 50) d_Ref_moveData_46 (by decide) ?_
          refine J.drop [true, true, true, false, true, false] rfl ?_
          exact p_Ref_moveData_L50 hw hG ih H
def f_Ref_moveData (Γ : gm_T) (φ : ph_T) (this : Nat) (p0 : Int32) : Option (Unit × ph_T) :=
  @ite _ (Γ this = .inr 12) _ (
  Option.bind (f_Ref_rowOf Γ φ this (0 : Int32) p0 (1 : Int32)) fun q51 =>
  f_Ref_moveData_L18 Γ  jF q51.2 this p0 q51.1 (-1 : Int32) ((q51.2.1 this 47) - (1 : Int32))
  ) none
set_option maxRecDepth 100000 in
set_option maxHeartbeats 4000000 in
theorem p_Ref_moveData {w : jw_T} (hw : jok w) {Γ : gm_T} {n : Nat} (hG : gd w Γ n) {x : Bool} {φ : ph_T} {this : Nat} {p0 : Int32} {q : Unit × ph_T} (H : f_Ref_moveData Γ φ this p0 = some q) : jc w M_Ref_moveData [.ref this, .int p0] (pic Γ φ) n x 0 0 (fq Γ n (.inl none) q.2) := by
  refine jc.of (by simp only [jent_r, jent_i, jent_l, jent_a, jent_0]; exact Nat.le_of_ble_eq_true rfl) ?_
  have hls : jents [.ref this, .int p0] (jm_nL M_Ref_moveData) = [some (.ref this), some (.int p0), none, none, none, none] := by simp only [jents, jent_r, jent_i, jent_l, jent_a, jent_0]; rfl
  rw [hls]
  clear hls
  unfold f_Ref_moveData at H
  refine J_aload_n d_Ref_moveData_0 rfl ?_
  refine J_iconst (v := 0) d_Ref_moveData_1 (by decide) ?_
  refine J_iload_n d_Ref_moveData_2 rfl ?_
  refine J_iconst (v := 1) d_Ref_moveData_3 (by decide) ?_
  have g50 : Γ this = .inr 12 := by
    apply Classical.byContradiction
    intro q9
    rw [if_neg q9] at H
    cases H
  rw [if_pos g50] at H
  obtain ⟨q51, hq51, H⟩ := Option.bind_eq_some_iff.mp H
  refine J_callV (kc := 0) (ks := 0) (kc' := 0) (ks' := 0) (a := this) (ci := 12) (as := [.int (0 : Int32), .int p0, .int (1 : Int32)]) (st := []) (mf_Ref_rowOf hw) (mv_Ref_388 hw) d_Ref_moveData_4 ln_Ref_rowOf (by decide) (by first | exact Nat.le_of_ble_eq_true rfl | (simp only [List.map_cons, List.map_nil, List.sum_cons, List.sum_nil, va_rf_cat]; exact Nat.le_of_ble_eq_true rfl)) rfl ((hG _).1 _ g50 (by decide)).1 ((hG _).1 _ g50 (by decide)).2 (by unfold pic; rw [g50]; rfl) (jcl_at hw rfl) rfl (p_Ref_rowOf hw hG hq51) ?_ (fun E h' n' x' e1 => by cases e1.1)
  intro v9 h9 n9 x9 e9
  obtain ⟨e91, e92, e93⟩ := e9
  cases e91
  subst e92
  subst e93
  clear x
  rename Bool => x
  show J _ _ _ _ (_ :: _) _ _ _ _ _ _
  refine J_istore_n d_Ref_moveData_7 (Nat.le_of_ble_eq_true rfl) ?_
  refine J_iconst (v := -1) d_Ref_moveData_8 (by decide) ?_
  refine J_istore_n d_Ref_moveData_9 (Nat.le_of_ble_eq_true rfl) ?_
  refine J_aload_n d_Ref_moveData_10 rfl ?_
  refine F_getI (ci := 12) (k := 47) hG (cf_Ref hw) (fl_Ref_526 hw) (by decide) (by decide) rfl d_Ref_moveData_11 g50 ?_
  refine J_iconst (v := 1) d_Ref_moveData_14 (by decide) ?_
  refine J_isub d_Ref_moveData_15 ?_
  refine J_istore d_Ref_moveData_16 (Nat.le_of_ble_eq_true rfl) ?_
  refine J.drop [true, true, true, true, true, false] rfl ?_
  exact p_Ref_moveData_L18 hw hG  _ H
