theorem ln_Ref_goMaster : (parseMethodDescriptor y_Ref_goMaster.desc).map (fun q => q.parameters.length) = some 2 := by decide +kernel
def f_Ref_goMaster_L37 (Γ : gm_T)  (φ : ph_T) : Option (Unit × ph_T) :=
  some ((), φ)
set_option maxRecDepth 100000 in
set_option maxHeartbeats 4000000 in
theorem p_Ref_goMaster_L37 {w : jw_T} (hw : jok w) {Γ : gm_T} {n : Nat} (hG : gd w Γ n)  {x : Bool} {φ : ph_T} {q : Unit × ph_T} (H : f_Ref_goMaster_L37 Γ  φ  = some q) : J w M_Ref_goMaster 37 [none, none, none] [] (pic Γ φ) n x 0 0 (fq Γ n (.inl none) q.2) := by
  unfold f_Ref_goMaster_L37 at H
  have H := Option.some.inj H
  subst H
  exact J_vret (st := []) d_Ref_goMaster_37 rfl ⟨rfl, rfl, rfl⟩
def f_Ref_goMaster_L9 (Γ : gm_T)  (φ : ph_T) (x0 : Nat) (x1 : Int32) (x2 : Int32) : Option (Unit × ph_T) :=
  @ite _ (Γ x0 = .inr 12) _ (
  Option.bind (f_Ref_addressSent Γ φ x0 x1 x2) fun q2 =>
  f_Ref_goMaster_L37 Γ  q2.2 
  ) none
set_option maxRecDepth 100000 in
set_option maxHeartbeats 4000000 in
theorem p_Ref_goMaster_L9 {w : jw_T} (hw : jok w) {Γ : gm_T} {n : Nat} (hG : gd w Γ n)  {x : Bool} {φ : ph_T} {x0 : Nat} {x1 : Int32} {x2 : Int32} {q : Unit × ph_T} (H : f_Ref_goMaster_L9 Γ  φ x0 x1 x2 = some q) : J w M_Ref_goMaster 9 [some (.ref x0), some (.int x1), some (.int x2)] [] (pic Γ φ) n x 0 0 (fq Γ n (.inl none) q.2) := by
  unfold f_Ref_goMaster_L9 at H
  refine J_aload_n d_Ref_goMaster_9 rfl ?_
  refine J_iload_n d_Ref_goMaster_10 rfl ?_
  refine J_iload_n d_Ref_goMaster_11 rfl ?_
  have g1 : Γ x0 = .inr 12 := by
    apply Classical.byContradiction
    intro q9
    rw [if_neg q9] at H
    cases H
  rw [if_pos g1] at H
  obtain ⟨q2, hq2, H⟩ := Option.bind_eq_some_iff.mp H
  refine J_callV (kc := 0) (ks := 0) (kc' := 0) (ks' := 0) (a := x0) (ci := 12) (as := [.int x1, .int x2]) (st := []) (mf_Ref_addressSent hw) (mv_Ref_498 hw) d_Ref_goMaster_12 ln_Ref_addressSent (by decide) (by first | exact Nat.le_of_ble_eq_true rfl | (simp only [List.map_cons, List.map_nil, List.sum_cons, List.sum_nil, va_rf_cat]; exact Nat.le_of_ble_eq_true rfl)) rfl ((hG _).1 _ g1 (by decide)).1 ((hG _).1 _ g1 (by decide)).2 (by unfold pic; rw [g1]; rfl) (jcl_at hw rfl) rfl (p_Ref_addressSent hw hG hq2) ?_ (fun E h' n' x' e1 => by cases e1.1)
  intro v9 h9 n9 x9 e9
  obtain ⟨e91, e92, e93⟩ := e9
  cases e91
  subst e92
  subst e93
  clear x
  rename Bool => x
  show J _ _ _ _ [] _ _ _ _ _ _
  refine J_goto (tgt := 37) d_Ref_goMaster_15 (by decide) ?_
  refine J.drop [false, false, false] rfl ?_
  exact p_Ref_goMaster_L37 hw hG  H
def f_Ref_goMaster (Γ : gm_T) (φ : ph_T) (this : Nat) (p0 : Int32) (p1 : Int32) : Option (Unit × ph_T) :=
  if p1 = 0 then
    f_Ref_goMaster_L9 Γ  φ this p0 p1
  else
    if p1 = (3 : Int32) then
      f_Ref_goMaster_L9 Γ  φ this p0 p1
    else
      if p1 = (1 : Int32) then
        @ite _ (Γ this = .inr 12) _ (
        Option.bind (f_Ref_dataSent Γ φ this p0) fun q6 =>
        f_Ref_goMaster_L37 Γ  q6.2 
        ) none
      else
        @ite _ (Γ this = .inr 12) _ (
        Option.bind (f_Ref_answerCame Γ φ this p0 p1) fun q4 =>
        f_Ref_goMaster_L37 Γ  q4.2 
        ) none
set_option maxRecDepth 100000 in
set_option maxHeartbeats 4000000 in
theorem p_Ref_goMaster {w : jw_T} (hw : jok w) {Γ : gm_T} {n : Nat} (hG : gd w Γ n) {x : Bool} {φ : ph_T} {this : Nat} {p0 : Int32} {p1 : Int32} {q : Unit × ph_T} (H : f_Ref_goMaster Γ φ this p0 p1 = some q) : jc w M_Ref_goMaster [.ref this, .int p0, .int p1] (pic Γ φ) n x 0 0 (fq Γ n (.inl none) q.2) := by
  refine jc.of (by simp only [jent_r, jent_i, jent_l, jent_a, jent_0]; exact Nat.le_of_ble_eq_true rfl) ?_
  have hls : jents [.ref this, .int p0, .int p1] (jm_nL M_Ref_goMaster) = [some (.ref this), some (.int p0), some (.int p1)] := by simp only [jents, jent_r, jent_i, jent_l, jent_a, jent_0]; rfl
  rw [hls]
  clear hls
  unfold f_Ref_goMaster at H
  refine J_iload_n d_Ref_goMaster_0 rfl ?_
  refine J_if_eq (tgt := 9) d_Ref_goMaster_1 (by decide) ?_ ?_
  · intro c9
    rw [if_pos c9] at H
    refine J.drop [true, true, true] rfl ?_
    exact p_Ref_goMaster_L9 hw hG  H
  · intro c9
    rw [if_neg c9] at H
    refine J_iload_n d_Ref_goMaster_4 rfl ?_
    refine J_iconst (v := 3) d_Ref_goMaster_5 (by decide) ?_
    refine J_icmp_ne (tgt := 18) d_Ref_goMaster_6 (by decide) ?_ ?_
    · intro c8
      rw [if_neg c8] at H
      refine J_iload_n d_Ref_goMaster_18 rfl ?_
      refine J_iconst (v := 1) d_Ref_goMaster_19 (by decide) ?_
      refine J_icmp_ne (tgt := 31) d_Ref_goMaster_20 (by decide) ?_ ?_
      · intro c7
        rw [if_neg c7] at H
        refine J_aload_n d_Ref_goMaster_31 rfl ?_
        refine J_iload_n d_Ref_goMaster_32 rfl ?_
        refine J_iload_n d_Ref_goMaster_33 rfl ?_
        have g3 : Γ this = .inr 12 := by
          apply Classical.byContradiction
          intro q9
          rw [if_neg q9] at H
          cases H
        rw [if_pos g3] at H
        obtain ⟨q4, hq4, H⟩ := Option.bind_eq_some_iff.mp H
        refine J_callV (kc := 0) (ks := 0) (kc' := 0) (ks' := 0) (a := this) (ci := 12) (as := [.int p0, .int p1]) (st := []) (mf_Ref_answerCame hw) (mv_Ref_504 hw) d_Ref_goMaster_34 ln_Ref_answerCame (by decide) (by first | exact Nat.le_of_ble_eq_true rfl | (simp only [List.map_cons, List.map_nil, List.sum_cons, List.sum_nil, va_rf_cat]; exact Nat.le_of_ble_eq_true rfl)) rfl ((hG _).1 _ g3 (by decide)).1 ((hG _).1 _ g3 (by decide)).2 (by unfold pic; rw [g3]; rfl) (jcl_at hw rfl) rfl (p_Ref_answerCame hw hG hq4) ?_ (fun E h' n' x' e1 => by cases e1.1)
        intro v9 h9 n9 x9 e9
        obtain ⟨e91, e92, e93⟩ := e9
        cases e91
        subst e92
        subst e93
        clear x
        rename Bool => x
        show J _ _ _ _ [] _ _ _ _ _ _
        refine J.drop [false, false, false] rfl ?_
        exact p_Ref_goMaster_L37 hw hG  H
      · intro c7
        rw [if_pos c7] at H
        refine J_aload_n d_Ref_goMaster_23 rfl ?_
        refine J_iload_n d_Ref_goMaster_24 rfl ?_
        have g5 : Γ this = .inr 12 := by
          apply Classical.byContradiction
          intro q9
          rw [if_neg q9] at H
          cases H
        rw [if_pos g5] at H
        obtain ⟨q6, hq6, H⟩ := Option.bind_eq_some_iff.mp H
        refine J_callV (kc := 0) (ks := 0) (kc' := 0) (ks' := 0) (a := this) (ci := 12) (as := [.int p0]) (st := []) (mf_Ref_dataSent hw) (mv_Ref_501 hw) d_Ref_goMaster_25 ln_Ref_dataSent (by decide) (by first | exact Nat.le_of_ble_eq_true rfl | (simp only [List.map_cons, List.map_nil, List.sum_cons, List.sum_nil, va_rf_cat]; exact Nat.le_of_ble_eq_true rfl)) rfl ((hG _).1 _ g5 (by decide)).1 ((hG _).1 _ g5 (by decide)).2 (by unfold pic; rw [g5]; rfl) (jcl_at hw rfl) rfl (p_Ref_dataSent hw hG hq6) ?_ (fun E h' n' x' e1 => by cases e1.1)
        intro v9 h9 n9 x9 e9
        obtain ⟨e91, e92, e93⟩ := e9
        cases e91
        subst e92
        subst e93
        clear x
        rename Bool => x
        show J _ _ _ _ [] _ _ _ _ _ _
        refine J_goto (tgt := 37) d_Ref_goMaster_28 (by decide) ?_
        refine J.drop [false, false, false] rfl ?_
        exact p_Ref_goMaster_L37 hw hG  H
    · intro c8
      rw [if_pos c8] at H
      refine J.drop [true, true, true] rfl ?_
      exact p_Ref_goMaster_L9 hw hG  H
theorem ln_Ref_writeGoes : (parseMethodDescriptor y_Ref_writeGoes.desc).map (fun q => q.parameters.length) = some 1 := by decide +kernel
def f_Ref_writeGoes_L87 (Γ : gm_T)  : Nat → ph_T → Nat → Int32 → Int32 → Option (Unit × ph_T)
  | 0, _, _, _, _ => none
  | fu + 1, φ, x0, x1, x5 =>
    @ite _ (Γ x0 = .inr 12) _ (
    Option.bind (φ.2.2 x0 58) fun a2 =>
    Option.bind (gA Γ a2 0) fun N3 =>
    Option.bind (ix x1 N3) fun k4 =>
    if (φ.1 a2 k4) ≤ x5 then
      some ((), φ)
    else
      Option.bind (φ.2.2 x0 59) fun a5 =>
      Option.bind (gA Γ a5 0) fun N6 =>
      Option.bind (ix ((((4 : Int32) * x1) + x5) + (1 : Int32)) N6) fun k7 =>
      Option.bind (gA Γ a5 0) fun N8 =>
      Option.bind (ix (((4 : Int32) * x1) + x5) N8) fun k9 =>
      (f_Ref_writeGoes_L87 Γ  fu) (uI φ a5 k9 (φ.1 a5 k7)) x0 x1 (x5 + (1 : Int32))
    ) none
set_option maxRecDepth 100000 in
set_option maxHeartbeats 4000000 in
theorem p_Ref_writeGoes_L87 {w : jw_T} (hw : jok w) {Γ : gm_T} {n : Nat} (hG : gd w Γ n)  : ∀ (fu : Nat) {x : Bool} {φ : ph_T} {x0 : Nat} {x1 : Int32} {x5 : Int32} {q : Unit × ph_T}, f_Ref_writeGoes_L87 Γ  fu φ x0 x1 x5 = some q → J w M_Ref_writeGoes 87 [some (.ref x0), some (.int x1), none, none, none, some (.int x5)] [] (pic Γ φ) n x 0 0 (fq Γ n (.inl none) q.2) := by
  intro fu
  induction fu with
  | zero =>
    intro x φ x0 x1 x5 q H
    cases H
  | succ fu ih =>
    intro x φ x0 x1 x5 q H
    unfold f_Ref_writeGoes_L87 at H
    refine J_iload d_Ref_writeGoes_87 rfl ?_
    refine J_aload_n d_Ref_writeGoes_89 rfl ?_
    have g1 : Γ x0 = .inr 12 := by
      apply Classical.byContradiction
      intro q9
      rw [if_neg q9] at H
      cases H
    rw [if_pos g1] at H
    refine F_getR (ci := 12) (k := 58) hG (cf_Ref hw) (fl_Ref_154 hw) (by decide) (by decide) rfl d_Ref_writeGoes_90 g1 ?_
    refine J_iload_n d_Ref_writeGoes_93 rfl ?_
    obtain ⟨a2, ha2, H⟩ := Option.bind_eq_some_iff.mp H
    rw [j_rf ha2]
    obtain ⟨N3, hN3, H⟩ := Option.bind_eq_some_iff.mp H
    obtain ⟨k4, hk4, H⟩ := Option.bind_eq_some_iff.mp H
    refine F_iald k4 hw hG d_Ref_writeGoes_94 (gA_some hN3) (ix_some hk4) ?_
    refine J_icmp_ge (tgt := 128) d_Ref_writeGoes_95 (by decide) ?_ ?_
    · intro c10
      rw [if_pos c10] at H
      have H := Option.some.inj H
      subst H
      exact J_vret (st := []) d_Ref_writeGoes_128 rfl ⟨rfl, rfl, rfl⟩
    · intro c10
      rw [if_neg c10] at H
      refine J_aload_n d_Ref_writeGoes_98 rfl ?_
      refine F_getR (ci := 12) (k := 59) hG (cf_Ref hw) (fl_Ref_157 hw) (by decide) (by decide) rfl d_Ref_writeGoes_99 g1 ?_
      refine J_iconst (v := 4) d_Ref_writeGoes_102 (by decide) ?_
      refine J_iload_n d_Ref_writeGoes_103 rfl ?_
      refine J_imul d_Ref_writeGoes_104 ?_
      refine J_iload d_Ref_writeGoes_105 rfl ?_
      refine J_iadd d_Ref_writeGoes_107 ?_
      refine J_aload_n d_Ref_writeGoes_108 rfl ?_
      refine F_getR (ci := 12) (k := 59) hG (cf_Ref hw) (fl_Ref_157 hw) (by decide) (by decide) rfl d_Ref_writeGoes_109 g1 ?_
      refine J_iconst (v := 4) d_Ref_writeGoes_112 (by decide) ?_
      refine J_iload_n d_Ref_writeGoes_113 rfl ?_
      refine J_imul d_Ref_writeGoes_114 ?_
      refine J_iload d_Ref_writeGoes_115 rfl ?_
      refine J_iadd d_Ref_writeGoes_117 ?_
      refine J_iconst (v := 1) d_Ref_writeGoes_118 (by decide) ?_
      refine J_iadd d_Ref_writeGoes_119 ?_
      obtain ⟨a5, ha5, H⟩ := Option.bind_eq_some_iff.mp H
      rw [j_rf ha5]
      obtain ⟨N6, hN6, H⟩ := Option.bind_eq_some_iff.mp H
      obtain ⟨k7, hk7, H⟩ := Option.bind_eq_some_iff.mp H
      refine F_iald k7 hw hG d_Ref_writeGoes_120 (gA_some hN6) (ix_some hk7) ?_
      obtain ⟨N8, hN8, H⟩ := Option.bind_eq_some_iff.mp H
      obtain ⟨k9, hk9, H⟩ := Option.bind_eq_some_iff.mp H
      refine F_iast k9 hw hG d_Ref_writeGoes_121 (gA_some hN8) (ix_some hk9) ?_
      refine J_iinc (v := x5 + 1) d_Ref_writeGoes_122 rfl (by rw [show Int32.ofInt 1 = (1 : Int32) from by decide]) ?_
      refine J.ls (ls' := [some (.ref x0), some (.int x1), none, none, none, some (.int (x5 + (1 : Int32)))]) rfl ?_
      refine J_goto (tgt := 87) d_Ref_writeGoes_125 (by decide) ?_
      refine J.drop [true, true, false, false, false, true] rfl ?_
      exact ih H
def f_Ref_writeGoes_L35 (Γ : gm_T)  : Nat → ph_T → Nat → Int32 → Int32 → Option (Unit × ph_T)
  | 0, _, _, _, _ => none
  | fu + 1, φ, x0, x1, x4 =>
    @ite _ (Γ x0 = .inr 12) _ (
    Option.bind (φ.2.2 x0 59) fun a12 =>
    Option.bind (gA Γ a12 0) fun N13 =>
    Option.bind (ix (((4 : Int32) * x1) + x4) N13) fun k14 =>
    Option.bind (φ.2.2 x0 78) fun a15 =>
    Option.bind (gA Γ a15 0) fun N16 =>
    Option.bind (ix x1 N16) fun k17 =>
    if (φ.1 a12 k14) = (φ.1 a15 k17) then
      Option.bind (gA Γ a15 0) fun N18 =>
      Option.bind (ix x1 N18) fun k19 =>
      Option.bind (φ.2.2 x0 60) fun a20 =>
      Option.bind (gA Γ a20 2) fun N21 =>
      Option.bind (ix (φ.1 a15 k19) N21) fun k22 =>
      @ite _ ((0 : Int32) = 0 ∨ (0 : Int32) = 1) _ (
      Option.bind (φ.2.2 x0 58) fun a24 =>
      Option.bind (gA Γ a24 0) fun N25 =>
      Option.bind (ix x1 N25) fun k26 =>
      Option.bind (gA Γ a24 0) fun N27 =>
      Option.bind (ix x1 N27) fun k28 =>
      f_Ref_writeGoes_L87 Γ  jF (uI (uI φ a20 k22 (0 : Int32)) a24 k28 (((uI φ a20 k22 (0 : Int32)).1 a24 k26) - (1 : Int32))) x0 x1 x4
      ) none
    else
      (f_Ref_writeGoes_L35 Γ  fu) φ x0 x1 (x4 + (1 : Int32))
    ) none
set_option maxRecDepth 100000 in
set_option maxHeartbeats 4000000 in
theorem p_Ref_writeGoes_L35 {w : jw_T} (hw : jok w) {Γ : gm_T} {n : Nat} (hG : gd w Γ n)  : ∀ (fu : Nat) {x : Bool} {φ : ph_T} {x0 : Nat} {x1 : Int32} {x4 : Int32} {q : Unit × ph_T}, f_Ref_writeGoes_L35 Γ  fu φ x0 x1 x4 = some q → J w M_Ref_writeGoes 35 [some (.ref x0), some (.int x1), none, none, some (.int x4), none] [] (pic Γ φ) n x 0 0 (fq Γ n (.inl none) q.2) := by
  intro fu
  induction fu with
  | zero =>
    intro x φ x0 x1 x4 q H
    cases H
  | succ fu ih =>
    intro x φ x0 x1 x4 q H
    unfold f_Ref_writeGoes_L35 at H
    refine J_aload_n d_Ref_writeGoes_35 rfl ?_
    have g11 : Γ x0 = .inr 12 := by
      apply Classical.byContradiction
      intro q9
      rw [if_neg q9] at H
      cases H
    rw [if_pos g11] at H
    refine F_getR (ci := 12) (k := 59) hG (cf_Ref hw) (fl_Ref_157 hw) (by decide) (by decide) rfl d_Ref_writeGoes_36 g11 ?_
    refine J_iconst (v := 4) d_Ref_writeGoes_39 (by decide) ?_
    refine J_iload_n d_Ref_writeGoes_40 rfl ?_
    refine J_imul d_Ref_writeGoes_41 ?_
    refine J_iload d_Ref_writeGoes_42 rfl ?_
    refine J_iadd d_Ref_writeGoes_44 ?_
    obtain ⟨a12, ha12, H⟩ := Option.bind_eq_some_iff.mp H
    rw [j_rf ha12]
    obtain ⟨N13, hN13, H⟩ := Option.bind_eq_some_iff.mp H
    obtain ⟨k14, hk14, H⟩ := Option.bind_eq_some_iff.mp H
    refine F_iald k14 hw hG d_Ref_writeGoes_45 (gA_some hN13) (ix_some hk14) ?_
    refine J_aload_n d_Ref_writeGoes_46 rfl ?_
    refine F_getR (ci := 12) (k := 78) hG (cf_Ref hw) (fl_Ref_214 hw) (by decide) (by decide) rfl d_Ref_writeGoes_47 g11 ?_
    refine J_iload_n d_Ref_writeGoes_50 rfl ?_
    obtain ⟨a15, ha15, H⟩ := Option.bind_eq_some_iff.mp H
    rw [j_rf ha15]
    obtain ⟨N16, hN16, H⟩ := Option.bind_eq_some_iff.mp H
    obtain ⟨k17, hk17, H⟩ := Option.bind_eq_some_iff.mp H
    refine F_iald k17 hw hG d_Ref_writeGoes_51 (gA_some hN16) (ix_some hk17) ?_
    refine J_icmp_eq (tgt := 61) d_Ref_writeGoes_52 (by decide) ?_ ?_
    · intro c29
      rw [if_pos c29] at H
      refine J_aload_n d_Ref_writeGoes_61 rfl ?_
      refine F_getR (ci := 12) (k := 60) hG (cf_Ref hw) (fl_Ref_160 hw) (by decide) (by decide) rfl d_Ref_writeGoes_62 g11 ?_
      refine J_aload_n d_Ref_writeGoes_65 rfl ?_
      refine F_getR (ci := 12) (k := 78) hG (cf_Ref hw) (fl_Ref_214 hw) (by decide) (by decide) rfl d_Ref_writeGoes_66 g11 ?_
      refine J_iload_n d_Ref_writeGoes_69 rfl ?_
      try rw [j_rf ha15]
      obtain ⟨N18, hN18, H⟩ := Option.bind_eq_some_iff.mp H
      obtain ⟨k19, hk19, H⟩ := Option.bind_eq_some_iff.mp H
      refine F_iald k19 hw hG d_Ref_writeGoes_70 (gA_some hN18) (ix_some hk19) ?_
      refine J_iconst (v := 0) d_Ref_writeGoes_71 (by decide) ?_
      obtain ⟨a20, ha20, H⟩ := Option.bind_eq_some_iff.mp H
      rw [j_rf ha20]
      obtain ⟨N21, hN21, H⟩ := Option.bind_eq_some_iff.mp H
      obtain ⟨k22, hk22, H⟩ := Option.bind_eq_some_iff.mp H
      have z23 : (0 : Int32) = 0 ∨ (0 : Int32) = 1 := by
        apply Classical.byContradiction
        intro q9
        rw [if_neg q9] at H
        cases H
      rw [if_pos z23] at H
      refine F_zast k22 hw hG d_Ref_writeGoes_72 (gA_some hN21) (ix_some hk22) z23 ?_
      refine J_aload_n d_Ref_writeGoes_73 rfl ?_
      refine F_getR (ci := 12) (k := 58) hG (cf_Ref hw) (fl_Ref_154 hw) (by decide) (by decide) rfl d_Ref_writeGoes_74 g11 ?_
      show J _ _ _ _ (va_rf (φ.2.2 x0 58) :: _) _ _ _ _ _ _
      refine J_iload_n d_Ref_writeGoes_77 rfl ?_
      refine J_dup2 d_Ref_writeGoes_78 rfl (va_rf_cat _) ?_
      obtain ⟨a24, ha24, H⟩ := Option.bind_eq_some_iff.mp H
      rw [j_rf ha24]
      obtain ⟨N25, hN25, H⟩ := Option.bind_eq_some_iff.mp H
      obtain ⟨k26, hk26, H⟩ := Option.bind_eq_some_iff.mp H
      refine F_iald k26 hw hG d_Ref_writeGoes_79 (gA_some hN25) (ix_some hk26) ?_
      refine J_iconst (v := 1) d_Ref_writeGoes_80 (by decide) ?_
      refine J_isub d_Ref_writeGoes_81 ?_
      obtain ⟨N27, hN27, H⟩ := Option.bind_eq_some_iff.mp H
      obtain ⟨k28, hk28, H⟩ := Option.bind_eq_some_iff.mp H
      refine F_iast k28 hw hG d_Ref_writeGoes_82 (gA_some hN27) (ix_some hk28) ?_
      refine J_iload d_Ref_writeGoes_83 rfl ?_
      refine J_istore d_Ref_writeGoes_85 (Nat.le_of_ble_eq_true rfl) ?_
      refine J.ls (ls' := [some (.ref x0), some (.int x1), none, none, some (.int x4), some (.int x4)]) rfl ?_
      refine J.drop [true, true, false, false, false, true] rfl ?_
      exact p_Ref_writeGoes_L87 hw hG  _ H
    · intro c29
      rw [if_neg c29] at H
      refine J_iinc (v := x4 + 1) d_Ref_writeGoes_55 rfl (by rw [show Int32.ofInt 1 = (1 : Int32) from by decide]) ?_
      refine J.ls (ls' := [some (.ref x0), some (.int x1), none, none, some (.int (x4 + (1 : Int32))), none]) rfl ?_
      refine J_goto (tgt := 35) d_Ref_writeGoes_58 (by decide) ?_
      refine J.drop [true, true, false, false, true, false] rfl ?_
      exact ih H
def f_Ref_writeGoes (Γ : gm_T) (φ : ph_T) (this : Nat) (p0 : Int32) : Option (Unit × ph_T) :=
  @ite _ (Γ this = .inr 12) _ (
  Option.bind (f_Ref_rowOf Γ φ this (1 : Int32) p0 (2 : Int32)) fun q31 =>
  Option.bind (q31.2.2.2 this 36) fun a32 =>
  Option.bind (gA Γ a32 0) fun N33 =>
  Option.bind (ix (((5 : Int32) * ((4 : Int32) + p0)) + (2 : Int32)) N33) fun k34 =>
  Option.bind (f_Ref_put Γ q31.2 this q31.1 (0 : Int64) (q31.2.1 a32 k34) (q31.2.1 this 6)) fun q35 =>
  f_Ref_writeGoes_L35 Γ  jF q35.2 this p0 (0 : Int32)
  ) none
set_option maxRecDepth 100000 in
set_option maxHeartbeats 4000000 in
theorem p_Ref_writeGoes {w : jw_T} (hw : jok w) {Γ : gm_T} {n : Nat} (hG : gd w Γ n) {x : Bool} {φ : ph_T} {this : Nat} {p0 : Int32} {q : Unit × ph_T} (H : f_Ref_writeGoes Γ φ this p0 = some q) : jc w M_Ref_writeGoes [.ref this, .int p0] (pic Γ φ) n x 0 0 (fq Γ n (.inl none) q.2) := by
  refine jc.of (by simp only [jent_r, jent_i, jent_l, jent_a, jent_0]; exact Nat.le_of_ble_eq_true rfl) ?_
  have hls : jents [.ref this, .int p0] (jm_nL M_Ref_writeGoes) = [some (.ref this), some (.int p0), none, none, none, none] := by simp only [jents, jent_r, jent_i, jent_l, jent_a, jent_0]; rfl
  rw [hls]
  clear hls
  unfold f_Ref_writeGoes at H
  refine J_aload_n d_Ref_writeGoes_0 rfl ?_
  refine J_iconst (v := 1) d_Ref_writeGoes_1 (by decide) ?_
  refine J_iload_n d_Ref_writeGoes_2 rfl ?_
  refine J_iconst (v := 2) d_Ref_writeGoes_3 (by decide) ?_
  have g30 : Γ this = .inr 12 := by
    apply Classical.byContradiction
    intro q9
    rw [if_neg q9] at H
    cases H
  rw [if_pos g30] at H
  obtain ⟨q31, hq31, H⟩ := Option.bind_eq_some_iff.mp H
  refine J_callV (kc := 0) (ks := 0) (kc' := 0) (ks' := 0) (a := this) (ci := 12) (as := [.int (1 : Int32), .int p0, .int (2 : Int32)]) (st := []) (mf_Ref_rowOf hw) (mv_Ref_388 hw) d_Ref_writeGoes_4 ln_Ref_rowOf (by decide) (by first | exact Nat.le_of_ble_eq_true rfl | (simp only [List.map_cons, List.map_nil, List.sum_cons, List.sum_nil, va_rf_cat]; exact Nat.le_of_ble_eq_true rfl)) rfl ((hG _).1 _ g30 (by decide)).1 ((hG _).1 _ g30 (by decide)).2 (by unfold pic; rw [g30]; rfl) (jcl_at hw rfl) rfl (p_Ref_rowOf hw hG hq31) ?_ (fun E h' n' x' e1 => by cases e1.1)
  intro v9 h9 n9 x9 e9
  obtain ⟨e91, e92, e93⟩ := e9
  cases e91
  subst e92
  subst e93
  clear x
  rename Bool => x
  show J _ _ _ _ (_ :: _) _ _ _ _ _ _
  refine J_istore_n d_Ref_writeGoes_7 (Nat.le_of_ble_eq_true rfl) ?_
  refine J.ls (ls' := [some (.ref this), some (.int p0), some (.int q31.1), none, none, none]) rfl ?_
  refine J_iconst (v := 5) d_Ref_writeGoes_8 (by decide) ?_
  refine J_iconst (v := 4) d_Ref_writeGoes_9 (by decide) ?_
  refine J_iload_n d_Ref_writeGoes_10 rfl ?_
  refine J_iadd d_Ref_writeGoes_11 ?_
  refine J_imul d_Ref_writeGoes_12 ?_
  refine J_istore_n d_Ref_writeGoes_13 (Nat.le_of_ble_eq_true rfl) ?_
  refine J.ls (ls' := [some (.ref this), some (.int p0), some (.int q31.1), some (.int ((5 : Int32) * ((4 : Int32) + p0))), none, none]) rfl ?_
  refine J_aload_n d_Ref_writeGoes_14 rfl ?_
  refine J_iload_n d_Ref_writeGoes_15 rfl ?_
  refine J_lconst (v := 0) d_Ref_writeGoes_16 (by decide) ?_
  refine J_aload_n d_Ref_writeGoes_17 rfl ?_
  refine F_getR (ci := 12) (k := 36) hG (cf_Ref hw) (fl_Ref_97 hw) (by decide) (by decide) rfl d_Ref_writeGoes_18 g30 ?_
  refine J_iload_n d_Ref_writeGoes_21 rfl ?_
  refine J_iconst (v := 2) d_Ref_writeGoes_22 (by decide) ?_
  refine J_iadd d_Ref_writeGoes_23 ?_
  obtain ⟨a32, ha32, H⟩ := Option.bind_eq_some_iff.mp H
  rw [j_rf ha32]
  obtain ⟨N33, hN33, H⟩ := Option.bind_eq_some_iff.mp H
  obtain ⟨k34, hk34, H⟩ := Option.bind_eq_some_iff.mp H
  refine F_iald k34 hw hG d_Ref_writeGoes_24 (gA_some hN33) (ix_some hk34) ?_
  refine J_aload_n d_Ref_writeGoes_25 rfl ?_
  refine F_getI (ci := 12) (k := 6) hG (cf_Ref hw) (fl_Ref_348 hw) (by decide) (by decide) rfl d_Ref_writeGoes_26 g30 ?_
  obtain ⟨q35, hq35, H⟩ := Option.bind_eq_some_iff.mp H
  refine J_callV (kc := 0) (ks := 0) (kc' := 0) (ks' := 0) (a := this) (ci := 12) (as := [.int q31.1, .long (0 : Int64), .int (q31.2.1 a32 k34), .int (q31.2.1 this 6)]) (st := []) (mf_Ref_put hw) (mv_Ref_469 hw) d_Ref_writeGoes_29 ln_Ref_put (by decide) (by first | exact Nat.le_of_ble_eq_true rfl | (simp only [List.map_cons, List.map_nil, List.sum_cons, List.sum_nil, va_rf_cat]; exact Nat.le_of_ble_eq_true rfl)) rfl ((hG _).1 _ g30 (by decide)).1 ((hG _).1 _ g30 (by decide)).2 (by unfold pic; rw [g30]; rfl) (jcl_at hw rfl) rfl (p_Ref_put hw hG hq35) ?_ (fun E h' n' x' e1 => by cases e1.1)
  intro v9 h9 n9 x9 e9
  obtain ⟨e91, e92, e93⟩ := e9
  cases e91
  subst e92
  subst e93
  clear x
  rename Bool => x
  show J _ _ _ _ [] _ _ _ _ _ _
  refine J_iconst (v := 0) d_Ref_writeGoes_32 (by decide) ?_
  refine J_istore d_Ref_writeGoes_33 (Nat.le_of_ble_eq_true rfl) ?_
  refine J.ls (ls' := [some (.ref this), some (.int p0), some (.int q31.1), some (.int ((5 : Int32) * ((4 : Int32) + p0))), some (.int (0 : Int32)), none]) rfl ?_
  refine J.drop [true, true, false, false, true, false] rfl ?_
  exact p_Ref_writeGoes_L35 hw hG  _ H
theorem ln_Ref_readGoes : (parseMethodDescriptor y_Ref_readGoes.desc).map (fun q => q.parameters.length) = some 1 := by decide +kernel
def f_Ref_readGoes_L127 (Γ : gm_T)  : Nat → ph_T → Nat → Int32 → Int32 → Option (Unit × ph_T)
  | 0, _, _, _, _ => none
  | fu + 1, φ, x0, x1, x5 =>
    @ite _ (Γ x0 = .inr 12) _ (
    Option.bind (φ.2.2 x0 67) fun a2 =>
    Option.bind (gA Γ a2 0) fun N3 =>
    Option.bind (ix x1 N3) fun k4 =>
    if (φ.1 a2 k4) ≤ x5 then
      some ((), φ)
    else
      Option.bind (φ.2.2 x0 68) fun a5 =>
      Option.bind (gA Γ a5 0) fun N6 =>
      Option.bind (ix ((((4 : Int32) * x1) + x5) + (1 : Int32)) N6) fun k7 =>
      Option.bind (gA Γ a5 0) fun N8 =>
      Option.bind (ix (((4 : Int32) * x1) + x5) N8) fun k9 =>
      (f_Ref_readGoes_L127 Γ  fu) (uI φ a5 k9 (φ.1 a5 k7)) x0 x1 (x5 + (1 : Int32))
    ) none
set_option maxRecDepth 100000 in
set_option maxHeartbeats 4000000 in
theorem p_Ref_readGoes_L127 {w : jw_T} (hw : jok w) {Γ : gm_T} {n : Nat} (hG : gd w Γ n)  : ∀ (fu : Nat) {x : Bool} {φ : ph_T} {x0 : Nat} {x1 : Int32} {x5 : Int32} {q : Unit × ph_T}, f_Ref_readGoes_L127 Γ  fu φ x0 x1 x5 = some q → J w M_Ref_readGoes 127 [some (.ref x0), some (.int x1), none, none, none, some (.int x5)] [] (pic Γ φ) n x 0 0 (fq Γ n (.inl none) q.2) := by
  intro fu
  induction fu with
  | zero =>
    intro x φ x0 x1 x5 q H
    cases H
  | succ fu ih =>
    intro x φ x0 x1 x5 q H
    unfold f_Ref_readGoes_L127 at H
    refine J_iload d_Ref_readGoes_127 rfl ?_
    refine J_aload_n d_Ref_readGoes_129 rfl ?_
    have g1 : Γ x0 = .inr 12 := by
      apply Classical.byContradiction
      intro q9
      rw [if_neg q9] at H
      cases H
    rw [if_pos g1] at H
    refine F_getR (ci := 12) (k := 67) hG (cf_Ref hw) (fl_Ref_181 hw) (by decide) (by decide) rfl d_Ref_readGoes_130 g1 ?_
    refine J_iload_n d_Ref_readGoes_133 rfl ?_
    obtain ⟨a2, ha2, H⟩ := Option.bind_eq_some_iff.mp H
    rw [j_rf ha2]
    obtain ⟨N3, hN3, H⟩ := Option.bind_eq_some_iff.mp H
    obtain ⟨k4, hk4, H⟩ := Option.bind_eq_some_iff.mp H
    refine F_iald k4 hw hG d_Ref_readGoes_134 (gA_some hN3) (ix_some hk4) ?_
    refine J_icmp_ge (tgt := 168) d_Ref_readGoes_135 (by decide) ?_ ?_
    · intro c10
      rw [if_pos c10] at H
      have H := Option.some.inj H
      subst H
      exact J_vret (st := []) d_Ref_readGoes_168 rfl ⟨rfl, rfl, rfl⟩
    · intro c10
      rw [if_neg c10] at H
      refine J_aload_n d_Ref_readGoes_138 rfl ?_
      refine F_getR (ci := 12) (k := 68) hG (cf_Ref hw) (fl_Ref_184 hw) (by decide) (by decide) rfl d_Ref_readGoes_139 g1 ?_
      refine J_iconst (v := 4) d_Ref_readGoes_142 (by decide) ?_
      refine J_iload_n d_Ref_readGoes_143 rfl ?_
      refine J_imul d_Ref_readGoes_144 ?_
      refine J_iload d_Ref_readGoes_145 rfl ?_
      refine J_iadd d_Ref_readGoes_147 ?_
      refine J_aload_n d_Ref_readGoes_148 rfl ?_
      refine F_getR (ci := 12) (k := 68) hG (cf_Ref hw) (fl_Ref_184 hw) (by decide) (by decide) rfl d_Ref_readGoes_149 g1 ?_
      refine J_iconst (v := 4) d_Ref_readGoes_152 (by decide) ?_
      refine J_iload_n d_Ref_readGoes_153 rfl ?_
      refine J_imul d_Ref_readGoes_154 ?_
      refine J_iload d_Ref_readGoes_155 rfl ?_
      refine J_iadd d_Ref_readGoes_157 ?_
      refine J_iconst (v := 1) d_Ref_readGoes_158 (by decide) ?_
      refine J_iadd d_Ref_readGoes_159 ?_
      obtain ⟨a5, ha5, H⟩ := Option.bind_eq_some_iff.mp H
      rw [j_rf ha5]
      obtain ⟨N6, hN6, H⟩ := Option.bind_eq_some_iff.mp H
      obtain ⟨k7, hk7, H⟩ := Option.bind_eq_some_iff.mp H
      refine F_iald k7 hw hG d_Ref_readGoes_160 (gA_some hN6) (ix_some hk7) ?_
      obtain ⟨N8, hN8, H⟩ := Option.bind_eq_some_iff.mp H
      obtain ⟨k9, hk9, H⟩ := Option.bind_eq_some_iff.mp H
      refine F_iast k9 hw hG d_Ref_readGoes_161 (gA_some hN8) (ix_some hk9) ?_
      refine J_iinc (v := x5 + 1) d_Ref_readGoes_162 rfl (by rw [show Int32.ofInt 1 = (1 : Int32) from by decide]) ?_
      refine J.ls (ls' := [some (.ref x0), some (.int x1), none, none, none, some (.int (x5 + (1 : Int32)))]) rfl ?_
      refine J_goto (tgt := 127) d_Ref_readGoes_165 (by decide) ?_
      refine J.drop [true, true, false, false, false, true] rfl ?_
      exact ih H
def f_Ref_readGoes_L85 (Γ : gm_T)  : Nat → ph_T → Nat → Int32 → Int32 → Int32 → Option (Unit × ph_T)
  | 0, _, _, _, _, _ => none
  | fu + 1, φ, x0, x1, x3, x4 =>
    @ite _ (Γ x0 = .inr 12) _ (
    Option.bind (φ.2.2 x0 68) fun a12 =>
    Option.bind (gA Γ a12 0) fun N13 =>
    Option.bind (ix (((4 : Int32) * x1) + x4) N13) fun k14 =>
    if (φ.1 a12 k14) = x3 then
      Option.bind (φ.2.2 x0 69) fun a15 =>
      Option.bind (gA Γ a15 2) fun N16 =>
      Option.bind (ix x3 N16) fun k17 =>
      @ite _ ((0 : Int32) = 0 ∨ (0 : Int32) = 1) _ (
      Option.bind (φ.2.2 x0 67) fun a19 =>
      Option.bind (gA Γ a19 0) fun N20 =>
      Option.bind (ix x1 N20) fun k21 =>
      Option.bind (gA Γ a19 0) fun N22 =>
      Option.bind (ix x1 N22) fun k23 =>
      f_Ref_readGoes_L127 Γ  jF (uI (uI φ a15 k17 (0 : Int32)) a19 k23 (((uI φ a15 k17 (0 : Int32)).1 a19 k21) - (1 : Int32))) x0 x1 x4
      ) none
    else
      (f_Ref_readGoes_L85 Γ  fu) φ x0 x1 x3 (x4 + (1 : Int32))
    ) none
set_option maxRecDepth 100000 in
set_option maxHeartbeats 4000000 in
theorem p_Ref_readGoes_L85 {w : jw_T} (hw : jok w) {Γ : gm_T} {n : Nat} (hG : gd w Γ n)  : ∀ (fu : Nat) {x : Bool} {φ : ph_T} {x0 : Nat} {x1 : Int32} {x3 : Int32} {x4 : Int32} {q : Unit × ph_T}, f_Ref_readGoes_L85 Γ  fu φ x0 x1 x3 x4 = some q → J w M_Ref_readGoes 85 [some (.ref x0), some (.int x1), none, some (.int x3), some (.int x4), none] [] (pic Γ φ) n x 0 0 (fq Γ n (.inl none) q.2) := by
  intro fu
  induction fu with
  | zero =>
    intro x φ x0 x1 x3 x4 q H
    cases H
  | succ fu ih =>
    intro x φ x0 x1 x3 x4 q H
    unfold f_Ref_readGoes_L85 at H
    refine J_aload_n d_Ref_readGoes_85 rfl ?_
    have g11 : Γ x0 = .inr 12 := by
      apply Classical.byContradiction
      intro q9
      rw [if_neg q9] at H
      cases H
    rw [if_pos g11] at H
    refine F_getR (ci := 12) (k := 68) hG (cf_Ref hw) (fl_Ref_184 hw) (by decide) (by decide) rfl d_Ref_readGoes_86 g11 ?_
    refine J_iconst (v := 4) d_Ref_readGoes_89 (by decide) ?_
    refine J_iload_n d_Ref_readGoes_90 rfl ?_
    refine J_imul d_Ref_readGoes_91 ?_
    refine J_iload d_Ref_readGoes_92 rfl ?_
    refine J_iadd d_Ref_readGoes_94 ?_
    obtain ⟨a12, ha12, H⟩ := Option.bind_eq_some_iff.mp H
    rw [j_rf ha12]
    obtain ⟨N13, hN13, H⟩ := Option.bind_eq_some_iff.mp H
    obtain ⟨k14, hk14, H⟩ := Option.bind_eq_some_iff.mp H
    refine F_iald k14 hw hG d_Ref_readGoes_95 (gA_some hN13) (ix_some hk14) ?_
    refine J_iload_n d_Ref_readGoes_96 rfl ?_
    refine J_icmp_eq (tgt := 106) d_Ref_readGoes_97 (by decide) ?_ ?_
    · intro c24
      rw [if_pos c24] at H
      refine J_aload_n d_Ref_readGoes_106 rfl ?_
      refine F_getR (ci := 12) (k := 69) hG (cf_Ref hw) (fl_Ref_187 hw) (by decide) (by decide) rfl d_Ref_readGoes_107 g11 ?_
      refine J_iload_n d_Ref_readGoes_110 rfl ?_
      refine J_iconst (v := 0) d_Ref_readGoes_111 (by decide) ?_
      obtain ⟨a15, ha15, H⟩ := Option.bind_eq_some_iff.mp H
      rw [j_rf ha15]
      obtain ⟨N16, hN16, H⟩ := Option.bind_eq_some_iff.mp H
      obtain ⟨k17, hk17, H⟩ := Option.bind_eq_some_iff.mp H
      have z18 : (0 : Int32) = 0 ∨ (0 : Int32) = 1 := by
        apply Classical.byContradiction
        intro q9
        rw [if_neg q9] at H
        cases H
      rw [if_pos z18] at H
      refine F_zast k17 hw hG d_Ref_readGoes_112 (gA_some hN16) (ix_some hk17) z18 ?_
      refine J_aload_n d_Ref_readGoes_113 rfl ?_
      refine F_getR (ci := 12) (k := 67) hG (cf_Ref hw) (fl_Ref_181 hw) (by decide) (by decide) rfl d_Ref_readGoes_114 g11 ?_
      show J _ _ _ _ (va_rf (φ.2.2 x0 67) :: _) _ _ _ _ _ _
      refine J_iload_n d_Ref_readGoes_117 rfl ?_
      refine J_dup2 d_Ref_readGoes_118 rfl (va_rf_cat _) ?_
      obtain ⟨a19, ha19, H⟩ := Option.bind_eq_some_iff.mp H
      rw [j_rf ha19]
      obtain ⟨N20, hN20, H⟩ := Option.bind_eq_some_iff.mp H
      obtain ⟨k21, hk21, H⟩ := Option.bind_eq_some_iff.mp H
      refine F_iald k21 hw hG d_Ref_readGoes_119 (gA_some hN20) (ix_some hk21) ?_
      refine J_iconst (v := 1) d_Ref_readGoes_120 (by decide) ?_
      refine J_isub d_Ref_readGoes_121 ?_
      obtain ⟨N22, hN22, H⟩ := Option.bind_eq_some_iff.mp H
      obtain ⟨k23, hk23, H⟩ := Option.bind_eq_some_iff.mp H
      refine F_iast k23 hw hG d_Ref_readGoes_122 (gA_some hN22) (ix_some hk23) ?_
      refine J_iload d_Ref_readGoes_123 rfl ?_
      refine J_istore d_Ref_readGoes_125 (Nat.le_of_ble_eq_true rfl) ?_
      refine J.ls (ls' := [some (.ref x0), some (.int x1), none, some (.int x3), some (.int x4), some (.int x4)]) rfl ?_
      refine J.drop [true, true, false, false, false, true] rfl ?_
      exact p_Ref_readGoes_L127 hw hG  _ H
    · intro c24
      rw [if_neg c24] at H
      refine J_iinc (v := x4 + 1) d_Ref_readGoes_100 rfl (by rw [show Int32.ofInt 1 = (1 : Int32) from by decide]) ?_
      refine J.ls (ls' := [some (.ref x0), some (.int x1), none, some (.int x3), some (.int (x4 + (1 : Int32))), none]) rfl ?_
      refine J_goto (tgt := 85) d_Ref_readGoes_103 (by decide) ?_
      refine J.drop [true, true, false, true, true, false] rfl ?_
      exact ih H
def f_Ref_readGoes (Γ : gm_T) (φ : ph_T) (this : Nat) (p0 : Int32) : Option (Unit × ph_T) :=
  @ite _ (Γ this = .inr 12) _ (
  Option.bind (f_Ref_rowOf Γ φ this (1 : Int32) p0 (4 : Int32)) fun q26 =>
  Option.bind (q26.2.2.2 this 35) fun a27 =>
  Option.bind (gA Γ a27 1) fun N28 =>
  Option.bind (ix (((5 : Int32) * ((4 : Int32) + p0)) + (4 : Int32)) N28) fun k29 =>
  Option.bind (q26.2.2.2 this 36) fun a30 =>
  Option.bind (gA Γ a30 0) fun N31 =>
  Option.bind (ix (((5 : Int32) * ((4 : Int32) + p0)) + (4 : Int32)) N31) fun k32 =>
  Option.bind (f_Ref_put Γ q26.2 this q26.1 (q26.2.2.1 a27 k29) (q26.2.1 a30 k32) (q26.2.1 this 6)) fun q33 =>
  Option.bind (q33.2.2.2 this 79) fun a34 =>
  Option.bind (gA Γ a34 0) fun N35 =>
  Option.bind (ix p0 N35) fun k36 =>
  Option.bind (q33.2.2.2 this 73) fun a37 =>
  Option.bind (gA Γ a37 0) fun N38 =>
  Option.bind (ix (q33.2.1 a34 k36) N38) fun k39 =>
  Option.bind (q33.2.2.2 this 77) fun a40 =>
  Option.bind (gA Γ a40 0) fun N41 =>
  Option.bind (ix p0 N41) fun k42 =>
  Option.bind (q33.2.2.2 this 71) fun a43 =>
  Option.bind (gA Γ a43 0) fun N44 =>
  Option.bind (ix (q33.2.1 a34 k36) N44) fun k45 =>
  Option.bind (gA Γ a43 0) fun N46 =>
  Option.bind (ix (q33.2.1 a34 k36) N46) fun k47 =>
  Option.bind (q33.2.2.2 this 36) fun a48 =>
  Option.bind (gA Γ a48 0) fun N49 =>
  Option.bind (ix (((5 : Int32) * ((4 : Int32) + p0)) + (4 : Int32)) N49) fun k50 =>
  if (((uI (uI q33.2 a40 k42 (q33.2.1 a37 k39)) a43 k47 (((uI q33.2 a40 k42 (q33.2.1 a37 k39)).1 a43 k45) + (1 : Int32))).1 a48 k50) &&& (256 : Int32)) = 0 then
    some ((), (uI (uI q33.2 a40 k42 (q33.2.1 a37 k39)) a43 k47 (((uI q33.2 a40 k42 (q33.2.1 a37 k39)).1 a43 k45) + (1 : Int32))))
  else
    f_Ref_readGoes_L85 Γ  jF (uI (uI q33.2 a40 k42 (q33.2.1 a37 k39)) a43 k47 (((uI q33.2 a40 k42 (q33.2.1 a37 k39)).1 a43 k45) + (1 : Int32))) this p0 (q33.2.1 a34 k36) (0 : Int32)
  ) none
set_option maxRecDepth 100000 in
set_option maxHeartbeats 4000000 in
theorem p_Ref_readGoes {w : jw_T} (hw : jok w) {Γ : gm_T} {n : Nat} (hG : gd w Γ n) {x : Bool} {φ : ph_T} {this : Nat} {p0 : Int32} {q : Unit × ph_T} (H : f_Ref_readGoes Γ φ this p0 = some q) : jc w M_Ref_readGoes [.ref this, .int p0] (pic Γ φ) n x 0 0 (fq Γ n (.inl none) q.2) := by
  refine jc.of (by simp only [jent_r, jent_i, jent_l, jent_a, jent_0]; exact Nat.le_of_ble_eq_true rfl) ?_
  have hls : jents [.ref this, .int p0] (jm_nL M_Ref_readGoes) = [some (.ref this), some (.int p0), none, none, none, none] := by simp only [jents, jent_r, jent_i, jent_l, jent_a, jent_0]; rfl
  rw [hls]
  clear hls
  unfold f_Ref_readGoes at H
  refine J_iconst (v := 5) d_Ref_readGoes_0 (by decide) ?_
  refine J_iconst (v := 4) d_Ref_readGoes_1 (by decide) ?_
  refine J_iload_n d_Ref_readGoes_2 rfl ?_
  refine J_iadd d_Ref_readGoes_3 ?_
  refine J_imul d_Ref_readGoes_4 ?_
  refine J_istore_n d_Ref_readGoes_5 (Nat.le_of_ble_eq_true rfl) ?_
  refine J.ls (ls' := [some (.ref this), some (.int p0), some (.int ((5 : Int32) * ((4 : Int32) + p0))), none, none, none]) rfl ?_
  refine J_aload_n d_Ref_readGoes_6 rfl ?_
  refine J_aload_n d_Ref_readGoes_7 rfl ?_
  refine J_iconst (v := 1) d_Ref_readGoes_8 (by decide) ?_
  refine J_iload_n d_Ref_readGoes_9 rfl ?_
  refine J_iconst (v := 4) d_Ref_readGoes_10 (by decide) ?_
  have g25 : Γ this = .inr 12 := by
    apply Classical.byContradiction
    intro q9
    rw [if_neg q9] at H
    cases H
  rw [if_pos g25] at H
  obtain ⟨q26, hq26, H⟩ := Option.bind_eq_some_iff.mp H
  refine J_callV (kc := 0) (ks := 0) (kc' := 0) (ks' := 0) (a := this) (ci := 12) (as := [.int (1 : Int32), .int p0, .int (4 : Int32)]) (st := [.ref this]) (mf_Ref_rowOf hw) (mv_Ref_388 hw) d_Ref_readGoes_11 ln_Ref_rowOf (by decide) (by first | exact Nat.le_of_ble_eq_true rfl | (simp only [List.map_cons, List.map_nil, List.sum_cons, List.sum_nil, va_rf_cat]; exact Nat.le_of_ble_eq_true rfl)) rfl ((hG _).1 _ g25 (by decide)).1 ((hG _).1 _ g25 (by decide)).2 (by unfold pic; rw [g25]; rfl) (jcl_at hw rfl) rfl (p_Ref_rowOf hw hG hq26) ?_ (fun E h' n' x' e1 => by cases e1.1)
  intro v9 h9 n9 x9 e9
  obtain ⟨e91, e92, e93⟩ := e9
  cases e91
  subst e92
  subst e93
  clear x
  rename Bool => x
  show J _ _ _ _ (_ :: _) _ _ _ _ _ _
  refine J_aload_n d_Ref_readGoes_14 rfl ?_
  refine F_getR (ci := 12) (k := 35) hG (cf_Ref hw) (fl_Ref_94 hw) (by decide) (by decide) rfl d_Ref_readGoes_15 g25 ?_
  refine J_iload_n d_Ref_readGoes_18 rfl ?_
  refine J_iconst (v := 4) d_Ref_readGoes_19 (by decide) ?_
  refine J_iadd d_Ref_readGoes_20 ?_
  obtain ⟨a27, ha27, H⟩ := Option.bind_eq_some_iff.mp H
  rw [j_rf ha27]
  obtain ⟨N28, hN28, H⟩ := Option.bind_eq_some_iff.mp H
  obtain ⟨k29, hk29, H⟩ := Option.bind_eq_some_iff.mp H
  refine F_lald k29 hw hG d_Ref_readGoes_21 (gA_some hN28) (ix_some hk29) ?_
  refine J_aload_n d_Ref_readGoes_22 rfl ?_
  refine F_getR (ci := 12) (k := 36) hG (cf_Ref hw) (fl_Ref_97 hw) (by decide) (by decide) rfl d_Ref_readGoes_23 g25 ?_
  refine J_iload_n d_Ref_readGoes_26 rfl ?_
  refine J_iconst (v := 4) d_Ref_readGoes_27 (by decide) ?_
  refine J_iadd d_Ref_readGoes_28 ?_
  obtain ⟨a30, ha30, H⟩ := Option.bind_eq_some_iff.mp H
  rw [j_rf ha30]
  obtain ⟨N31, hN31, H⟩ := Option.bind_eq_some_iff.mp H
  obtain ⟨k32, hk32, H⟩ := Option.bind_eq_some_iff.mp H
  refine F_iald k32 hw hG d_Ref_readGoes_29 (gA_some hN31) (ix_some hk32) ?_
  refine J_aload_n d_Ref_readGoes_30 rfl ?_
  refine F_getI (ci := 12) (k := 6) hG (cf_Ref hw) (fl_Ref_348 hw) (by decide) (by decide) rfl d_Ref_readGoes_31 g25 ?_
  obtain ⟨q33, hq33, H⟩ := Option.bind_eq_some_iff.mp H
  refine J_callV (kc := 0) (ks := 0) (kc' := 0) (ks' := 0) (a := this) (ci := 12) (as := [.int q26.1, .long (q26.2.2.1 a27 k29), .int (q26.2.1 a30 k32), .int (q26.2.1 this 6)]) (st := []) (mf_Ref_put hw) (mv_Ref_469 hw) d_Ref_readGoes_34 ln_Ref_put (by decide) (by first | exact Nat.le_of_ble_eq_true rfl | (simp only [List.map_cons, List.map_nil, List.sum_cons, List.sum_nil, va_rf_cat]; exact Nat.le_of_ble_eq_true rfl)) rfl ((hG _).1 _ g25 (by decide)).1 ((hG _).1 _ g25 (by decide)).2 (by unfold pic; rw [g25]; rfl) (jcl_at hw rfl) rfl (p_Ref_put hw hG hq33) ?_ (fun E h' n' x' e1 => by cases e1.1)
  intro v9 h9 n9 x9 e9
  obtain ⟨e91, e92, e93⟩ := e9
  cases e91
  subst e92
  subst e93
  clear x
  rename Bool => x
  show J _ _ _ _ [] _ _ _ _ _ _
  refine J_aload_n d_Ref_readGoes_37 rfl ?_
  refine F_getR (ci := 12) (k := 79) hG (cf_Ref hw) (fl_Ref_217 hw) (by decide) (by decide) rfl d_Ref_readGoes_38 g25 ?_
  refine J_iload_n d_Ref_readGoes_41 rfl ?_
  obtain ⟨a34, ha34, H⟩ := Option.bind_eq_some_iff.mp H
  rw [j_rf ha34]
  obtain ⟨N35, hN35, H⟩ := Option.bind_eq_some_iff.mp H
  obtain ⟨k36, hk36, H⟩ := Option.bind_eq_some_iff.mp H
  refine F_iald k36 hw hG d_Ref_readGoes_42 (gA_some hN35) (ix_some hk36) ?_
  refine J_istore_n d_Ref_readGoes_43 (Nat.le_of_ble_eq_true rfl) ?_
  refine J.ls (ls' := [some (.ref this), some (.int p0), some (.int ((5 : Int32) * ((4 : Int32) + p0))), some (.int (q33.2.1 a34 k36)), none, none]) rfl ?_
  refine J_aload_n d_Ref_readGoes_44 rfl ?_
  refine F_getR (ci := 12) (k := 77) hG (cf_Ref hw) (fl_Ref_211 hw) (by decide) (by decide) rfl d_Ref_readGoes_45 g25 ?_
  refine J_iload_n d_Ref_readGoes_48 rfl ?_
  refine J_aload_n d_Ref_readGoes_49 rfl ?_
  refine F_getR (ci := 12) (k := 73) hG (cf_Ref hw) (fl_Ref_199 hw) (by decide) (by decide) rfl d_Ref_readGoes_50 g25 ?_
  refine J_iload_n d_Ref_readGoes_53 rfl ?_
  obtain ⟨a37, ha37, H⟩ := Option.bind_eq_some_iff.mp H
  rw [j_rf ha37]
  obtain ⟨N38, hN38, H⟩ := Option.bind_eq_some_iff.mp H
  obtain ⟨k39, hk39, H⟩ := Option.bind_eq_some_iff.mp H
  refine F_iald k39 hw hG d_Ref_readGoes_54 (gA_some hN38) (ix_some hk39) ?_
  obtain ⟨a40, ha40, H⟩ := Option.bind_eq_some_iff.mp H
  rw [j_rf ha40]
  obtain ⟨N41, hN41, H⟩ := Option.bind_eq_some_iff.mp H
  obtain ⟨k42, hk42, H⟩ := Option.bind_eq_some_iff.mp H
  refine F_iast k42 hw hG d_Ref_readGoes_55 (gA_some hN41) (ix_some hk42) ?_
  refine J_aload_n d_Ref_readGoes_56 rfl ?_
  refine F_getR (ci := 12) (k := 71) hG (cf_Ref hw) (fl_Ref_193 hw) (by decide) (by decide) rfl d_Ref_readGoes_57 g25 ?_
  show J _ _ _ _ (va_rf (q33.2.2.2 this 71) :: _) _ _ _ _ _ _
  refine J_iload_n d_Ref_readGoes_60 rfl ?_
  refine J_dup2 d_Ref_readGoes_61 rfl (va_rf_cat _) ?_
  obtain ⟨a43, ha43, H⟩ := Option.bind_eq_some_iff.mp H
  rw [j_rf ha43]
  obtain ⟨N44, hN44, H⟩ := Option.bind_eq_some_iff.mp H
  obtain ⟨k45, hk45, H⟩ := Option.bind_eq_some_iff.mp H
  refine F_iald k45 hw hG d_Ref_readGoes_62 (gA_some hN44) (ix_some hk45) ?_
  refine J_iconst (v := 1) d_Ref_readGoes_63 (by decide) ?_
  refine J_iadd d_Ref_readGoes_64 ?_
  obtain ⟨N46, hN46, H⟩ := Option.bind_eq_some_iff.mp H
  obtain ⟨k47, hk47, H⟩ := Option.bind_eq_some_iff.mp H
  refine F_iast k47 hw hG d_Ref_readGoes_65 (gA_some hN46) (ix_some hk47) ?_
  refine J_aload_n d_Ref_readGoes_66 rfl ?_
  refine F_getR (ci := 12) (k := 36) hG (cf_Ref hw) (fl_Ref_97 hw) (by decide) (by decide) rfl d_Ref_readGoes_67 g25 ?_
  show J _ _ _ _ (va_rf (q33.2.2.2 this 36) :: _) _ _ _ _ _ _
  refine J_iload_n d_Ref_readGoes_70 rfl ?_
  refine J_iconst (v := 4) d_Ref_readGoes_71 (by decide) ?_
  refine J_iadd d_Ref_readGoes_72 ?_
  obtain ⟨a48, ha48, H⟩ := Option.bind_eq_some_iff.mp H
  rw [j_rf ha48]
  obtain ⟨N49, hN49, H⟩ := Option.bind_eq_some_iff.mp H
  obtain ⟨k50, hk50, H⟩ := Option.bind_eq_some_iff.mp H
  refine F_iald k50 hw hG d_Ref_readGoes_73 (gA_some hN49) (ix_some hk50) ?_
  refine J_sipush (v := 256) d_Ref_readGoes_74 (by decide) ?_
  refine J_iand d_Ref_readGoes_77 ?_
  refine J_if_ne (tgt := 82) d_Ref_readGoes_78 (by decide) ?_ ?_
  · intro c51
    rw [if_neg c51] at H
    refine J_iconst (v := 0) d_Ref_readGoes_82 (by decide) ?_
    refine J_istore d_Ref_readGoes_83 (Nat.le_of_ble_eq_true rfl) ?_
    refine J.ls (ls' := [some (.ref this), some (.int p0), some (.int ((5 : Int32) * ((4 : Int32) + p0))), some (.int (q33.2.1 a34 k36)), some (.int (0 : Int32)), none]) rfl ?_
    refine J.drop [true, true, false, true, true, false] rfl ?_
    exact p_Ref_readGoes_L85 hw hG  _ H
  · intro c51
    rw [if_pos c51] at H
    have H := Option.some.inj H
    subst H
    exact J_vret (st := []) d_Ref_readGoes_81 rfl ⟨rfl, rfl, rfl⟩
