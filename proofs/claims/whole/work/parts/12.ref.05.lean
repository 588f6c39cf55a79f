theorem ln_Ref_goMaster : (parseMethodDescriptor y_Ref_goMaster.desc).map (fun q => q.parameters.length) = some 2 := by decide +kernel
def f_Ref_goMaster_L37 (Γ : gm_T)  (φ : ph_T) : Option (Unit × ph_T) :=
  some ((), φ)
set_option maxRecDepth 100000 in
set_option maxHeartbeats 4000000 in
theorem p_Ref_goMaster_L37 {w : jw_T} (hw : jok w) {Γ : gm_T} {n : Nat} (hG : gd w Γ n)  {x : Bool} {φ : ph_T} {q : Unit × ph_T} (H : f_Ref_goMaster_L37 Γ  φ  = some q) : J w M_Ref_goMaster 37 [none, none, none] [] (pic Γ φ) n x 0 0 (fq Γ n (.inl none) q.2) := by
  unfold f_Ref_goMaster_L37 at H
  cases H
  exact J_vret (st := []) d_Ref_goMaster_37 rfl ⟨rfl, rfl, rfl⟩
def f_Ref_goMaster_L9 (Γ : gm_T)  (φ : ph_T) (x0 : Nat) (x1 : Int32) (x2 : Int32) : Option (Unit × ph_T) :=
  @ite _ (Γ x0 = .inr 12) _ (
  Option.bind (f_Ref_addressSent Γ φ x0 x1 x2) fun q2 =>
  f_Ref_goMaster_L37 Γ  q2.2 
  ) none
set_option maxRecDepth 100000 in
set_option maxHeartbeats 4000000 in
theorem p_Ref_goMaster_L9 {w : jw_T} (hw : jok w) {Γ : gm_T} {n : Nat} (hG : gd w Γ n)  {x : Bool} {φ : ph_T} {x0 : Nat} {x1 : Int32} {x2 : Int32} {q : Unit × ph_T} (H : f_Ref_goMaster_L9 Γ  φ x0 x1 x2 = some q) : J w M_Ref_goMaster 9 [some (.ref x0), some (.int x1), some (.int x2)] [] (pic Γ φ) n x 0 0 (fq Γ n (.inl none) q.2) := by
  unfold f_Ref_goMaster_L9 at H
  refine J_aload_n d_Ref_goMaster_9 rfl ?_
  refine J_iload_n d_Ref_goMaster_10 rfl ?_
  refine J_iload_n d_Ref_goMaster_11 rfl ?_
  have g1 : Γ x0 = .inr 12 := by
    apply Classical.byContradiction
    intro q9
    rw [if_neg q9] at H
    cases H
  rw [if_pos g1] at H
  obtain ⟨q2, hq2, H⟩ := Option.bind_eq_some_iff.mp H
  refine J_callV (kc := 0) (ks := 0) (kc' := 0) (ks' := 0) (a := x0) (ci := 12) (as := [.int x1, .int x2]) (st := []) (mf_Ref_addressSent hw) (mv_Ref_498 hw) d_Ref_goMaster_12 ln_Ref_addressSent (by decide) (by first | exact Nat.le_of_ble_eq_true rfl | (simp only [List.map_cons, List.map_nil, List.sum_cons, List.sum_nil, va_rf_cat]; exact Nat.le_of_ble_eq_true rfl)) rfl ((hG _).1 _ g1 (by decide)).1 ((hG _).1 _ g1 (by decide)).2 (by unfold pic; rw [g1]; rfl) (jcl_at hw rfl) rfl (p_Ref_addressSent hw hG hq2) ?_ (fun E h' n' x' e1 => by cases e1.1)
  intro v9 h9 n9 x9 e9
  obtain ⟨e91, e92, e93⟩ := e9
  cases e91
  subst e92
  subst e93
  clear x
  rename Bool => x
  show J _ _ _ _ [] _ _ _ _ _ _
  refine J_goto (tgt := 37) d_Ref_goMaster_15 (by decide) ?_
  refine J.drop [false, false, false] rfl ?_
  exact p_Ref_goMaster_L37 hw hG  H
def f_Ref_goMaster (Γ : gm_T) (φ : ph_T) (this : Nat) (p0 : Int32) (p1 : Int32) : Option (Unit × ph_T) :=
  if p1 = 0 then
    f_Ref_goMaster_L9 Γ  φ this p0 p1
  else
    if p1 = (3 : Int32) then
      f_Ref_goMaster_L9 Γ  φ this p0 p1
    else
      if p1 = (1 : Int32) then
        @ite _ (Γ this = .inr 12) _ (
        Option.bind (f_Ref_dataSent Γ φ this p0) fun q6 =>
        f_Ref_goMaster_L37 Γ  q6.2 
        ) none
      else
        @ite _ (Γ this = .inr 12) _ (
        Option.bind (f_Ref_answerCame Γ φ this p0 p1) fun q4 =>
        f_Ref_goMaster_L37 Γ  q4.2 
        ) none
set_option maxRecDepth 100000 in
set_option maxHeartbeats 4000000 in
theorem p_Ref_goMaster {w : jw_T} (hw : jok w) {Γ : gm_T} {n : Nat} (hG : gd w Γ n) {x : Bool} {φ : ph_T} {this : Nat} {p0 : Int32} {p1 : Int32} {q : Unit × ph_T} (H : f_Ref_goMaster Γ φ this p0 p1 = some q) : jc w M_Ref_goMaster [.ref this, .int p0, .int p1] (pic Γ φ) n x 0 0 (fq Γ n (.inl none) q.2) := by
  refine jc.of (by simp only [jent_r, jent_i, jent_l, jent_a, jent_0]; exact Nat.le_of_ble_eq_true rfl) ?_
  have hls : jents [.ref this, .int p0, .int p1] (jm_nL M_Ref_goMaster) = [some (.ref this), some (.int p0), some (.int p1)] := by simp only [jents, jent_r, jent_i, jent_l, jent_a, jent_0]; rfl
  rw [hls]
  clear hls
  unfold f_Ref_goMaster at H
  refine J_iload_n d_Ref_goMaster_0 rfl ?_
  refine J_if_eq (tgt := 9) d_Ref_goMaster_1 (by decide) ?_ ?_
  · intro c9
    rw [if_pos c9] at H
    refine J.drop [true, true, true] rfl ?_
    exact p_Ref_goMaster_L9 hw hG  H
  · intro c9
    rw [if_neg c9] at H
    refine J_iload_n d_Ref_goMaster_4 rfl ?_
    refine J_iconst (v := 3) d_Ref_goMaster_5 (by decide) ?_
    refine J_icmp_ne (tgt := 18) d_Ref_goMaster_6 (by decide) ?_ ?_
    · intro c8
      rw [if_neg c8] at H
      refine J_iload_n d_Ref_goMaster_18 rfl ?_
      refine J_iconst (v := 1) d_Ref_goMaster_19 (by decide) ?_
      refine J_icmp_ne (tgt := 31) d_Ref_goMaster_20 (by decide) ?_ ?_
      · intro c7
        rw [if_neg c7] at H
        refine J_aload_n d_Ref_goMaster_31 rfl ?_
        refine J_iload_n d_Ref_goMaster_32 rfl ?_
        refine J_iload_n d_Ref_goMaster_33 rfl ?_
        have g3 : Γ this = .inr 12 := by
          apply Classical.byContradiction
          intro q9
          rw [if_neg q9] at H
          cases H
        rw [if_pos g3] at H
        obtain ⟨q4, hq4, H⟩ := Option.bind_eq_some_iff.mp H
        refine J_callV (kc := 0) (ks := 0) (kc' := 0) (ks' := 0) (a := this) (ci := 12) (as := [.int p0, .int p1]) (st := []) (mf_Ref_answerCame hw) (mv_Ref_504 hw) d_Ref_goMaster_34 ln_Ref_answerCame (by decide) (by first | exact Nat.le_of_ble_eq_true rfl | (simp only [List.map_cons, List.map_nil, List.sum_cons, List.sum_nil, va_rf_cat]; exact Nat.le_of_ble_eq_true rfl)) rfl ((hG _).1 _ g3 (by decide)).1 ((hG _).1 _ g3 (by decide)).2 (by unfold pic; rw [g3]; rfl) (jcl_at hw rfl) rfl (p_Ref_answerCame hw hG hq4) ?_ (fun E h' n' x' e1 => by cases e1.1)
        intro v9 h9 n9 x9 e9
        obtain ⟨e91, e92, e93⟩ := e9
        cases e91
        subst e92
        subst e93
        clear x
        rename Bool => x
        show J _ _ _ _ [] _ _ _ _ _ _
        refine J.drop [false, false, false] rfl ?_
        exact p_Ref_goMaster_L37 hw hG  H
      · intro c7
        rw [if_pos c7] at H
        refine J_aload_n d_Ref_goMaster_23 rfl ?_
        refine J_iload_n d_Ref_goMaster_24 rfl ?_
        have g5 : Γ this = .inr 12 := by
          apply Classical.byContradiction
          intro q9
          rw [if_neg q9] at H
          cases H
        rw [if_pos g5] at H
        obtain ⟨q6, hq6, H⟩ := Option.bind_eq_some_iff.mp H
        refine J_callV (kc := 0) (ks := 0) (kc' := 0) (ks' := 0) (a := this) (ci := 12) (as := [.int p0]) (st := []) (mf_Ref_dataSent hw) (mv_Ref_501 hw) d_Ref_goMaster_25 ln_Ref_dataSent (by decide) (by first | exact Nat.le_of_ble_eq_true rfl | (simp only [List.map_cons, List.map_nil, List.sum_cons, List.sum_nil, va_rf_cat]; exact Nat.le_of_ble_eq_true rfl)) rfl ((hG _).1 _ g5 (by decide)).1 ((hG _).1 _ g5 (by decide)).2 (by unfold pic; rw [g5]; rfl) (jcl_at hw rfl) rfl (p_Ref_dataSent hw hG hq6) ?_ (fun E h' n' x' e1 => by cases e1.1)
        intro v9 h9 n9 x9 e9
        obtain ⟨e91, e92, e93⟩ := e9
        cases e91
        subst e92
        subst e93
        clear x
        rename Bool => x
        show J _ _ _ _ [] _ _ _ _ _ _
        refine J_goto (tgt := 37) d_Ref_goMaster_28 (by decide) ?_
        refine J.drop [false, false, false] rfl ?_
        exact p_Ref_goMaster_L37 hw hG  H
    · intro c8
      rw [if_pos c8] at H
      refine J.drop [true, true, true] rfl ?_
      exact p_Ref_goMaster_L9 hw hG  H
theorem ln_Ref_writeGoes : (parseMethodDescriptor y_Ref_writeGoes.desc).map (fun q => q.parameters.length) = some 1 := by decide +kernel
def f_Ref_writeGoes_L87 (Γ : gm_T)  : Nat → ph_T → Nat → Int32 → Int32 → Option (Unit × ph_T)
  | 0, _, _, _, _ => none
  | fu + 1, φ, x0, x1, x5 =>
    @ite _ (Γ x0 = .inr 12) _ (
    Option.bind (φ.2.2 x0 58) fun a2 =>
    Option.bind (gA Γ a2 0) fun N3 =>
    Option.bind (ix x1 N3) fun k4 =>
    if (φ.1 a2 k4) ≤ x5 then
      some ((), φ)
    else
      Option.bind (φ.2.2 x0 59) fun a5 =>
      Option.bind (gA Γ a5 0) fun N6 =>
      Option.bind (ix ((((4 : Int32) * x1) + x5) + (1 : Int32)) N6) fun k7 =>
      Option.bind (gA Γ a5 0) fun N8 =>
      Option.bind (ix (((4 : Int32) * x1) + x5) N8) fun k9 =>
      (f_Ref_writeGoes_L87 Γ  fu) (uI φ a5 k9 (φ.1 a5 k7)) x0 x1 (x5 + (1 : Int32))
    ) none
set_option maxRecDepth 100000 in
set_option maxHeartbeats 4000000 in
theorem p_Ref_writeGoes_L87 {w : jw_T} (hw : jok w) {Γ : gm_T} {n : Nat} (hG : gd w Γ n)  : ∀ (fu : Nat) {x : Bool} {φ : ph_T} {x0 : Nat} {x1 : Int32} {x5 : Int32} {q : Unit × ph_T}, f_Ref_writeGoes_L87 Γ  fu φ x0 x1 x5 = some q → J w M_Ref_writeGoes 87 [some (.ref x0), some (.int x1), none, none, none, some (.int x5)] [] (pic Γ φ) n x 0 0 (fq Γ n (.inl none) q.2) := by
  intro fu
  induction fu with
  | zero =>
    intro x φ x0 x1 x5 q H
    cases H
  | succ fu ih =>
    intro x φ x0 x1 x5 q H
    unfold f_Ref_writeGoes_L87 at H
    refine J_iload d_Ref_writeGoes_87 rfl ?_
    refine J_aload_n d_Ref_writeGoes_89 rfl ?_
    have g1 : Γ x0 = .inr 12 := by
      apply Classical.byContradiction
      intro q9
      rw [if_neg q9] at H
      cases H
    rw [if_pos g1] at H
    refine F_getR (ci := 12) (k := 58) hG (cf_Ref hw) (fl_Ref_154 hw) (by decide) (by decide) rfl d_Ref_writeGoes_90 g1 ?_
    refine J_iload_n d_Ref_writeGoes_93 rfl ?_
    obtain ⟨a2, ha2, H⟩ := Option.bind_eq_some_iff.mp H
    rw [j_rf ha2]
    obtain ⟨N3, hN3, H⟩ := Option.bind_eq_some_iff.mp H
    obtain ⟨k4, hk4, H⟩ := Option.bind_eq_some_iff.mp H
    refine F_iald k4 hw hG d_Ref_writeGoes_94 (gA_some hN3) (ix_some hk4) ?_
    refine J_icmp_ge (tgt := 128) d_Ref_writeGoes_95 (by decide) ?_ ?_
    · intro c10
      rw [if_pos c10] at H
      cases H
      exact J_vret (st := []) d_Ref_writeGoes_128 rfl ⟨rfl, rfl, rfl⟩
    · intro c10
      rw [if_neg c10] at H
      refine J_aload_n d_Ref_writeGoes_98 rfl ?_
      refine F_getR (ci := 12) (k := 59) hG (cf_Ref hw) (fl_Ref_157 hw) (by decide) (by decide) rfl d_Ref_writeGoes_99 g1 ?_
      refine J_iconst (v := 4) d_Ref_writeGoes_102 (by decide) ?_
      refine J_iload_n d_Ref_writeGoes_103 rfl ?_
      refine J_imul d_Ref_writeGoes_104 ?_
      refine J_iload d_Ref_writeGoes_105 rfl ?_
      refine J_iadd d_Ref_writeGoes_107 ?_
      refine J_aload_n d_Ref_writeGoes_108 rfl ?_
      refine F_getR (ci := 12) (k := 59) hG (cf_Ref hw) (fl_Ref_157 hw) (by decide) (by decide) rfl d_Ref_writeGoes_109 g1 ?_
      refine J_iconst (v := 4) d_Ref_writeGoes_112 (by decide) ?_
      refine J_iload_n d_Ref_writeGoes_113 rfl ?_
      refine J_imul d_Ref_writeGoes_114 ?_
      refine J_iload d_Ref_writeGoes_115 rfl ?_
      refine J_iadd d_Ref_writeGoes_117 ?_
      refine J_iconst (v := 1) d_Ref_writeGoes_118 (by decide) ?_
      refine J_iadd d_Ref_writeGoes_119 ?_
      obtain ⟨a5, ha5, H⟩ := Option.bind_eq_some_iff.mp H
      rw [j_rf ha5]
      obtain ⟨N6, hN6, H⟩ := Option.bind_eq_some_iff.mp H
      obtain ⟨k7, hk7, H⟩ := Option.bind_eq_some_iff.mp H
      refine F_iald k7 hw hG d_Ref_writeGoes_120 (gA_some hN6) (ix_some hk7) ?_
      obtain ⟨N8, hN8, H⟩ := Option.bind_eq_some_iff.mp H
      obtain ⟨k9, hk9, H⟩ := Option.bind_eq_some_iff.mp H
      refine F_iast k9 hw hG d_Ref_writeGoes_121 (gA_some hN8) (ix_some hk9) ?_
      refine J_iinc (v := x5 + 1) d_Ref_writeGoes_122 rfl (by rw [show Int32.ofInt 1 = (1 : Int32) from by decide]) ?_
      refine J_goto (tgt := 87) d_Ref_writeGoes_125 (by decide) ?_
      refine J.drop [true, true, false, false, false, true] rfl ?_
      exact ih H
def f_Ref_writeGoes_L35 (Γ : gm_T)  : Nat → ph_T → Nat → Int32 → Int32 → Option (Unit × ph_T)
  | 0, _, _, _, _ => none
  | fu + 1, φ, x0, x1, x4 =>
    @ite _ (Γ x0 = .inr 12) _ (
    Option.bind (φ.2.2 x0 59) fun a12 =>
    Option.bind (gA Γ a12 0) fun N13 =>
    Option.bind (ix (((4 : Int32) * x1) + x4) N13) fun k14 =>
    Option.bind (φ.2.2 x0 78) fun a15 =>
    Option.bind (gA Γ a15 0) fun N16 =>
    Option.bind (ix x1 N16) fun k17 =>
    if (φ.1 a12 k14) = (φ.1 a15 k17) then
      Option.bind (gA Γ a15 0) fun N18 =>
      Option.bind (ix x1 N18) fun k19 =>
      Option.bind (φ.2.2 x0 60) fun a20 =>
      Option.bind (gA Γ a20 2) fun N21 =>
      Option.bind (ix (φ.1 a15 k19) N21) fun k22 =>
      @ite _ ((0 : Int32) = 0 ∨ (0 : Int32) = 1) _ (
      Option.bind ((uI φ a20 k22 (0 : Int32)).2.2 x0 58) fun a24 =>
      Option.bind (gA Γ a24 0) fun N25 =>
      Option.bind (ix x1 N25) fun k26 =>
      Option.bind (gA Γ a24 0) fun N27 =>
      Option.bind (ix x1 N27) fun k28 =>
      f_Ref_writeGoes_L87 Γ  jF (uI (uI φ a20 k22 (0 : Int32)) a24 k28 (((uI φ a20 k22 (0 : Int32)).1 a24 k26) - (1 : Int32))) x0 x1 x4
      ) none
    else
      (f_Ref_writeGoes_L35 Γ  fu) φ x0 x1 (x4 + (1 : Int32))
    ) none
set_option maxRecDepth 100000 in
set_option maxHeartbeats 4000000 in
theorem p_Ref_writeGoes_L35 {w : jw_T} (hw : jok w) {Γ : gm_T} {n : Nat} (hG : gd w Γ n)  : ∀ (fu : Nat) {x : Bool} {φ : ph_T} {x0 : Nat} {x1 : Int32} {x4 : Int32} {q : Unit × ph_T}, f_Ref_writeGoes_L35 Γ  fu φ x0 x1 x4 = some q → J w M_Ref_writeGoes 35 [some (.ref x0), some (.int x1), none, none, some (.int x4), none] [] (pic Γ φ) n x 0 0 (fq Γ n (.inl none) q.2) := by
  intro fu
  induction fu with
  | zero =>
    intro x φ x0 x1 x4 q H
    cases H
  | succ fu ih =>
    intro x φ x0 x1 x4 q H
    unfold f_Ref_writeGoes_L35 at H
    refine J_aload_n d_Ref_writeGoes_35 rfl ?_
    have g11 : Γ x0 = .inr 12 := by
      apply Classical.byContradiction
      intro q9
      rw [if_neg q9] at H
      cases H
    rw [if_pos g11] at H
    refine F_getR (ci := 12) (k := 59) hG (cf_Ref hw) (fl_Ref_157 hw) (by decide) (by decide) rfl d_Ref_writeGoes_36 g11 ?_
    refine J_iconst (v := 4) d_Ref_writeGoes_39 (by decide) ?_
    refine J_iload_n d_Ref_writeGoes_40 rfl ?_
    refine J_imul d_Ref_writeGoes_41 ?_
    refine J_iload d_Ref_writeGoes_42 rfl ?_
    refine J_iadd d_Ref_writeGoes_44 ?_
    obtain ⟨a12, ha12, H⟩ := Option.bind_eq_some_iff.mp H
    rw [j_rf ha12]
    obtain ⟨N13, hN13, H⟩ := Option.bind_eq_some_iff.mp H
    obtain ⟨k14, hk14, H⟩ := Option.bind_eq_some_iff.mp H
    refine F_iald k14 hw hG d_Ref_writeGoes_45 (gA_some hN13) (ix_some hk14) ?_
    refine J_aload_n d_Ref_writeGoes_46 rfl ?_
    refine F_getR (ci := 12) (k := 78) hG (cf_Ref hw) (fl_Ref_214 hw) (by decide) (by decide) rfl d_Ref_writeGoes_47 g11 ?_
    refine J_iload_n d_Ref_writeGoes_50 rfl ?_
    obtain ⟨a15, ha15, H⟩ := Option.bind_eq_some_iff.mp H
    rw [j_rf ha15]
    obtain ⟨N16, hN16, H⟩ := Option.bind_eq_some_iff.mp H
    obtain ⟨k17, hk17, H⟩ := Option.bind_eq_some_iff.mp H
    refine F_iald k17 hw hG d_Ref_writeGoes_51 (gA_some hN16) (ix_some hk17) ?_
    refine J_icmp_eq (tgt := 61) d_Ref_writeGoes_52 (by decide) ?_ ?_
    · intro c29
      rw [if_pos c29] at H
      refine J_aload_n d_Ref_writeGoes_61 rfl ?_
      refine F_getR (ci := 12) (k := 60) hG (cf_Ref hw) (fl_Ref_160 hw) (by decide) (by decide) rfl d_Ref_writeGoes_62 g11 ?_
      refine J_aload_n d_Ref_writeGoes_65 rfl ?_
      refine F_getR (ci := 12) (k := 78) hG (cf_Ref hw) (fl_Ref_214 hw) (by decide) (by decide) rfl d_Ref_writeGoes_66 g11 ?_
      refine J_iload_n d_Ref_writeGoes_69 rfl ?_
      try rw [j_rf ha15]
      obtain ⟨N18, hN18, H⟩ := Option.bind_eq_some_iff.mp H
      obtain ⟨k19, hk19, H⟩ := Option.bind_eq_some_iff.mp H
      refine F_iald k19 hw hG d_Ref_writeGoes_70 (gA_some hN18) (ix_some hk19) ?_
      refine J_iconst (v := 0) d_Ref_writeGoes_71 (by decide) ?_
      obtain ⟨a20, ha20, H⟩ := Option.bind_eq_some_iff.mp H
      rw [j_rf ha20]
      obtain ⟨N21, hN21, H⟩ := Option.bind_eq_some_iff.mp H
      obtain ⟨k22, hk22, H⟩ := Option.bind_eq_some_iff.mp H
      have z23 : (0 : Int32) = 0 ∨ (0 : Int32) = 1 := by
        apply Classical.byContradiction
        intro q9
        rw [if_neg q9] at H
        cases H
      rw [if_pos z23] at H
      refine F_zast k22 hw hG d_Ref_writeGoes_72 (gA_some hN21) (ix_some hk22) z23 ?_
      refine J_aload_n d_Ref_writeGoes_73 rfl ?_
      refine F_getR (ci := 12) (k := 58) hG (cf_Ref hw) (fl_Ref_154 hw) (by decide) (by decide) rfl d_Ref_writeGoes_74 g11 ?_
      refine J_iload_n d_Ref_writeGoes_77 rfl ?_
      refine J_dup2 d_Ref_writeGoes_78 rfl (va_rf_cat _) ?_
      obtain ⟨a24, ha24, H⟩ := Option.bind_eq_some_iff.mp H
      rw [j_rf ha24]
      obtain ⟨N25, hN25, H⟩ := Option.bind_eq_some_iff.mp H
      obtain ⟨k26, hk26, H⟩ := Option.bind_eq_some_iff.mp H
      refine F_iald k26 hw hG d_Ref_writeGoes_79 (gA_some hN25) (ix_some hk26) ?_
      refine J_iconst (v := 1) d_Ref_writeGoes_80 (by decide) ?_
      refine J_isub d_Ref_writeGoes_81 ?_
      obtain ⟨N27, hN27, H⟩ := Option.bind_eq_some_iff.mp H
      obtain ⟨k28, hk28, H⟩ := Option.bind_eq_some_iff.mp H
      refine F_iast k28 hw hG d_Ref_writeGoes_82 (gA_some hN27) (ix_some hk28) ?_
      refine J_iload d_Ref_writeGoes_83 rfl ?_
      refine J_istore d_Ref_writeGoes_85 (Nat.le_of_ble_eq_true rfl) ?_
      refine J.drop [true, true, false, false, false, true] rfl ?_
      exact p_Ref_writeGoes_L87 hw hG  _ H
    · intro c29
      rw [if_neg c29] at H
      refine J_iinc (v := x4 + 1) d_Ref_writeGoes_55 rfl (by rw [show Int32.ofInt 1 = (1 : Int32) from by decide]) ?_
      refine J_goto (tgt := 35) d_Ref_writeGoes_58 (by decide) ?_
      refine J.drop [true, true, false, false, true, false] rfl ?_
      exact ih H
def f_Ref_writeGoes (Γ : gm_T) (φ : ph_T) (this : Nat) (p0 : Int32) : Option (Unit × ph_T) :=
  @ite _ (Γ this = .inr 12) _ (
  Option.bind (f_Ref_rowOf Γ φ this (1 : Int32) p0 (2 : Int32)) fun q31 =>
  Option.bind (q31.2.2.2 this 36) fun a32 =>
  Option.bind (gA Γ a32 0) fun N33 =>
  Option.bind (ix (((5 : Int32) * ((4 : Int32) + p0)) + (2 : Int32)) N33) fun k34 =>
  Option.bind (f_Ref_put Γ q31.2 this q31.1 (0 : Int64) (q31.2.1 a32 k34) (q31.2.1 this 6)) fun q35 =>
  f_Ref_writeGoes_L35 Γ  jF q35.2 this p0 (0 : Int32)
  ) none
set_option maxRecDepth 100000 in
set_option maxHeartbeats 4000000 in
theorem p_Ref_writeGoes {w : jw_T} (hw : jok w) {Γ : gm_T} {n : Nat} (hG : gd w Γ n) {x : Bool} {φ : ph_T} {this : Nat} {p0 : Int32} {q : Unit × ph_T} (H : f_Ref_writeGoes Γ φ this p0 = some q) : jc w M_Ref_writeGoes [.ref this, .int p0] (pic Γ φ) n x 0 0 (fq Γ n (.inl none) q.2) := by
  refine jc.of (by simp only [jent_r, jent_i, jent_l, jent_a, jent_0]; exact Nat.le_of_ble_eq_true rfl) ?_
  have hls : jents [.ref this, .int p0] (jm_nL M_Ref_writeGoes) = [some (.ref this), some (.int p0), none, none, none, none] := by simp only [jents, jent_r, jent_i, jent_l, jent_a, jent_0]; rfl
  rw [hls]
  clear hls
  unfold f_Ref_writeGoes at H
  refine J_aload_n d_Ref_writeGoes_0 rfl ?_
  refine J_iconst (v := 1) d_Ref_writeGoes_1 (by decide) ?_
  refine J_iload_n d_Ref_writeGoes_2 rfl ?_
  refine J_iconst (v := 2) d_Ref_writeGoes_3 (by decide) ?_
  have g30 : Γ this = .inr 12 := by
    apply Classical.byContradiction
    intro q9
    rw [if_neg q9] at H
    cases H
  rw [if_pos g30] at H
  obtain ⟨q31, hq31, H⟩ := Option.bind_eq_some_iff.mp H
  refine J_callV (kc := 0) (ks := 0) (kc' := 0) (ks' := 0) (a := this) (ci := 12) (as := [.int (1 : Int32), .int p0, .int (2 : Int32)]) (st := []) (mf_Ref_rowOf hw) (mv_Ref_388 hw) d_Ref_writeGoes_4 ln_Ref_rowOf (by decide) (by first | exact Nat.le_of_ble_eq_true rfl | (simp only [List.map_cons, List.map_nil, List.sum_cons, List.sum_nil, va_rf_cat]; exact Nat.le_of_ble_eq_true rfl)) rfl ((hG _).1 _ g30 (by decide)).1 ((hG _).1 _ g30 (by decide)).2 (by unfold pic; rw [g30]; rfl) (jcl_at hw rfl) rfl (p_Ref_rowOf hw hG hq31) ?_ (fun E h' n' x' e1 => by cases e1.1)
  intro v9 h9 n9 x9 e9
  obtain ⟨e91, e92, e93⟩ := e9
  cases e91
  subst e92
  subst e93
  clear x
  rename Bool => x
  show J _ _ _ _ (_ :: _) _ _ _ _ _ _
  refine J_istore_n d_Ref_writeGoes_7 (Nat.le_of_ble_eq_true rfl) ?_
  refine J_iconst (v := 5) d_Ref_writeGoes_8 (by decide) ?_
  refine J_iconst (v := 4) d_Ref_writeGoes_9 (by decide) ?_
  refine J_iload_n d_Ref_writeGoes_10 rfl ?_
  refine J_iadd d_Ref_writeGoes_11 ?_
  refine J_imul d_Ref_writeGoes_12 ?_
  refine J_istore_n d_Ref_writeGoes_13 (Nat.le_of_ble_eq_true rfl) ?_
  refine J_aload_n d_Ref_writeGoes_14 rfl ?_
  refine J_iload_n d_Ref_writeGoes_15 rfl ?_
  refine J_lconst (v := 0) d_Ref_writeGoes_16 (by decide) ?_
  refine J_aload_n d_Ref_writeGoes_17 rfl ?_
  refine F_getR (ci := 12) (k := 36) hG (cf_Ref hw) (fl_Ref_97 hw) (by decide) (by decide) rfl d_Ref_writeGoes_18 g30 ?_
  refine J_iload_n d_Ref_writeGoes_21 rfl ?_
  refine J_iconst (v := 2) d_Ref_writeGoes_22 (by decide) ?_
  refine J_iadd d_Ref_writeGoes_23 ?_
  obtain ⟨a32, ha32, H⟩ := Option.bind_eq_some_iff.mp H
  rw [j_rf ha32]
  obtain ⟨N33, hN33, H⟩ := Option.bind_eq_some_iff.mp H
  obtain ⟨k34, hk34, H⟩ := Option.bind_eq_some_iff.mp H
  refine F_iald k34 hw hG d_Ref_writeGoes_24 (gA_some hN33) (ix_some hk34) ?_
  refine J_aload_n d_Ref_writeGoes_25 rfl ?_
  refine F_getI (ci := 12) (k := 6) hG (cf_Ref hw) (fl_Ref_348 hw) (by decide) (by decide) rfl d_Ref_writeGoes_26 g30 ?_
  obtain ⟨q35, hq35, H⟩ := Option.bind_eq_some_iff.mp H
  refine J_callV (kc := 0) (ks := 0) (kc' := 0) (ks' := 0) (a := this) (ci := 12) (as := [.int q31.1, .long (0 : Int64), .int (q31.2.1 a32 k34), .int (q31.2.1 this 6)]) (st := []) (mf_Ref_put hw) (mv_Ref_469 hw) d_Ref_writeGoes_29 ln_Ref_put (by decide) (by first | exact Nat.le_of_ble_eq_true rfl | (simp only [List.map_cons, List.map_nil, List.sum_cons, List.sum_nil, va_rf_cat]; exact Nat.le_of_ble_eq_true rfl)) rfl ((hG _).1 _ g30 (by decide)).1 ((hG _).1 _ g30 (by decide)).2 (by unfold pic; rw [g30]; rfl) (jcl_at hw rfl) rfl (p_Ref_put hw hG hq35) ?_ (fun E h' n' x' e1 => by cases e1.1)
  intro v9 h9 n9 x9 e9
  obtain ⟨e91, e92, e93⟩ := e9
  cases e91
  subst e92
  subst e93
  clear x
  rename Bool => x
  show J _ _ _ _ [] _ _ _ _ _ _
  refine J_iconst (v := 0) d_Ref_writeGoes_32 (by decide) ?_
  refine J_istore d_Ref_writeGoes_33 (Nat.le_of_ble_eq_true rfl) ?_
  refine J.drop [true, true, false, false, true, false] rfl ?_
  exact p_Ref_writeGoes_L35 hw hG  _ H
theorem ln_Ref_readGoes : (parseMethodDescriptor y_Ref_readGoes.desc).map (fun q => q.parameters.length) = some 1 := by decide +kernel
def f_Ref_readGoes_L127 (Γ : gm_T)  : Nat → ph_T → Nat → Int32 → Int32 → Option (Unit × ph_T)
  | 0, _, _, _, _ => none
  | fu + 1, φ, x0, x1, x5 =>
    @ite _ (Γ x0 = .inr 12) _ (
    Option.bind (φ.2.2 x0 67) fun a2 =>
    Option.bind (gA Γ a2 0) fun N3 =>
    Option.bind (ix x1 N3) fun k4 =>
    if (φ.1 a2 k4) ≤ x5 then
      some ((), φ)
    else
      Option.bind (φ.2.2 x0 68) fun a5 =>
      Option.bind (gA Γ a5 0) fun N6 =>
      Option.bind (ix ((((4 : Int32) * x1) + x5) + (1 : Int32)) N6) fun k7 =>
      Option.bind (gA Γ a5 0) fun N8 =>
      Option.bind (ix (((4 : Int32) * x1) + x5) N8) fun k9 =>
      (f_Ref_readGoes_L127 Γ  fu) (uI φ a5 k9 (φ.1 a5 k7)) x0 x1 (x5 + (1 : Int32))
    ) none
set_option maxRecDepth 100000 in
set_option maxHeartbeats 4000000 in
theorem p_Ref_readGoes_L127 {w : jw_T} (hw : jok w) {Γ : gm_T} {n : Nat} (hG : gd w Γ n)  : ∀ (fu : Nat) {x : Bool} {φ : ph_T} {x0 : Nat} {x1 : Int32} {x5 : Int32} {q : Unit × ph_T}, f_Ref_readGoes_L127 Γ  fu φ x0 x1 x5 = some q → J w M_Ref_readGoes 127 [some (.ref x0), some (.int x1), none, none, none, some (.int x5)] [] (pic Γ φ) n x 0 0 (fq Γ n (.inl none) q.2) := by
  intro fu
  induction fu with
  | zero =>
    intro x φ x0 x1 x5 q H
    cases H
  | succ fu ih =>
    intro x φ x0 x1 x5 q H
    unfold f_Ref_readGoes_L127 at H
    refine J_iload d_Ref_readGoes_127 rfl ?_
    refine J_aload_n d_Ref_readGoes_129 rfl ?_
    have g1 : Γ x0 = .inr 12 := by
      apply Classical.byContradiction
      intro q9
      rw [if_neg q9] at H
      cases H
    rw [if_pos g1] at H
    refine F_getR (ci := 12) (k := 67) hG (cf_Ref hw) (fl_Ref_181 hw) (by decide) (by decide) rfl d_Ref_readGoes_130 g1 ?_
    refine J_iload_n d_Ref_readGoes_133 rfl ?_
    obtain ⟨a2, ha2, H⟩ := Option.bind_eq_some_iff.mp H
    rw [j_rf ha2]
    obtain ⟨N3, hN3, H⟩ := Option.bind_eq_some_iff.mp H
    obtain ⟨k4, hk4, H⟩ := Option.bind_eq_some_iff.mp H
    refine F_iald k4 hw hG d_Ref_readGoes_134 (gA_some hN3) (ix_some hk4) ?_
    refine J_icmp_ge (tgt := 168) d_Ref_readGoes_135 (by decide) ?_ ?_
    · intro c10
      rw [if_pos c10] at H
      cases H
      exact J_vret (st := []) d_Ref_readGoes_168 rfl ⟨rfl, rfl, rfl⟩
    · intro c10
      rw [if_neg c10] at H
      refine J_aload_n d_Ref_readGoes_138 rfl ?_
      refine F_getR (ci := 12) (k := 68) hG (cf_Ref hw) (fl_Ref_184 hw) (by decide) (by decide) rfl d_Ref_readGoes_139 g1 ?_
      refine J_iconst (v := 4) d_Ref_readGoes_142 (by decide) ?_
      refine J_iload_n d_Ref_readGoes_143 rfl ?_
      refine J_imul d_Ref_readGoes_144 ?_
      refine J_iload d_Ref_readGoes_145 rfl ?_
      refine J_iadd d_Ref_readGoes_147 ?_
      refine J_aload_n d_Ref_readGoes_148 rfl ?_
      refine F_getR (ci := 12) (k := 68) hG (cf_Ref hw) (fl_Ref_184 hw) (by decide) (by decide) rfl d_Ref_readGoes_149 g1 ?_
      refine J_iconst (v := 4) d_Ref_readGoes_152 (by decide) ?_
      refine J_iload_n d_Ref_readGoes_153 rfl ?_
      refine J_imul d_Ref_readGoes_154 ?_
      refine J_iload d_Ref_readGoes_155 rfl ?_
      refine J_iadd d_Ref_readGoes_157 ?_
      refine J_iconst (v := 1) d_Ref_readGoes_158 (by decide) ?_
      refine J_iadd d_Ref_readGoes_159 ?_
      obtain ⟨a5, ha5, H⟩ := Option.bind_eq_some_iff.mp H
      rw [j_rf ha5]
      obtain ⟨N6, hN6, H⟩ := Option.bind_eq_some_iff.mp H
      obtain ⟨k7, hk7, H⟩ := Option.bind_eq_some_iff.mp H
      refine F_iald k7 hw hG d_Ref_readGoes_160 (gA_some hN6) (ix_some hk7) ?_
      obtain ⟨N8, hN8, H⟩ := Option.bind_eq_some_iff.mp H
      obtain ⟨k9, hk9, H⟩ := Option.bind_eq_some_iff.mp H
      refine F_iast k9 hw hG d_Ref_readGoes_161 (gA_some hN8) (ix_some hk9) ?_
      refine J_iinc (v := x5 + 1) d_Ref_readGoes_162 rfl (by rw [show Int32.ofInt 1 = (1 : Int32) from by decide]) ?_
      refine J_goto (tgt := 127) d_Ref_readGoes_165 (by decide) ?_
      refine J.drop [true, true, false, false, false, true] rfl ?_
      exact ih H
def f_Ref_readGoes_L85 (Γ : gm_T)  : Nat → ph_T → Nat → Int32 → Int32 → Int32 → Option (Unit × ph_T)
  | 0, _, _, _, _, _ => none
  | fu + 1, φ, x0, x1, x3, x4 =>
    @ite _ (Γ x0 = .inr 12) _ (
    Option.bind (φ.2.2 x0 68) fun a12 =>
    Option.bind (gA Γ a12 0) fun N13 =>
    Option.bind (ix (((4 : Int32) * x1) + x4) N13) fun k14 =>
    if (φ.1 a12 k14) = x3 then
      Option.bind (φ.2.2 x0 69) fun a15 =>
      Option.bind (gA Γ a15 2) fun N16 =>
      Option.bind (ix x3 N16) fun k17 =>
      @ite _ ((0 : Int32) = 0 ∨ (0 : Int32) = 1) _ (
      Option.bind ((uI φ a15 k17 (0 : Int32)).2.2 x0 67) fun a19 =>
      Option.bind (gA Γ a19 0) fun N20 =>
      Option.bind (ix x1 N20) fun k21 =>
      Option.bind (gA Γ a19 0) fun N22 =>
      Option.bind (ix x1 N22) fun k23 =>
      f_Ref_readGoes_L127 Γ  jF (uI (uI φ a15 k17 (0 : Int32)) a19 k23 (((uI φ a15 k17 (0 : Int32)).1 a19 k21) - (1 : Int32))) x0 x1 x4
      ) none
    else
      (f_Ref_readGoes_L85 Γ  fu) φ x0 x1 x3 (x4 + (1 : Int32))
    ) none
set_option maxRecDepth 100000 in
set_option maxHeartbeats 4000000 in
theorem p_Ref_readGoes_L85 {w : jw_T} (hw : jok w) {Γ : gm_T} {n : Nat} (hG : gd w Γ n)  : ∀ (fu : Nat) {x : Bool} {φ : ph_T} {x0 : Nat} {x1 : Int32} {x3 : Int32} {x4 : Int32} {q : Unit × ph_T}, f_Ref_readGoes_L85 Γ  fu φ x0 x1 x3 x4 = some q → J w M_Ref_readGoes 85 [some (.ref x0), some (.int x1), none, some (.int x3), some (.int x4), none] [] (pic Γ φ) n x 0 0 (fq Γ n (.inl none) q.2) := by
  intro fu
  induction fu with
  | zero =>
    intro x φ x0 x1 x3 x4 q H
    cases H
  | succ fu ih =>
    intro x φ x0 x1 x3 x4 q H
    unfold f_Ref_readGoes_L85 at H
    refine J_aload_n d_Ref_readGoes_85 rfl ?_
    have g11 : Γ x0 = .inr 12 := by
      apply Classical.byContradiction
      intro q9
      rw [if_neg q9] at H
      cases H
    rw [if_pos g11] at H
    refine F_getR (ci := 12) (k := 68) hG (cf_Ref hw) (fl_Ref_184 hw) (by decide) (by decide) rfl d_Ref_readGoes_86 g11 ?_
    refine J_iconst (v := 4) d_Ref_readGoes_89 (by decide) ?_
    refine J_iload_n d_Ref_readGoes_90 rfl ?_
    refine J_imul d_Ref_readGoes_91 ?_
    refine J_iload d_Ref_readGoes_92 rfl ?_
    refine J_iadd d_Ref_readGoes_94 ?_
    obtain ⟨a12, ha12, H⟩ := Option.bind_eq_some_iff.mp H
    rw [j_rf ha12]
    obtain ⟨N13, hN13, H⟩ := Option.bind_eq_some_iff.mp H
    obtain ⟨k14, hk14, H⟩ := Option.bind_eq_some_iff.mp H
    refine F_iald k14 hw hG d_Ref_readGoes_95 (gA_some hN13) (ix_some hk14) ?_
    refine J_iload_n d_Ref_readGoes_96 rfl ?_
    refine J_icmp_eq (tgt := 106) d_Ref_readGoes_97 (by decide) ?_ ?_
    · intro c24
      rw [if_pos c24] at H
      refine J_aload_n d_Ref_readGoes_106 rfl ?_
      refine F_getR (ci := 12) (k := 69) hG (cf_Ref hw) (fl_Ref_187 hw) (by decide) (by decide) rfl d_Ref_readGoes_107 g11 ?_
      refine J_iload_n d_Ref_readGoes_110 rfl ?_
      refine J_iconst (v := 0) d_Ref_readGoes_111 (by decide) ?_
      obtain ⟨a15, ha15, H⟩ := Option.bind_eq_some_iff.mp H
      rw [j_rf ha15]
      obtain ⟨N16, hN16, H⟩ := Option.bind_eq_some_iff.mp H
      obtain ⟨k17, hk17, H⟩ := Option.bind_eq_some_iff.mp H
      have z18 : (0 : Int32) = 0 ∨ (0 : Int32) = 1 := by
        apply Classical.byContradiction
        intro q9
        rw [if_neg q9] at H
        cases H
      rw [if_pos z18] at H
      refine F_zast k17 hw hG d_Ref_readGoes_112 (gA_some hN16) (ix_some hk17) z18 ?_
      refine J_aload_n d_Ref_readGoes_113 rfl ?_
      refine F_getR (ci := 12) (k := 67) hG (cf_Ref hw) (fl_Ref_181 hw) (by decide) (by decide) rfl d_Ref_readGoes_114 g11 ?_
      refine J_iload_n d_Ref_readGoes_117 rfl ?_
      refine J_dup2 d_Ref_readGoes_118 rfl (va_rf_cat _) ?_
      obtain ⟨a19, ha19, H⟩ := Option.bind_eq_some_iff.mp H
      rw [j_rf ha19]
      obtain ⟨N20, hN20, H⟩ := Option.bind_eq_some_iff.mp H
      obtain ⟨k21, hk21, H⟩ := Option.bind_eq_some_iff.mp H
      refine F_iald k21 hw hG d_Ref_readGoes_119 (gA_some hN20) (ix_some hk21) ?_
      refine J_iconst (v := 1) d_Ref_readGoes_120 (by decide) ?_
      refine J_isub d_Ref_readGoes_121 ?_
      obtain ⟨N22, hN22, H⟩ := Option.bind_eq_some_iff.mp H
      obtain ⟨k23, hk23, H⟩ := Option.bind_eq_some_iff.mp H
      refine F_iast k23 hw hG d_Ref_readGoes_122 (gA_some hN22) (ix_some hk23) ?_
      refine J_iload d_Ref_readGoes_123 rfl ?_
      refine J_istore d_Ref_readGoes_125 (Nat.le_of_ble_eq_true rfl) ?_
      refine J.drop [true, true, false, false, false, true] rfl ?_
      exact p_Ref_readGoes_L127 hw hG  _ H
    · intro c24
      rw [if_neg c24] at H
      refine J_iinc (v := x4 + 1) d_Ref_readGoes_100 rfl (by rw [show Int32.ofInt 1 = (1 : Int32) from by decide]) ?_
      refine J_goto (tgt := 85) d_Ref_readGoes_103 (by decide) ?_
      refine J.drop [true, true, false, true, true, false] rfl ?_
      exact ih H
def f_Ref_readGoes (Γ : gm_T) (φ : ph_T) (this : Nat) (p0 : Int32) : Option (Unit × ph_T) :=
  @ite _ (Γ this = .inr 12) _ (
  Option.bind (f_Ref_rowOf Γ φ this (1 : Int32) p0 (4 : Int32)) fun q26 =>
  Option.bind (q26.2.2.2 this 35) fun a27 =>
  Option.bind (gA Γ a27 1) fun N28 =>
  Option.bind (ix (((5 : Int32) * ((4 : Int32) + p0)) + (4 : Int32)) N28) fun k29 =>
  Option.bind (q26.2.2.2 this 36) fun a30 =>
  Option.bind (gA Γ a30 0) fun N31 =>
  Option.bind (ix (((5 : Int32) * ((4 : Int32) + p0)) + (4 : Int32)) N31) fun k32 =>
  Option.bind (f_Ref_put Γ q26.2 this q26.1 (q26.2.2.1 a27 k29) (q26.2.1 a30 k32) (q26.2.1 this 6)) fun q33 =>
  Option.bind (q33.2.2.2 this 79) fun a34 =>
  Option.bind (gA Γ a34 0) fun N35 =>
  Option.bind (ix p0 N35) fun k36 =>
  Option.bind (q33.2.2.2 this 73) fun a37 =>
  Option.bind (gA Γ a37 0) fun N38 =>
  Option.bind (ix (q33.2.1 a34 k36) N38) fun k39 =>
  Option.bind (q33.2.2.2 this 77) fun a40 =>
  Option.bind (gA Γ a40 0) fun N41 =>
  Option.bind (ix p0 N41) fun k42 =>
  Option.bind ((uI q33.2 a40 k42 (q33.2.1 a37 k39)).2.2 this 71) fun a43 =>
  Option.bind (gA Γ a43 0) fun N44 =>
  Option.bind (ix (q33.2.1 a34 k36) N44) fun k45 =>
  Option.bind (gA Γ a43 0) fun N46 =>
  Option.bind (ix (q33.2.1 a34 k36) N46) fun k47 =>
  Option.bind ((uI (uI q33.2 a40 k42 (q33.2.1 a37 k39)) a43 k47 (((uI q33.2 a40 k42 (q33.2.1 a37 k39)).1 a43 k45) + (1 : Int32))).2.2 this 36) fun a48 =>
  Option.bind (gA Γ a48 0) fun N49 =>
  Option.bind (ix (((5 : Int32) * ((4 : Int32) + p0)) + (4 : Int32)) N49) fun k50 =>
  if (((uI (uI q33.2 a40 k42 (q33.2.1 a37 k39)) a43 k47 (((uI q33.2 a40 k42 (q33.2.1 a37 k39)).1 a43 k45) + (1 : Int32))).1 a48 k50) &&& (256 : Int32)) = 0 then
    some ((), (uI (uI q33.2 a40 k42 (q33.2.1 a37 k39)) a43 k47 (((uI q33.2 a40 k42 (q33.2.1 a37 k39)).1 a43 k45) + (1 : Int32))))
  else
    f_Ref_readGoes_L85 Γ  jF (uI (uI q33.2 a40 k42 (q33.2.1 a37 k39)) a43 k47 (((uI q33.2 a40 k42 (q33.2.1 a37 k39)).1 a43 k45) + (1 : Int32))) this p0 (q33.2.1 a34 k36) (0 : Int32)
  ) none
set_option maxRecDepth 100000 in
set_option maxHeartbeats 4000000 in
theorem p_Ref_readGoes {w : jw_T} (hw : jok w) {Γ : gm_T} {n : Nat} (hG : gd w Γ n) {x : Bool} {φ : ph_T} {this : Nat} {p0 : Int32} {q : Unit × ph_T} (H : f_Ref_readGoes Γ φ this p0 = some q) : jc w M_Ref_readGoes [.ref this, .int p0] (pic Γ φ) n x 0 0 (fq Γ n (.inl none) q.2) := by
  refine jc.of (by simp only [jent_r, jent_i, jent_l, jent_a, jent_0]; exact Nat.le_of_ble_eq_true rfl) ?_
  have hls : jents [.ref this, .int p0] (jm_nL M_Ref_readGoes) = [some (.ref this), some (.int p0), none, none, none, none] := by simp only [jents, jent_r, jent_i, jent_l, jent_a, jent_0]; rfl
  rw [hls]
  clear hls
  unfold f_Ref_readGoes at H
  refine J_iconst (v := 5) d_Ref_readGoes_0 (by decide) ?_
  refine J_iconst (v := 4) d_Ref_readGoes_1 (by decide) ?_
  refine J_iload_n d_Ref_readGoes_2 rfl ?_
  refine J_iadd d_Ref_readGoes_3 ?_
  refine J_imul d_Ref_readGoes_4 ?_
  refine J_istore_n d_Ref_readGoes_5 (Nat.le_of_ble_eq_true rfl) ?_
  refine J_aload_n d_Ref_readGoes_6 rfl ?_
  refine J_aload_n d_Ref_readGoes_7 rfl ?_
  refine J_iconst (v := 1) d_Ref_readGoes_8 (by decide) ?_
  refine J_iload_n d_Ref_readGoes_9 rfl ?_
  refine J_iconst (v := 4) d_Ref_readGoes_10 (by decide) ?_
  have g25 : Γ this = .inr 12 := by
    apply Classical.byContradiction
    intro q9
    rw [if_neg q9] at H
    cases H
  rw [if_pos g25] at H
  obtain ⟨q26, hq26, H⟩ := Option.bind_eq_some_iff.mp H
  refine J_callV (kc := 0) (ks := 0) (kc' := 0) (ks' := 0) (a := this) (ci := 12) (as := [.int (1 : Int32), .int p0, .int (4 : Int32)]) (st := [.ref this]) (mf_Ref_rowOf hw) (mv_Ref_388 hw) d_Ref_readGoes_11 ln_Ref_rowOf (by decide) (by first | exact Nat.le_of_ble_eq_true rfl | (simp only [List.map_cons, List.map_nil, List.sum_cons, List.sum_nil, va_rf_cat]; exact Nat.le_of_ble_eq_true rfl)) rfl ((hG _).1 _ g25 (by decide)).1 ((hG _).1 _ g25 (by decide)).2 (by unfold pic; rw [g25]; rfl) (jcl_at hw rfl) rfl (p_Ref_rowOf hw hG hq26) ?_ (fun E h' n' x' e1 => by cases e1.1)
  intro v9 h9 n9 x9 e9
  obtain ⟨e91, e92, e93⟩ := e9
  cases e91
  subst e92
  subst e93
  clear x
  rename Bool => x
  show J _ _ _ _ (_ :: _) _ _ _ _ _ _
  refine J_aload_n d_Ref_readGoes_14 rfl ?_
  refine F_getR (ci := 12) (k := 35) hG (cf_Ref hw) (fl_Ref_94 hw) (by decide) (by decide) rfl d_Ref_readGoes_15 g25 ?_
  refine J_iload_n d_Ref_readGoes_18 rfl ?_
  refine J_iconst (v := 4) d_Ref_readGoes_19 (by decide) ?_
  refine J_iadd d_Ref_readGoes_20 ?_
  obtain ⟨a27, ha27, H⟩ := Option.bind_eq_some_iff.mp H
  rw [j_rf ha27]
  obtain ⟨N28, hN28, H⟩ := Option.bind_eq_some_iff.mp H
  obtain ⟨k29, hk29, H⟩ := Option.bind_eq_some_iff.mp H
  refine F_lald k29 hw hG d_Ref_readGoes_21 (gA_some hN28) (ix_some hk29) ?_
  refine J_aload_n d_Ref_readGoes_22 rfl ?_
  refine F_getR (ci := 12) (k := 36) hG (cf_Ref hw) (fl_Ref_97 hw) (by decide) (by decide) rfl d_Ref_readGoes_23 g25 ?_
  refine J_iload_n d_Ref_readGoes_26 rfl ?_
  refine J_iconst (v := 4) d_Ref_readGoes_27 (by decide) ?_
  refine J_iadd d_Ref_readGoes_28 ?_
  obtain ⟨a30, ha30, H⟩ := Option.bind_eq_some_iff.mp H
  rw [j_rf ha30]
  obtain ⟨N31, hN31, H⟩ := Option.bind_eq_some_iff.mp H
  obtain ⟨k32, hk32, H⟩ := Option.bind_eq_some_iff.mp H
  refine F_iald k32 hw hG d_Ref_readGoes_29 (gA_some hN31) (ix_some hk32) ?_
  refine J_aload_n d_Ref_readGoes_30 rfl ?_
  refine F_getI (ci := 12) (k := 6) hG (cf_Ref hw) (fl_Ref_348 hw) (by decide) (by decide) rfl d_Ref_readGoes_31 g25 ?_
  obtain ⟨q33, hq33, H⟩ := Option.bind_eq_some_iff.mp H
  refine J_callV (kc := 0) (ks := 0) (kc' := 0) (ks' := 0) (a := this) (ci := 12) (as := [.int q26.1, .long (q26.2.2.1 a27 k29), .int (q26.2.1 a30 k32), .int (q26.2.1 this 6)]) (st := []) (mf_Ref_put hw) (mv_Ref_469 hw) d_Ref_readGoes_34 ln_Ref_put (by decide) (by first | exact Nat.le_of_ble_eq_true rfl | (simp only [List.map_cons, List.map_nil, List.sum_cons, List.sum_nil, va_rf_cat]; exact Nat.le_of_ble_eq_true rfl)) rfl ((hG _).1 _ g25 (by decide)).1 ((hG _).1 _ g25 (by decide)).2 (by unfold pic; rw [g25]; rfl) (jcl_at hw rfl) rfl (p_Ref_put hw hG hq33) ?_ (fun E h' n' x' e1 => by cases e1.1)
  intro v9 h9 n9 x9 e9
  obtain ⟨e91, e92, e93⟩ := e9
  cases e91
  subst e92
  subst e93
  clear x
  rename Bool => x
  show J _ _ _ _ [] _ _ _ _ _ _
  refine J_aload_n d_Ref_readGoes_37 rfl ?_
  refine F_getR (ci := 12) (k := 79) hG (cf_Ref hw) (fl_Ref_217 hw) (by decide) (by decide) rfl d_Ref_readGoes_38 g25 ?_
  refine J_iload_n d_Ref_readGoes_41 rfl ?_
  obtain ⟨a34, ha34, H⟩ := Option.bind_eq_some_iff.mp H
  rw [j_rf ha34]
  obtain ⟨N35, hN35, H⟩ := Option.bind_eq_some_iff.mp H
  obtain ⟨k36, hk36, H⟩ := Option.bind_eq_some_iff.mp H
  refine F_iald k36 hw hG d_Ref_readGoes_42 (gA_some hN35) (ix_some hk36) ?_
  refine J_istore_n d_Ref_readGoes_43 (Nat.le_of_ble_eq_true rfl) ?_
  refine J_aload_n d_Ref_readGoes_44 rfl ?_
  refine F_getR (ci := 12) (k := 77) hG (cf_Ref hw) (fl_Ref_211 hw) (by decide) (by decide) rfl d_Ref_readGoes_45 g25 ?_
  refine J_iload_n d_Ref_readGoes_48 rfl ?_
  refine J_aload_n d_Ref_readGoes_49 rfl ?_
  refine F_getR (ci := 12) (k := 73) hG (cf_Ref hw) (fl_Ref_199 hw) (by decide) (by decide) rfl d_Ref_readGoes_50 g25 ?_
  refine J_iload_n d_Ref_readGoes_53 rfl ?_
  obtain ⟨a37, ha37, H⟩ := Option.bind_eq_some_iff.mp H
  rw [j_rf ha37]
  obtain ⟨N38, hN38, H⟩ := Option.bind_eq_some_iff.mp H
  obtain ⟨k39, hk39, H⟩ := Option.bind_eq_some_iff.mp H
  refine F_iald k39 hw hG d_Ref_readGoes_54 (gA_some hN38) (ix_some hk39) ?_
  obtain ⟨a40, ha40, H⟩ := Option.bind_eq_some_iff.mp H
  rw [j_rf ha40]
  obtain ⟨N41, hN41, H⟩ := Option.bind_eq_some_iff.mp H
  obtain ⟨k42, hk42, H⟩ := Option.bind_eq_some_iff.mp H
  refine F_iast k42 hw hG d_Ref_readGoes_55 (gA_some hN41) (ix_some hk42) ?_
  refine J_aload_n d_Ref_readGoes_56 rfl ?_
  refine F_getR (ci := 12) (k := 71) hG (cf_Ref hw) (fl_Ref_193 hw) (by decide) (by decide) rfl d_Ref_readGoes_57 g25 ?_
  refine J_iload_n d_Ref_readGoes_60 rfl ?_
  refine J_dup2 d_Ref_readGoes_61 rfl (va_rf_cat _) ?_
  obtain ⟨a43, ha43, H⟩ := Option.bind_eq_some_iff.mp H
  rw [j_rf ha43]
  obtain ⟨N44, hN44, H⟩ := Option.bind_eq_some_iff.mp H
  obtain ⟨k45, hk45, H⟩ := Option.bind_eq_some_iff.mp H
  refine F_iald k45 hw hG d_Ref_readGoes_62 (gA_some hN44) (ix_some hk45) ?_
  refine J_iconst (v := 1) d_Ref_readGoes_63 (by decide) ?_
  refine J_iadd d_Ref_readGoes_64 ?_
  obtain ⟨N46, hN46, H⟩ := Option.bind_eq_some_iff.mp H
  obtain ⟨k47, hk47, H⟩ := Option.bind_eq_some_iff.mp H
  refine F_iast k47 hw hG d_Ref_readGoes_65 (gA_some hN46) (ix_some hk47) ?_
  refine J_aload_n d_Ref_readGoes_66 rfl ?_
  refine F_getR (ci := 12) (k := 36) hG (cf_Ref hw) (fl_Ref_97 hw) (by decide) (by decide) rfl d_Ref_readGoes_67 g25 ?_
  refine J_iload_n d_Ref_readGoes_70 rfl ?_
  refine J_iconst (v := 4) d_Ref_readGoes_71 (by decide) ?_
  refine J_iadd d_Ref_readGoes_72 ?_
  obtain ⟨a48, ha48, H⟩ := Option.bind_eq_some_iff.mp H
  rw [j_rf ha48]
  obtain ⟨N49, hN49, H⟩ := Option.bind_eq_some_iff.mp H
  obtain ⟨k50, hk50, H⟩ := Option.bind_eq_some_iff.mp H
  refine F_iald k50 hw hG d_Ref_readGoes_73 (gA_some hN49) (ix_some hk50) ?_
  refine J_sipush (v := 256) d_Ref_readGoes_74 (by decide) ?_
  refine J_iand d_Ref_readGoes_77 ?_
  refine J_if_ne (tgt := 82) d_Ref_readGoes_78 (by decide) ?_ ?_
  · intro c51
    rw [if_neg c51] at H
    refine J_iconst (v := 0) d_Ref_readGoes_82 (by decide) ?_
    refine J_istore d_Ref_readGoes_83 (Nat.le_of_ble_eq_true rfl) ?_
    refine J.drop [true, true, false, true, true, false] rfl ?_
    exact p_Ref_readGoes_L85 hw hG  _ H
  · intro c51
    rw [if_pos c51] at H
    cases H
    exact J_vret (st := []) d_Ref_readGoes_81 rfl ⟨rfl, rfl, rfl⟩
theorem ln_Ref_freePlace : (parseMethodDescriptor y_Ref_freePlace.desc).map (fun q => q.parameters.length) = some 2 := by decide +kernel
def f_Ref_freePlace_L4 (Γ : gm_T)  : Nat → ph_T → Option Nat → Int32 → Option (Int32 × ph_T)
  | 0, _, _, _ => none
  | fu + 1, φ, x0, x2 =>
    Option.bind x0 fun a1 =>
    Option.bind (gA Γ a1 2) fun N2 =>
    Option.bind (ix x2 N2) fun k3 =>
    if (φ.1 a1 k3) = 0 then
      some (x2, φ)
    else
      (f_Ref_freePlace_L4 Γ  fu) φ (some a1) (x2 + (1 : Int32))
set_option maxRecDepth 100000 in
set_option maxHeartbeats 4000000 in
theorem p_Ref_freePlace_L4 {w : jw_T} (hw : jok w) {Γ : gm_T} {n : Nat} (hG : gd w Γ n)  : ∀ (fu : Nat) {x : Bool} {φ : ph_T} {x0 : Option Nat} {x2 : Int32} {q : Int32 × ph_T}, f_Ref_freePlace_L4 Γ  fu φ x0 x2 = some q → J w M_Ref_freePlace 4 [some (va_rf x0), none, some (.int x2)] [] (pic Γ φ) n x 0 0 (fq Γ n (.inl (some (.int q.1))) q.2) := by
  intro fu
  induction fu with
  | zero =>
    intro x φ x0 x2 q H
    cases H
  | succ fu ih =>
    intro x φ x0 x2 q H
    unfold f_Ref_freePlace_L4 at H
    refine J_aload_nO d_Ref_freePlace_4 rfl ?_
    refine J_iload_n d_Ref_freePlace_5 rfl ?_
    obtain ⟨a1, ha1, H⟩ := Option.bind_eq_some_iff.mp H
    rw [j_rf ha1]
    obtain ⟨N2, hN2, H⟩ := Option.bind_eq_some_iff.mp H
    obtain ⟨k3, hk3, H⟩ := Option.bind_eq_some_iff.mp H
    refine F_zald k3 hw hG d_Ref_freePlace_6 (gA_some hN2) (ix_some hk3) ?_
    refine J_if_eq (tgt := 16) d_Ref_freePlace_7 (by decide) ?_ ?_
    · intro c4
      rw [if_pos c4] at H
      refine J_iload_n d_Ref_freePlace_16 rfl ?_
      cases H
      exact J_iret (st := []) d_Ref_freePlace_17 rfl rfl ⟨rfl, rfl, rfl⟩
    · intro c4
      rw [if_neg c4] at H
      refine J_iinc (v := x2 + 1) d_Ref_freePlace_10 rfl (by rw [show Int32.ofInt 1 = (1 : Int32) from by decide]) ?_
      refine J_goto (tgt := 4) d_Ref_freePlace_13 (by decide) ?_
      refine J.drop [true, false, true] rfl ?_
      exact ih H
def f_Ref_freePlace (Γ : gm_T) (φ : ph_T) (p0 : Option Nat) (p1 : Int32) : Option (Int32 × ph_T) :=
  f_Ref_freePlace_L4 Γ  jF φ p0 ((4 : Int32) * p1)
set_option maxRecDepth 100000 in
set_option maxHeartbeats 4000000 in
theorem p_Ref_freePlace {w : jw_T} (hw : jok w) {Γ : gm_T} {n : Nat} (hG : gd w Γ n) {x : Bool} {φ : ph_T} {p0 : Option Nat} {p1 : Int32} {q : Int32 × ph_T} (H : f_Ref_freePlace Γ φ p0 p1 = some q) : jc w M_Ref_freePlace [va_rf p0, .int p1] (pic Γ φ) n x 0 0 (fq Γ n (.inl (some (.int q.1))) q.2) := by
  refine jc.of (by simp only [jent_r, jent_i, jent_l, jent_a, jent_0]; exact Nat.le_of_ble_eq_true rfl) ?_
  have hls : jents [va_rf p0, .int p1] (jm_nL M_Ref_freePlace) = [some (va_rf p0), some (.int p1), none] := by simp only [jents, jent_r, jent_i, jent_l, jent_a, jent_0]; rfl
  rw [hls]
  clear hls
  unfold f_Ref_freePlace at H
  refine J_iconst (v := 4) d_Ref_freePlace_0 (by decide) ?_
  refine J_iload_n d_Ref_freePlace_1 rfl ?_
  refine J_imul d_Ref_freePlace_2 ?_
  refine J_istore_n d_Ref_freePlace_3 (Nat.le_of_ble_eq_true rfl) ?_
  refine J.drop [true, false, true] rfl ?_
  exact p_Ref_freePlace_L4 hw hG  _ H
theorem ln_Ref_writeCame : (parseMethodDescriptor y_Ref_writeCame.desc).map (fun q => q.parameters.length) = some 2 := by decide +kernel
def f_Ref_writeCame (Γ : gm_T) (φ : ph_T) (this : Nat) (p0 : Int32) (p1 : Int64) : Option (Unit × ph_T) :=
  @ite _ (Γ this = .inr 12) _ (
  Option.bind (f_Ref_freePlace Γ φ (φ.2.2 this 60) p0) fun q2 =>
  Option.bind (q2.2.2.2 this 60) fun a3 =>
  Option.bind (gA Γ a3 2) fun N4 =>
  Option.bind (ix q2.1 N4) fun k5 =>
  @ite _ ((1 : Int32) = 0 ∨ (1 : Int32) = 1) _ (
  Option.bind ((uI q2.2 a3 k5 (1 : Int32)).2.2 this 58) fun a7 =>
  Option.bind (gA Γ a7 0) fun N8 =>
  Option.bind (ix p0 N8) fun k9 =>
  Option.bind ((uI q2.2 a3 k5 (1 : Int32)).2.2 this 59) fun a10 =>
  Option.bind (gA Γ a10 0) fun N11 =>
  Option.bind (ix (((4 : Int32) * p0) + ((uI q2.2 a3 k5 (1 : Int32)).1 a7 k9)) N11) fun k12 =>
  Option.bind ((uI (uI q2.2 a3 k5 (1 : Int32)) a10 k12 q2.1).2.2 this 58) fun a13 =>
  Option.bind (gA Γ a13 0) fun N14 =>
  Option.bind (ix p0 N14) fun k15 =>
  Option.bind (gA Γ a13 0) fun N16 =>
  Option.bind (ix p0 N16) fun k17 =>
  Option.bind ((uI (uI (uI q2.2 a3 k5 (1 : Int32)) a10 k12 q2.1) a13 k17 (((uI (uI q2.2 a3 k5 (1 : Int32)) a10 k12 q2.1).1 a13 k15) + (1 : Int32))).2.2 this 61) fun a18 =>
  Option.bind (gA Γ a18 1) fun N19 =>
  Option.bind (ix q2.1 N19) fun k20 =>
  Option.bind ((uL (uI (uI (uI q2.2 a3 k5 (1 : Int32)) a10 k12 q2.1) a13 k17 (((uI (uI q2.2 a3 k5 (1 : Int32)) a10 k12 q2.1).1 a13 k15) + (1 : Int32))) a18 k20 p1).2.2 this 62) fun a21 =>
  Option.bind (gA Γ a21 0) fun N22 =>
  Option.bind (ix q2.1 N22) fun k23 =>
  Option.bind ((uI (uL (uI (uI (uI q2.2 a3 k5 (1 : Int32)) a10 k12 q2.1) a13 k17 (((uI (uI q2.2 a3 k5 (1 : Int32)) a10 k12 q2.1).1 a13 k15) + (1 : Int32))) a18 k20 p1) a21 k23 (0 : Int32)).2.2 this 63) fun a24 =>
  Option.bind (gA Γ a24 0) fun N25 =>
  Option.bind (ix q2.1 N25) fun k26 =>
  some ((), (uI (uI (uL (uI (uI (uI q2.2 a3 k5 (1 : Int32)) a10 k12 q2.1) a13 k17 (((uI (uI q2.2 a3 k5 (1 : Int32)) a10 k12 q2.1).1 a13 k15) + (1 : Int32))) a18 k20 p1) a21 k23 (0 : Int32)) a24 k26 (-1 : Int32)))
  ) none
  ) none
set_option maxRecDepth 100000 in
set_option maxHeartbeats 4000000 in
theorem p_Ref_writeCame {w : jw_T} (hw : jok w) {Γ : gm_T} {n : Nat} (hG : gd w Γ n) {x : Bool} {φ : ph_T} {this : Nat} {p0 : Int32} {p1 : Int64} {q : Unit × ph_T} (H : f_Ref_writeCame Γ φ this p0 p1 = some q) : jc w M_Ref_writeCame [.ref this, .int p0, .long p1] (pic Γ φ) n x 0 0 (fq Γ n (.inl none) q.2) := by
  refine jc.of (by simp only [jent_r, jent_i, jent_l, jent_a, jent_0]; exact Nat.le_of_ble_eq_true rfl) ?_
  have hls : jents [.ref this, .int p0, .long p1] (jm_nL M_Ref_writeCame) = [some (.ref this), some (.int p0), some (.long p1), none, none] := by simp only [jents, jent_r, jent_i, jent_l, jent_a, jent_0]; rfl
  rw [hls]
  clear hls
  unfold f_Ref_writeCame at H
  refine J_aload_n d_Ref_writeCame_0 rfl ?_
  have g1 : Γ this = .inr 12 := by
    apply Classical.byContradiction
    intro q9
    rw [if_neg q9] at H
    cases H
  rw [if_pos g1] at H
  refine F_getR (ci := 12) (k := 60) hG (cf_Ref hw) (fl_Ref_160 hw) (by decide) (by decide) rfl d_Ref_writeCame_1 g1 ?_
  refine J_iload_n d_Ref_writeCame_4 rfl ?_
  obtain ⟨q2, hq2, H⟩ := Option.bind_eq_some_iff.mp H
  refine J_callS (kc := 0) (ks := 0) (kc' := 0) (ks' := 0) (as := [va_rf (φ.2.2 this 60), .int p0]) (st := []) (mf_Ref_freePlace hw) (ms_Ref_480 hw) d_Ref_writeCame_5 ln_Ref_freePlace (by decide) (by first | exact Nat.le_of_ble_eq_true rfl | (simp only [List.map_cons, List.map_nil, List.sum_cons, List.sum_nil, va_rf_cat]; exact Nat.le_of_ble_eq_true rfl)) rfl (p_Ref_freePlace hw hG hq2) ?_ (fun E h' n' x' e1 => by cases e1.1)
  intro v9 h9 n9 x9 e9
  obtain ⟨e91, e92, e93⟩ := e9
  cases e91
  subst e92
  subst e93
  clear x
  rename Bool => x
  show J _ _ _ _ (_ :: _) _ _ _ _ _ _
  refine J_istore d_Ref_writeCame_8 (Nat.le_of_ble_eq_true rfl) ?_
  refine J_aload_n d_Ref_writeCame_10 rfl ?_
  refine F_getR (ci := 12) (k := 60) hG (cf_Ref hw) (fl_Ref_160 hw) (by decide) (by decide) rfl d_Ref_writeCame_11 g1 ?_
  refine J_iload d_Ref_writeCame_14 rfl ?_
  refine J_iconst (v := 1) d_Ref_writeCame_16 (by decide) ?_
  obtain ⟨a3, ha3, H⟩ := Option.bind_eq_some_iff.mp H
  rw [j_rf ha3]
  obtain ⟨N4, hN4, H⟩ := Option.bind_eq_some_iff.mp H
  obtain ⟨k5, hk5, H⟩ := Option.bind_eq_some_iff.mp H
  have z6 : (1 : Int32) = 0 ∨ (1 : Int32) = 1 := by
    apply Classical.byContradiction
    intro q9
    rw [if_neg q9] at H
    cases H
  rw [if_pos z6] at H
  refine F_zast k5 hw hG d_Ref_writeCame_17 (gA_some hN4) (ix_some hk5) z6 ?_
  refine J_aload_n d_Ref_writeCame_18 rfl ?_
  refine F_getR (ci := 12) (k := 59) hG (cf_Ref hw) (fl_Ref_157 hw) (by decide) (by decide) rfl d_Ref_writeCame_19 g1 ?_
  refine J_iconst (v := 4) d_Ref_writeCame_22 (by decide) ?_
  refine J_iload_n d_Ref_writeCame_23 rfl ?_
  refine J_imul d_Ref_writeCame_24 ?_
  refine J_aload_n d_Ref_writeCame_25 rfl ?_
  refine F_getR (ci := 12) (k := 58) hG (cf_Ref hw) (fl_Ref_154 hw) (by decide) (by decide) rfl d_Ref_writeCame_26 g1 ?_
  refine J_iload_n d_Ref_writeCame_29 rfl ?_
  obtain ⟨a7, ha7, H⟩ := Option.bind_eq_some_iff.mp H
  rw [j_rf ha7]
  obtain ⟨N8, hN8, H⟩ := Option.bind_eq_some_iff.mp H
  obtain ⟨k9, hk9, H⟩ := Option.bind_eq_some_iff.mp H
  refine F_iald k9 hw hG d_Ref_writeCame_30 (gA_some hN8) (ix_some hk9) ?_
  refine J_iadd d_Ref_writeCame_31 ?_
  refine J_iload d_Ref_writeCame_32 rfl ?_
  obtain ⟨a10, ha10, H⟩ := Option.bind_eq_some_iff.mp H
  rw [j_rf ha10]
  obtain ⟨N11, hN11, H⟩ := Option.bind_eq_some_iff.mp H
  obtain ⟨k12, hk12, H⟩ := Option.bind_eq_some_iff.mp H
  refine F_iast k12 hw hG d_Ref_writeCame_34 (gA_some hN11) (ix_some hk12) ?_
  refine J_aload_n d_Ref_writeCame_35 rfl ?_
  refine F_getR (ci := 12) (k := 58) hG (cf_Ref hw) (fl_Ref_154 hw) (by decide) (by decide) rfl d_Ref_writeCame_36 g1 ?_
  refine J_iload_n d_Ref_writeCame_39 rfl ?_
  refine J_dup2 d_Ref_writeCame_40 rfl (va_rf_cat _) ?_
  obtain ⟨a13, ha13, H⟩ := Option.bind_eq_some_iff.mp H
  rw [j_rf ha13]
  obtain ⟨N14, hN14, H⟩ := Option.bind_eq_some_iff.mp H
  obtain ⟨k15, hk15, H⟩ := Option.bind_eq_some_iff.mp H
  refine F_iald k15 hw hG d_Ref_writeCame_41 (gA_some hN14) (ix_some hk15) ?_
  refine J_iconst (v := 1) d_Ref_writeCame_42 (by decide) ?_
  refine J_iadd d_Ref_writeCame_43 ?_
  obtain ⟨N16, hN16, H⟩ := Option.bind_eq_some_iff.mp H
  obtain ⟨k17, hk17, H⟩ := Option.bind_eq_some_iff.mp H
  refine F_iast k17 hw hG d_Ref_writeCame_44 (gA_some hN16) (ix_some hk17) ?_
  refine J_aload_n d_Ref_writeCame_45 rfl ?_
  refine F_getR (ci := 12) (k := 61) hG (cf_Ref hw) (fl_Ref_163 hw) (by decide) (by decide) rfl d_Ref_writeCame_46 g1 ?_
  refine J_iload d_Ref_writeCame_49 rfl ?_
  refine J_lload_n d_Ref_writeCame_51 rfl ?_
  obtain ⟨a18, ha18, H⟩ := Option.bind_eq_some_iff.mp H
  rw [j_rf ha18]
  obtain ⟨N19, hN19, H⟩ := Option.bind_eq_some_iff.mp H
  obtain ⟨k20, hk20, H⟩ := Option.bind_eq_some_iff.mp H
  refine F_last k20 hw hG d_Ref_writeCame_52 (gA_some hN19) (ix_some hk20) ?_
  refine J_aload_n d_Ref_writeCame_53 rfl ?_
  refine F_getR (ci := 12) (k := 62) hG (cf_Ref hw) (fl_Ref_166 hw) (by decide) (by decide) rfl d_Ref_writeCame_54 g1 ?_
  refine J_iload d_Ref_writeCame_57 rfl ?_
  refine J_iconst (v := 0) d_Ref_writeCame_59 (by decide) ?_
  obtain ⟨a21, ha21, H⟩ := Option.bind_eq_some_iff.mp H
  rw [j_rf ha21]
  obtain ⟨N22, hN22, H⟩ := Option.bind_eq_some_iff.mp H
  obtain ⟨k23, hk23, H⟩ := Option.bind_eq_some_iff.mp H
  refine F_iast k23 hw hG d_Ref_writeCame_60 (gA_some hN22) (ix_some hk23) ?_
  refine J_aload_n d_Ref_writeCame_61 rfl ?_
  refine F_getR (ci := 12) (k := 63) hG (cf_Ref hw) (fl_Ref_169 hw) (by decide) (by decide) rfl d_Ref_writeCame_62 g1 ?_
  refine J_iload d_Ref_writeCame_65 rfl ?_
  refine J_iconst (v := -1) d_Ref_writeCame_67 (by decide) ?_
  obtain ⟨a24, ha24, H⟩ := Option.bind_eq_some_iff.mp H
  rw [j_rf ha24]
  obtain ⟨N25, hN25, H⟩ := Option.bind_eq_some_iff.mp H
  obtain ⟨k26, hk26, H⟩ := Option.bind_eq_some_iff.mp H
  refine F_iast k26 hw hG d_Ref_writeCame_68 (gA_some hN25) (ix_some hk26) ?_
  cases H
  exact J_vret (st := []) d_Ref_writeCame_69 rfl ⟨rfl, rfl, rfl⟩
theorem ln_Ref_byteAt : (parseMethodDescriptor y_Ref_byteAt.desc).map (fun q => q.parameters.length) = some 3 := by decide +kernel
def f_Ref_byteAt (Γ : gm_T) (φ : ph_T) (p0 : Int64) (p1 : Int32) (p2 : Int32) : Option (Int32 × ph_T) :=
  Option.bind (f_Ref_beatAt Γ φ p0 p1) fun q2 =>
  @ite _ ((8 : Int32) = 0) _ none (
  some (((q2.1 - (q2.1 - q2.1 / (8 : Int32) * (8 : Int32))) + p2), q2.2)
  )
set_option maxRecDepth 100000 in
set_option maxHeartbeats 4000000 in
theorem p_Ref_byteAt {w : jw_T} (hw : jok w) {Γ : gm_T} {n : Nat} (hG : gd w Γ n) {x : Bool} {φ : ph_T} {p0 : Int64} {p1 : Int32} {p2 : Int32} {q : Int32 × ph_T} (H : f_Ref_byteAt Γ φ p0 p1 p2 = some q) : jc w M_Ref_byteAt [.long p0, .int p1, .int p2] (pic Γ φ) n x 0 0 (fq Γ n (.inl (some (.int q.1))) q.2) := by
  refine jc.of (by simp only [jent_r, jent_i, jent_l, jent_a, jent_0]; exact Nat.le_of_ble_eq_true rfl) ?_
  have hls : jents [.long p0, .int p1, .int p2] (jm_nL M_Ref_byteAt) = [some (.long p0), none, some (.int p1), some (.int p2), none] := by simp only [jents, jent_r, jent_i, jent_l, jent_a, jent_0]; rfl
  rw [hls]
  clear hls
  unfold f_Ref_byteAt at H
  refine J_lload_n d_Ref_byteAt_0 rfl ?_
  refine J_iload_n d_Ref_byteAt_1 rfl ?_
  obtain ⟨q2, hq2, H⟩ := Option.bind_eq_some_iff.mp H
  refine J_callS (kc := 0) (ks := 0) (kc' := 0) (ks' := 0) (as := [.long p0, .int p1]) (st := []) (mf_Ref_beatAt hw) (ms_Ref_366 hw) d_Ref_byteAt_2 ln_Ref_beatAt (by decide) (by first | exact Nat.le_of_ble_eq_true rfl | (simp only [List.map_cons, List.map_nil, List.sum_cons, List.sum_nil, va_rf_cat]; exact Nat.le_of_ble_eq_true rfl)) rfl (p_Ref_beatAt hw hG hq2) ?_ (fun E h' n' x' e1 => by cases e1.1)
  intro v9 h9 n9 x9 e9
  obtain ⟨e91, e92, e93⟩ := e9
  cases e91
  subst e92
  subst e93
  clear x
  rename Bool => x
  show J _ _ _ _ (_ :: _) _ _ _ _ _ _
  refine J_istore d_Ref_byteAt_5 (Nat.le_of_ble_eq_true rfl) ?_
  refine J_iload d_Ref_byteAt_7 rfl ?_
  refine J_iload d_Ref_byteAt_9 rfl ?_
  refine J_bipush (v := 8) d_Ref_byteAt_11 (by decide) ?_
  have h3 : ¬ (8 : Int32) = 0 := by
    intro q9
    rw [if_pos q9] at H
    cases H
  rw [if_neg h3] at H
  refine J_irem d_Ref_byteAt_13 h3 ?_
  refine J_isub d_Ref_byteAt_14 ?_
  refine J_iload_n d_Ref_byteAt_15 rfl ?_
  refine J_iadd d_Ref_byteAt_16 ?_
  cases H
  exact J_iret (st := []) d_Ref_byteAt_17 rfl rfl ⟨rfl, rfl, rfl⟩
theorem ln_Ref_takeRights : (parseMethodDescriptor y_Ref_takeRights.desc).map (fun q => q.parameters.length) = some 2 := by decide +kernel
def f_Ref_takeRights_L60 (Γ : gm_T) (Kc5 : ph_T → Nat → Int32 → Int32 → Int32 → Option (Unit × ph_T)) (φ : ph_T) (x0 : Nat) (x1 : Int32) (x2 : Int32) (x3 : Int32) : Option (Unit × ph_T) :=
  Kc5 φ x0 x1 x2 (x3 + (1 : Int32))
set_option maxRecDepth 100000 in
set_option maxHeartbeats 4000000 in
theorem p_Ref_takeRights_L60 {w : jw_T} (hw : jok w) {Γ : gm_T} {n : Nat} (hG : gd w Γ n) {Kc5 : ph_T → Nat → Int32 → Int32 → Int32 → Option (Unit × ph_T)} (hKc5 : ∀ {x : Bool} {φ : ph_T} {x0 : Nat} {x1 : Int32} {x2 : Int32} {x3 : Int32} {q : Unit × ph_T}, Kc5 φ x0 x1 x2 x3 = some q → J w M_Ref_takeRights 5 [some (.ref x0), some (.int x1), some (.int x2), some (.int x3)] [] (pic Γ φ) n x 0 0 (fq Γ n (.inl none) q.2)) {x : Bool} {φ : ph_T} {x0 : Nat} {x1 : Int32} {x2 : Int32} {x3 : Int32} {q : Unit × ph_T} (H : f_Ref_takeRights_L60 Γ Kc5 φ x0 x1 x2 x3 = some q) : J w M_Ref_takeRights 60 [some (.ref x0), some (.int x1), some (.int x2), some (.int x3)] [] (pic Γ φ) n x 0 0 (fq Γ n (.inl none) q.2) := by
  unfold f_Ref_takeRights_L60 at H
  refine J_iinc (v := x3 + 1) d_Ref_takeRights_60 rfl (by rw [show Int32.ofInt 1 = (1 : Int32) from by decide]) ?_
  refine J_goto (tgt := 5) d_Ref_takeRights_63 (by decide) ?_
  refine J.drop [true, true, true, true] rfl ?_
  exact hKc5 H
def f_Ref_takeRights_L5 (Γ : gm_T)  : Nat → ph_T → Nat → Int32 → Int32 → Int32 → Option (Unit × ph_T)
  | 0, _, _, _, _, _ => none
  | fu + 1, φ, x0, x1, x2, x3 =>
    if (((64 : Int32) * x1) + (64 : Int32)) ≤ x3 then
      some ((), φ)
    else
      @ite _ (Γ x0 = .inr 12) _ (
      Option.bind (φ.2.2 x0 80) fun a2 =>
      Option.bind (gA Γ a2 0) fun N3 =>
      Option.bind (ix x3 N3) fun k4 =>
      if (φ.1 a2 k4) = (-1 : Int32) then
        f_Ref_takeRights_L60 Γ (f_Ref_takeRights_L5 Γ  fu) φ x0 x1 x2 x3
      else
        Option.bind (gA Γ a2 0) fun N5 =>
        Option.bind (ix x3 N5) fun k6 =>
        if x2 < (φ.1 a2 k6) then
          f_Ref_takeRights_L60 Γ (f_Ref_takeRights_L5 Γ  fu) φ x0 x1 x2 x3
        else
          Option.bind (gA Γ a2 0) fun N7 =>
          Option.bind (ix x3 N7) fun k8 =>
          Option.bind (φ.2.2 x0 81) fun a9 =>
          Option.bind (gA Γ a9 0) fun N10 =>
          Option.bind (ix x3 N10) fun k11 =>
          if ((φ.1 a2 k8) + (φ.1 a9 k11)) ≤ x2 then
            f_Ref_takeRights_L60 Γ (f_Ref_takeRights_L5 Γ  fu) φ x0 x1 x2 x3
          else
            Option.bind (gA Γ a2 0) fun N12 =>
            Option.bind (ix x3 N12) fun k13 =>
            f_Ref_takeRights_L60 Γ (f_Ref_takeRights_L5 Γ  fu) (uI φ a2 k13 (-1 : Int32)) x0 x1 x2 x3
      ) none
set_option maxRecDepth 100000 in
set_option maxHeartbeats 4000000 in
theorem p_Ref_takeRights_L5 {w : jw_T} (hw : jok w) {Γ : gm_T} {n : Nat} (hG : gd w Γ n)  : ∀ (fu : Nat) {x : Bool} {φ : ph_T} {x0 : Nat} {x1 : Int32} {x2 : Int32} {x3 : Int32} {q : Unit × ph_T}, f_Ref_takeRights_L5 Γ  fu φ x0 x1 x2 x3 = some q → J w M_Ref_takeRights 5 [some (.ref x0), some (.int x1), some (.int x2), some (.int x3)] [] (pic Γ φ) n x 0 0 (fq Γ n (.inl none) q.2) := by
  intro fu
  induction fu with
  | zero =>
    intro x φ x0 x1 x2 x3 q H
    cases H
  | succ fu ih =>
    intro x φ x0 x1 x2 x3 q H
    unfold f_Ref_takeRights_L5 at H
    refine J_iload_n d_Ref_takeRights_5 rfl ?_
    refine J_bipush (v := 64) d_Ref_takeRights_6 (by decide) ?_
    refine J_iload_n d_Ref_takeRights_8 rfl ?_
    refine J_imul d_Ref_takeRights_9 ?_
    refine J_bipush (v := 64) d_Ref_takeRights_10 (by decide) ?_
    refine J_iadd d_Ref_takeRights_12 ?_
    refine J_icmp_ge (tgt := 66) d_Ref_takeRights_13 (by decide) ?_ ?_
    · intro c17
      rw [if_pos c17] at H
      cases H
      exact J_vret (st := []) d_Ref_takeRights_66 rfl ⟨rfl, rfl, rfl⟩
    · intro c17
      rw [if_neg c17] at H
      refine J_aload_n d_Ref_takeRights_16 rfl ?_
      have g1 : Γ x0 = .inr 12 := by
        apply Classical.byContradiction
        intro q9
        rw [if_neg q9] at H
        cases H
      rw [if_pos g1] at H
      refine F_getR (ci := 12) (k := 80) hG (cf_Ref hw) (fl_Ref_220 hw) (by decide) (by decide) rfl d_Ref_takeRights_17 g1 ?_
      refine J_iload_n d_Ref_takeRights_20 rfl ?_
      obtain ⟨a2, ha2, H⟩ := Option.bind_eq_some_iff.mp H
      rw [j_rf ha2]
      obtain ⟨N3, hN3, H⟩ := Option.bind_eq_some_iff.mp H
      obtain ⟨k4, hk4, H⟩ := Option.bind_eq_some_iff.mp H
      refine F_iald k4 hw hG d_Ref_takeRights_21 (gA_some hN3) (ix_some hk4) ?_
      refine J_iconst (v := -1) d_Ref_takeRights_22 (by decide) ?_
      refine J_icmp_eq (tgt := 60) d_Ref_takeRights_23 (by decide) ?_ ?_
      · intro c16
        rw [if_pos c16] at H
        refine J.drop [true, true, true, true] rfl ?_
        exact p_Ref_takeRights_L60 hw hG ih H
      · intro c16
        rw [if_neg c16] at H
        refine J_iload_n d_Ref_takeRights_26 rfl ?_
        refine J_aload_n d_Ref_takeRights_27 rfl ?_
        refine F_getR (ci := 12) (k := 80) hG (cf_Ref hw) (fl_Ref_220 hw) (by decide) (by decide) rfl d_Ref_takeRights_28 g1 ?_
        refine J_iload_n d_Ref_takeRights_31 rfl ?_
        try rw [j_rf ha2]
        obtain ⟨N5, hN5, H⟩ := Option.bind_eq_some_iff.mp H
        obtain ⟨k6, hk6, H⟩ := Option.bind_eq_some_iff.mp H
        refine F_iald k6 hw hG d_Ref_takeRights_32 (gA_some hN5) (ix_some hk6) ?_
        refine J_icmp_lt (tgt := 60) d_Ref_takeRights_33 (by decide) ?_ ?_
        · intro c15
          rw [if_pos c15] at H
          refine J.drop [true, true, true, true] rfl ?_
          exact p_Ref_takeRights_L60 hw hG ih H
        · intro c15
          rw [if_neg c15] at H
          refine J_iload_n d_Ref_takeRights_36 rfl ?_
          refine J_aload_n d_Ref_takeRights_37 rfl ?_
          refine F_getR (ci := 12) (k := 80) hG (cf_Ref hw) (fl_Ref_220 hw) (by decide) (by decide) rfl d_Ref_takeRights_38 g1 ?_
          refine J_iload_n d_Ref_takeRights_41 rfl ?_
          try rw [j_rf ha2]
          obtain ⟨N7, hN7, H⟩ := Option.bind_eq_some_iff.mp H
          obtain ⟨k8, hk8, H⟩ := Option.bind_eq_some_iff.mp H
          refine F_iald k8 hw hG d_Ref_takeRights_42 (gA_some hN7) (ix_some hk8) ?_
          refine J_aload_n d_Ref_takeRights_43 rfl ?_
          refine F_getR (ci := 12) (k := 81) hG (cf_Ref hw) (fl_Ref_223 hw) (by decide) (by decide) rfl d_Ref_takeRights_44 g1 ?_
          refine J_iload_n d_Ref_takeRights_47 rfl ?_
          obtain ⟨a9, ha9, H⟩ := Option.bind_eq_some_iff.mp H
          rw [j_rf ha9]
          obtain ⟨N10, hN10, H⟩ := Option.bind_eq_some_iff.mp H
          obtain ⟨k11, hk11, H⟩ := Option.bind_eq_some_iff.mp H
          refine F_iald k11 hw hG d_Ref_takeRights_48 (gA_some hN10) (ix_some hk11) ?_
          refine J_iadd d_Ref_takeRights_49 ?_
          refine J_icmp_ge (tgt := 60) d_Ref_takeRights_50 (by decide) ?_ ?_
          · intro c14
            rw [if_pos c14] at H
            refine J.drop [true, true, true, true] rfl ?_
            exact p_Ref_takeRights_L60 hw hG ih H
          · intro c14
            rw [if_neg c14] at H
            refine J_aload_n d_Ref_takeRights_53 rfl ?_
            refine F_getR (ci := 12) (k := 80) hG (cf_Ref hw) (fl_Ref_220 hw) (by decide) (by decide) rfl d_Ref_takeRights_54 g1 ?_
            refine J_iload_n d_Ref_takeRights_57 rfl ?_
            refine J_iconst (v := -1) d_Ref_takeRights_58 (by decide) ?_
            try rw [j_rf ha2]
            obtain ⟨N12, hN12, H⟩ := Option.bind_eq_some_iff.mp H
            obtain ⟨k13, hk13, H⟩ := Option.bind_eq_some_iff.mp H
            refine F_iast k13 hw hG d_Ref_takeRights_59 (gA_some hN12) (ix_some hk13) ?_
            refine J.drop [true, true, true, true] rfl ?_
            exact p_Ref_takeRights_L60 hw hG ih H
def f_Ref_takeRights (Γ : gm_T) (φ : ph_T) (this : Nat) (p0 : Int32) (p1 : Int32) : Option (Unit × ph_T) :=
  f_Ref_takeRights_L5 Γ  jF φ this p0 p1 ((64 : Int32) * p0)
set_option maxRecDepth 100000 in
set_option maxHeartbeats 4000000 in
theorem p_Ref_takeRights {w : jw_T} (hw : jok w) {Γ : gm_T} {n : Nat} (hG : gd w Γ n) {x : Bool} {φ : ph_T} {this : Nat} {p0 : Int32} {p1 : Int32} {q : Unit × ph_T} (H : f_Ref_takeRights Γ φ this p0 p1 = some q) : jc w M_Ref_takeRights [.ref this, .int p0, .int p1] (pic Γ φ) n x 0 0 (fq Γ n (.inl none) q.2) := by
  refine jc.of (by simp only [jent_r, jent_i, jent_l, jent_a, jent_0]; exact Nat.le_of_ble_eq_true rfl) ?_
  have hls : jents [.ref this, .int p0, .int p1] (jm_nL M_Ref_takeRights) = [some (.ref this), some (.int p0), some (.int p1), none] := by simp only [jents, jent_r, jent_i, jent_l, jent_a, jent_0]; rfl
  rw [hls]
  clear hls
  unfold f_Ref_takeRights at H
  refine J_bipush (v := 64) d_Ref_takeRights_0 (by decide) ?_
  refine J_iload_n d_Ref_takeRights_2 rfl ?_
  refine J_imul d_Ref_takeRights_3 ?_
  refine J_istore_n d_Ref_takeRights_4 (Nat.le_of_ble_eq_true rfl) ?_
  refine J.drop [true, true, true, true] rfl ?_
  exact p_Ref_takeRights_L5 hw hG  _ H
theorem ln_Ref_doWrite : (parseMethodDescriptor y_Ref_doWrite.desc).map (fun q => q.parameters.length) = some 2 := by decide +kernel
def f_Ref_doWrite_L299 (Γ : gm_T) (Kc214 : ph_T → Nat → Int32 → Int32 → Int64 → Int32 → Int32 → Option (Unit × ph_T)) (Kc224 : ph_T → Nat → Int32 → Int32 → Int64 → Int32 → Int32 → Int32 → Option (Unit × ph_T)) (φ : ph_T) (x0 : Nat) (x1 : Int32) (x2 : Int32) (x3 : Int64) (x5 : Int32) (x9 : Int32) (x10 : Int32) : Option (Unit × ph_T) :=
  Kc224 φ x0 x1 x2 x3 x5 x9 (x10 + (1 : Int32))
set_option maxRecDepth 100000 in
set_option maxHeartbeats 4000000 in
theorem p_Ref_doWrite_L299 {w : jw_T} (hw : jok w) {Γ : gm_T} {n : Nat} (hG : gd w Γ n) {Kc214 : ph_T → Nat → Int32 → Int32 → Int64 → Int32 → Int32 → Option (Unit × ph_T)} {Kc224 : ph_T → Nat → Int32 → Int32 → Int64 → Int32 → Int32 → Int32 → Option (Unit × ph_T)} (hKc214 : ∀ {x : Bool} {φ : ph_T} {x0 : Nat} {x1 : Int32} {x2 : Int32} {x3 : Int64} {x5 : Int32} {x9 : Int32} {q : Unit × ph_T}, Kc214 φ x0 x1 x2 x3 x5 x9 = some q → J w M_Ref_doWrite 214 [some (.ref x0), some (.int x1), some (.int x2), some (.long x3), none, some (.int x5), none, none, none, some (.int x9), none, none] [] (pic Γ φ) n x 0 0 (fq Γ n (.inl none) q.2)) (hKc224 : ∀ {x : Bool} {φ : ph_T} {x0 : Nat} {x1 : Int32} {x2 : Int32} {x3 : Int64} {x5 : Int32} {x9 : Int32} {x10 : Int32} {q : Unit × ph_T}, Kc224 φ x0 x1 x2 x3 x5 x9 x10 = some q → J w M_Ref_doWrite 224 [some (.ref x0), some (.int x1), some (.int x2), some (.long x3), none, some (.int x5), none, none, none, some (.int x9), some (.int x10), none] [] (pic Γ φ) n x 0 0 (fq Γ n (.inl none) q.2)) {x : Bool} {φ : ph_T} {x0 : Nat} {x1 : Int32} {x2 : Int32} {x3 : Int64} {x5 : Int32} {x9 : Int32} {x10 : Int32} {q : Unit × ph_T} (H : f_Ref_doWrite_L299 Γ Kc214 Kc224 φ x0 x1 x2 x3 x5 x9 x10 = some q) : J w M_Ref_doWrite 299 [some (.ref x0), some (.int x1), some (.int x2), some (.long x3), none, some (.int x5), none, none, none, some (.int x9), some (.int x10), none] [] (pic Γ φ) n x 0 0 (fq Γ n (.inl none) q.2) := by
  unfold f_Ref_doWrite_L299 at H
  refine J_iinc (v := x10 + 1) d_Ref_doWrite_299 rfl (by rw [show Int32.ofInt 1 = (1 : Int32) from by decide]) ?_
  refine J_goto (tgt := 224) d_Ref_doWrite_302 (by decide) ?_
  refine J.drop [true, true, true, true, false, true, false, false, false, true, true, false] rfl ?_
  exact hKc224 H
def f_Ref_doWrite_L224 (Γ : gm_T) (Kc214 : ph_T → Nat → Int32 → Int32 → Int64 → Int32 → Int32 → Option (Unit × ph_T)) : Nat → ph_T → Nat → Int32 → Int32 → Int64 → Int32 → Int32 → Int32 → Option (Unit × ph_T)
  | 0, _, _, _, _, _, _, _, _ => none
  | fu + 1, φ, x0, x1, x2, x3, x5, x9, x10 =>
    if (8 : Int32) ≤ x10 then
      Kc214 φ x0 x1 x2 x3 x5 (x9 + (1 : Int32))
    else
      @ite _ (Γ x0 = .inr 12) _ (
      Option.bind (φ.2.2 x0 66) fun a2 =>
      Option.bind (gA Γ a2 0) fun N3 =>
      Option.bind (ix (((16 : Int32) * x2) + x9) N3) fun k4 =>
      if (((φ.1 a2 k4) >>> (x10 &&& 31)) &&& (1 : Int32)) = (1 : Int32) then
        Option.bind (f_Ref_byteAt Γ φ x3 x9 x10) fun q5 =>
        Option.bind (q5.2.2.2 x0 65) fun a6 =>
        Option.bind (gA Γ a6 1) fun N7 =>
        Option.bind (ix (((16 : Int32) * x2) + x9) N7) fun k8 =>
        Option.bind (q5.2.2.2 x0 13) fun a9 =>
        Option.bind (gA Γ a9 0) fun N10 =>
        Option.bind (ix q5.1 N10) fun k11 =>
        Option.bind (f_Ref_takeRights Γ (uI q5.2 a9 k11 ((Int64.toInt32 ((q5.2.2.1 a6 k8) >>> (Int32.toInt64 ((8 : Int32) * x10) &&& 63))) &&& (255 : Int32))) x0 x1 q5.1) fun q12 =>
        f_Ref_doWrite_L299 Γ Kc214 (f_Ref_doWrite_L224 Γ Kc214 fu) q12.2 x0 x1 x2 x3 x5 x9 x10
      else
        f_Ref_doWrite_L299 Γ Kc214 (f_Ref_doWrite_L224 Γ Kc214 fu) φ x0 x1 x2 x3 x5 x9 x10
      ) none
set_option maxRecDepth 100000 in
set_option maxHeartbeats 4000000 in
theorem p_Ref_doWrite_L224 {w : jw_T} (hw : jok w) {Γ : gm_T} {n : Nat} (hG : gd w Γ n) {Kc214 : ph_T → Nat → Int32 → Int32 → Int64 → Int32 → Int32 → Option (Unit × ph_T)} (hKc214 : ∀ {x : Bool} {φ : ph_T} {x0 : Nat} {x1 : Int32} {x2 : Int32} {x3 : Int64} {x5 : Int32} {x9 : Int32} {q : Unit × ph_T}, Kc214 φ x0 x1 x2 x3 x5 x9 = some q → J w M_Ref_doWrite 214 [some (.ref x0), some (.int x1), some (.int x2), some (.long x3), none, some (.int x5), none, none, none, some (.int x9), none, none] [] (pic Γ φ) n x 0 0 (fq Γ n (.inl none) q.2)) : ∀ (fu : Nat) {x : Bool} {φ : ph_T} {x0 : Nat} {x1 : Int32} {x2 : Int32} {x3 : Int64} {x5 : Int32} {x9 : Int32} {x10 : Int32} {q : Unit × ph_T}, f_Ref_doWrite_L224 Γ Kc214 fu φ x0 x1 x2 x3 x5 x9 x10 = some q → J w M_Ref_doWrite 224 [some (.ref x0), some (.int x1), some (.int x2), some (.long x3), none, some (.int x5), none, none, none, some (.int x9), some (.int x10), none] [] (pic Γ φ) n x 0 0 (fq Γ n (.inl none) q.2) := by
  intro fu
  induction fu with
  | zero =>
    intro x φ x0 x1 x2 x3 x5 x9 x10 q H
    cases H
  | succ fu ih =>
    intro x φ x0 x1 x2 x3 x5 x9 x10 q H
    unfold f_Ref_doWrite_L224 at H
    refine J_iload d_Ref_doWrite_224 rfl ?_
    refine J_bipush (v := 8) d_Ref_doWrite_226 (by decide) ?_
    refine J_icmp_ge (tgt := 305) d_Ref_doWrite_228 (by decide) ?_ ?_
    · intro c14
      rw [if_pos c14] at H
      refine J_iinc (v := x9 + 1) d_Ref_doWrite_305 rfl (by rw [show Int32.ofInt 1 = (1 : Int32) from by decide]) ?_
      refine J_goto (tgt := 214) d_Ref_doWrite_308 (by decide) ?_
      refine J.drop [true, true, true, true, false, true, false, false, false, true, false, false] rfl ?_
      exact hKc214 H
    · intro c14
      rw [if_neg c14] at H
      refine J_aload_n d_Ref_doWrite_231 rfl ?_
      have g1 : Γ x0 = .inr 12 := by
        apply Classical.byContradiction
        intro q9
        rw [if_neg q9] at H
        cases H
      rw [if_pos g1] at H
      refine F_getR (ci := 12) (k := 66) hG (cf_Ref hw) (fl_Ref_178 hw) (by decide) (by decide) rfl d_Ref_doWrite_232 g1 ?_
      refine J_bipush (v := 16) d_Ref_doWrite_235 (by decide) ?_
      refine J_iload_n d_Ref_doWrite_237 rfl ?_
      refine J_imul d_Ref_doWrite_238 ?_
      refine J_iload d_Ref_doWrite_239 rfl ?_
      refine J_iadd d_Ref_doWrite_241 ?_
      obtain ⟨a2, ha2, H⟩ := Option.bind_eq_some_iff.mp H
      rw [j_rf ha2]
      obtain ⟨N3, hN3, H⟩ := Option.bind_eq_some_iff.mp H
      obtain ⟨k4, hk4, H⟩ := Option.bind_eq_some_iff.mp H
      refine F_iald k4 hw hG d_Ref_doWrite_242 (gA_some hN3) (ix_some hk4) ?_
      refine J_iload d_Ref_doWrite_243 rfl ?_
      refine J_ishr d_Ref_doWrite_245 ?_
      refine J_iconst (v := 1) d_Ref_doWrite_246 (by decide) ?_
      refine J_iand d_Ref_doWrite_247 ?_
      refine J_iconst (v := 1) d_Ref_doWrite_248 (by decide) ?_
      refine J_icmp_ne (tgt := 299) d_Ref_doWrite_249 (by decide) ?_ ?_
      · intro c13
        rw [if_neg c13] at H
        refine J.drop [true, true, true, true, false, true, false, false, false, true, true, false] rfl ?_
        exact p_Ref_doWrite_L299 hw hG hKc214 ih H
      · intro c13
        rw [if_pos c13] at H
        refine J_lload_n d_Ref_doWrite_252 rfl ?_
        refine J_iload d_Ref_doWrite_253 rfl ?_
        refine J_iload d_Ref_doWrite_255 rfl ?_
        obtain ⟨q5, hq5, H⟩ := Option.bind_eq_some_iff.mp H
        refine J_callS (kc := 0) (ks := 0) (kc' := 0) (ks' := 0) (as := [.long x3, .int x9, .int x10]) (st := []) (mf_Ref_byteAt hw) (ms_Ref_487 hw) d_Ref_doWrite_257 ln_Ref_byteAt (by decide) (by first | exact Nat.le_of_ble_eq_true rfl | (simp only [List.map_cons, List.map_nil, List.sum_cons, List.sum_nil, va_rf_cat]; exact Nat.le_of_ble_eq_true rfl)) rfl (p_Ref_byteAt hw hG hq5) ?_ (fun E h' n' x' e1 => by cases e1.1)
        intro v9 h9 n9 x9 e9
        obtain ⟨e91, e92, e93⟩ := e9
        cases e91
        subst e92
        subst e93
        clear x
        rename Bool => x
        show J _ _ _ _ (_ :: _) _ _ _ _ _ _
        refine J_istore d_Ref_doWrite_260 (Nat.le_of_ble_eq_true rfl) ?_
        refine J_aload_n d_Ref_doWrite_262 rfl ?_
        refine F_getR (ci := 12) (k := 13) hG (cf_Ref hw) (fl_Ref_30 hw) (by decide) (by decide) rfl d_Ref_doWrite_263 g1 ?_
        refine J_iload d_Ref_doWrite_266 rfl ?_
        refine J_aload_n d_Ref_doWrite_268 rfl ?_
        refine F_getR (ci := 12) (k := 65) hG (cf_Ref hw) (fl_Ref_175 hw) (by decide) (by decide) rfl d_Ref_doWrite_269 g1 ?_
        refine J_bipush (v := 16) d_Ref_doWrite_272 (by decide) ?_
        refine J_iload_n d_Ref_doWrite_274 rfl ?_
        refine J_imul d_Ref_doWrite_275 ?_
        refine J_iload d_Ref_doWrite_276 rfl ?_
        refine J_iadd d_Ref_doWrite_278 ?_
        obtain ⟨a6, ha6, H⟩ := Option.bind_eq_some_iff.mp H
        rw [j_rf ha6]
        obtain ⟨N7, hN7, H⟩ := Option.bind_eq_some_iff.mp H
        obtain ⟨k8, hk8, H⟩ := Option.bind_eq_some_iff.mp H
        refine F_lald k8 hw hG d_Ref_doWrite_279 (gA_some hN7) (ix_some hk8) ?_
        refine J_bipush (v := 8) d_Ref_doWrite_280 (by decide) ?_
        refine J_iload d_Ref_doWrite_282 rfl ?_
        refine J_imul d_Ref_doWrite_284 ?_
        refine J_lshr d_Ref_doWrite_285 ?_
        refine J_l2i d_Ref_doWrite_286 ?_
        refine J_sipush (v := 255) d_Ref_doWrite_287 (by decide) ?_
        refine J_iand d_Ref_doWrite_290 ?_
        obtain ⟨a9, ha9, H⟩ := Option.bind_eq_some_iff.mp H
        rw [j_rf ha9]
        obtain ⟨N10, hN10, H⟩ := Option.bind_eq_some_iff.mp H
        obtain ⟨k11, hk11, H⟩ := Option.bind_eq_some_iff.mp H
        refine F_iast k11 hw hG d_Ref_doWrite_291 (gA_some hN10) (ix_some hk11) ?_
        refine J_aload_n d_Ref_doWrite_292 rfl ?_
        refine J_iload_n d_Ref_doWrite_293 rfl ?_
        refine J_iload d_Ref_doWrite_294 rfl ?_
        obtain ⟨q12, hq12, H⟩ := Option.bind_eq_some_iff.mp H
        refine J_callV (kc := 0) (ks := 0) (kc' := 0) (ks' := 0) (a := x0) (ci := 12) (as := [.int x1, .int q5.1]) (st := []) (mf_Ref_takeRights hw) (mv_Ref_491 hw) d_Ref_doWrite_296 ln_Ref_takeRights (by decide) (by first | exact Nat.le_of_ble_eq_true rfl | (simp only [List.map_cons, List.map_nil, List.sum_cons, List.sum_nil, va_rf_cat]; exact Nat.le_of_ble_eq_true rfl)) rfl ((hG _).1 _ g1 (by decide)).1 ((hG _).1 _ g1 (by decide)).2 (by unfold pic; rw [g1]; rfl) (jcl_at hw rfl) rfl (p_Ref_takeRights hw hG hq12) ?_ (fun E h' n' x' e1 => by cases e1.1)
        intro v9 h9 n9 x9 e9
        obtain ⟨e91, e92, e93⟩ := e9
        cases e91
        subst e92
        subst e93
        clear x
        rename Bool => x
        show J _ _ _ _ [] _ _ _ _ _ _
        refine J.drop [true, true, true, true, false, true, false, false, false, true, true, false] rfl ?_
        exact p_Ref_doWrite_L299 hw hG hKc214 ih H
def f_Ref_doWrite_L214 (Γ : gm_T)  : Nat → ph_T → Nat → Int32 → Int32 → Int64 → Int32 → Int32 → Option (Unit × ph_T)
  | 0, _, _, _, _, _, _, _ => none
  | fu + 1, φ, x0, x1, x2, x3, x5, x9 =>
    if x5 ≤ x9 then
      some ((), φ)
    else
      f_Ref_doWrite_L224 Γ (f_Ref_doWrite_L214 Γ  fu) jF φ x0 x1 x2 x3 x5 x9 (0 : Int32)
set_option maxRecDepth 100000 in
set_option maxHeartbeats 4000000 in
theorem p_Ref_doWrite_L214 {w : jw_T} (hw : jok w) {Γ : gm_T} {n : Nat} (hG : gd w Γ n)  : ∀ (fu : Nat) {x : Bool} {φ : ph_T} {x0 : Nat} {x1 : Int32} {x2 : Int32} {x3 : Int64} {x5 : Int32} {x9 : Int32} {q : Unit × ph_T}, f_Ref_doWrite_L214 Γ  fu φ x0 x1 x2 x3 x5 x9 = some q → J w M_Ref_doWrite 214 [some (.ref x0), some (.int x1), some (.int x2), some (.long x3), none, some (.int x5), none, none, none, some (.int x9), none, none] [] (pic Γ φ) n x 0 0 (fq Γ n (.inl none) q.2) := by
  intro fu
  induction fu with
  | zero =>
    intro x φ x0 x1 x2 x3 x5 x9 q H
    cases H
  | succ fu ih =>
    intro x φ x0 x1 x2 x3 x5 x9 q H
    unfold f_Ref_doWrite_L214 at H
    refine J_iload d_Ref_doWrite_214 rfl ?_
    refine J_iload d_Ref_doWrite_216 rfl ?_
    refine J_icmp_ge (tgt := 311) d_Ref_doWrite_218 (by decide) ?_ ?_
    · intro c15
      rw [if_pos c15] at H
      cases H
      exact J_vret (st := []) d_Ref_doWrite_311 rfl ⟨rfl, rfl, rfl⟩
    · intro c15
      rw [if_neg c15] at H
      refine J_iconst (v := 0) d_Ref_doWrite_221 (by decide) ?_
      refine J_istore d_Ref_doWrite_222 (Nat.le_of_ble_eq_true rfl) ?_
      refine J.drop [true, true, true, true, false, true, false, false, false, true, true, false] rfl ?_
      exact p_Ref_doWrite_L224 hw hG ih _ H
def f_Ref_doWrite_L211 (Γ : gm_T)  (φ : ph_T) (x0 : Nat) (x1 : Int32) (x2 : Int32) (x3 : Int64) (x5 : Int32) : Option (Unit × ph_T) :=
  f_Ref_doWrite_L214 Γ  jF φ x0 x1 x2 x3 x5 (0 : Int32)
set_option maxRecDepth 100000 in
set_option maxHeartbeats 4000000 in
theorem p_Ref_doWrite_L211 {w : jw_T} (hw : jok w) {Γ : gm_T} {n : Nat} (hG : gd w Γ n)  {x : Bool} {φ : ph_T} {x0 : Nat} {x1 : Int32} {x2 : Int32} {x3 : Int64} {x5 : Int32} {q : Unit × ph_T} (H : f_Ref_doWrite_L211 Γ  φ x0 x1 x2 x3 x5 = some q) : J w M_Ref_doWrite 211 [some (.ref x0), some (.int x1), some (.int x2), some (.long x3), none, some (.int x5), none, none, none, none, none, none] [] (pic Γ φ) n x 0 0 (fq Γ n (.inl none) q.2) := by
  unfold f_Ref_doWrite_L211 at H
  refine J_iconst (v := 0) d_Ref_doWrite_211 (by decide) ?_
  refine J_istore d_Ref_doWrite_212 (Nat.le_of_ble_eq_true rfl) ?_
  refine J.drop [true, true, true, true, false, true, false, false, false, true, false, false] rfl ?_
  exact p_Ref_doWrite_L214 hw hG  _ H
def f_Ref_doWrite_L210 (Γ : gm_T)  (φ : ph_T) : Option (Unit × ph_T) :=
  some ((), φ)
set_option maxRecDepth 100000 in
set_option maxHeartbeats 4000000 in
theorem p_Ref_doWrite_L210 {w : jw_T} (hw : jok w) {Γ : gm_T} {n : Nat} (hG : gd w Γ n)  {x : Bool} {φ : ph_T} {q : Unit × ph_T} (H : f_Ref_doWrite_L210 Γ  φ  = some q) : J w M_Ref_doWrite 210 [none, none, none, none, none, none, none, none, none, none, none, none] [] (pic Γ φ) n x 0 0 (fq Γ n (.inl none) q.2) := by
  unfold f_Ref_doWrite_L210 at H
  cases H
  exact J_vret (st := []) d_Ref_doWrite_210 rfl ⟨rfl, rfl, rfl⟩
def f_Ref_doWrite_L192 (Γ : gm_T)  (φ : ph_T) (x0 : Nat) (x1 : Int32) (x2 : Int32) (x3 : Int64) (x5 : Int32) (x6 : Int32) (x8 : Int32) (y0 : Int32) (y1 : Int32) (y2 : Option Nat) : Option (Unit × ph_T) :=
  Option.bind y2 fun a16 =>
  Option.bind (gA Γ a16 0) fun N17 =>
  Option.bind (ix y1 N17) fun k18 =>
  if x6 = 0 then
    Option.bind (f_Ref_isAlone Γ (uI φ a16 k18 y0) x3) fun q19 =>
    if q19.1 = 0 then
      f_Ref_doWrite_L211 Γ  q19.2 x0 x1 x2 x3 x5
    else
      if x8 = 0 then
        f_Ref_doWrite_L210 Γ  q19.2 
      else
        f_Ref_doWrite_L211 Γ  q19.2 x0 x1 x2 x3 x5
  else
    f_Ref_doWrite_L210 Γ  (uI φ a16 k18 y0) 
set_option maxRecDepth 100000 in
set_option maxHeartbeats 4000000 in
theorem p_Ref_doWrite_L192 {w : jw_T} (hw : jok w) {Γ : gm_T} {n : Nat} (hG : gd w Γ n)  {x : Bool} {φ : ph_T} {x0 : Nat} {x1 : Int32} {x2 : Int32} {x3 : Int64} {x5 : Int32} {x6 : Int32} {x8 : Int32} {y0 : Int32} {y1 : Int32} {y2 : Option Nat} {q : Unit × ph_T} (H : f_Ref_doWrite_L192 Γ  φ x0 x1 x2 x3 x5 x6 x8 y0 y1 y2 = some q) : J w M_Ref_doWrite 192 [some (.ref x0), some (.int x1), some (.int x2), some (.long x3), none, some (.int x5), some (.int x6), none, some (.int x8), none, none, none] [.int y0, .int y1, va_rf y2] (pic Γ φ) n x 0 0 (fq Γ n (.inl none) q.2) := by
  unfold f_Ref_doWrite_L192 at H
  obtain ⟨a16, ha16, H⟩ := Option.bind_eq_some_iff.mp H
  rw [j_rf ha16]
  obtain ⟨N17, hN17, H⟩ := Option.bind_eq_some_iff.mp H
  obtain ⟨k18, hk18, H⟩ := Option.bind_eq_some_iff.mp H
  refine F_iast k18 hw hG d_Ref_doWrite_192 (gA_some hN17) (ix_some hk18) ?_
  refine J_iload d_Ref_doWrite_193 rfl ?_
  refine J_if_ne (tgt := 210) d_Ref_doWrite_195 (by decide) ?_ ?_
  · intro c22
    rw [if_neg c22] at H
    refine J.drop [false, false, false, false, false, false, false, false, false, false, false, false] rfl ?_
    exact p_Ref_doWrite_L210 hw hG  H
  · intro c22
    rw [if_pos c22] at H
    refine J_lload_n d_Ref_doWrite_198 rfl ?_
    obtain ⟨q19, hq19, H⟩ := Option.bind_eq_some_iff.mp H
    refine J_callS (kc := 0) (ks := 0) (kc' := 0) (ks' := 0) (as := [.long x3]) (st := []) (mf_Ref_isAlone hw) (ms_Ref_329 hw) d_Ref_doWrite_199 ln_Ref_isAlone (by decide) (by first | exact Nat.le_of_ble_eq_true rfl | (simp only [List.map_cons, List.map_nil, List.sum_cons, List.sum_nil, va_rf_cat]; exact Nat.le_of_ble_eq_true rfl)) rfl (p_Ref_isAlone hw hG hq19) ?_ (fun E h' n' x' e1 => by cases e1.1)
    intro v9 h9 n9 x9 e9
    obtain ⟨e91, e92, e93⟩ := e9
    cases e91
    subst e92
    subst e93
    clear x
    rename Bool => x
    show J _ _ _ _ (_ :: _) _ _ _ _ _ _
    refine J_if_eq (tgt := 211) d_Ref_doWrite_202 (by decide) ?_ ?_
    · intro c21
      rw [if_pos c21] at H
      refine J.drop [true, true, true, true, false, true, false, false, false, false, false, false] rfl ?_
      exact p_Ref_doWrite_L211 hw hG  H
    · intro c21
      rw [if_neg c21] at H
      refine J_iload d_Ref_doWrite_205 rfl ?_
      refine J_if_ne (tgt := 211) d_Ref_doWrite_207 (by decide) ?_ ?_
      · intro c20
        rw [if_neg c20] at H
        refine J.drop [true, true, true, true, false, true, false, false, false, false, false, false] rfl ?_
        exact p_Ref_doWrite_L211 hw hG  H
      · intro c20
        rw [if_pos c20] at H
        refine J.drop [false, false, false, false, false, false, false, false, false, false, false, false] rfl ?_
        exact p_Ref_doWrite_L210 hw hG  H
def f_Ref_doWrite_L191 (Γ : gm_T)  (φ : ph_T) (x0 : Nat) (x1 : Int32) (x2 : Int32) (x3 : Int64) (x5 : Int32) (x6 : Int32) (x8 : Int32) (y0 : Int32) (y1 : Option Nat) : Option (Unit × ph_T) :=
  f_Ref_doWrite_L192 Γ  φ x0 x1 x2 x3 x5 x6 x8 (0 : Int32) y0 y1
set_option maxRecDepth 100000 in
set_option maxHeartbeats 4000000 in
theorem p_Ref_doWrite_L191 {w : jw_T} (hw : jok w) {Γ : gm_T} {n : Nat} (hG : gd w Γ n)  {x : Bool} {φ : ph_T} {x0 : Nat} {x1 : Int32} {x2 : Int32} {x3 : Int64} {x5 : Int32} {x6 : Int32} {x8 : Int32} {y0 : Int32} {y1 : Option Nat} {q : Unit × ph_T} (H : f_Ref_doWrite_L191 Γ  φ x0 x1 x2 x3 x5 x6 x8 y0 y1 = some q) : J w M_Ref_doWrite 191 [some (.ref x0), some (.int x1), some (.int x2), some (.long x3), none, some (.int x5), some (.int x6), none, some (.int x8), none, none, none] [.int y0, va_rf y1] (pic Γ φ) n x 0 0 (fq Γ n (.inl none) q.2) := by
  unfold f_Ref_doWrite_L191 at H
  refine J_iconst (v := 0) d_Ref_doWrite_191 (by decide) ?_
  refine J.drop [true, true, true, true, false, true, true, false, true, false, false, false] rfl ?_
  exact p_Ref_doWrite_L192 hw hG  H
def f_Ref_doWrite_L161 (Γ : gm_T)  (φ : ph_T) (x0 : Nat) (x1 : Int32) (x2 : Int32) (x3 : Int64) (x5 : Int32) (x6 : Int32) (x8 : Int32) : Option (Unit × ph_T) :=
  @ite _ (Γ x0 = .inr 12) _ (
  if x6 = 0 then
    Option.bind (f_Ref_isAlone Γ φ x3) fun q24 =>
    if q24.1 = 0 then
      f_Ref_doWrite_L191 Γ  q24.2 x0 x1 x2 x3 x5 x6 x8 x2 (φ.2.2 x0 64)
    else
      if x8 = 0 then
        f_Ref_doWrite_L191 Γ  q24.2 x0 x1 x2 x3 x5 x6 x8 x2 (φ.2.2 x0 64)
      else
        f_Ref_doWrite_L192 Γ  q24.2 x0 x1 x2 x3 x5 x6 x8 (1 : Int32) x2 (φ.2.2 x0 64)
  else
    f_Ref_doWrite_L192 Γ  φ x0 x1 x2 x3 x5 x6 x8 (2 : Int32) x2 (φ.2.2 x0 64)
  ) none
set_option maxRecDepth 100000 in
set_option maxHeartbeats 4000000 in
theorem p_Ref_doWrite_L161 {w : jw_T} (hw : jok w) {Γ : gm_T} {n : Nat} (hG : gd w Γ n)  {x : Bool} {φ : ph_T} {x0 : Nat} {x1 : Int32} {x2 : Int32} {x3 : Int64} {x5 : Int32} {x6 : Int32} {x8 : Int32} {q : Unit × ph_T} (H : f_Ref_doWrite_L161 Γ  φ x0 x1 x2 x3 x5 x6 x8 = some q) : J w M_Ref_doWrite 161 [some (.ref x0), some (.int x1), some (.int x2), some (.long x3), none, some (.int x5), some (.int x6), none, some (.int x8), none, none, none] [] (pic Γ φ) n x 0 0 (fq Γ n (.inl none) q.2) := by
  unfold f_Ref_doWrite_L161 at H
  refine J_aload_n d_Ref_doWrite_161 rfl ?_
  have g23 : Γ x0 = .inr 12 := by
    apply Classical.byContradiction
    intro q9
    rw [if_neg q9] at H
    cases H
  rw [if_pos g23] at H
  refine F_getR (ci := 12) (k := 64) hG (cf_Ref hw) (fl_Ref_172 hw) (by decide) (by decide) rfl d_Ref_doWrite_162 g23 ?_
  refine J_iload_n d_Ref_doWrite_165 rfl ?_
  refine J_iload d_Ref_doWrite_166 rfl ?_
  refine J_if_eq (tgt := 175) d_Ref_doWrite_168 (by decide) ?_ ?_
  · intro c27
    rw [if_pos c27] at H
    refine J_lload_n d_Ref_doWrite_175 rfl ?_
    obtain ⟨q24, hq24, H⟩ := Option.bind_eq_some_iff.mp H
    refine J_callS (kc := 0) (ks := 0) (kc' := 0) (ks' := 0) (as := [.long x3]) (st := [.int x2, va_rf (φ.2.2 x0 64)]) (mf_Ref_isAlone hw) (ms_Ref_329 hw) d_Ref_doWrite_176 ln_Ref_isAlone (by decide) (by first | exact Nat.le_of_ble_eq_true rfl | (simp only [List.map_cons, List.map_nil, List.sum_cons, List.sum_nil, va_rf_cat]; exact Nat.le_of_ble_eq_true rfl)) rfl (p_Ref_isAlone hw hG hq24) ?_ (fun E h' n' x' e1 => by cases e1.1)
    intro v9 h9 n9 x9 e9
    obtain ⟨e91, e92, e93⟩ := e9
    cases e91
    subst e92
    subst e93
    clear x
    rename Bool => x
    show J _ _ _ _ (_ :: _) _ _ _ _ _ _
    refine J_if_eq (tgt := 191) d_Ref_doWrite_179 (by decide) ?_ ?_
    · intro c26
      rw [if_pos c26] at H
      refine J.drop [true, true, true, true, false, true, true, false, true, false, false, false] rfl ?_
      exact p_Ref_doWrite_L191 hw hG  H
    · intro c26
      rw [if_neg c26] at H
      refine J_iload d_Ref_doWrite_182 rfl ?_
      refine J_if_eq (tgt := 191) d_Ref_doWrite_184 (by decide) ?_ ?_
      · intro c25
        rw [if_pos c25] at H
        refine J.drop [true, true, true, true, false, true, true, false, true, false, false, false] rfl ?_
        exact p_Ref_doWrite_L191 hw hG  H
      · intro c25
        rw [if_neg c25] at H
        refine J_iconst (v := 1) d_Ref_doWrite_187 (by decide) ?_
        refine J_goto (tgt := 192) d_Ref_doWrite_188 (by decide) ?_
        refine J.drop [true, true, true, true, false, true, true, false, true, false, false, false] rfl ?_
        exact p_Ref_doWrite_L192 hw hG  H
  · intro c27
    rw [if_neg c27] at H
    refine J_iconst (v := 2) d_Ref_doWrite_171 (by decide) ?_
    refine J_goto (tgt := 192) d_Ref_doWrite_172 (by decide) ?_
    refine J.drop [true, true, true, true, false, true, true, false, true, false, false, false] rfl ?_
    exact p_Ref_doWrite_L192 hw hG  H
def f_Ref_doWrite_L144 (Γ : gm_T)  (φ : ph_T) (x0 : Nat) (x1 : Int32) (x2 : Int32) (x3 : Int64) (x5 : Int32) (x6 : Int32) (x7 : Int32) (y0 : Int32) : Option (Unit × ph_T) :=
  Option.bind (f_Ref_isAlone Γ φ x3) fun q28 =>
  if q28.1 = 0 then
    f_Ref_doWrite_L161 Γ  q28.2 x0 x1 x2 x3 x5 x6 y0
  else
    @ite _ (Γ x0 = .inr 12) _ (
    Option.bind (q28.2.2.2 x0 80) fun a30 =>
    Option.bind (gA Γ a30 0) fun N31 =>
    Option.bind (ix x7 N31) fun k32 =>
    f_Ref_doWrite_L161 Γ  (uI q28.2 a30 k32 (-1 : Int32)) x0 x1 x2 x3 x5 x6 y0
    ) none
set_option maxRecDepth 100000 in
set_option maxHeartbeats 4000000 in
theorem p_Ref_doWrite_L144 {w : jw_T} (hw : jok w) {Γ : gm_T} {n : Nat} (hG : gd w Γ n)  {x : Bool} {φ : ph_T} {x0 : Nat} {x1 : Int32} {x2 : Int32} {x3 : Int64} {x5 : Int32} {x6 : Int32} {x7 : Int32} {y0 : Int32} {q : Unit × ph_T} (H : f_Ref_doWrite_L144 Γ  φ x0 x1 x2 x3 x5 x6 x7 y0 = some q) : J w M_Ref_doWrite 144 [some (.ref x0), some (.int x1), some (.int x2), some (.long x3), none, some (.int x5), some (.int x6), some (.int x7), none, none, none, none] [.int y0] (pic Γ φ) n x 0 0 (fq Γ n (.inl none) q.2) := by
  unfold f_Ref_doWrite_L144 at H
  refine J_istore d_Ref_doWrite_144 (Nat.le_of_ble_eq_true rfl) ?_
  refine J_lload_n d_Ref_doWrite_146 rfl ?_
  obtain ⟨q28, hq28, H⟩ := Option.bind_eq_some_iff.mp H
  refine J_callS (kc := 0) (ks := 0) (kc' := 0) (ks' := 0) (as := [.long x3]) (st := []) (mf_Ref_isAlone hw) (ms_Ref_329 hw) d_Ref_doWrite_147 ln_Ref_isAlone (by decide) (by first | exact Nat.le_of_ble_eq_true rfl | (simp only [List.map_cons, List.map_nil, List.sum_cons, List.sum_nil, va_rf_cat]; exact Nat.le_of_ble_eq_true rfl)) rfl (p_Ref_isAlone hw hG hq28) ?_ (fun E h' n' x' e1 => by cases e1.1)
  intro v9 h9 n9 x9 e9
  obtain ⟨e91, e92, e93⟩ := e9
  cases e91
  subst e92
  subst e93
  clear x
  rename Bool => x
  show J _ _ _ _ (_ :: _) _ _ _ _ _ _
  refine J_if_eq (tgt := 161) d_Ref_doWrite_150 (by decide) ?_ ?_
  · intro c33
    rw [if_pos c33] at H
    refine J.drop [true, true, true, true, false, true, true, false, true, false, false, false] rfl ?_
    exact p_Ref_doWrite_L161 hw hG  H
  · intro c33
    rw [if_neg c33] at H
    refine J_aload_n d_Ref_doWrite_153 rfl ?_
    have g29 : Γ x0 = .inr 12 := by
      apply Classical.byContradiction
      intro q9
      rw [if_neg q9] at H
      cases H
    rw [if_pos g29] at H
    refine F_getR (ci := 12) (k := 80) hG (cf_Ref hw) (fl_Ref_220 hw) (by decide) (by decide) rfl d_Ref_doWrite_154 g29 ?_
    refine J_iload d_Ref_doWrite_157 rfl ?_
    refine J_iconst (v := -1) d_Ref_doWrite_159 (by decide) ?_
    obtain ⟨a30, ha30, H⟩ := Option.bind_eq_some_iff.mp H
    rw [j_rf ha30]
    obtain ⟨N31, hN31, H⟩ := Option.bind_eq_some_iff.mp H
    obtain ⟨k32, hk32, H⟩ := Option.bind_eq_some_iff.mp H
    refine F_iast k32 hw hG d_Ref_doWrite_160 (gA_some hN31) (ix_some hk32) ?_
    refine J.drop [true, true, true, true, false, true, true, false, true, false, false, false] rfl ?_
    exact p_Ref_doWrite_L161 hw hG  H
def f_Ref_doWrite_L143 (Γ : gm_T)  (φ : ph_T) (x0 : Nat) (x1 : Int32) (x2 : Int32) (x3 : Int64) (x5 : Int32) (x6 : Int32) (x7 : Int32) : Option (Unit × ph_T) :=
  f_Ref_doWrite_L144 Γ  φ x0 x1 x2 x3 x5 x6 x7 (0 : Int32)
set_option maxRecDepth 100000 in
set_option maxHeartbeats 4000000 in
theorem p_Ref_doWrite_L143 {w : jw_T} (hw : jok w) {Γ : gm_T} {n : Nat} (hG : gd w Γ n)  {x : Bool} {φ : ph_T} {x0 : Nat} {x1 : Int32} {x2 : Int32} {x3 : Int64} {x5 : Int32} {x6 : Int32} {x7 : Int32} {q : Unit × ph_T} (H : f_Ref_doWrite_L143 Γ  φ x0 x1 x2 x3 x5 x6 x7 = some q) : J w M_Ref_doWrite 143 [some (.ref x0), some (.int x1), some (.int x2), some (.long x3), none, some (.int x5), some (.int x6), some (.int x7), none, none, none, none] [] (pic Γ φ) n x 0 0 (fq Γ n (.inl none) q.2) := by
  unfold f_Ref_doWrite_L143 at H
  refine J_iconst (v := 0) d_Ref_doWrite_143 (by decide) ?_
  refine J.drop [true, true, true, true, false, true, true, true, false, false, false, false] rfl ?_
  exact p_Ref_doWrite_L144 hw hG  H
def f_Ref_doWrite_L83 (Γ : gm_T) (Kc19 : ph_T → Nat → Int32 → Int32 → Int64 → Int32 → Int32 → Int32 → Option (Unit × ph_T)) (Kc29 : ph_T → Nat → Int32 → Int32 → Int64 → Int32 → Int32 → Int32 → Int32 → Option (Unit × ph_T)) (φ : ph_T) (x0 : Nat) (x1 : Int32) (x2 : Int32) (x3 : Int64) (x5 : Int32) (x7 : Int32) (x8 : Int32) (y0 : Int32) : Option (Unit × ph_T) :=
  Kc29 φ x0 x1 x2 x3 x5 y0 x7 (x8 + (1 : Int32))
set_option maxRecDepth 100000 in
set_option maxHeartbeats 4000000 in
theorem p_Ref_doWrite_L83 {w : jw_T} (hw : jok w) {Γ : gm_T} {n : Nat} (hG : gd w Γ n) {Kc19 : ph_T → Nat → Int32 → Int32 → Int64 → Int32 → Int32 → Int32 → Option (Unit × ph_T)} {Kc29 : ph_T → Nat → Int32 → Int32 → Int64 → Int32 → Int32 → Int32 → Int32 → Option (Unit × ph_T)} (hKc19 : ∀ {x : Bool} {φ : ph_T} {x0 : Nat} {x1 : Int32} {x2 : Int32} {x3 : Int64} {x5 : Int32} {x6 : Int32} {x7 : Int32} {q : Unit × ph_T}, Kc19 φ x0 x1 x2 x3 x5 x6 x7 = some q → J w M_Ref_doWrite 19 [some (.ref x0), some (.int x1), some (.int x2), some (.long x3), none, some (.int x5), some (.int x6), some (.int x7), none, none, none, none] [] (pic Γ φ) n x 0 0 (fq Γ n (.inl none) q.2)) (hKc29 : ∀ {x : Bool} {φ : ph_T} {x0 : Nat} {x1 : Int32} {x2 : Int32} {x3 : Int64} {x5 : Int32} {x6 : Int32} {x7 : Int32} {x8 : Int32} {q : Unit × ph_T}, Kc29 φ x0 x1 x2 x3 x5 x6 x7 x8 = some q → J w M_Ref_doWrite 29 [some (.ref x0), some (.int x1), some (.int x2), some (.long x3), none, some (.int x5), some (.int x6), some (.int x7), some (.int x8), none, none, none] [] (pic Γ φ) n x 0 0 (fq Γ n (.inl none) q.2)) {x : Bool} {φ : ph_T} {x0 : Nat} {x1 : Int32} {x2 : Int32} {x3 : Int64} {x5 : Int32} {x7 : Int32} {x8 : Int32} {y0 : Int32} {q : Unit × ph_T} (H : f_Ref_doWrite_L83 Γ Kc19 Kc29 φ x0 x1 x2 x3 x5 x7 x8 y0 = some q) : J w M_Ref_doWrite 83 [some (.ref x0), some (.int x1), some (.int x2), some (.long x3), none, some (.int x5), none, some (.int x7), some (.int x8), none, none, none] [.int y0] (pic Γ φ) n x 0 0 (fq Γ n (.inl none) q.2) := by
  unfold f_Ref_doWrite_L83 at H
  refine J_istore d_Ref_doWrite_83 (Nat.le_of_ble_eq_true rfl) ?_
  refine J_iinc (v := x8 + 1) d_Ref_doWrite_85 rfl (by rw [show Int32.ofInt 1 = (1 : Int32) from by decide]) ?_
  refine J_goto (tgt := 29) d_Ref_doWrite_88 (by decide) ?_
  refine J.drop [true, true, true, true, false, true, true, true, true, false, false, false] rfl ?_
  exact hKc29 H
def f_Ref_doWrite_L82 (Γ : gm_T) (Kc19 : ph_T → Nat → Int32 → Int32 → Int64 → Int32 → Int32 → Int32 → Option (Unit × ph_T)) (Kc29 : ph_T → Nat → Int32 → Int32 → Int64 → Int32 → Int32 → Int32 → Int32 → Option (Unit × ph_T)) (φ : ph_T) (x0 : Nat) (x1 : Int32) (x2 : Int32) (x3 : Int64) (x5 : Int32) (x7 : Int32) (x8 : Int32) : Option (Unit × ph_T) :=
  f_Ref_doWrite_L83 Γ Kc19 Kc29 φ x0 x1 x2 x3 x5 x7 x8 (0 : Int32)
set_option maxRecDepth 100000 in
set_option maxHeartbeats 4000000 in
theorem p_Ref_doWrite_L82 {w : jw_T} (hw : jok w) {Γ : gm_T} {n : Nat} (hG : gd w Γ n) {Kc19 : ph_T → Nat → Int32 → Int32 → Int64 → Int32 → Int32 → Int32 → Option (Unit × ph_T)} {Kc29 : ph_T → Nat → Int32 → Int32 → Int64 → Int32 → Int32 → Int32 → Int32 → Option (Unit × ph_T)} (hKc19 : ∀ {x : Bool} {φ : ph_T} {x0 : Nat} {x1 : Int32} {x2 : Int32} {x3 : Int64} {x5 : Int32} {x6 : Int32} {x7 : Int32} {q : Unit × ph_T}, Kc19 φ x0 x1 x2 x3 x5 x6 x7 = some q → J w M_Ref_doWrite 19 [some (.ref x0), some (.int x1), some (.int x2), some (.long x3), none, some (.int x5), some (.int x6), some (.int x7), none, none, none, none] [] (pic Γ φ) n x 0 0 (fq Γ n (.inl none) q.2)) (hKc29 : ∀ {x : Bool} {φ : ph_T} {x0 : Nat} {x1 : Int32} {x2 : Int32} {x3 : Int64} {x5 : Int32} {x6 : Int32} {x7 : Int32} {x8 : Int32} {q : Unit × ph_T}, Kc29 φ x0 x1 x2 x3 x5 x6 x7 x8 = some q → J w M_Ref_doWrite 29 [some (.ref x0), some (.int x1), some (.int x2), some (.long x3), none, some (.int x5), some (.int x6), some (.int x7), some (.int x8), none, none, none] [] (pic Γ φ) n x 0 0 (fq Γ n (.inl none) q.2)) {x : Bool} {φ : ph_T} {x0 : Nat} {x1 : Int32} {x2 : Int32} {x3 : Int64} {x5 : Int32} {x7 : Int32} {x8 : Int32} {q : Unit × ph_T} (H : f_Ref_doWrite_L82 Γ Kc19 Kc29 φ x0 x1 x2 x3 x5 x7 x8 = some q) : J w M_Ref_doWrite 82 [some (.ref x0), some (.int x1), some (.int x2), some (.long x3), none, some (.int x5), none, some (.int x7), some (.int x8), none, none, none] [] (pic Γ φ) n x 0 0 (fq Γ n (.inl none) q.2) := by
  unfold f_Ref_doWrite_L82 at H
  refine J_iconst (v := 0) d_Ref_doWrite_82 (by decide) ?_
  refine J.drop [true, true, true, true, false, true, false, true, true, false, false, false] rfl ?_
  exact p_Ref_doWrite_L83 hw hG hKc19 hKc29 H
def f_Ref_doWrite_L78 (Γ : gm_T) (Kc19 : ph_T → Nat → Int32 → Int32 → Int64 → Int32 → Int32 → Int32 → Option (Unit × ph_T)) (Kc29 : ph_T → Nat → Int32 → Int32 → Int64 → Int32 → Int32 → Int32 → Int32 → Option (Unit × ph_T)) (φ : ph_T) (x0 : Nat) (x1 : Int32) (x2 : Int32) (x3 : Int64) (x5 : Int32) (x7 : Int32) (x8 : Int32) : Option (Unit × ph_T) :=
  f_Ref_doWrite_L83 Γ Kc19 Kc29 φ x0 x1 x2 x3 x5 x7 x8 (1 : Int32)
set_option maxRecDepth 100000 in
set_option maxHeartbeats 4000000 in
theorem p_Ref_doWrite_L78 {w : jw_T} (hw : jok w) {Γ : gm_T} {n : Nat} (hG : gd w Γ n) {Kc19 : ph_T → Nat → Int32 → Int32 → Int64 → Int32 → Int32 → Int32 → Option (Unit × ph_T)} {Kc29 : ph_T → Nat → Int32 → Int32 → Int64 → Int32 → Int32 → Int32 → Int32 → Option (Unit × ph_T)} (hKc19 : ∀ {x : Bool} {φ : ph_T} {x0 : Nat} {x1 : Int32} {x2 : Int32} {x3 : Int64} {x5 : Int32} {x6 : Int32} {x7 : Int32} {q : Unit × ph_T}, Kc19 φ x0 x1 x2 x3 x5 x6 x7 = some q → J w M_Ref_doWrite 19 [some (.ref x0), some (.int x1), some (.int x2), some (.long x3), none, some (.int x5), some (.int x6), some (.int x7), none, none, none, none] [] (pic Γ φ) n x 0 0 (fq Γ n (.inl none) q.2)) (hKc29 : ∀ {x : Bool} {φ : ph_T} {x0 : Nat} {x1 : Int32} {x2 : Int32} {x3 : Int64} {x5 : Int32} {x6 : Int32} {x7 : Int32} {x8 : Int32} {q : Unit × ph_T}, Kc29 φ x0 x1 x2 x3 x5 x6 x7 x8 = some q → J w M_Ref_doWrite 29 [some (.ref x0), some (.int x1), some (.int x2), some (.long x3), none, some (.int x5), some (.int x6), some (.int x7), some (.int x8), none, none, none] [] (pic Γ φ) n x 0 0 (fq Γ n (.inl none) q.2)) {x : Bool} {φ : ph_T} {x0 : Nat} {x1 : Int32} {x2 : Int32} {x3 : Int64} {x5 : Int32} {x7 : Int32} {x8 : Int32} {q : Unit × ph_T} (H : f_Ref_doWrite_L78 Γ Kc19 Kc29 φ x0 x1 x2 x3 x5 x7 x8 = some q) : J w M_Ref_doWrite 78 [some (.ref x0), some (.int x1), some (.int x2), some (.long x3), none, some (.int x5), none, some (.int x7), some (.int x8), none, none, none] [] (pic Γ φ) n x 0 0 (fq Γ n (.inl none) q.2) := by
  unfold f_Ref_doWrite_L78 at H
  refine J_iconst (v := 1) d_Ref_doWrite_78 (by decide) ?_
  refine J_goto (tgt := 83) d_Ref_doWrite_79 (by decide) ?_
  refine J.drop [true, true, true, true, false, true, false, true, true, false, false, false] rfl ?_
  exact p_Ref_doWrite_L83 hw hG hKc19 hKc29 H
def f_Ref_doWrite_L29 (Γ : gm_T) (Kc19 : ph_T → Nat → Int32 → Int32 → Int64 → Int32 → Int32 → Int32 → Option (Unit × ph_T)) : Nat → ph_T → Nat → Int32 → Int32 → Int64 → Int32 → Int32 → Int32 → Int32 → Option (Unit × ph_T)
  | 0, _, _, _, _, _, _, _, _, _ => none
  | fu + 1, φ, x0, x1, x2, x3, x5, x6, x7, x8 =>
    if (8 : Int32) ≤ x8 then
      Kc19 φ x0 x1 x2 x3 x5 x6 (x7 + (1 : Int32))
    else
      if x6 = 0 then
        @ite _ (Γ x0 = .inr 12) _ (
        Option.bind (φ.2.2 x0 66) fun a35 =>
        Option.bind (gA Γ a35 0) fun N36 =>
        Option.bind (ix (((16 : Int32) * x2) + x7) N36) fun k37 =>
        if (((φ.1 a35 k37) >>> (x8 &&& 31)) &&& (1 : Int32)) = (1 : Int32) then
          Option.bind (f_Ref_byteAt Γ φ x3 x7 x8) fun q38 =>
          Option.bind (φ.2.2 x0 14) fun a39 =>
          Option.bind (gA Γ a39 2) fun N40 =>
          Option.bind (ix q38.1 N40) fun k41 =>
          if (q38.2.1 a39 k41) = 0 then
            f_Ref_doWrite_L82 Γ Kc19 (f_Ref_doWrite_L29 Γ Kc19 fu) q38.2 x0 x1 x2 x3 x5 x7 x8
          else
            f_Ref_doWrite_L78 Γ Kc19 (f_Ref_doWrite_L29 Γ Kc19 fu) q38.2 x0 x1 x2 x3 x5 x7 x8
        else
          f_Ref_doWrite_L82 Γ Kc19 (f_Ref_doWrite_L29 Γ Kc19 fu) φ x0 x1 x2 x3 x5 x7 x8
        ) none
      else
        f_Ref_doWrite_L78 Γ Kc19 (f_Ref_doWrite_L29 Γ Kc19 fu) φ x0 x1 x2 x3 x5 x7 x8
set_option maxRecDepth 100000 in
set_option maxHeartbeats 4000000 in
theorem p_Ref_doWrite_L29 {w : jw_T} (hw : jok w) {Γ : gm_T} {n : Nat} (hG : gd w Γ n) {Kc19 : ph_T → Nat → Int32 → Int32 → Int64 → Int32 → Int32 → Int32 → Option (Unit × ph_T)} (hKc19 : ∀ {x : Bool} {φ : ph_T} {x0 : Nat} {x1 : Int32} {x2 : Int32} {x3 : Int64} {x5 : Int32} {x6 : Int32} {x7 : Int32} {q : Unit × ph_T}, Kc19 φ x0 x1 x2 x3 x5 x6 x7 = some q → J w M_Ref_doWrite 19 [some (.ref x0), some (.int x1), some (.int x2), some (.long x3), none, some (.int x5), some (.int x6), some (.int x7), none, none, none, none] [] (pic Γ φ) n x 0 0 (fq Γ n (.inl none) q.2)) : ∀ (fu : Nat) {x : Bool} {φ : ph_T} {x0 : Nat} {x1 : Int32} {x2 : Int32} {x3 : Int64} {x5 : Int32} {x6 : Int32} {x7 : Int32} {x8 : Int32} {q : Unit × ph_T}, f_Ref_doWrite_L29 Γ Kc19 fu φ x0 x1 x2 x3 x5 x6 x7 x8 = some q → J w M_Ref_doWrite 29 [some (.ref x0), some (.int x1), some (.int x2), some (.long x3), none, some (.int x5), some (.int x6), some (.int x7), some (.int x8), none, none, none] [] (pic Γ φ) n x 0 0 (fq Γ n (.inl none) q.2) := by
  intro fu
  induction fu with
  | zero =>
    intro x φ x0 x1 x2 x3 x5 x6 x7 x8 q H
    cases H
  | succ fu ih =>
    intro x φ x0 x1 x2 x3 x5 x6 x7 x8 q H
    unfold f_Ref_doWrite_L29 at H
    refine J_iload d_Ref_doWrite_29 rfl ?_
    refine J_bipush (v := 8) d_Ref_doWrite_31 (by decide) ?_
    refine J_icmp_ge (tgt := 91) d_Ref_doWrite_33 (by decide) ?_ ?_
    · intro c45
      rw [if_pos c45] at H
      refine J_iinc (v := x7 + 1) d_Ref_doWrite_91 rfl (by rw [show Int32.ofInt 1 = (1 : Int32) from by decide]) ?_
      refine J_goto (tgt := 19) d_Ref_doWrite_94 (by decide) ?_
      refine J.drop [true, true, true, true, false, true, true, true, false, false, false, false] rfl ?_
      exact hKc19 H
    · intro c45
      rw [if_neg c45] at H
      refine J_iload d_Ref_doWrite_36 rfl ?_
      refine J_if_ne (tgt := 78) d_Ref_doWrite_38 (by decide) ?_ ?_
      · intro c44
        rw [if_neg c44] at H
        refine J.drop [true, true, true, true, false, true, false, true, true, false, false, false] rfl ?_
        exact p_Ref_doWrite_L78 hw hG hKc19 ih H
      · intro c44
        rw [if_pos c44] at H
        refine J_aload_n d_Ref_doWrite_41 rfl ?_
        have g34 : Γ x0 = .inr 12 := by
          apply Classical.byContradiction
          intro q9
          rw [if_neg q9] at H
          cases H
        rw [if_pos g34] at H
        refine F_getR (ci := 12) (k := 66) hG (cf_Ref hw) (fl_Ref_178 hw) (by decide) (by decide) rfl d_Ref_doWrite_42 g34 ?_
        refine J_bipush (v := 16) d_Ref_doWrite_45 (by decide) ?_
        refine J_iload_n d_Ref_doWrite_47 rfl ?_
        refine J_imul d_Ref_doWrite_48 ?_
        refine J_iload d_Ref_doWrite_49 rfl ?_
        refine J_iadd d_Ref_doWrite_51 ?_
        obtain ⟨a35, ha35, H⟩ := Option.bind_eq_some_iff.mp H
        rw [j_rf ha35]
        obtain ⟨N36, hN36, H⟩ := Option.bind_eq_some_iff.mp H
        obtain ⟨k37, hk37, H⟩ := Option.bind_eq_some_iff.mp H
        refine F_iald k37 hw hG d_Ref_doWrite_52 (gA_some hN36) (ix_some hk37) ?_
        refine J_iload d_Ref_doWrite_53 rfl ?_
        refine J_ishr d_Ref_doWrite_55 ?_
        refine J_iconst (v := 1) d_Ref_doWrite_56 (by decide) ?_
        refine J_iand d_Ref_doWrite_57 ?_
        refine J_iconst (v := 1) d_Ref_doWrite_58 (by decide) ?_
        refine J_icmp_ne (tgt := 82) d_Ref_doWrite_59 (by decide) ?_ ?_
        · intro c43
          rw [if_neg c43] at H
          refine J.drop [true, true, true, true, false, true, false, true, true, false, false, false] rfl ?_
          exact p_Ref_doWrite_L82 hw hG hKc19 ih H
        · intro c43
          rw [if_pos c43] at H
          refine J_aload_n d_Ref_doWrite_62 rfl ?_
          refine F_getR (ci := 12) (k := 14) hG (cf_Ref hw) (fl_Ref_33 hw) (by decide) (by decide) rfl d_Ref_doWrite_63 g34 ?_
          refine J_lload_n d_Ref_doWrite_66 rfl ?_
          refine J_iload d_Ref_doWrite_67 rfl ?_
          refine J_iload d_Ref_doWrite_69 rfl ?_
          obtain ⟨q38, hq38, H⟩ := Option.bind_eq_some_iff.mp H
          refine J_callS (kc := 0) (ks := 0) (kc' := 0) (ks' := 0) (as := [.long x3, .int x7, .int x8]) (st := [va_rf (φ.2.2 x0 14)]) (mf_Ref_byteAt hw) (ms_Ref_487 hw) d_Ref_doWrite_71 ln_Ref_byteAt (by decide) (by first | exact Nat.le_of_ble_eq_true rfl | (simp only [List.map_cons, List.map_nil, List.sum_cons, List.sum_nil, va_rf_cat]; exact Nat.le_of_ble_eq_true rfl)) rfl (p_Ref_byteAt hw hG hq38) ?_ (fun E h' n' x' e1 => by cases e1.1)
          intro v9 h9 n9 x9 e9
          obtain ⟨e91, e92, e93⟩ := e9
          cases e91
          subst e92
          subst e93
          clear x
          rename Bool => x
          show J _ _ _ _ (_ :: _) _ _ _ _ _ _
          obtain ⟨a39, ha39, H⟩ := Option.bind_eq_some_iff.mp H
          rw [j_rf ha39]
          obtain ⟨N40, hN40, H⟩ := Option.bind_eq_some_iff.mp H
          obtain ⟨k41, hk41, H⟩ := Option.bind_eq_some_iff.mp H
          refine F_zald k41 hw hG d_Ref_doWrite_74 (gA_some hN40) (ix_some hk41) ?_
          refine J_if_eq (tgt := 82) d_Ref_doWrite_75 (by decide) ?_ ?_
          · intro c42
            rw [if_pos c42] at H
            refine J.drop [true, true, true, true, false, true, false, true, true, false, false, false] rfl ?_
            exact p_Ref_doWrite_L82 hw hG hKc19 ih H
          · intro c42
            rw [if_neg c42] at H
            refine J.drop [true, true, true, true, false, true, false, true, true, false, false, false] rfl ?_
            exact p_Ref_doWrite_L78 hw hG hKc19 ih H
def f_Ref_doWrite_L19 (Γ : gm_T)  : Nat → ph_T → Nat → Int32 → Int32 → Int64 → Int32 → Int32 → Int32 → Option (Unit × ph_T)
  | 0, _, _, _, _, _, _, _, _ => none
  | fu + 1, φ, x0, x1, x2, x3, x5, x6, x7 =>
    if x5 ≤ x7 then
      Option.bind (f_Ref_idOf Γ φ x3) fun q46 =>
      @ite _ (Γ x0 = .inr 12) _ (
      Option.bind (q46.2.2.2 x0 80) fun a48 =>
      Option.bind (gA Γ a48 0) fun N49 =>
      Option.bind (ix (((64 : Int32) * x1) + q46.1) N49) fun k50 =>
      Option.bind (f_Ref_addressOf Γ q46.2 x3) fun q51 =>
      if (q46.2.1 a48 k50) = q51.1 then
        Option.bind (q51.2.2.2 x0 81) fun a52 =>
        Option.bind (gA Γ a52 0) fun N53 =>
        Option.bind (ix (((64 : Int32) * x1) + q46.1) N53) fun k54 =>
        Option.bind (f_Ref_sizeOf Γ q51.2 x3) fun q55 =>
        if (q51.2.1 a52 k54) = (x5 * q55.1) then
          f_Ref_doWrite_L144 Γ  q55.2 x0 x1 x2 x3 x5 x6 (((64 : Int32) * x1) + q46.1) (1 : Int32)
        else
          f_Ref_doWrite_L143 Γ  q55.2 x0 x1 x2 x3 x5 x6 (((64 : Int32) * x1) + q46.1)
      else
        f_Ref_doWrite_L143 Γ  q51.2 x0 x1 x2 x3 x5 x6 (((64 : Int32) * x1) + q46.1)
      ) none
    else
      f_Ref_doWrite_L29 Γ (f_Ref_doWrite_L19 Γ  fu) jF φ x0 x1 x2 x3 x5 x6 x7 (0 : Int32)
set_option maxRecDepth 100000 in
set_option maxHeartbeats 4000000 in
theorem p_Ref_doWrite_L19 {w : jw_T} (hw : jok w) {Γ : gm_T} {n : Nat} (hG : gd w Γ n)  : ∀ (fu : Nat) {x : Bool} {φ : ph_T} {x0 : Nat} {x1 : Int32} {x2 : Int32} {x3 : Int64} {x5 : Int32} {x6 : Int32} {x7 : Int32} {q : Unit × ph_T}, f_Ref_doWrite_L19 Γ  fu φ x0 x1 x2 x3 x5 x6 x7 = some q → J w M_Ref_doWrite 19 [some (.ref x0), some (.int x1), some (.int x2), some (.long x3), none, some (.int x5), some (.int x6), some (.int x7), none, none, none, none] [] (pic Γ φ) n x 0 0 (fq Γ n (.inl none) q.2) := by
  intro fu
  induction fu with
  | zero =>
    intro x φ x0 x1 x2 x3 x5 x6 x7 q H
    cases H
  | succ fu ih =>
    intro x φ x0 x1 x2 x3 x5 x6 x7 q H
    unfold f_Ref_doWrite_L19 at H
    refine J_iload d_Ref_doWrite_19 rfl ?_
    refine J_iload d_Ref_doWrite_21 rfl ?_
    refine J_icmp_ge (tgt := 97) d_Ref_doWrite_23 (by decide) ?_ ?_
    · intro c58
      rw [if_pos c58] at H
      refine J_bipush (v := 64) d_Ref_doWrite_97 (by decide) ?_
      refine J_iload_n d_Ref_doWrite_99 rfl ?_
      refine J_imul d_Ref_doWrite_100 ?_
      refine J_lload_n d_Ref_doWrite_101 rfl ?_
      obtain ⟨q46, hq46, H⟩ := Option.bind_eq_some_iff.mp H
      refine J_callS (kc := 0) (ks := 0) (kc' := 0) (ks' := 0) (as := [.long x3]) (st := [.int ((64 : Int32) * x1)]) (mf_Ref_idOf hw) (ms_Ref_396 hw) d_Ref_doWrite_102 ln_Ref_idOf (by decide) (by first | exact Nat.le_of_ble_eq_true rfl | (simp only [List.map_cons, List.map_nil, List.sum_cons, List.sum_nil, va_rf_cat]; exact Nat.le_of_ble_eq_true rfl)) rfl (p_Ref_idOf hw hG hq46) ?_ (fun E h' n' x' e1 => by cases e1.1)
      intro v9 h9 n9 x9 e9
      obtain ⟨e91, e92, e93⟩ := e9
      cases e91
      subst e92
      subst e93
      clear x
      rename Bool => x
      show J _ _ _ _ (_ :: _) _ _ _ _ _ _
      refine J_iadd d_Ref_doWrite_105 ?_
      refine J_istore d_Ref_doWrite_106 (Nat.le_of_ble_eq_true rfl) ?_
      refine J_aload_n d_Ref_doWrite_108 rfl ?_
      have g47 : Γ x0 = .inr 12 := by
        apply Classical.byContradiction
        intro q9
        rw [if_neg q9] at H
        cases H
      rw [if_pos g47] at H
      refine F_getR (ci := 12) (k := 80) hG (cf_Ref hw) (fl_Ref_220 hw) (by decide) (by decide) rfl d_Ref_doWrite_109 g47 ?_
      refine J_iload d_Ref_doWrite_112 rfl ?_
      obtain ⟨a48, ha48, H⟩ := Option.bind_eq_some_iff.mp H
      rw [j_rf ha48]
      obtain ⟨N49, hN49, H⟩ := Option.bind_eq_some_iff.mp H
      obtain ⟨k50, hk50, H⟩ := Option.bind_eq_some_iff.mp H
      refine F_iald k50 hw hG d_Ref_doWrite_114 (gA_some hN49) (ix_some hk50) ?_
      refine J_lload_n d_Ref_doWrite_115 rfl ?_
      obtain ⟨q51, hq51, H⟩ := Option.bind_eq_some_iff.mp H
      refine J_callS (kc := 0) (ks := 0) (kc' := 0) (ks' := 0) (as := [.long x3]) (st := [.int (q46.2.1 a48 k50)]) (mf_Ref_addressOf hw) (ms_Ref_314 hw) d_Ref_doWrite_116 ln_Ref_addressOf (by decide) (by first | exact Nat.le_of_ble_eq_true rfl | (simp only [List.map_cons, List.map_nil, List.sum_cons, List.sum_nil, va_rf_cat]; exact Nat.le_of_ble_eq_true rfl)) rfl (p_Ref_addressOf hw hG hq51) ?_ (fun E h' n' x' e1 => by cases e1.1)
      intro v9 h9 n9 x9 e9
      obtain ⟨e91, e92, e93⟩ := e9
      cases e91
      subst e92
      subst e93
      clear x
      rename Bool => x
      show J _ _ _ _ (_ :: _) _ _ _ _ _ _
      refine J_icmp_ne (tgt := 143) d_Ref_doWrite_119 (by decide) ?_ ?_
      · intro c57
        rw [if_neg c57] at H
        refine J.drop [true, true, true, true, false, true, true, true, false, false, false, false] rfl ?_
        exact p_Ref_doWrite_L143 hw hG  H
      · intro c57
        rw [if_pos c57] at H
        refine J_aload_n d_Ref_doWrite_122 rfl ?_
        refine F_getR (ci := 12) (k := 81) hG (cf_Ref hw) (fl_Ref_223 hw) (by decide) (by decide) rfl d_Ref_doWrite_123 g47 ?_
        refine J_iload d_Ref_doWrite_126 rfl ?_
        obtain ⟨a52, ha52, H⟩ := Option.bind_eq_some_iff.mp H
        rw [j_rf ha52]
        obtain ⟨N53, hN53, H⟩ := Option.bind_eq_some_iff.mp H
        obtain ⟨k54, hk54, H⟩ := Option.bind_eq_some_iff.mp H
        refine F_iald k54 hw hG d_Ref_doWrite_128 (gA_some hN53) (ix_some hk54) ?_
        refine J_iload d_Ref_doWrite_129 rfl ?_
        refine J_lload_n d_Ref_doWrite_131 rfl ?_
        obtain ⟨q55, hq55, H⟩ := Option.bind_eq_some_iff.mp H
        refine J_callS (kc := 0) (ks := 0) (kc' := 0) (ks' := 0) (as := [.long x3]) (st := [.int x5, .int (q51.2.1 a52 k54)]) (mf_Ref_sizeOf hw) (ms_Ref_318 hw) d_Ref_doWrite_132 ln_Ref_sizeOf (by decide) (by first | exact Nat.le_of_ble_eq_true rfl | (simp only [List.map_cons, List.map_nil, List.sum_cons, List.sum_nil, va_rf_cat]; exact Nat.le_of_ble_eq_true rfl)) rfl (p_Ref_sizeOf hw hG hq55) ?_ (fun E h' n' x' e1 => by cases e1.1)
        intro v9 h9 n9 x9 e9
        obtain ⟨e91, e92, e93⟩ := e9
        cases e91
        subst e92
        subst e93
        clear x
        rename Bool => x
        show J _ _ _ _ (_ :: _) _ _ _ _ _ _
        refine J_imul d_Ref_doWrite_135 ?_
        refine J_icmp_ne (tgt := 143) d_Ref_doWrite_136 (by decide) ?_ ?_
        · intro c56
          rw [if_neg c56] at H
          refine J.drop [true, true, true, true, false, true, true, true, false, false, false, false] rfl ?_
          exact p_Ref_doWrite_L143 hw hG  H
        · intro c56
          rw [if_pos c56] at H
          refine J_iconst (v := 1) d_Ref_doWrite_139 (by decide) ?_
          refine J_goto (tgt := 144) d_Ref_doWrite_140 (by decide) ?_
          refine J.drop [true, true, true, true, false, true, true, true, false, false, false, false] rfl ?_
          exact p_Ref_doWrite_L144 hw hG  H
    · intro c58
      rw [if_neg c58] at H
      refine J_iconst (v := 0) d_Ref_doWrite_26 (by decide) ?_
      refine J_istore d_Ref_doWrite_27 (Nat.le_of_ble_eq_true rfl) ?_
      refine J.drop [true, true, true, true, false, true, true, true, true, false, false, false] rfl ?_
      exact p_Ref_doWrite_L29 hw hG ih _ H
def f_Ref_doWrite (Γ : gm_T) (φ : ph_T) (this : Nat) (p0 : Int32) (p1 : Int32) : Option (Unit × ph_T) :=
  @ite _ (Γ this = .inr 12) _ (
  Option.bind (φ.2.2 this 61) fun a60 =>
  Option.bind (gA Γ a60 1) fun N61 =>
  Option.bind (ix p1 N61) fun k62 =>
  Option.bind (f_Ref_lengthOf Γ φ (φ.2.1 a60 k62)) fun q63 =>
  f_Ref_doWrite_L19 Γ  jF q63.2 this p0 p1 (φ.2.1 a60 k62) q63.1 (0 : Int32) (0 : Int32)
  ) none
set_option maxRecDepth 100000 in
set_option maxHeartbeats 4000000 in
theorem p_Ref_doWrite {w : jw_T} (hw : jok w) {Γ : gm_T} {n : Nat} (hG : gd w Γ n) {x : Bool} {φ : ph_T} {this : Nat} {p0 : Int32} {p1 : Int32} {q : Unit × ph_T} (H : f_Ref_doWrite Γ φ this p0 p1 = some q) : jc w M_Ref_doWrite [.ref this, .int p0, .int p1] (pic Γ φ) n x 0 0 (fq Γ n (.inl none) q.2) := by
  refine jc.of (by simp only [jent_r, jent_i, jent_l, jent_a, jent_0]; exact Nat.le_of_ble_eq_true rfl) ?_
  have hls : jents [.ref this, .int p0, .int p1] (jm_nL M_Ref_doWrite) = [some (.ref this), some (.int p0), some (.int p1), none, none, none, none, none, none, none, none, none] := by simp only [jents, jent_r, jent_i, jent_l, jent_a, jent_0]; rfl
  rw [hls]
  clear hls
  unfold f_Ref_doWrite at H
  refine J_aload_n d_Ref_doWrite_0 rfl ?_
  have g59 : Γ this = .inr 12 := by
    apply Classical.byContradiction
    intro q9
    rw [if_neg q9] at H
    cases H
  rw [if_pos g59] at H
  refine F_getR (ci := 12) (k := 61) hG (cf_Ref hw) (fl_Ref_163 hw) (by decide) (by decide) rfl d_Ref_doWrite_1 g59 ?_
  refine J_iload_n d_Ref_doWrite_4 rfl ?_
  obtain ⟨a60, ha60, H⟩ := Option.bind_eq_some_iff.mp H
  rw [j_rf ha60]
  obtain ⟨N61, hN61, H⟩ := Option.bind_eq_some_iff.mp H
  obtain ⟨k62, hk62, H⟩ := Option.bind_eq_some_iff.mp H
  refine F_lald k62 hw hG d_Ref_doWrite_5 (gA_some hN61) (ix_some hk62) ?_
  refine J_lstore_n d_Ref_doWrite_6 (Nat.le_of_ble_eq_true rfl) ?_
  refine J_lload_n d_Ref_doWrite_7 rfl ?_
  obtain ⟨q63, hq63, H⟩ := Option.bind_eq_some_iff.mp H
  refine J_callS (kc := 0) (ks := 0) (kc' := 0) (ks' := 0) (as := [.long (φ.2.1 a60 k62)]) (st := []) (mf_Ref_lengthOf hw) (ms_Ref_321 hw) d_Ref_doWrite_8 ln_Ref_lengthOf (by decide) (by first | exact Nat.le_of_ble_eq_true rfl | (simp only [List.map_cons, List.map_nil, List.sum_cons, List.sum_nil, va_rf_cat]; exact Nat.le_of_ble_eq_true rfl)) rfl (p_Ref_lengthOf hw hG hq63) ?_ (fun E h' n' x' e1 => by cases e1.1)
  intro v9 h9 n9 x9 e9
  obtain ⟨e91, e92, e93⟩ := e9
  cases e91
  subst e92
  subst e93
  clear x
  rename Bool => x
  show J _ _ _ _ (_ :: _) _ _ _ _ _ _
  refine J_istore d_Ref_doWrite_11 (Nat.le_of_ble_eq_true rfl) ?_
  refine J_iconst (v := 0) d_Ref_doWrite_13 (by decide) ?_
  refine J_istore d_Ref_doWrite_14 (Nat.le_of_ble_eq_true rfl) ?_
  refine J_iconst (v := 0) d_Ref_doWrite_16 (by decide) ?_
  refine J_istore d_Ref_doWrite_17 (Nat.le_of_ble_eq_true rfl) ?_
  refine J.drop [true, true, true, true, false, true, true, true, false, false, false, false] rfl ?_
  exact p_Ref_doWrite_L19 hw hG  _ H
theorem ln_Ref_beatCame : (parseMethodDescriptor y_Ref_beatCame.desc).map (fun q => q.parameters.length) = some 3 := by decide +kernel
def f_Ref_beatCame_L152 (Γ : gm_T)  (φ : ph_T) : Option (Unit × ph_T) :=
  some ((), φ)
set_option maxRecDepth 100000 in
set_option maxHeartbeats 4000000 in
theorem p_Ref_beatCame_L152 {w : jw_T} (hw : jok w) {Γ : gm_T} {n : Nat} (hG : gd w Γ n)  {x : Bool} {φ : ph_T} {q : Unit × ph_T} (H : f_Ref_beatCame_L152 Γ  φ  = some q) : J w M_Ref_beatCame 152 [none, none, none, none, none, none, none] [] (pic Γ φ) n x 0 0 (fq Γ n (.inl none) q.2) := by
  unfold f_Ref_beatCame_L152 at H
  cases H
  exact J_vret (st := []) d_Ref_beatCame_152 rfl ⟨rfl, rfl, rfl⟩
def f_Ref_beatCame_L3 (Γ : gm_T)  : Nat → ph_T → Nat → Int32 → Int64 → Int32 → Int32 → Option (Unit × ph_T)
  | 0, _, _, _, _, _, _ => none
  | fu + 1, φ, x0, x1, x2, x4, x5 =>
    @ite _ (Γ x0 = .inr 12) _ (
    Option.bind (φ.2.2 x0 59) fun a2 =>
    Option.bind (gA Γ a2 0) fun N3 =>
    Option.bind (ix (((4 : Int32) * x1) + x5) N3) fun k4 =>
    Option.bind (φ.2.2 x0 62) fun a5 =>
    Option.bind (gA Γ a5 0) fun N6 =>
    Option.bind (ix (φ.1 a2 k4) N6) fun k7 =>
    Option.bind (gA Γ a2 0) fun N8 =>
    Option.bind (ix (((4 : Int32) * x1) + x5) N8) fun k9 =>
    Option.bind (φ.2.2 x0 61) fun a10 =>
    Option.bind (gA Γ a10 1) fun N11 =>
    Option.bind (ix (φ.1 a2 k9) N11) fun k12 =>
    Option.bind (f_Ref_lengthOf Γ φ (φ.2.1 a10 k12)) fun q13 =>
    if (φ.1 a5 k7) = q13.1 then
      (f_Ref_beatCame_L3 Γ  fu) q13.2 x0 x1 x2 x4 (x5 + (1 : Int32))
    else
      Option.bind (q13.2.2.2 x0 59) fun a14 =>
      Option.bind (gA Γ a14 0) fun N15 =>
      Option.bind (ix (((4 : Int32) * x1) + x5) N15) fun k16 =>
      Option.bind (q13.2.2.2 x0 62) fun a17 =>
      Option.bind (gA Γ a17 0) fun N18 =>
      Option.bind (ix (q13.2.1 a14 k16) N18) fun k19 =>
      Option.bind (q13.2.2.2 x0 65) fun a20 =>
      Option.bind (gA Γ a20 1) fun N21 =>
      Option.bind (ix (((16 : Int32) * (q13.2.1 a14 k16)) + (q13.2.1 a17 k19)) N21) fun k22 =>
      Option.bind ((uL q13.2 a20 k22 x2).2.2 x0 62) fun a23 =>
      Option.bind (gA Γ a23 0) fun N24 =>
      Option.bind (ix (q13.2.1 a14 k16) N24) fun k25 =>
      Option.bind ((uL q13.2 a20 k22 x2).2.2 x0 66) fun a26 =>
      Option.bind (gA Γ a26 0) fun N27 =>
      Option.bind (ix (((16 : Int32) * (q13.2.1 a14 k16)) + ((uL q13.2 a20 k22 x2).1 a23 k25)) N27) fun k28 =>
      Option.bind ((uI (uL q13.2 a20 k22 x2) a26 k28 (x4 &&& (255 : Int32))).2.2 x0 62) fun a29 =>
      Option.bind (gA Γ a29 0) fun N30 =>
      Option.bind (ix (q13.2.1 a14 k16) N30) fun k31 =>
      Option.bind (gA Γ a29 0) fun N32 =>
      Option.bind (ix (q13.2.1 a14 k16) N32) fun k33 =>
      Option.bind ((uI (uI (uL q13.2 a20 k22 x2) a26 k28 (x4 &&& (255 : Int32))) a29 k33 (((uI (uL q13.2 a20 k22 x2) a26 k28 (x4 &&& (255 : Int32))).1 a29 k31) + (1 : Int32))).2.2 x0 62) fun a34 =>
      Option.bind (gA Γ a34 0) fun N35 =>
      Option.bind (ix (q13.2.1 a14 k16) N35) fun k36 =>
      Option.bind ((uI (uI (uL q13.2 a20 k22 x2) a26 k28 (x4 &&& (255 : Int32))) a29 k33 (((uI (uL q13.2 a20 k22 x2) a26 k28 (x4 &&& (255 : Int32))).1 a29 k31) + (1 : Int32))).2.2 x0 61) fun a37 =>
      Option.bind (gA Γ a37 1) fun N38 =>
      Option.bind (ix (q13.2.1 a14 k16) N38) fun k39 =>
      Option.bind (f_Ref_lengthOf Γ (uI (uI (uL q13.2 a20 k22 x2) a26 k28 (x4 &&& (255 : Int32))) a29 k33 (((uI (uL q13.2 a20 k22 x2) a26 k28 (x4 &&& (255 : Int32))).1 a29 k31) + (1 : Int32))) ((uI (uI (uL q13.2 a20 k22 x2) a26 k28 (x4 &&& (255 : Int32))) a29 k33 (((uI (uL q13.2 a20 k22 x2) a26 k28 (x4 &&& (255 : Int32))).1 a29 k31) + (1 : Int32))).2.1 a37 k39)) fun q40 =>
      if ((uI (uI (uL q13.2 a20 k22 x2) a26 k28 (x4 &&& (255 : Int32))) a29 k33 (((uI (uL q13.2 a20 k22 x2) a26 k28 (x4 &&& (255 : Int32))).1 a29 k31) + (1 : Int32))).1 a34 k36) = q40.1 then
        Option.bind (q40.2.2.2 x0 63) fun a41 =>
        Option.bind (gA Γ a41 0) fun N42 =>
        Option.bind (ix (q13.2.1 a14 k16) N42) fun k43 =>
        Option.bind (f_Ref_doWrite Γ (uI q40.2 a41 k43 (q40.2.1 x0 6)) x0 x1 (q13.2.1 a14 k16)) fun q44 =>
        f_Ref_beatCame_L152 Γ  q44.2 
      else
        f_Ref_beatCame_L152 Γ  q40.2 
    ) none
set_option maxRecDepth 100000 in
set_option maxHeartbeats 4000000 in
theorem p_Ref_beatCame_L3 {w : jw_T} (hw : jok w) {Γ : gm_T} {n : Nat} (hG : gd w Γ n)  : ∀ (fu : Nat) {x : Bool} {φ : ph_T} {x0 : Nat} {x1 : Int32} {x2 : Int64} {x4 : Int32} {x5 : Int32} {q : Unit × ph_T}, f_Ref_beatCame_L3 Γ  fu φ x0 x1 x2 x4 x5 = some q → J w M_Ref_beatCame 3 [some (.ref x0), some (.int x1), some (.long x2), none, some (.int x4), some (.int x5), none] [] (pic Γ φ) n x 0 0 (fq Γ n (.inl none) q.2) := by
  intro fu
  induction fu with
  | zero =>
    intro x φ x0 x1 x2 x4 x5 q H
    cases H
  | succ fu ih =>
    intro x φ x0 x1 x2 x4 x5 q H
    unfold f_Ref_beatCame_L3 at H
    refine J_aload_n d_Ref_beatCame_3 rfl ?_
    have g1 : Γ x0 = .inr 12 := by
      apply Classical.byContradiction
      intro q9
      rw [if_neg q9] at H
      cases H
    rw [if_pos g1] at H
    refine F_getR (ci := 12) (k := 62) hG (cf_Ref hw) (fl_Ref_166 hw) (by decide) (by decide) rfl d_Ref_beatCame_4 g1 ?_
    refine J_aload_n d_Ref_beatCame_7 rfl ?_
    refine F_getR (ci := 12) (k := 59) hG (cf_Ref hw) (fl_Ref_157 hw) (by decide) (by decide) rfl d_Ref_beatCame_8 g1 ?_
    refine J_iconst (v := 4) d_Ref_beatCame_11 (by decide) ?_
    refine J_iload_n d_Ref_beatCame_12 rfl ?_
    refine J_imul d_Ref_beatCame_13 ?_
    refine J_iload d_Ref_beatCame_14 rfl ?_
    refine J_iadd d_Ref_beatCame_16 ?_
    obtain ⟨a2, ha2, H⟩ := Option.bind_eq_some_iff.mp H
    rw [j_rf ha2]
    obtain ⟨N3, hN3, H⟩ := Option.bind_eq_some_iff.mp H
    obtain ⟨k4, hk4, H⟩ := Option.bind_eq_some_iff.mp H
    refine F_iald k4 hw hG d_Ref_beatCame_17 (gA_some hN3) (ix_some hk4) ?_
    obtain ⟨a5, ha5, H⟩ := Option.bind_eq_some_iff.mp H
    rw [j_rf ha5]
    obtain ⟨N6, hN6, H⟩ := Option.bind_eq_some_iff.mp H
    obtain ⟨k7, hk7, H⟩ := Option.bind_eq_some_iff.mp H
    refine F_iald k7 hw hG d_Ref_beatCame_18 (gA_some hN6) (ix_some hk7) ?_
    refine J_aload_n d_Ref_beatCame_19 rfl ?_
    refine F_getR (ci := 12) (k := 61) hG (cf_Ref hw) (fl_Ref_163 hw) (by decide) (by decide) rfl d_Ref_beatCame_20 g1 ?_
    refine J_aload_n d_Ref_beatCame_23 rfl ?_
    refine F_getR (ci := 12) (k := 59) hG (cf_Ref hw) (fl_Ref_157 hw) (by decide) (by decide) rfl d_Ref_beatCame_24 g1 ?_
    refine J_iconst (v := 4) d_Ref_beatCame_27 (by decide) ?_
    refine J_iload_n d_Ref_beatCame_28 rfl ?_
    refine J_imul d_Ref_beatCame_29 ?_
    refine J_iload d_Ref_beatCame_30 rfl ?_
    refine J_iadd d_Ref_beatCame_32 ?_
    try rw [j_rf ha2]
    obtain ⟨N8, hN8, H⟩ := Option.bind_eq_some_iff.mp H
    obtain ⟨k9, hk9, H⟩ := Option.bind_eq_some_iff.mp H
    refine F_iald k9 hw hG d_Ref_beatCame_33 (gA_some hN8) (ix_some hk9) ?_
    obtain ⟨a10, ha10, H⟩ := Option.bind_eq_some_iff.mp H
    rw [j_rf ha10]
    obtain ⟨N11, hN11, H⟩ := Option.bind_eq_some_iff.mp H
    obtain ⟨k12, hk12, H⟩ := Option.bind_eq_some_iff.mp H
    refine F_lald k12 hw hG d_Ref_beatCame_34 (gA_some hN11) (ix_some hk12) ?_
    obtain ⟨q13, hq13, H⟩ := Option.bind_eq_some_iff.mp H
    refine J_callS (kc := 0) (ks := 0) (kc' := 0) (ks' := 0) (as := [.long (φ.2.1 a10 k12)]) (st := [.int (φ.1 a5 k7)]) (mf_Ref_lengthOf hw) (ms_Ref_321 hw) d_Ref_beatCame_35 ln_Ref_lengthOf (by decide) (by first | exact Nat.le_of_ble_eq_true rfl | (simp only [List.map_cons, List.map_nil, List.sum_cons, List.sum_nil, va_rf_cat]; exact Nat.le_of_ble_eq_true rfl)) rfl (p_Ref_lengthOf hw hG hq13) ?_ (fun E h' n' x' e1 => by cases e1.1)
    intro v9 h9 n9 x9 e9
    obtain ⟨e91, e92, e93⟩ := e9
    cases e91
    subst e92
    subst e93
    clear x
    rename Bool => x
    show J _ _ _ _ (_ :: _) _ _ _ _ _ _
    refine J_icmp_ne (tgt := 47) d_Ref_beatCame_38 (by decide) ?_ ?_
    · intro c46
      rw [if_neg c46] at H
      refine J_aload_n d_Ref_beatCame_47 rfl ?_
      refine F_getR (ci := 12) (k := 59) hG (cf_Ref hw) (fl_Ref_157 hw) (by decide) (by decide) rfl d_Ref_beatCame_48 g1 ?_
      refine J_iconst (v := 4) d_Ref_beatCame_51 (by decide) ?_
      refine J_iload_n d_Ref_beatCame_52 rfl ?_
      refine J_imul d_Ref_beatCame_53 ?_
      refine J_iload d_Ref_beatCame_54 rfl ?_
      refine J_iadd d_Ref_beatCame_56 ?_
      obtain ⟨a14, ha14, H⟩ := Option.bind_eq_some_iff.mp H
      rw [j_rf ha14]
      obtain ⟨N15, hN15, H⟩ := Option.bind_eq_some_iff.mp H
      obtain ⟨k16, hk16, H⟩ := Option.bind_eq_some_iff.mp H
      refine F_iald k16 hw hG d_Ref_beatCame_57 (gA_some hN15) (ix_some hk16) ?_
      refine J_istore d_Ref_beatCame_58 (Nat.le_of_ble_eq_true rfl) ?_
      refine J_aload_n d_Ref_beatCame_60 rfl ?_
      refine F_getR (ci := 12) (k := 65) hG (cf_Ref hw) (fl_Ref_175 hw) (by decide) (by decide) rfl d_Ref_beatCame_61 g1 ?_
      refine J_bipush (v := 16) d_Ref_beatCame_64 (by decide) ?_
      refine J_iload d_Ref_beatCame_66 rfl ?_
      refine J_imul d_Ref_beatCame_68 ?_
      refine J_aload_n d_Ref_beatCame_69 rfl ?_
      refine F_getR (ci := 12) (k := 62) hG (cf_Ref hw) (fl_Ref_166 hw) (by decide) (by decide) rfl d_Ref_beatCame_70 g1 ?_
      refine J_iload d_Ref_beatCame_73 rfl ?_
      obtain ⟨a17, ha17, H⟩ := Option.bind_eq_some_iff.mp H
      rw [j_rf ha17]
      obtain ⟨N18, hN18, H⟩ := Option.bind_eq_some_iff.mp H
      obtain ⟨k19, hk19, H⟩ := Option.bind_eq_some_iff.mp H
      refine F_iald k19 hw hG d_Ref_beatCame_75 (gA_some hN18) (ix_some hk19) ?_
      refine J_iadd d_Ref_beatCame_76 ?_
      refine J_lload_n d_Ref_beatCame_77 rfl ?_
      obtain ⟨a20, ha20, H⟩ := Option.bind_eq_some_iff.mp H
      rw [j_rf ha20]
      obtain ⟨N21, hN21, H⟩ := Option.bind_eq_some_iff.mp H
      obtain ⟨k22, hk22, H⟩ := Option.bind_eq_some_iff.mp H
      refine F_last k22 hw hG d_Ref_beatCame_78 (gA_some hN21) (ix_some hk22) ?_
      refine J_aload_n d_Ref_beatCame_79 rfl ?_
      refine F_getR (ci := 12) (k := 66) hG (cf_Ref hw) (fl_Ref_178 hw) (by decide) (by decide) rfl d_Ref_beatCame_80 g1 ?_
      refine J_bipush (v := 16) d_Ref_beatCame_83 (by decide) ?_
      refine J_iload d_Ref_beatCame_85 rfl ?_
      refine J_imul d_Ref_beatCame_87 ?_
      refine J_aload_n d_Ref_beatCame_88 rfl ?_
      refine F_getR (ci := 12) (k := 62) hG (cf_Ref hw) (fl_Ref_166 hw) (by decide) (by decide) rfl d_Ref_beatCame_89 g1 ?_
      refine J_iload d_Ref_beatCame_92 rfl ?_
      obtain ⟨a23, ha23, H⟩ := Option.bind_eq_some_iff.mp H
      rw [j_rf ha23]
      obtain ⟨N24, hN24, H⟩ := Option.bind_eq_some_iff.mp H
      obtain ⟨k25, hk25, H⟩ := Option.bind_eq_some_iff.mp H
      refine F_iald k25 hw hG d_Ref_beatCame_94 (gA_some hN24) (ix_some hk25) ?_
      refine J_iadd d_Ref_beatCame_95 ?_
      refine J_iload d_Ref_beatCame_96 rfl ?_
      refine J_sipush (v := 255) d_Ref_beatCame_98 (by decide) ?_
      refine J_iand d_Ref_beatCame_101 ?_
      obtain ⟨a26, ha26, H⟩ := Option.bind_eq_some_iff.mp H
      rw [j_rf ha26]
      obtain ⟨N27, hN27, H⟩ := Option.bind_eq_some_iff.mp H
      obtain ⟨k28, hk28, H⟩ := Option.bind_eq_some_iff.mp H
      refine F_iast k28 hw hG d_Ref_beatCame_102 (gA_some hN27) (ix_some hk28) ?_
      refine J_aload_n d_Ref_beatCame_103 rfl ?_
      refine F_getR (ci := 12) (k := 62) hG (cf_Ref hw) (fl_Ref_166 hw) (by decide) (by decide) rfl d_Ref_beatCame_104 g1 ?_
      refine J_iload d_Ref_beatCame_107 rfl ?_
      refine J_dup2 d_Ref_beatCame_109 rfl (va_rf_cat _) ?_
      obtain ⟨a29, ha29, H⟩ := Option.bind_eq_some_iff.mp H
      rw [j_rf ha29]
      obtain ⟨N30, hN30, H⟩ := Option.bind_eq_some_iff.mp H
      obtain ⟨k31, hk31, H⟩ := Option.bind_eq_some_iff.mp H
      refine F_iald k31 hw hG d_Ref_beatCame_110 (gA_some hN30) (ix_some hk31) ?_
      refine J_iconst (v := 1) d_Ref_beatCame_111 (by decide) ?_
      refine J_iadd d_Ref_beatCame_112 ?_
      obtain ⟨N32, hN32, H⟩ := Option.bind_eq_some_iff.mp H
      obtain ⟨k33, hk33, H⟩ := Option.bind_eq_some_iff.mp H
      refine F_iast k33 hw hG d_Ref_beatCame_113 (gA_some hN32) (ix_some hk33) ?_
      refine J_aload_n d_Ref_beatCame_114 rfl ?_
      refine F_getR (ci := 12) (k := 62) hG (cf_Ref hw) (fl_Ref_166 hw) (by decide) (by decide) rfl d_Ref_beatCame_115 g1 ?_
      refine J_iload d_Ref_beatCame_118 rfl ?_
      obtain ⟨a34, ha34, H⟩ := Option.bind_eq_some_iff.mp H
      rw [j_rf ha34]
      obtain ⟨N35, hN35, H⟩ := Option.bind_eq_some_iff.mp H
      obtain ⟨k36, hk36, H⟩ := Option.bind_eq_some_iff.mp H
      refine F_iald k36 hw hG d_Ref_beatCame_120 (gA_some hN35) (ix_some hk36) ?_
      refine J_aload_n d_Ref_beatCame_121 rfl ?_
      refine F_getR (ci := 12) (k := 61) hG (cf_Ref hw) (fl_Ref_163 hw) (by decide) (by decide) rfl d_Ref_beatCame_122 g1 ?_
      refine J_iload d_Ref_beatCame_125 rfl ?_
      obtain ⟨a37, ha37, H⟩ := Option.bind_eq_some_iff.mp H
      rw [j_rf ha37]
      obtain ⟨N38, hN38, H⟩ := Option.bind_eq_some_iff.mp H
      obtain ⟨k39, hk39, H⟩ := Option.bind_eq_some_iff.mp H
      refine F_lald k39 hw hG d_Ref_beatCame_127 (gA_some hN38) (ix_some hk39) ?_
      obtain ⟨q40, hq40, H⟩ := Option.bind_eq_some_iff.mp H
      refine J_callS (kc := 0) (ks := 0) (kc' := 0) (ks' := 0) (as := [.long ((uI (uI (uL q13.2 a20 k22 x2) a26 k28 (x4 &&& (255 : Int32))) a29 k33 (((uI (uL q13.2 a20 k22 x2) a26 k28 (x4 &&& (255 : Int32))).1 a29 k31) + (1 : Int32))).2.1 a37 k39)]) (st := [.int ((uI (uI (uL q13.2 a20 k22 x2) a26 k28 (x4 &&& (255 : Int32))) a29 k33 (((uI (uL q13.2 a20 k22 x2) a26 k28 (x4 &&& (255 : Int32))).1 a29 k31) + (1 : Int32))).1 a34 k36)]) (mf_Ref_lengthOf hw) (ms_Ref_321 hw) d_Ref_beatCame_128 ln_Ref_lengthOf (by decide) (by first | exact Nat.le_of_ble_eq_true rfl | (simp only [List.map_cons, List.map_nil, List.sum_cons, List.sum_nil, va_rf_cat]; exact Nat.le_of_ble_eq_true rfl)) rfl (p_Ref_lengthOf hw hG hq40) ?_ (fun E h' n' x' e1 => by cases e1.1)
      intro v9 h9 n9 x9 e9
      obtain ⟨e91, e92, e93⟩ := e9
      cases e91
      subst e92
      subst e93
      clear x
      rename Bool => x
      show J _ _ _ _ (_ :: _) _ _ _ _ _ _
      refine J_icmp_ne (tgt := 152) d_Ref_beatCame_131 (by decide) ?_ ?_
      · intro c45
        rw [if_neg c45] at H
        refine J.drop [false, false, false, false, false, false, false] rfl ?_
        exact p_Ref_beatCame_L152 hw hG  H
      · intro c45
        rw [if_pos c45] at H
        refine J_aload_n d_Ref_beatCame_134 rfl ?_
        refine F_getR (ci := 12) (k := 63) hG (cf_Ref hw) (fl_Ref_169 hw) (by decide) (by decide) rfl d_Ref_beatCame_135 g1 ?_
        refine J_iload d_Ref_beatCame_138 rfl ?_
        refine J_aload_n d_Ref_beatCame_140 rfl ?_
        refine F_getI (ci := 12) (k := 6) hG (cf_Ref hw) (fl_Ref_348 hw) (by decide) (by decide) rfl d_Ref_beatCame_141 g1 ?_
        obtain ⟨a41, ha41, H⟩ := Option.bind_eq_some_iff.mp H
        rw [j_rf ha41]
        obtain ⟨N42, hN42, H⟩ := Option.bind_eq_some_iff.mp H
        obtain ⟨k43, hk43, H⟩ := Option.bind_eq_some_iff.mp H
        refine F_iast k43 hw hG d_Ref_beatCame_144 (gA_some hN42) (ix_some hk43) ?_
        refine J_aload_n d_Ref_beatCame_145 rfl ?_
        refine J_iload_n d_Ref_beatCame_146 rfl ?_
        refine J_iload d_Ref_beatCame_147 rfl ?_
        obtain ⟨q44, hq44, H⟩ := Option.bind_eq_some_iff.mp H
        refine J_callV (kc := 0) (ks := 0) (kc' := 0) (ks' := 0) (a := x0) (ci := 12) (as := [.int x1, .int (q13.2.1 a14 k16)]) (st := []) (mf_Ref_doWrite hw) (mv_Ref_484 hw) d_Ref_beatCame_149 ln_Ref_doWrite (by decide) (by first | exact Nat.le_of_ble_eq_true rfl | (simp only [List.map_cons, List.map_nil, List.sum_cons, List.sum_nil, va_rf_cat]; exact Nat.le_of_ble_eq_true rfl)) rfl ((hG _).1 _ g1 (by decide)).1 ((hG _).1 _ g1 (by decide)).2 (by unfold pic; rw [g1]; rfl) (jcl_at hw rfl) rfl (p_Ref_doWrite hw hG hq44) ?_ (fun E h' n' x' e1 => by cases e1.1)
        intro v9 h9 n9 x9 e9
        obtain ⟨e91, e92, e93⟩ := e9
        cases e91
        subst e92
        subst e93
        clear x
        rename Bool => x
        show J _ _ _ _ [] _ _ _ _ _ _
        refine J.drop [false, false, false, false, false, false, false] rfl ?_
        exact p_Ref_beatCame_L152 hw hG  H
    · intro c46
      rw [if_pos c46] at H
      refine J_iinc (v := x5 + 1) d_Ref_beatCame_41 rfl (by rw [show Int32.ofInt 1 = (1 : Int32) from by decide]) ?_
      refine J_goto (tgt := 3) d_Ref_beatCame_44 (by decide) ?_
      refine J.drop [true, true, true, false, true, true, false] rfl ?_
      exact ih H
def f_Ref_beatCame (Γ : gm_T) (φ : ph_T) (this : Nat) (p0 : Int32) (p1 : Int64) (p2 : Int32) : Option (Unit × ph_T) :=
  f_Ref_beatCame_L3 Γ  jF φ this p0 p1 p2 (0 : Int32)
set_option maxRecDepth 100000 in
set_option maxHeartbeats 4000000 in
theorem p_Ref_beatCame {w : jw_T} (hw : jok w) {Γ : gm_T} {n : Nat} (hG : gd w Γ n) {x : Bool} {φ : ph_T} {this : Nat} {p0 : Int32} {p1 : Int64} {p2 : Int32} {q : Unit × ph_T} (H : f_Ref_beatCame Γ φ this p0 p1 p2 = some q) : jc w M_Ref_beatCame [.ref this, .int p0, .long p1, .int p2] (pic Γ φ) n x 0 0 (fq Γ n (.inl none) q.2) := by
  refine jc.of (by simp only [jent_r, jent_i, jent_l, jent_a, jent_0]; exact Nat.le_of_ble_eq_true rfl) ?_
  have hls : jents [.ref this, .int p0, .long p1, .int p2] (jm_nL M_Ref_beatCame) = [some (.ref this), some (.int p0), some (.long p1), none, some (.int p2), none, none] := by simp only [jents, jent_r, jent_i, jent_l, jent_a, jent_0]; rfl
  rw [hls]
  clear hls
  unfold f_Ref_beatCame at H
  refine J_iconst (v := 0) d_Ref_beatCame_0 (by decide) ?_
  refine J_istore d_Ref_beatCame_1 (Nat.le_of_ble_eq_true rfl) ?_
  refine J.drop [true, true, true, false, true, true, false] rfl ?_
  exact p_Ref_beatCame_L3 hw hG  _ H
theorem ln_Ref_isSpoilt : (parseMethodDescriptor y_Ref_isSpoilt.desc).map (fun q => q.parameters.length) = some 2 := by decide +kernel
def f_Ref_isSpoilt_L56 (Γ : gm_T) (Kc20 : ph_T → Nat → Int32 → Int32 → Int32 → Int32 → Option (Int32 × ph_T)) (φ : ph_T) (x0 : Nat) (x4 : Int32) (x5 : Int32) (x7 : Int32) (y0 : Int32) : Option (Int32 × ph_T) :=
  Kc20 φ x0 x4 x5 y0 (x7 + (1 : Int32))
set_option maxRecDepth 100000 in
set_option maxHeartbeats 4000000 in
theorem p_Ref_isSpoilt_L56 {w : jw_T} (hw : jok w) {Γ : gm_T} {n : Nat} (hG : gd w Γ n) {Kc20 : ph_T → Nat → Int32 → Int32 → Int32 → Int32 → Option (Int32 × ph_T)} (hKc20 : ∀ {x : Bool} {φ : ph_T} {x0 : Nat} {x4 : Int32} {x5 : Int32} {x6 : Int32} {x7 : Int32} {q : Int32 × ph_T}, Kc20 φ x0 x4 x5 x6 x7 = some q → J w M_Ref_isSpoilt 20 [some (.ref x0), none, none, none, some (.int x4), some (.int x5), some (.int x6), some (.int x7)] [] (pic Γ φ) n x 0 0 (fq Γ n (.inl (some (.int q.1))) q.2)) {x : Bool} {φ : ph_T} {x0 : Nat} {x4 : Int32} {x5 : Int32} {x7 : Int32} {y0 : Int32} {q : Int32 × ph_T} (H : f_Ref_isSpoilt_L56 Γ Kc20 φ x0 x4 x5 x7 y0 = some q) : J w M_Ref_isSpoilt 56 [some (.ref x0), none, none, none, some (.int x4), some (.int x5), none, some (.int x7)] [.int y0] (pic Γ φ) n x 0 0 (fq Γ n (.inl (some (.int q.1))) q.2) := by
  unfold f_Ref_isSpoilt_L56 at H
  refine J_istore d_Ref_isSpoilt_56 (Nat.le_of_ble_eq_true rfl) ?_
  refine J_iinc (v := x7 + 1) d_Ref_isSpoilt_58 rfl (by rw [show Int32.ofInt 1 = (1 : Int32) from by decide]) ?_
  refine J_goto (tgt := 20) d_Ref_isSpoilt_61 (by decide) ?_
  refine J.drop [true, false, false, false, true, true, true, true] rfl ?_
  exact hKc20 H
def f_Ref_isSpoilt_L51 (Γ : gm_T) (Kc20 : ph_T → Nat → Int32 → Int32 → Int32 → Int32 → Option (Int32 × ph_T)) (φ : ph_T) (x0 : Nat) (x4 : Int32) (x5 : Int32) (x7 : Int32) : Option (Int32 × ph_T) :=
  f_Ref_isSpoilt_L56 Γ Kc20 φ x0 x4 x5 x7 (1 : Int32)
set_option maxRecDepth 100000 in
set_option maxHeartbeats 4000000 in
theorem p_Ref_isSpoilt_L51 {w : jw_T} (hw : jok w) {Γ : gm_T} {n : Nat} (hG : gd w Γ n) {Kc20 : ph_T → Nat → Int32 → Int32 → Int32 → Int32 → Option (Int32 × ph_T)} (hKc20 : ∀ {x : Bool} {φ : ph_T} {x0 : Nat} {x4 : Int32} {x5 : Int32} {x6 : Int32} {x7 : Int32} {q : Int32 × ph_T}, Kc20 φ x0 x4 x5 x6 x7 = some q → J w M_Ref_isSpoilt 20 [some (.ref x0), none, none, none, some (.int x4), some (.int x5), some (.int x6), some (.int x7)] [] (pic Γ φ) n x 0 0 (fq Γ n (.inl (some (.int q.1))) q.2)) {x : Bool} {φ : ph_T} {x0 : Nat} {x4 : Int32} {x5 : Int32} {x7 : Int32} {q : Int32 × ph_T} (H : f_Ref_isSpoilt_L51 Γ Kc20 φ x0 x4 x5 x7 = some q) : J w M_Ref_isSpoilt 51 [some (.ref x0), none, none, none, some (.int x4), some (.int x5), none, some (.int x7)] [] (pic Γ φ) n x 0 0 (fq Γ n (.inl (some (.int q.1))) q.2) := by
  unfold f_Ref_isSpoilt_L51 at H
  refine J_iconst (v := 1) d_Ref_isSpoilt_51 (by decide) ?_
  refine J_goto (tgt := 56) d_Ref_isSpoilt_52 (by decide) ?_
  refine J.drop [true, false, false, false, true, true, false, true] rfl ?_
  exact p_Ref_isSpoilt_L56 hw hG hKc20 H
def f_Ref_isSpoilt_L20 (Γ : gm_T)  : Nat → ph_T → Nat → Int32 → Int32 → Int32 → Int32 → Option (Int32 × ph_T)
  | 0, _, _, _, _, _, _ => none
  | fu + 1, φ, x0, x4, x5, x6, x7 =>
    @ite _ (x5 = 0) _ none (
    if ((x4 - (x4 - x4 / x5 * x5)) + x5) ≤ x7 then
      @ite _ (x6 = 0 ∨ x6 = 1) _ (
      some (x6, φ)
      ) none
    else
      if x6 = 0 then
        @ite _ (Γ x0 = .inr 12) _ (
        Option.bind (φ.2.2 x0 14) fun a5 =>
        Option.bind (gA Γ a5 2) fun N6 =>
        Option.bind (ix x7 N6) fun k7 =>
        if (φ.1 a5 k7) = 0 then
          f_Ref_isSpoilt_L56 Γ (f_Ref_isSpoilt_L20 Γ  fu) φ x0 x4 x5 x7 (0 : Int32)
        else
          f_Ref_isSpoilt_L51 Γ (f_Ref_isSpoilt_L20 Γ  fu) φ x0 x4 x5 x7
        ) none
      else
        f_Ref_isSpoilt_L51 Γ (f_Ref_isSpoilt_L20 Γ  fu) φ x0 x4 x5 x7
    )
set_option maxRecDepth 100000 in
set_option maxHeartbeats 4000000 in
theorem p_Ref_isSpoilt_L20 {w : jw_T} (hw : jok w) {Γ : gm_T} {n : Nat} (hG : gd w Γ n)  : ∀ (fu : Nat) {x : Bool} {φ : ph_T} {x0 : Nat} {x4 : Int32} {x5 : Int32} {x6 : Int32} {x7 : Int32} {q : Int32 × ph_T}, f_Ref_isSpoilt_L20 Γ  fu φ x0 x4 x5 x6 x7 = some q → J w M_Ref_isSpoilt 20 [some (.ref x0), none, none, none, some (.int x4), some (.int x5), some (.int x6), some (.int x7)] [] (pic Γ φ) n x 0 0 (fq Γ n (.inl (some (.int q.1))) q.2) := by
  intro fu
  induction fu with
  | zero =>
    intro x φ x0 x4 x5 x6 x7 q H
    cases H
  | succ fu ih =>
    intro x φ x0 x4 x5 x6 x7 q H
    unfold f_Ref_isSpoilt_L20 at H
    refine J_iload d_Ref_isSpoilt_20 rfl ?_
    refine J_iload d_Ref_isSpoilt_22 rfl ?_
    refine J_iload d_Ref_isSpoilt_24 rfl ?_
    refine J_iload d_Ref_isSpoilt_26 rfl ?_
    have h2 : ¬ x5 = 0 := by
      intro q9
      rw [if_pos q9] at H
      cases H
    rw [if_neg h2] at H
    refine J_irem d_Ref_isSpoilt_28 h2 ?_
    refine J_isub d_Ref_isSpoilt_29 ?_
    refine J_iload d_Ref_isSpoilt_30 rfl ?_
    refine J_iadd d_Ref_isSpoilt_32 ?_
    refine J_icmp_ge (tgt := 64) d_Ref_isSpoilt_33 (by decide) ?_ ?_
    · intro c10
      rw [if_pos c10] at H
      refine J_iload d_Ref_isSpoilt_64 rfl ?_
      have z3 : x6 = 0 ∨ x6 = 1 := by
        apply Classical.byContradiction
        intro q9
        rw [if_neg q9] at H
        cases H
      rw [if_pos z3] at H
      cases H
      exact J_iret (st := []) d_Ref_isSpoilt_66 rfl (narrow_z z3).1 ⟨rfl, rfl, rfl⟩
    · intro c10
      rw [if_neg c10] at H
      refine J_iload d_Ref_isSpoilt_36 rfl ?_
      refine J_if_ne (tgt := 51) d_Ref_isSpoilt_38 (by decide) ?_ ?_
      · intro c9
        rw [if_neg c9] at H
        refine J.drop [true, false, false, false, true, true, false, true] rfl ?_
        exact p_Ref_isSpoilt_L51 hw hG ih H
      · intro c9
        rw [if_pos c9] at H
        refine J_aload_n d_Ref_isSpoilt_41 rfl ?_
        have g4 : Γ x0 = .inr 12 := by
          apply Classical.byContradiction
          intro q9
          rw [if_neg q9] at H
          cases H
        rw [if_pos g4] at H
        refine F_getR (ci := 12) (k := 14) hG (cf_Ref hw) (fl_Ref_33 hw) (by decide) (by decide) rfl d_Ref_isSpoilt_42 g4 ?_
        refine J_iload d_Ref_isSpoilt_45 rfl ?_
        obtain ⟨a5, ha5, H⟩ := Option.bind_eq_some_iff.mp H
        rw [j_rf ha5]
        obtain ⟨N6, hN6, H⟩ := Option.bind_eq_some_iff.mp H
        obtain ⟨k7, hk7, H⟩ := Option.bind_eq_some_iff.mp H
        refine F_zald k7 hw hG d_Ref_isSpoilt_47 (gA_some hN6) (ix_some hk7) ?_
        refine J_if_eq (tgt := 55) d_Ref_isSpoilt_48 (by decide) ?_ ?_
        · intro c8
          rw [if_pos c8] at H
          refine J_iconst (v := 0) d_Ref_isSpoilt_55 (by decide) ?_
          refine J.drop [true, false, false, false, true, true, false, true] rfl ?_
          exact p_Ref_isSpoilt_L56 hw hG ih H
        · intro c8
          rw [if_neg c8] at H
          refine J.drop [true, false, false, false, true, true, false, true] rfl ?_
          exact p_Ref_isSpoilt_L51 hw hG ih H
def f_Ref_isSpoilt (Γ : gm_T) (φ : ph_T) (this : Nat) (p0 : Int64) (p1 : Int32) : Option (Int32 × ph_T) :=
  Option.bind (f_Ref_beatAt Γ φ p0 p1) fun q11 =>
  Option.bind (f_Ref_sizeOf Γ q11.2 p0) fun q12 =>
  f_Ref_isSpoilt_L20 Γ  jF q12.2 this q11.1 q12.1 (0 : Int32) q11.1
set_option maxRecDepth 100000 in
set_option maxHeartbeats 4000000 in
theorem p_Ref_isSpoilt {w : jw_T} (hw : jok w) {Γ : gm_T} {n : Nat} (hG : gd w Γ n) {x : Bool} {φ : ph_T} {this : Nat} {p0 : Int64} {p1 : Int32} {q : Int32 × ph_T} (H : f_Ref_isSpoilt Γ φ this p0 p1 = some q) : jc w M_Ref_isSpoilt [.ref this, .long p0, .int p1] (pic Γ φ) n x 0 0 (fq Γ n (.inl (some (.int q.1))) q.2) := by
  refine jc.of (by simp only [jent_r, jent_i, jent_l, jent_a, jent_0]; exact Nat.le_of_ble_eq_true rfl) ?_
  have hls : jents [.ref this, .long p0, .int p1] (jm_nL M_Ref_isSpoilt) = [some (.ref this), some (.long p0), none, some (.int p1), none, none, none, none] := by simp only [jents, jent_r, jent_i, jent_l, jent_a, jent_0]; rfl
  rw [hls]
  clear hls
  unfold f_Ref_isSpoilt at H
  refine J_lload_n d_Ref_isSpoilt_0 rfl ?_
  refine J_iload_n d_Ref_isSpoilt_1 rfl ?_
  obtain ⟨q11, hq11, H⟩ := Option.bind_eq_some_iff.mp H
  refine J_callS (kc := 0) (ks := 0) (kc' := 0) (ks' := 0) (as := [.long p0, .int p1]) (st := []) (mf_Ref_beatAt hw) (ms_Ref_366 hw) d_Ref_isSpoilt_2 ln_Ref_beatAt (by decide) (by first | exact Nat.le_of_ble_eq_true rfl | (simp only [List.map_cons, List.map_nil, List.sum_cons, List.sum_nil, va_rf_cat]; exact Nat.le_of_ble_eq_true rfl)) rfl (p_Ref_beatAt hw hG hq11) ?_ (fun E h' n' x' e1 => by cases e1.1)
  intro v9 h9 n9 x9 e9
  obtain ⟨e91, e92, e93⟩ := e9
  cases e91
  subst e92
  subst e93
  clear x
  rename Bool => x
  show J _ _ _ _ (_ :: _) _ _ _ _ _ _
  refine J_istore d_Ref_isSpoilt_5 (Nat.le_of_ble_eq_true rfl) ?_
  refine J_lload_n d_Ref_isSpoilt_7 rfl ?_
  obtain ⟨q12, hq12, H⟩ := Option.bind_eq_some_iff.mp H
  refine J_callS (kc := 0) (ks := 0) (kc' := 0) (ks' := 0) (as := [.long p0]) (st := []) (mf_Ref_sizeOf hw) (ms_Ref_318 hw) d_Ref_isSpoilt_8 ln_Ref_sizeOf (by decide) (by first | exact Nat.le_of_ble_eq_true rfl | (simp only [List.map_cons, List.map_nil, List.sum_cons, List.sum_nil, va_rf_cat]; exact Nat.le_of_ble_eq_true rfl)) rfl (p_Ref_sizeOf hw hG hq12) ?_ (fun E h' n' x' e1 => by cases e1.1)
  intro v9 h9 n9 x9 e9
  obtain ⟨e91, e92, e93⟩ := e9
  cases e91
  subst e92
  subst e93
  clear x
  rename Bool => x
  show J _ _ _ _ (_ :: _) _ _ _ _ _ _
  refine J_istore d_Ref_isSpoilt_11 (Nat.le_of_ble_eq_true rfl) ?_
  refine J_iconst (v := 0) d_Ref_isSpoilt_13 (by decide) ?_
  refine J_istore d_Ref_isSpoilt_14 (Nat.le_of_ble_eq_true rfl) ?_
  refine J_iload d_Ref_isSpoilt_16 rfl ?_
  refine J_istore d_Ref_isSpoilt_18 (Nat.le_of_ble_eq_true rfl) ?_
  refine J.drop [true, false, false, false, true, true, true, true] rfl ?_
  exact p_Ref_isSpoilt_L20 hw hG  _ H
theorem ln_Ref_readComes : (parseMethodDescriptor y_Ref_readComes.desc).map (fun q => q.parameters.length) = some 2 := by decide +kernel
def f_Ref_readComes_L314 (Γ : gm_T)  (φ : ph_T) : Option (Unit × ph_T) :=
  some ((), φ)
set_option maxRecDepth 100000 in
set_option maxHeartbeats 4000000 in
theorem p_Ref_readComes_L314 {w : jw_T} (hw : jok w) {Γ : gm_T} {n : Nat} (hG : gd w Γ n)  {x : Bool} {φ : ph_T} {q : Unit × ph_T} (H : f_Ref_readComes_L314 Γ  φ  = some q) : J w M_Ref_readComes 314 [none, none, none, none, none, none, none, none, none, none, none, none, none] [] (pic Γ φ) n x 0 0 (fq Γ n (.inl none) q.2) := by
  unfold f_Ref_readComes_L314 at H
  cases H
  exact J_vret (st := []) d_Ref_readComes_314 rfl ⟨rfl, rfl, rfl⟩
def f_Ref_readComes_L253 (Γ : gm_T) (Kc101 : ph_T → Nat → Int32 → Int64 → Int32 → Int32 → Int32 → Option (Unit × ph_T)) (φ : ph_T) (x0 : Nat) (x1 : Int32) (x2 : Int64) (x4 : Int32) (x6 : Int32) (y0 : Int32) : Option (Unit × ph_T) :=
  Kc101 φ x0 x1 x2 x4 y0 (x6 + (1 : Int32))
set_option maxRecDepth 100000 in
set_option maxHeartbeats 4000000 in
theorem p_Ref_readComes_L253 {w : jw_T} (hw : jok w) {Γ : gm_T} {n : Nat} (hG : gd w Γ n) {Kc101 : ph_T → Nat → Int32 → Int64 → Int32 → Int32 → Int32 → Option (Unit × ph_T)} (hKc101 : ∀ {x : Bool} {φ : ph_T} {x0 : Nat} {x1 : Int32} {x2 : Int64} {x4 : Int32} {x5 : Int32} {x6 : Int32} {q : Unit × ph_T}, Kc101 φ x0 x1 x2 x4 x5 x6 = some q → J w M_Ref_readComes 101 [some (.ref x0), some (.int x1), some (.long x2), none, some (.int x4), some (.int x5), some (.int x6), none, none, none, none, none, none] [] (pic Γ φ) n x 0 0 (fq Γ n (.inl none) q.2)) {x : Bool} {φ : ph_T} {x0 : Nat} {x1 : Int32} {x2 : Int64} {x4 : Int32} {x6 : Int32} {y0 : Int32} {q : Unit × ph_T} (H : f_Ref_readComes_L253 Γ Kc101 φ x0 x1 x2 x4 x6 y0 = some q) : J w M_Ref_readComes 253 [some (.ref x0), some (.int x1), some (.long x2), none, some (.int x4), none, some (.int x6), none, none, none, none, none, none] [.int y0] (pic Γ φ) n x 0 0 (fq Γ n (.inl none) q.2) := by
  unfold f_Ref_readComes_L253 at H
  refine J_istore d_Ref_readComes_253 (Nat.le_of_ble_eq_true rfl) ?_
  refine J_iinc (v := x6 + 1) d_Ref_readComes_255 rfl (by rw [show Int32.ofInt 1 = (1 : Int32) from by decide]) ?_
  refine J_goto (tgt := 101) d_Ref_readComes_258 (by decide) ?_
  refine J.drop [true, true, true, false, true, true, true, false, false, false, false, false, false] rfl ?_
  exact hKc101 H
def f_Ref_readComes_L252 (Γ : gm_T) (Kc101 : ph_T → Nat → Int32 → Int64 → Int32 → Int32 → Int32 → Option (Unit × ph_T)) (φ : ph_T) (x0 : Nat) (x1 : Int32) (x2 : Int64) (x4 : Int32) (x6 : Int32) : Option (Unit × ph_T) :=
  f_Ref_readComes_L253 Γ Kc101 φ x0 x1 x2 x4 x6 (0 : Int32)
set_option maxRecDepth 100000 in
set_option maxHeartbeats 4000000 in
theorem p_Ref_readComes_L252 {w : jw_T} (hw : jok w) {Γ : gm_T} {n : Nat} (hG : gd w Γ n) {Kc101 : ph_T → Nat → Int32 → Int64 → Int32 → Int32 → Int32 → Option (Unit × ph_T)} (hKc101 : ∀ {x : Bool} {φ : ph_T} {x0 : Nat} {x1 : Int32} {x2 : Int64} {x4 : Int32} {x5 : Int32} {x6 : Int32} {q : Unit × ph_T}, Kc101 φ x0 x1 x2 x4 x5 x6 = some q → J w M_Ref_readComes 101 [some (.ref x0), some (.int x1), some (.long x2), none, some (.int x4), some (.int x5), some (.int x6), none, none, none, none, none, none] [] (pic Γ φ) n x 0 0 (fq Γ n (.inl none) q.2)) {x : Bool} {φ : ph_T} {x0 : Nat} {x1 : Int32} {x2 : Int64} {x4 : Int32} {x6 : Int32} {q : Unit × ph_T} (H : f_Ref_readComes_L252 Γ Kc101 φ x0 x1 x2 x4 x6 = some q) : J w M_Ref_readComes 252 [some (.ref x0), some (.int x1), some (.long x2), none, some (.int x4), none, some (.int x6), none, none, none, none, none, none] [] (pic Γ φ) n x 0 0 (fq Γ n (.inl none) q.2) := by
  unfold f_Ref_readComes_L252 at H
  refine J_iconst (v := 0) d_Ref_readComes_252 (by decide) ?_
  refine J.drop [true, true, true, false, true, false, true, false, false, false, false, false, false] rfl ?_
  exact p_Ref_readComes_L253 hw hG hKc101 H
def f_Ref_readComes_L237 (Γ : gm_T) (Kc101 : ph_T → Nat → Int32 → Int64 → Int32 → Int32 → Int32 → Option (Unit × ph_T)) (φ : ph_T) (x0 : Nat) (x1 : Int32) (x2 : Int64) (x4 : Int32) (x5 : Int32) (x6 : Int32) (x7 : Int32) (y0 : Int32) (y1 : Int32) (y2 : Option Nat) : Option (Unit × ph_T) :=
  Option.bind y2 fun a3 =>
  Option.bind (gA Γ a3 0) fun N4 =>
  Option.bind (ix y1 N4) fun k5 =>
  if x5 = 0 then
    f_Ref_readComes_L252 Γ Kc101 (uI φ a3 k5 y0) x0 x1 x2 x4 x6
  else
    if x7 = 0 then
      f_Ref_readComes_L253 Γ Kc101 (uI φ a3 k5 y0) x0 x1 x2 x4 x6 (1 : Int32)
    else
      f_Ref_readComes_L252 Γ Kc101 (uI φ a3 k5 y0) x0 x1 x2 x4 x6
set_option maxRecDepth 100000 in
set_option maxHeartbeats 4000000 in
theorem p_Ref_readComes_L237 {w : jw_T} (hw : jok w) {Γ : gm_T} {n : Nat} (hG : gd w Γ n) {Kc101 : ph_T → Nat → Int32 → Int64 → Int32 → Int32 → Int32 → Option (Unit × ph_T)} (hKc101 : ∀ {x : Bool} {φ : ph_T} {x0 : Nat} {x1 : Int32} {x2 : Int64} {x4 : Int32} {x5 : Int32} {x6 : Int32} {q : Unit × ph_T}, Kc101 φ x0 x1 x2 x4 x5 x6 = some q → J w M_Ref_readComes 101 [some (.ref x0), some (.int x1), some (.long x2), none, some (.int x4), some (.int x5), some (.int x6), none, none, none, none, none, none] [] (pic Γ φ) n x 0 0 (fq Γ n (.inl none) q.2)) {x : Bool} {φ : ph_T} {x0 : Nat} {x1 : Int32} {x2 : Int64} {x4 : Int32} {x5 : Int32} {x6 : Int32} {x7 : Int32} {y0 : Int32} {y1 : Int32} {y2 : Option Nat} {q : Unit × ph_T} (H : f_Ref_readComes_L237 Γ Kc101 φ x0 x1 x2 x4 x5 x6 x7 y0 y1 y2 = some q) : J w M_Ref_readComes 237 [some (.ref x0), some (.int x1), some (.long x2), none, some (.int x4), some (.int x5), some (.int x6), some (.int x7), none, none, none, none, none] [.int y0, .int y1, va_rf y2] (pic Γ φ) n x 0 0 (fq Γ n (.inl none) q.2) := by
  unfold f_Ref_readComes_L237 at H
  obtain ⟨a3, ha3, H⟩ := Option.bind_eq_some_iff.mp H
  rw [j_rf ha3]
  obtain ⟨N4, hN4, H⟩ := Option.bind_eq_some_iff.mp H
  obtain ⟨k5, hk5, H⟩ := Option.bind_eq_some_iff.mp H
  refine F_iast k5 hw hG d_Ref_readComes_237 (gA_some hN4) (ix_some hk5) ?_
  refine J_iload d_Ref_readComes_238 rfl ?_
  refine J_if_eq (tgt := 252) d_Ref_readComes_240 (by decide) ?_ ?_
  · intro c7
    rw [if_pos c7] at H
    refine J.drop [true, true, true, false, true, false, true, false, false, false, false, false, false] rfl ?_
    exact p_Ref_readComes_L252 hw hG hKc101 H
  · intro c7
    rw [if_neg c7] at H
    refine J_iload d_Ref_readComes_243 rfl ?_
    refine J_if_ne (tgt := 252) d_Ref_readComes_245 (by decide) ?_ ?_
    · intro c6
      rw [if_neg c6] at H
      refine J.drop [true, true, true, false, true, false, true, false, false, false, false, false, false] rfl ?_
      exact p_Ref_readComes_L252 hw hG hKc101 H
    · intro c6
      rw [if_pos c6] at H
      refine J_iconst (v := 1) d_Ref_readComes_248 (by decide) ?_
      refine J_goto (tgt := 253) d_Ref_readComes_249 (by decide) ?_
      refine J.drop [true, true, true, false, true, false, true, false, false, false, false, false, false] rfl ?_
      exact p_Ref_readComes_L253 hw hG hKc101 H
def f_Ref_readComes_L189 (Γ : gm_T) (Kc101 : ph_T → Nat → Int32 → Int64 → Int32 → Int32 → Int32 → Option (Unit × ph_T)) (φ : ph_T) (x0 : Nat) (x1 : Int32) (x2 : Int64) (x4 : Int32) (x5 : Int32) (x6 : Int32) (x7 : Int32) (x10 : Int64) : Option (Unit × ph_T) :=
  @ite _ (Γ x0 = .inr 12) _ (
  Option.bind (φ.2.2 x0 74) fun a9 =>
  Option.bind (gA Γ a9 1) fun N10 =>
  Option.bind (ix (((16 : Int32) * x4) + x6) N10) fun k11 =>
  if x7 = 0 then
    Option.bind (f_Ref_isAlone Γ (uL φ a9 k11 x10) x2) fun q12 =>
    if q12.1 = 0 then
      f_Ref_readComes_L237 Γ Kc101 q12.2 x0 x1 x2 x4 x5 x6 x7 (0 : Int32) (((16 : Int32) * x4) + x6) ((uL φ a9 k11 x10).2.2 x0 75)
    else
      f_Ref_readComes_L237 Γ Kc101 q12.2 x0 x1 x2 x4 x5 x6 x7 (1 : Int32) (((16 : Int32) * x4) + x6) ((uL φ a9 k11 x10).2.2 x0 75)
  else
    f_Ref_readComes_L237 Γ Kc101 (uL φ a9 k11 x10) x0 x1 x2 x4 x5 x6 x7 (2 : Int32) (((16 : Int32) * x4) + x6) ((uL φ a9 k11 x10).2.2 x0 75)
  ) none
set_option maxRecDepth 100000 in
set_option maxHeartbeats 4000000 in
theorem p_Ref_readComes_L189 {w : jw_T} (hw : jok w) {Γ : gm_T} {n : Nat} (hG : gd w Γ n) {Kc101 : ph_T → Nat → Int32 → Int64 → Int32 → Int32 → Int32 → Option (Unit × ph_T)} (hKc101 : ∀ {x : Bool} {φ : ph_T} {x0 : Nat} {x1 : Int32} {x2 : Int64} {x4 : Int32} {x5 : Int32} {x6 : Int32} {q : Unit × ph_T}, Kc101 φ x0 x1 x2 x4 x5 x6 = some q → J w M_Ref_readComes 101 [some (.ref x0), some (.int x1), some (.long x2), none, some (.int x4), some (.int x5), some (.int x6), none, none, none, none, none, none] [] (pic Γ φ) n x 0 0 (fq Γ n (.inl none) q.2)) {x : Bool} {φ : ph_T} {x0 : Nat} {x1 : Int32} {x2 : Int64} {x4 : Int32} {x5 : Int32} {x6 : Int32} {x7 : Int32} {x10 : Int64} {q : Unit × ph_T} (H : f_Ref_readComes_L189 Γ Kc101 φ x0 x1 x2 x4 x5 x6 x7 x10 = some q) : J w M_Ref_readComes 189 [some (.ref x0), some (.int x1), some (.long x2), none, some (.int x4), some (.int x5), some (.int x6), some (.int x7), none, none, some (.long x10), none, none] [] (pic Γ φ) n x 0 0 (fq Γ n (.inl none) q.2) := by
  unfold f_Ref_readComes_L189 at H
  refine J_aload_n d_Ref_readComes_189 rfl ?_
  have g8 : Γ x0 = .inr 12 := by
    apply Classical.byContradiction
    intro q9
    rw [if_neg q9] at H
    cases H
  rw [if_pos g8] at H
  refine F_getR (ci := 12) (k := 74) hG (cf_Ref hw) (fl_Ref_202 hw) (by decide) (by decide) rfl d_Ref_readComes_190 g8 ?_
  refine J_bipush (v := 16) d_Ref_readComes_193 (by decide) ?_
  refine J_iload d_Ref_readComes_195 rfl ?_
  refine J_imul d_Ref_readComes_197 ?_
  refine J_iload d_Ref_readComes_198 rfl ?_
  refine J_iadd d_Ref_readComes_200 ?_
  refine J_lload d_Ref_readComes_201 rfl ?_
  obtain ⟨a9, ha9, H⟩ := Option.bind_eq_some_iff.mp H
  rw [j_rf ha9]
  obtain ⟨N10, hN10, H⟩ := Option.bind_eq_some_iff.mp H
  obtain ⟨k11, hk11, H⟩ := Option.bind_eq_some_iff.mp H
  refine F_last k11 hw hG d_Ref_readComes_203 (gA_some hN10) (ix_some hk11) ?_
  refine J_aload_n d_Ref_readComes_204 rfl ?_
  refine F_getR (ci := 12) (k := 75) hG (cf_Ref hw) (fl_Ref_205 hw) (by decide) (by decide) rfl d_Ref_readComes_205 g8 ?_
  refine J_bipush (v := 16) d_Ref_readComes_208 (by decide) ?_
  refine J_iload d_Ref_readComes_210 rfl ?_
  refine J_imul d_Ref_readComes_212 ?_
  refine J_iload d_Ref_readComes_213 rfl ?_
  refine J_iadd d_Ref_readComes_215 ?_
  refine J_iload d_Ref_readComes_216 rfl ?_
  refine J_if_eq (tgt := 225) d_Ref_readComes_218 (by decide) ?_ ?_
  · intro c14
    rw [if_pos c14] at H
    refine J_lload_n d_Ref_readComes_225 rfl ?_
    obtain ⟨q12, hq12, H⟩ := Option.bind_eq_some_iff.mp H
    refine J_callS (kc := 0) (ks := 0) (kc' := 0) (ks' := 0) (as := [.long x2]) (st := [.int (((16 : Int32) * x4) + x6), va_rf ((uL φ a9 k11 x10).2.2 x0 75)]) (mf_Ref_isAlone hw) (ms_Ref_329 hw) d_Ref_readComes_226 ln_Ref_isAlone (by decide) (by first | exact Nat.le_of_ble_eq_true rfl | (simp only [List.map_cons, List.map_nil, List.sum_cons, List.sum_nil, va_rf_cat]; exact Nat.le_of_ble_eq_true rfl)) rfl (p_Ref_isAlone hw hG hq12) ?_ (fun E h' n' x' e1 => by cases e1.1)
    intro v9 h9 n9 x9 e9
    obtain ⟨e91, e92, e93⟩ := e9
    cases e91
    subst e92
    subst e93
    clear x
    rename Bool => x
    show J _ _ _ _ (_ :: _) _ _ _ _ _ _
    refine J_if_eq (tgt := 236) d_Ref_readComes_229 (by decide) ?_ ?_
    · intro c13
      rw [if_pos c13] at H
      refine J_iconst (v := 0) d_Ref_readComes_236 (by decide) ?_
      refine J.drop [true, true, true, false, true, true, true, true, false, false, false, false, false] rfl ?_
      exact p_Ref_readComes_L237 hw hG hKc101 H
    · intro c13
      rw [if_neg c13] at H
      refine J_iconst (v := 1) d_Ref_readComes_232 (by decide) ?_
      refine J_goto (tgt := 237) d_Ref_readComes_233 (by decide) ?_
      refine J.drop [true, true, true, false, true, true, true, true, false, false, false, false, false] rfl ?_
      exact p_Ref_readComes_L237 hw hG hKc101 H
  · intro c14
    rw [if_neg c14] at H
    refine J_iconst (v := 2) d_Ref_readComes_221 (by decide) ?_
    refine J_goto (tgt := 237) d_Ref_readComes_222 (by decide) ?_
    refine J.drop [true, true, true, false, true, true, true, true, false, false, false, false, false] rfl ?_
    exact p_Ref_readComes_L237 hw hG hKc101 H
def f_Ref_readComes_L140 (Γ : gm_T) (Kc101 : ph_T → Nat → Int32 → Int64 → Int32 → Int32 → Int32 → Option (Unit × ph_T)) : Nat → ph_T → Nat → Int32 → Int64 → Int32 → Int32 → Int32 → Int32 → Int32 → Int32 → Int64 → Int32 → Option (Unit × ph_T)
  | 0, _, _, _, _, _, _, _, _, _, _, _, _ => none
  | fu + 1, φ, x0, x1, x2, x4, x5, x6, x7, x8, x9, x10, x12 =>
    @ite _ (x9 = 0) _ none (
    if ((x8 - (x8 - x8 / x9 * x9)) + x9) ≤ x12 then
      f_Ref_readComes_L189 Γ Kc101 φ x0 x1 x2 x4 x5 x6 x7 x10
    else
      if x7 = 0 then
        @ite _ (Γ x0 = .inr 12) _ (
        Option.bind (φ.2.2 x0 13) fun a17 =>
        Option.bind (gA Γ a17 0) fun N18 =>
        Option.bind (ix x12 N18) fun k19 =>
        @ite _ ((8 : Int32) = 0) _ none (
        (f_Ref_readComes_L140 Γ Kc101 fu) φ x0 x1 x2 x4 x5 x6 x7 x8 x9 (x10 ||| ((Int32.toInt64 (φ.1 a17 k19)) <<< (Int32.toInt64 ((8 : Int32) * (x12 - x12 / (8 : Int32) * (8 : Int32))) &&& 63))) (x12 + (1 : Int32))
        )
        ) none
      else
        f_Ref_readComes_L189 Γ Kc101 φ x0 x1 x2 x4 x5 x6 x7 x10
    )
set_option maxRecDepth 100000 in
set_option maxHeartbeats 4000000 in
theorem p_Ref_readComes_L140 {w : jw_T} (hw : jok w) {Γ : gm_T} {n : Nat} (hG : gd w Γ n) {Kc101 : ph_T → Nat → Int32 → Int64 → Int32 → Int32 → Int32 → Option (Unit × ph_T)} (hKc101 : ∀ {x : Bool} {φ : ph_T} {x0 : Nat} {x1 : Int32} {x2 : Int64} {x4 : Int32} {x5 : Int32} {x6 : Int32} {q : Unit × ph_T}, Kc101 φ x0 x1 x2 x4 x5 x6 = some q → J w M_Ref_readComes 101 [some (.ref x0), some (.int x1), some (.long x2), none, some (.int x4), some (.int x5), some (.int x6), none, none, none, none, none, none] [] (pic Γ φ) n x 0 0 (fq Γ n (.inl none) q.2)) : ∀ (fu : Nat) {x : Bool} {φ : ph_T} {x0 : Nat} {x1 : Int32} {x2 : Int64} {x4 : Int32} {x5 : Int32} {x6 : Int32} {x7 : Int32} {x8 : Int32} {x9 : Int32} {x10 : Int64} {x12 : Int32} {q : Unit × ph_T}, f_Ref_readComes_L140 Γ Kc101 fu φ x0 x1 x2 x4 x5 x6 x7 x8 x9 x10 x12 = some q → J w M_Ref_readComes 140 [some (.ref x0), some (.int x1), some (.long x2), none, some (.int x4), some (.int x5), some (.int x6), some (.int x7), some (.int x8), some (.int x9), some (.long x10), none, some (.int x12)] [] (pic Γ φ) n x 0 0 (fq Γ n (.inl none) q.2) := by
  intro fu
  induction fu with
  | zero =>
    intro x φ x0 x1 x2 x4 x5 x6 x7 x8 x9 x10 x12 q H
    cases H
  | succ fu ih =>
    intro x φ x0 x1 x2 x4 x5 x6 x7 x8 x9 x10 x12 q H
    unfold f_Ref_readComes_L140 at H
    refine J_iload d_Ref_readComes_140 rfl ?_
    refine J_iload d_Ref_readComes_142 rfl ?_
    refine J_iload d_Ref_readComes_144 rfl ?_
    refine J_iload d_Ref_readComes_146 rfl ?_
    have h15 : ¬ x9 = 0 := by
      intro q9
      rw [if_pos q9] at H
      cases H
    rw [if_neg h15] at H
    refine J_irem d_Ref_readComes_148 h15 ?_
    refine J_isub d_Ref_readComes_149 ?_
    refine J_iload d_Ref_readComes_150 rfl ?_
    refine J_iadd d_Ref_readComes_152 ?_
    refine J_icmp_ge (tgt := 189) d_Ref_readComes_153 (by decide) ?_ ?_
    · intro c22
      rw [if_pos c22] at H
      refine J.drop [true, true, true, false, true, true, true, true, false, false, true, false, false] rfl ?_
      exact p_Ref_readComes_L189 hw hG hKc101 H
    · intro c22
      rw [if_neg c22] at H
      refine J_iload d_Ref_readComes_156 rfl ?_
      refine J_if_ne (tgt := 189) d_Ref_readComes_158 (by decide) ?_ ?_
      · intro c21
        rw [if_neg c21] at H
        refine J.drop [true, true, true, false, true, true, true, true, false, false, true, false, false] rfl ?_
        exact p_Ref_readComes_L189 hw hG hKc101 H
      · intro c21
        rw [if_pos c21] at H
        refine J_lload d_Ref_readComes_161 rfl ?_
        refine J_aload_n d_Ref_readComes_163 rfl ?_
        have g16 : Γ x0 = .inr 12 := by
          apply Classical.byContradiction
          intro q9
          rw [if_neg q9] at H
          cases H
        rw [if_pos g16] at H
        refine F_getR (ci := 12) (k := 13) hG (cf_Ref hw) (fl_Ref_30 hw) (by decide) (by decide) rfl d_Ref_readComes_164 g16 ?_
        refine J_iload d_Ref_readComes_167 rfl ?_
        obtain ⟨a17, ha17, H⟩ := Option.bind_eq_some_iff.mp H
        rw [j_rf ha17]
        obtain ⟨N18, hN18, H⟩ := Option.bind_eq_some_iff.mp H
        obtain ⟨k19, hk19, H⟩ := Option.bind_eq_some_iff.mp H
        refine F_iald k19 hw hG d_Ref_readComes_169 (gA_some hN18) (ix_some hk19) ?_
        refine J_i2l d_Ref_readComes_170 ?_
        refine J_bipush (v := 8) d_Ref_readComes_171 (by decide) ?_
        refine J_iload d_Ref_readComes_173 rfl ?_
        refine J_bipush (v := 8) d_Ref_readComes_175 (by decide) ?_
        have h20 : ¬ (8 : Int32) = 0 := by
          intro q9
          rw [if_pos q9] at H
          cases H
        rw [if_neg h20] at H
        refine J_irem d_Ref_readComes_177 h20 ?_
        refine J_imul d_Ref_readComes_178 ?_
        refine J_lshl d_Ref_readComes_179 ?_
        refine J_lor d_Ref_readComes_180 ?_
        refine J_lstore d_Ref_readComes_181 (Nat.le_of_ble_eq_true rfl) ?_
        refine J_iinc (v := x12 + 1) d_Ref_readComes_183 rfl (by rw [show Int32.ofInt 1 = (1 : Int32) from by decide]) ?_
        refine J_goto (tgt := 140) d_Ref_readComes_186 (by decide) ?_
        refine J.drop [true, true, true, false, true, true, true, true, true, true, true, false, true] rfl ?_
        exact ih H
def f_Ref_readComes_L101 (Γ : gm_T)  : Nat → ph_T → Nat → Int32 → Int64 → Int32 → Int32 → Int32 → Option (Unit × ph_T)
  | 0, _, _, _, _, _, _, _ => none
  | fu + 1, φ, x0, x1, x2, x4, x5, x6 =>
    Option.bind (f_Ref_lengthOf Γ φ x2) fun q23 =>
    if q23.1 ≤ x6 then
      Option.bind (f_Ref_isAlone Γ q23.2 x2) fun q24 =>
      if q24.1 = 0 then
        f_Ref_readComes_L314 Γ  q24.2 
      else
        if x5 = 0 then
          f_Ref_readComes_L314 Γ  q24.2 
        else
          @ite _ (Γ x0 = .inr 12) _ (
          Option.bind (f_Ref_idOf Γ q24.2 x2) fun q26 =>
          Option.bind (f_Ref_addressOf Γ q26.2 x2) fun q27 =>
          Option.bind (q24.2.2.2 x0 80) fun a28 =>
          Option.bind (gA Γ a28 0) fun N29 =>
          Option.bind (ix (((64 : Int32) * x1) + q26.1) N29) fun k30 =>
          Option.bind (f_Ref_idOf Γ (uI q27.2 a28 k30 q27.1) x2) fun q31 =>
          Option.bind (f_Ref_lengthOf Γ q31.2 x2) fun q32 =>
          Option.bind (f_Ref_sizeOf Γ q32.2 x2) fun q33 =>
          Option.bind ((uI q27.2 a28 k30 q27.1).2.2 x0 81) fun a34 =>
          Option.bind (gA Γ a34 0) fun N35 =>
          Option.bind (ix (((64 : Int32) * x1) + q31.1) N35) fun k36 =>
          f_Ref_readComes_L314 Γ  (uI q33.2 a34 k36 (q32.1 * q33.1)) 
          ) none
    else
      @ite _ (Γ x0 = .inr 12) _ (
      Option.bind (f_Ref_isSpoilt Γ q23.2 x0 x2 x6) fun q40 =>
      Option.bind (f_Ref_beatAt Γ q40.2 x2 x6) fun q41 =>
      Option.bind (f_Ref_sizeOf Γ q41.2 x2) fun q42 =>
      f_Ref_readComes_L140 Γ (f_Ref_readComes_L101 Γ  fu) jF q42.2 x0 x1 x2 x4 x5 x6 q40.1 q41.1 q42.1 (0 : Int64) q41.1
      ) none
set_option maxRecDepth 100000 in
set_option maxHeartbeats 4000000 in
theorem p_Ref_readComes_L101 {w : jw_T} (hw : jok w) {Γ : gm_T} {n : Nat} (hG : gd w Γ n)  : ∀ (fu : Nat) {x : Bool} {φ : ph_T} {x0 : Nat} {x1 : Int32} {x2 : Int64} {x4 : Int32} {x5 : Int32} {x6 : Int32} {q : Unit × ph_T}, f_Ref_readComes_L101 Γ  fu φ x0 x1 x2 x4 x5 x6 = some q → J w M_Ref_readComes 101 [some (.ref x0), some (.int x1), some (.long x2), none, some (.int x4), some (.int x5), some (.int x6), none, none, none, none, none, none] [] (pic Γ φ) n x 0 0 (fq Γ n (.inl none) q.2) := by
  intro fu
  induction fu with
  | zero =>
    intro x φ x0 x1 x2 x4 x5 x6 q H
    cases H
  | succ fu ih =>
    intro x φ x0 x1 x2 x4 x5 x6 q H
    unfold f_Ref_readComes_L101 at H
    refine J_iload d_Ref_readComes_101 rfl ?_
    refine J_lload_n d_Ref_readComes_103 rfl ?_
    obtain ⟨q23, hq23, H⟩ := Option.bind_eq_some_iff.mp H
    refine J_callS (kc := 0) (ks := 0) (kc' := 0) (ks' := 0) (as := [.long x2]) (st := [.int x6]) (mf_Ref_lengthOf hw) (ms_Ref_321 hw) d_Ref_readComes_104 ln_Ref_lengthOf (by decide) (by first | exact Nat.le_of_ble_eq_true rfl | (simp only [List.map_cons, List.map_nil, List.sum_cons, List.sum_nil, va_rf_cat]; exact Nat.le_of_ble_eq_true rfl)) rfl (p_Ref_lengthOf hw hG hq23) ?_ (fun E h' n' x' e1 => by cases e1.1)
    intro v9 h9 n9 x9 e9
    obtain ⟨e91, e92, e93⟩ := e9
    cases e91
    subst e92
    subst e93
    clear x
    rename Bool => x
    show J _ _ _ _ (_ :: _) _ _ _ _ _ _
    refine J_icmp_ge (tgt := 261) d_Ref_readComes_107 (by decide) ?_ ?_
    · intro c43
      rw [if_pos c43] at H
      refine J_lload_n d_Ref_readComes_261 rfl ?_
      obtain ⟨q24, hq24, H⟩ := Option.bind_eq_some_iff.mp H
      refine J_callS (kc := 0) (ks := 0) (kc' := 0) (ks' := 0) (as := [.long x2]) (st := []) (mf_Ref_isAlone hw) (ms_Ref_329 hw) d_Ref_readComes_262 ln_Ref_isAlone (by decide) (by first | exact Nat.le_of_ble_eq_true rfl | (simp only [List.map_cons, List.map_nil, List.sum_cons, List.sum_nil, va_rf_cat]; exact Nat.le_of_ble_eq_true rfl)) rfl (p_Ref_isAlone hw hG hq24) ?_ (fun E h' n' x' e1 => by cases e1.1)
      intro v9 h9 n9 x9 e9
      obtain ⟨e91, e92, e93⟩ := e9
      cases e91
      subst e92
      subst e93
      clear x
      rename Bool => x
      show J _ _ _ _ (_ :: _) _ _ _ _ _ _
      refine J_if_eq (tgt := 314) d_Ref_readComes_265 (by decide) ?_ ?_
      · intro c38
        rw [if_pos c38] at H
        refine J.drop [false, false, false, false, false, false, false, false, false, false, false, false, false] rfl ?_
        exact p_Ref_readComes_L314 hw hG  H
      · intro c38
        rw [if_neg c38] at H
        refine J_iload d_Ref_readComes_268 rfl ?_
        refine J_if_eq (tgt := 314) d_Ref_readComes_270 (by decide) ?_ ?_
        · intro c37
          rw [if_pos c37] at H
          refine J.drop [false, false, false, false, false, false, false, false, false, false, false, false, false] rfl ?_
          exact p_Ref_readComes_L314 hw hG  H
        · intro c37
          rw [if_neg c37] at H
          refine J_aload_n d_Ref_readComes_273 rfl ?_
          have g25 : Γ x0 = .inr 12 := by
            apply Classical.byContradiction
            intro q9
            rw [if_neg q9] at H
            cases H
          rw [if_pos g25] at H
          refine F_getR (ci := 12) (k := 80) hG (cf_Ref hw) (fl_Ref_220 hw) (by decide) (by decide) rfl d_Ref_readComes_274 g25 ?_
          refine J_bipush (v := 64) d_Ref_readComes_277 (by decide) ?_
          refine J_iload_n d_Ref_readComes_279 rfl ?_
          refine J_imul d_Ref_readComes_280 ?_
          refine J_lload_n d_Ref_readComes_281 rfl ?_
          obtain ⟨q26, hq26, H⟩ := Option.bind_eq_some_iff.mp H
          refine J_callS (kc := 0) (ks := 0) (kc' := 0) (ks' := 0) (as := [.long x2]) (st := [.int ((64 : Int32) * x1), va_rf (q24.2.2.2 x0 80)]) (mf_Ref_idOf hw) (ms_Ref_396 hw) d_Ref_readComes_282 ln_Ref_idOf (by decide) (by first | exact Nat.le_of_ble_eq_true rfl | (simp only [List.map_cons, List.map_nil, List.sum_cons, List.sum_nil, va_rf_cat]; exact Nat.le_of_ble_eq_true rfl)) rfl (p_Ref_idOf hw hG hq26) ?_ (fun E h' n' x' e1 => by cases e1.1)
          intro v9 h9 n9 x9 e9
          obtain ⟨e91, e92, e93⟩ := e9
          cases e91
          subst e92
          subst e93
          clear x
          rename Bool => x
          show J _ _ _ _ (_ :: _) _ _ _ _ _ _
          refine J_iadd d_Ref_readComes_285 ?_
          refine J_lload_n d_Ref_readComes_286 rfl ?_
          obtain ⟨q27, hq27, H⟩ := Option.bind_eq_some_iff.mp H
          refine J_callS (kc := 0) (ks := 0) (kc' := 0) (ks' := 0) (as := [.long x2]) (st := [.int (((64 : Int32) * x1) + q26.1), va_rf (q24.2.2.2 x0 80)]) (mf_Ref_addressOf hw) (ms_Ref_314 hw) d_Ref_readComes_287 ln_Ref_addressOf (by decide) (by first | exact Nat.le_of_ble_eq_true rfl | (simp only [List.map_cons, List.map_nil, List.sum_cons, List.sum_nil, va_rf_cat]; exact Nat.le_of_ble_eq_true rfl)) rfl (p_Ref_addressOf hw hG hq27) ?_ (fun E h' n' x' e1 => by cases e1.1)
          intro v9 h9 n9 x9 e9
          obtain ⟨e91, e92, e93⟩ := e9
          cases e91
          subst e92
          subst e93
          clear x
          rename Bool => x
          show J _ _ _ _ (_ :: _) _ _ _ _ _ _
          obtain ⟨a28, ha28, H⟩ := Option.bind_eq_some_iff.mp H
          rw [j_rf ha28]
          obtain ⟨N29, hN29, H⟩ := Option.bind_eq_some_iff.mp H
          obtain ⟨k30, hk30, H⟩ := Option.bind_eq_some_iff.mp H
          refine F_iast k30 hw hG d_Ref_readComes_290 (gA_some hN29) (ix_some hk30) ?_
          refine J_aload_n d_Ref_readComes_291 rfl ?_
          refine F_getR (ci := 12) (k := 81) hG (cf_Ref hw) (fl_Ref_223 hw) (by decide) (by decide) rfl d_Ref_readComes_292 g25 ?_
          refine J_bipush (v := 64) d_Ref_readComes_295 (by decide) ?_
          refine J_iload_n d_Ref_readComes_297 rfl ?_
          refine J_imul d_Ref_readComes_298 ?_
          refine J_lload_n d_Ref_readComes_299 rfl ?_
          obtain ⟨q31, hq31, H⟩ := Option.bind_eq_some_iff.mp H
          refine J_callS (kc := 0) (ks := 0) (kc' := 0) (ks' := 0) (as := [.long x2]) (st := [.int ((64 : Int32) * x1), va_rf ((uI q27.2 a28 k30 q27.1).2.2 x0 81)]) (mf_Ref_idOf hw) (ms_Ref_396 hw) d_Ref_readComes_300 ln_Ref_idOf (by decide) (by first | exact Nat.le_of_ble_eq_true rfl | (simp only [List.map_cons, List.map_nil, List.sum_cons, List.sum_nil, va_rf_cat]; exact Nat.le_of_ble_eq_true rfl)) rfl (p_Ref_idOf hw hG hq31) ?_ (fun E h' n' x' e1 => by cases e1.1)
          intro v9 h9 n9 x9 e9
          obtain ⟨e91, e92, e93⟩ := e9
          cases e91
          subst e92
          subst e93
          clear x
          rename Bool => x
          show J _ _ _ _ (_ :: _) _ _ _ _ _ _
          refine J_iadd d_Ref_readComes_303 ?_
          refine J_lload_n d_Ref_readComes_304 rfl ?_
          obtain ⟨q32, hq32, H⟩ := Option.bind_eq_some_iff.mp H
          refine J_callS (kc := 0) (ks := 0) (kc' := 0) (ks' := 0) (as := [.long x2]) (st := [.int (((64 : Int32) * x1) + q31.1), va_rf ((uI q27.2 a28 k30 q27.1).2.2 x0 81)]) (mf_Ref_lengthOf hw) (ms_Ref_321 hw) d_Ref_readComes_305 ln_Ref_lengthOf (by decide) (by first | exact Nat.le_of_ble_eq_true rfl | (simp only [List.map_cons, List.map_nil, List.sum_cons, List.sum_nil, va_rf_cat]; exact Nat.le_of_ble_eq_true rfl)) rfl (p_Ref_lengthOf hw hG hq32) ?_ (fun E h' n' x' e1 => by cases e1.1)
          intro v9 h9 n9 x9 e9
          obtain ⟨e91, e92, e93⟩ := e9
          cases e91
          subst e92
          subst e93
          clear x
          rename Bool => x
          show J _ _ _ _ (_ :: _) _ _ _ _ _ _
          refine J_lload_n d_Ref_readComes_308 rfl ?_
          obtain ⟨q33, hq33, H⟩ := Option.bind_eq_some_iff.mp H
          refine J_callS (kc := 0) (ks := 0) (kc' := 0) (ks' := 0) (as := [.long x2]) (st := [.int q32.1, .int (((64 : Int32) * x1) + q31.1), va_rf ((uI q27.2 a28 k30 q27.1).2.2 x0 81)]) (mf_Ref_sizeOf hw) (ms_Ref_318 hw) d_Ref_readComes_309 ln_Ref_sizeOf (by decide) (by first | exact Nat.le_of_ble_eq_true rfl | (simp only [List.map_cons, List.map_nil, List.sum_cons, List.sum_nil, va_rf_cat]; exact Nat.le_of_ble_eq_true rfl)) rfl (p_Ref_sizeOf hw hG hq33) ?_ (fun E h' n' x' e1 => by cases e1.1)
          intro v9 h9 n9 x9 e9
          obtain ⟨e91, e92, e93⟩ := e9
          cases e91
          subst e92
          subst e93
          clear x
          rename Bool => x
          show J _ _ _ _ (_ :: _) _ _ _ _ _ _
          refine J_imul d_Ref_readComes_312 ?_
          obtain ⟨a34, ha34, H⟩ := Option.bind_eq_some_iff.mp H
          rw [j_rf ha34]
          obtain ⟨N35, hN35, H⟩ := Option.bind_eq_some_iff.mp H
          obtain ⟨k36, hk36, H⟩ := Option.bind_eq_some_iff.mp H
          refine F_iast k36 hw hG d_Ref_readComes_313 (gA_some hN35) (ix_some hk36) ?_
          refine J.drop [false, false, false, false, false, false, false, false, false, false, false, false, false] rfl ?_
          exact p_Ref_readComes_L314 hw hG  H
    · intro c43
      rw [if_neg c43] at H
      refine J_aload_n d_Ref_readComes_110 rfl ?_
      refine J_lload_n d_Ref_readComes_111 rfl ?_
      refine J_iload d_Ref_readComes_112 rfl ?_
      have g39 : Γ x0 = .inr 12 := by
        apply Classical.byContradiction
        intro q9
        rw [if_neg q9] at H
        cases H
      rw [if_pos g39] at H
      obtain ⟨q40, hq40, H⟩ := Option.bind_eq_some_iff.mp H
      refine J_callV (kc := 0) (ks := 0) (kc' := 0) (ks' := 0) (a := x0) (ci := 12) (as := [.long x2, .int x6]) (st := []) (mf_Ref_isSpoilt hw) (mv_Ref_494 hw) d_Ref_readComes_114 ln_Ref_isSpoilt (by decide) (by first | exact Nat.le_of_ble_eq_true rfl | (simp only [List.map_cons, List.map_nil, List.sum_cons, List.sum_nil, va_rf_cat]; exact Nat.le_of_ble_eq_true rfl)) rfl ((hG _).1 _ g39 (by decide)).1 ((hG _).1 _ g39 (by decide)).2 (by unfold pic; rw [g39]; rfl) (jcl_at hw rfl) rfl (p_Ref_isSpoilt hw hG hq40) ?_ (fun E h' n' x' e1 => by cases e1.1)
      intro v9 h9 n9 x9 e9
      obtain ⟨e91, e92, e93⟩ := e9
      cases e91
      subst e92
      subst e93
      clear x
      rename Bool => x
      show J _ _ _ _ (_ :: _) _ _ _ _ _ _
      refine J_istore d_Ref_readComes_117 (Nat.le_of_ble_eq_true rfl) ?_
      refine J_lload_n d_Ref_readComes_119 rfl ?_
      refine J_iload d_Ref_readComes_120 rfl ?_
      obtain ⟨q41, hq41, H⟩ := Option.bind_eq_some_iff.mp H
      refine J_callS (kc := 0) (ks := 0) (kc' := 0) (ks' := 0) (as := [.long x2, .int x6]) (st := []) (mf_Ref_beatAt hw) (ms_Ref_366 hw) d_Ref_readComes_122 ln_Ref_beatAt (by decide) (by first | exact Nat.le_of_ble_eq_true rfl | (simp only [List.map_cons, List.map_nil, List.sum_cons, List.sum_nil, va_rf_cat]; exact Nat.le_of_ble_eq_true rfl)) rfl (p_Ref_beatAt hw hG hq41) ?_ (fun E h' n' x' e1 => by cases e1.1)
      intro v9 h9 n9 x9 e9
      obtain ⟨e91, e92, e93⟩ := e9
      cases e91
      subst e92
      subst e93
      clear x
      rename Bool => x
      show J _ _ _ _ (_ :: _) _ _ _ _ _ _
      refine J_istore d_Ref_readComes_125 (Nat.le_of_ble_eq_true rfl) ?_
      refine J_lload_n d_Ref_readComes_127 rfl ?_
      obtain ⟨q42, hq42, H⟩ := Option.bind_eq_some_iff.mp H
      refine J_callS (kc := 0) (ks := 0) (kc' := 0) (ks' := 0) (as := [.long x2]) (st := []) (mf_Ref_sizeOf hw) (ms_Ref_318 hw) d_Ref_readComes_128 ln_Ref_sizeOf (by decide) (by first | exact Nat.le_of_ble_eq_true rfl | (simp only [List.map_cons, List.map_nil, List.sum_cons, List.sum_nil, va_rf_cat]; exact Nat.le_of_ble_eq_true rfl)) rfl (p_Ref_sizeOf hw hG hq42) ?_ (fun E h' n' x' e1 => by cases e1.1)
      intro v9 h9 n9 x9 e9
      obtain ⟨e91, e92, e93⟩ := e9
      cases e91
      subst e92
      subst e93
      clear x
      rename Bool => x
      show J _ _ _ _ (_ :: _) _ _ _ _ _ _
      refine J_istore d_Ref_readComes_131 (Nat.le_of_ble_eq_true rfl) ?_
      refine J_lconst (v := 0) d_Ref_readComes_133 (by decide) ?_
      refine J_lstore d_Ref_readComes_134 (Nat.le_of_ble_eq_true rfl) ?_
      refine J_iload d_Ref_readComes_136 rfl ?_
      refine J_istore d_Ref_readComes_138 (Nat.le_of_ble_eq_true rfl) ?_
      refine J.drop [true, true, true, false, true, true, true, true, true, true, true, false, true] rfl ?_
      exact p_Ref_readComes_L140 hw hG ih _ H
def f_Ref_readComes (Γ : gm_T) (φ : ph_T) (this : Nat) (p0 : Int32) (p1 : Int64) : Option (Unit × ph_T) :=
  @ite _ (Γ this = .inr 12) _ (
  Option.bind (f_Ref_freePlace Γ φ (φ.2.2 this 69) p0) fun q45 =>
  Option.bind (q45.2.2.2 this 69) fun a46 =>
  Option.bind (gA Γ a46 2) fun N47 =>
  Option.bind (ix q45.1 N47) fun k48 =>
  @ite _ ((1 : Int32) = 0 ∨ (1 : Int32) = 1) _ (
  Option.bind ((uI q45.2 a46 k48 (1 : Int32)).2.2 this 67) fun a50 =>
  Option.bind (gA Γ a50 0) fun N51 =>
  Option.bind (ix p0 N51) fun k52 =>
  Option.bind ((uI q45.2 a46 k48 (1 : Int32)).2.2 this 68) fun a53 =>
  Option.bind (gA Γ a53 0) fun N54 =>
  Option.bind (ix (((4 : Int32) * p0) + ((uI q45.2 a46 k48 (1 : Int32)).1 a50 k52)) N54) fun k55 =>
  Option.bind ((uI (uI q45.2 a46 k48 (1 : Int32)) a53 k55 q45.1).2.2 this 67) fun a56 =>
  Option.bind (gA Γ a56 0) fun N57 =>
  Option.bind (ix p0 N57) fun k58 =>
  Option.bind (gA Γ a56 0) fun N59 =>
  Option.bind (ix p0 N59) fun k60 =>
  Option.bind ((uI (uI (uI q45.2 a46 k48 (1 : Int32)) a53 k55 q45.1) a56 k60 (((uI (uI q45.2 a46 k48 (1 : Int32)) a53 k55 q45.1).1 a56 k58) + (1 : Int32))).2.2 this 70) fun a61 =>
  Option.bind (gA Γ a61 1) fun N62 =>
  Option.bind (ix q45.1 N62) fun k63 =>
  Option.bind ((uL (uI (uI (uI q45.2 a46 k48 (1 : Int32)) a53 k55 q45.1) a56 k60 (((uI (uI q45.2 a46 k48 (1 : Int32)) a53 k55 q45.1).1 a56 k58) + (1 : Int32))) a61 k63 p1).2.2 this 71) fun a64 =>
  Option.bind (gA Γ a64 0) fun N65 =>
  Option.bind (ix q45.1 N65) fun k66 =>
  Option.bind ((uI (uL (uI (uI (uI q45.2 a46 k48 (1 : Int32)) a53 k55 q45.1) a56 k60 (((uI (uI q45.2 a46 k48 (1 : Int32)) a53 k55 q45.1).1 a56 k58) + (1 : Int32))) a61 k63 p1) a64 k66 (0 : Int32)).2.2 this 72) fun a67 =>
  Option.bind (gA Γ a67 0) fun N68 =>
  Option.bind (ix q45.1 N68) fun k69 =>
  Option.bind ((uI (uI (uL (uI (uI (uI q45.2 a46 k48 (1 : Int32)) a53 k55 q45.1) a56 k60 (((uI (uI q45.2 a46 k48 (1 : Int32)) a53 k55 q45.1).1 a56 k58) + (1 : Int32))) a61 k63 p1) a64 k66 (0 : Int32)) a67 k69 ((uI (uL (uI (uI (uI q45.2 a46 k48 (1 : Int32)) a53 k55 q45.1) a56 k60 (((uI (uI q45.2 a46 k48 (1 : Int32)) a53 k55 q45.1).1 a56 k58) + (1 : Int32))) a61 k63 p1) a64 k66 (0 : Int32)).1 this 6)).2.2 this 76) fun a70 =>
  Option.bind (gA Γ a70 0) fun N71 =>
  Option.bind (ix p0 N71) fun k72 =>
  Option.bind ((uI (uI (uL (uI (uI (uI q45.2 a46 k48 (1 : Int32)) a53 k55 q45.1) a56 k60 (((uI (uI q45.2 a46 k48 (1 : Int32)) a53 k55 q45.1).1 a56 k58) + (1 : Int32))) a61 k63 p1) a64 k66 (0 : Int32)) a67 k69 ((uI (uL (uI (uI (uI q45.2 a46 k48 (1 : Int32)) a53 k55 q45.1) a56 k60 (((uI (uI q45.2 a46 k48 (1 : Int32)) a53 k55 q45.1).1 a56 k58) + (1 : Int32))) a61 k63 p1) a64 k66 (0 : Int32)).1 this 6)).2.2 this 73) fun a73 =>
  Option.bind (gA Γ a73 0) fun N74 =>
  Option.bind (ix q45.1 N74) fun k75 =>
  Option.bind ((uI (uI (uI (uL (uI (uI (uI q45.2 a46 k48 (1 : Int32)) a53 k55 q45.1) a56 k60 (((uI (uI q45.2 a46 k48 (1 : Int32)) a53 k55 q45.1).1 a56 k58) + (1 : Int32))) a61 k63 p1) a64 k66 (0 : Int32)) a67 k69 ((uI (uL (uI (uI (uI q45.2 a46 k48 (1 : Int32)) a53 k55 q45.1) a56 k60 (((uI (uI q45.2 a46 k48 (1 : Int32)) a53 k55 q45.1).1 a56 k58) + (1 : Int32))) a61 k63 p1) a64 k66 (0 : Int32)).1 this 6)) a73 k75 ((uI (uI (uL (uI (uI (uI q45.2 a46 k48 (1 : Int32)) a53 k55 q45.1) a56 k60 (((uI (uI q45.2 a46 k48 (1 : Int32)) a53 k55 q45.1).1 a56 k58) + (1 : Int32))) a61 k63 p1) a64 k66 (0 : Int32)) a67 k69 ((uI (uL (uI (uI (uI q45.2 a46 k48 (1 : Int32)) a53 k55 q45.1) a56 k60 (((uI (uI q45.2 a46 k48 (1 : Int32)) a53 k55 q45.1).1 a56 k58) + (1 : Int32))) a61 k63 p1) a64 k66 (0 : Int32)).1 this 6)).1 a70 k72)).2.2 this 76) fun a76 =>
  Option.bind (gA Γ a76 0) fun N77 =>
  Option.bind (ix p0 N77) fun k78 =>
  Option.bind (gA Γ a76 0) fun N79 =>
  Option.bind (ix p0 N79) fun k80 =>
  f_Ref_readComes_L101 Γ  jF (uI (uI (uI (uI (uL (uI (uI (uI q45.2 a46 k48 (1 : Int32)) a53 k55 q45.1) a56 k60 (((uI (uI q45.2 a46 k48 (1 : Int32)) a53 k55 q45.1).1 a56 k58) + (1 : Int32))) a61 k63 p1) a64 k66 (0 : Int32)) a67 k69 ((uI (uL (uI (uI (uI q45.2 a46 k48 (1 : Int32)) a53 k55 q45.1) a56 k60 (((uI (uI q45.2 a46 k48 (1 : Int32)) a53 k55 q45.1).1 a56 k58) + (1 : Int32))) a61 k63 p1) a64 k66 (0 : Int32)).1 this 6)) a73 k75 ((uI (uI (uL (uI (uI (uI q45.2 a46 k48 (1 : Int32)) a53 k55 q45.1) a56 k60 (((uI (uI q45.2 a46 k48 (1 : Int32)) a53 k55 q45.1).1 a56 k58) + (1 : Int32))) a61 k63 p1) a64 k66 (0 : Int32)) a67 k69 ((uI (uL (uI (uI (uI q45.2 a46 k48 (1 : Int32)) a53 k55 q45.1) a56 k60 (((uI (uI q45.2 a46 k48 (1 : Int32)) a53 k55 q45.1).1 a56 k58) + (1 : Int32))) a61 k63 p1) a64 k66 (0 : Int32)).1 this 6)).1 a70 k72)) a76 k80 (((uI (uI (uI (uL (uI (uI (uI q45.2 a46 k48 (1 : Int32)) a53 k55 q45.1) a56 k60 (((uI (uI q45.2 a46 k48 (1 : Int32)) a53 k55 q45.1).1 a56 k58) + (1 : Int32))) a61 k63 p1) a64 k66 (0 : Int32)) a67 k69 ((uI (uL (uI (uI (uI q45.2 a46 k48 (1 : Int32)) a53 k55 q45.1) a56 k60 (((uI (uI q45.2 a46 k48 (1 : Int32)) a53 k55 q45.1).1 a56 k58) + (1 : Int32))) a61 k63 p1) a64 k66 (0 : Int32)).1 this 6)) a73 k75 ((uI (uI (uL (uI (uI (uI q45.2 a46 k48 (1 : Int32)) a53 k55 q45.1) a56 k60 (((uI (uI q45.2 a46 k48 (1 : Int32)) a53 k55 q45.1).1 a56 k58) + (1 : Int32))) a61 k63 p1) a64 k66 (0 : Int32)) a67 k69 ((uI (uL (uI (uI (uI q45.2 a46 k48 (1 : Int32)) a53 k55 q45.1) a56 k60 (((uI (uI q45.2 a46 k48 (1 : Int32)) a53 k55 q45.1).1 a56 k58) + (1 : Int32))) a61 k63 p1) a64 k66 (0 : Int32)).1 this 6)).1 a70 k72)).1 a76 k78) + (1 : Int32))) this p0 p1 q45.1 (1 : Int32) (0 : Int32)
  ) none
  ) none
set_option maxRecDepth 100000 in
set_option maxHeartbeats 4000000 in
theorem p_Ref_readComes {w : jw_T} (hw : jok w) {Γ : gm_T} {n : Nat} (hG : gd w Γ n) {x : Bool} {φ : ph_T} {this : Nat} {p0 : Int32} {p1 : Int64} {q : Unit × ph_T} (H : f_Ref_readComes Γ φ this p0 p1 = some q) : jc w M_Ref_readComes [.ref this, .int p0, .long p1] (pic Γ φ) n x 0 0 (fq Γ n (.inl none) q.2) := by
  refine jc.of (by simp only [jent_r, jent_i, jent_l, jent_a, jent_0]; exact Nat.le_of_ble_eq_true rfl) ?_
  have hls : jents [.ref this, .int p0, .long p1] (jm_nL M_Ref_readComes) = [some (.ref this), some (.int p0), some (.long p1), none, none, none, none, none, none, none, none, none, none] := by simp only [jents, jent_r, jent_i, jent_l, jent_a, jent_0]; rfl
  rw [hls]
  clear hls
  unfold f_Ref_readComes at H
  refine J_aload_n d_Ref_readComes_0 rfl ?_
  have g44 : Γ this = .inr 12 := by
    apply Classical.byContradiction
    intro q9
    rw [if_neg q9] at H
    cases H
  rw [if_pos g44] at H
  refine F_getR (ci := 12) (k := 69) hG (cf_Ref hw) (fl_Ref_187 hw) (by decide) (by decide) rfl d_Ref_readComes_1 g44 ?_
  refine J_iload_n d_Ref_readComes_4 rfl ?_
  obtain ⟨q45, hq45, H⟩ := Option.bind_eq_some_iff.mp H
  refine J_callS (kc := 0) (ks := 0) (kc' := 0) (ks' := 0) (as := [va_rf (φ.2.2 this 69), .int p0]) (st := []) (mf_Ref_freePlace hw) (ms_Ref_480 hw) d_Ref_readComes_5 ln_Ref_freePlace (by decide) (by first | exact Nat.le_of_ble_eq_true rfl | (simp only [List.map_cons, List.map_nil, List.sum_cons, List.sum_nil, va_rf_cat]; exact Nat.le_of_ble_eq_true rfl)) rfl (p_Ref_freePlace hw hG hq45) ?_ (fun E h' n' x' e1 => by cases e1.1)
  intro v9 h9 n9 x9 e9
  obtain ⟨e91, e92, e93⟩ := e9
  cases e91
  subst e92
  subst e93
  clear x
  rename Bool => x
  show J _ _ _ _ (_ :: _) _ _ _ _ _ _
  refine J_istore d_Ref_readComes_8 (Nat.le_of_ble_eq_true rfl) ?_
  refine J_aload_n d_Ref_readComes_10 rfl ?_
  refine F_getR (ci := 12) (k := 69) hG (cf_Ref hw) (fl_Ref_187 hw) (by decide) (by decide) rfl d_Ref_readComes_11 g44 ?_
  refine J_iload d_Ref_readComes_14 rfl ?_
  refine J_iconst (v := 1) d_Ref_readComes_16 (by decide) ?_
  obtain ⟨a46, ha46, H⟩ := Option.bind_eq_some_iff.mp H
  rw [j_rf ha46]
  obtain ⟨N47, hN47, H⟩ := Option.bind_eq_some_iff.mp H
  obtain ⟨k48, hk48, H⟩ := Option.bind_eq_some_iff.mp H
  have z49 : (1 : Int32) = 0 ∨ (1 : Int32) = 1 := by
    apply Classical.byContradiction
    intro q9
    rw [if_neg q9] at H
    cases H
  rw [if_pos z49] at H
  refine F_zast k48 hw hG d_Ref_readComes_17 (gA_some hN47) (ix_some hk48) z49 ?_
  refine J_aload_n d_Ref_readComes_18 rfl ?_
  refine F_getR (ci := 12) (k := 68) hG (cf_Ref hw) (fl_Ref_184 hw) (by decide) (by decide) rfl d_Ref_readComes_19 g44 ?_
  refine J_iconst (v := 4) d_Ref_readComes_22 (by decide) ?_
  refine J_iload_n d_Ref_readComes_23 rfl ?_
  refine J_imul d_Ref_readComes_24 ?_
  refine J_aload_n d_Ref_readComes_25 rfl ?_
  refine F_getR (ci := 12) (k := 67) hG (cf_Ref hw) (fl_Ref_181 hw) (by decide) (by decide) rfl d_Ref_readComes_26 g44 ?_
  refine J_iload_n d_Ref_readComes_29 rfl ?_
  obtain ⟨a50, ha50, H⟩ := Option.bind_eq_some_iff.mp H
  rw [j_rf ha50]
  obtain ⟨N51, hN51, H⟩ := Option.bind_eq_some_iff.mp H
  obtain ⟨k52, hk52, H⟩ := Option.bind_eq_some_iff.mp H
  refine F_iald k52 hw hG d_Ref_readComes_30 (gA_some hN51) (ix_some hk52) ?_
  refine J_iadd d_Ref_readComes_31 ?_
  refine J_iload d_Ref_readComes_32 rfl ?_
  obtain ⟨a53, ha53, H⟩ := Option.bind_eq_some_iff.mp H
  rw [j_rf ha53]
  obtain ⟨N54, hN54, H⟩ := Option.bind_eq_some_iff.mp H
  obtain ⟨k55, hk55, H⟩ := Option.bind_eq_some_iff.mp H
  refine F_iast k55 hw hG d_Ref_readComes_34 (gA_some hN54) (ix_some hk55) ?_
  refine J_aload_n d_Ref_readComes_35 rfl ?_
  refine F_getR (ci := 12) (k := 67) hG (cf_Ref hw) (fl_Ref_181 hw) (by decide) (by decide) rfl d_Ref_readComes_36 g44 ?_
  refine J_iload_n d_Ref_readComes_39 rfl ?_
  refine J_dup2 d_Ref_readComes_40 rfl (va_rf_cat _) ?_
  obtain ⟨a56, ha56, H⟩ := Option.bind_eq_some_iff.mp H
  rw [j_rf ha56]
  obtain ⟨N57, hN57, H⟩ := Option.bind_eq_some_iff.mp H
  obtain ⟨k58, hk58, H⟩ := Option.bind_eq_some_iff.mp H
  refine F_iald k58 hw hG d_Ref_readComes_41 (gA_some hN57) (ix_some hk58) ?_
  refine J_iconst (v := 1) d_Ref_readComes_42 (by decide) ?_
  refine J_iadd d_Ref_readComes_43 ?_
  obtain ⟨N59, hN59, H⟩ := Option.bind_eq_some_iff.mp H
  obtain ⟨k60, hk60, H⟩ := Option.bind_eq_some_iff.mp H
  refine F_iast k60 hw hG d_Ref_readComes_44 (gA_some hN59) (ix_some hk60) ?_
  refine J_aload_n d_Ref_readComes_45 rfl ?_
  refine F_getR (ci := 12) (k := 70) hG (cf_Ref hw) (fl_Ref_190 hw) (by decide) (by decide) rfl d_Ref_readComes_46 g44 ?_
  refine J_iload d_Ref_readComes_49 rfl ?_
  refine J_lload_n d_Ref_readComes_51 rfl ?_
  obtain ⟨a61, ha61, H⟩ := Option.bind_eq_some_iff.mp H
  rw [j_rf ha61]
  obtain ⟨N62, hN62, H⟩ := Option.bind_eq_some_iff.mp H
  obtain ⟨k63, hk63, H⟩ := Option.bind_eq_some_iff.mp H
  refine F_last k63 hw hG d_Ref_readComes_52 (gA_some hN62) (ix_some hk63) ?_
  refine J_aload_n d_Ref_readComes_53 rfl ?_
  refine F_getR (ci := 12) (k := 71) hG (cf_Ref hw) (fl_Ref_193 hw) (by decide) (by decide) rfl d_Ref_readComes_54 g44 ?_
  refine J_iload d_Ref_readComes_57 rfl ?_
  refine J_iconst (v := 0) d_Ref_readComes_59 (by decide) ?_
  obtain ⟨a64, ha64, H⟩ := Option.bind_eq_some_iff.mp H
  rw [j_rf ha64]
  obtain ⟨N65, hN65, H⟩ := Option.bind_eq_some_iff.mp H
  obtain ⟨k66, hk66, H⟩ := Option.bind_eq_some_iff.mp H
  refine F_iast k66 hw hG d_Ref_readComes_60 (gA_some hN65) (ix_some hk66) ?_
  refine J_aload_n d_Ref_readComes_61 rfl ?_
  refine F_getR (ci := 12) (k := 72) hG (cf_Ref hw) (fl_Ref_196 hw) (by decide) (by decide) rfl d_Ref_readComes_62 g44 ?_
  refine J_iload d_Ref_readComes_65 rfl ?_
  refine J_aload_n d_Ref_readComes_67 rfl ?_
  refine F_getI (ci := 12) (k := 6) hG (cf_Ref hw) (fl_Ref_348 hw) (by decide) (by decide) rfl d_Ref_readComes_68 g44 ?_
  obtain ⟨a67, ha67, H⟩ := Option.bind_eq_some_iff.mp H
  rw [j_rf ha67]
  obtain ⟨N68, hN68, H⟩ := Option.bind_eq_some_iff.mp H
  obtain ⟨k69, hk69, H⟩ := Option.bind_eq_some_iff.mp H
  refine F_iast k69 hw hG d_Ref_readComes_71 (gA_some hN68) (ix_some hk69) ?_
  refine J_aload_n d_Ref_readComes_72 rfl ?_
  refine F_getR (ci := 12) (k := 73) hG (cf_Ref hw) (fl_Ref_199 hw) (by decide) (by decide) rfl d_Ref_readComes_73 g44 ?_
  refine J_iload d_Ref_readComes_76 rfl ?_
  refine J_aload_n d_Ref_readComes_78 rfl ?_
  refine F_getR (ci := 12) (k := 76) hG (cf_Ref hw) (fl_Ref_208 hw) (by decide) (by decide) rfl d_Ref_readComes_79 g44 ?_
  refine J_iload_n d_Ref_readComes_82 rfl ?_
  obtain ⟨a70, ha70, H⟩ := Option.bind_eq_some_iff.mp H
  rw [j_rf ha70]
  obtain ⟨N71, hN71, H⟩ := Option.bind_eq_some_iff.mp H
  obtain ⟨k72, hk72, H⟩ := Option.bind_eq_some_iff.mp H
  refine F_iald k72 hw hG d_Ref_readComes_83 (gA_some hN71) (ix_some hk72) ?_
  obtain ⟨a73, ha73, H⟩ := Option.bind_eq_some_iff.mp H
  rw [j_rf ha73]
  obtain ⟨N74, hN74, H⟩ := Option.bind_eq_some_iff.mp H
  obtain ⟨k75, hk75, H⟩ := Option.bind_eq_some_iff.mp H
  refine F_iast k75 hw hG d_Ref_readComes_84 (gA_some hN74) (ix_some hk75) ?_
  refine J_aload_n d_Ref_readComes_85 rfl ?_
  refine F_getR (ci := 12) (k := 76) hG (cf_Ref hw) (fl_Ref_208 hw) (by decide) (by decide) rfl d_Ref_readComes_86 g44 ?_
  refine J_iload_n d_Ref_readComes_89 rfl ?_
  refine J_dup2 d_Ref_readComes_90 rfl (va_rf_cat _) ?_
  obtain ⟨a76, ha76, H⟩ := Option.bind_eq_some_iff.mp H
  rw [j_rf ha76]
  obtain ⟨N77, hN77, H⟩ := Option.bind_eq_some_iff.mp H
  obtain ⟨k78, hk78, H⟩ := Option.bind_eq_some_iff.mp H
  refine F_iald k78 hw hG d_Ref_readComes_91 (gA_some hN77) (ix_some hk78) ?_
  refine J_iconst (v := 1) d_Ref_readComes_92 (by decide) ?_
  refine J_iadd d_Ref_readComes_93 ?_
  obtain ⟨N79, hN79, H⟩ := Option.bind_eq_some_iff.mp H
  obtain ⟨k80, hk80, H⟩ := Option.bind_eq_some_iff.mp H
  refine F_iast k80 hw hG d_Ref_readComes_94 (gA_some hN79) (ix_some hk80) ?_
  refine J_iconst (v := 1) d_Ref_readComes_95 (by decide) ?_
  refine J_istore d_Ref_readComes_96 (Nat.le_of_ble_eq_true rfl) ?_
  refine J_iconst (v := 0) d_Ref_readComes_98 (by decide) ?_
  refine J_istore d_Ref_readComes_99 (Nat.le_of_ble_eq_true rfl) ?_
  refine J.drop [true, true, true, false, true, true, true, false, false, false, false, false, false] rfl ?_
  exact p_Ref_readComes_L101 hw hG  _ H
